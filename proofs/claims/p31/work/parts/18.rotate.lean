/-! ===== SplaySequence$Splayer.rotate ===== -/
section ROT
variable {L : List Nat} {K : Nat → Nat} {Rc Rc' : Nat → Nat → Option Nat} {Ic Ic' : Nat → Nat → Int32}
theorem nodup_hd {t : Tr} {F : List Tr} (h : cF L K Rc Ic (t :: F)) : (kl kA t).Nodup := (List.nodup_append.mp (show (kl kA t ++ F.flatMap (kl kA)).Nodup from h.2)).1
theorem io_apart {a i : Nat} {v : Int32} {l r : Tr} (hn : (kl kA (nd a i v l r)).Nodup) : a ∉ kl kA l ∧ a ∉ kl kA r ∧ (kl kA l).Nodup ∧ (kl kA r).Nodup := by
  rw [kl_nd] at hn
  obtain ⟨n1, n2, n3⟩ := List.nodup_append.mp hn
  obtain ⟨n4, n5⟩ := List.nodup_cons.mp n2
  exact ⟨fun h => n3 a h a List.mem_cons_self rfl, n4, n1, n5⟩
theorem gN_frame {t : Tr} (hf : ∀ q ∈ kl kA t, Ic' 0 q = Ic 0 q ∧ Ic' 1 q = Ic 1 q) (h : gN (Pn L K Ic) t) : gN (Pn L K Ic') t :=
  gN_congr t (fun a i v s hm hp => ⟨hp.1, (hf a (kl_mem hm)).1.trans hp.2.1, (hf a (kl_mem hm)).2.trans hp.2.2⟩) h
theorem kp_mem {fs : List Fr} {a i : Nat} {v : Int32} (h : (a, i, v) ∈ bef fs ++ aft fs) : a ∈ kp kA fs := by
  induction fs with
  | nil => simp [bef, aft] at h
  | cons f fs ih =>
    obtain ⟨b, ⟨xa, xi, xv⟩, c⟩ := f
    cases b
    · simp only [bef, aft, List.mem_append, List.mem_cons, List.not_mem_nil, or_false] at h
      simp only [kp, List.mem_cons, List.mem_append]
      rcases h with (h | h | h) | h
      · exact Or.inr (Or.inr (ih (List.mem_append_left _ h)))
      · exact Or.inr (Or.inl (kl_mem h))
      · cases h
        exact Or.inl rfl
      · exact Or.inr (Or.inr (ih (List.mem_append_right _ h)))
    · simp only [bef, aft, List.mem_append, List.mem_cons] at h
      simp only [kp, List.mem_cons, List.mem_append]
      rcases h with h | h | h | h
      · exact Or.inr (Or.inr (ih (List.mem_append_left _ h)))
      · cases h
        exact Or.inl rfl
      · exact Or.inr (Or.inl (kl_mem h))
      · exact Or.inr (Or.inr (ih (List.mem_append_right _ h)))
theorem gNP_frame {fs : List Fr} {n : Nat} (hf : ∀ q ∈ kp kA fs, Ic' 0 q = Ic 0 q ∧ Ic' 1 q = Ic 1 q) (h : gNP (Pn L K Ic) fs n) : gNP (Pn L K Ic') fs n :=
  gNP_congr fs n (fun a i v s hm hp => ⟨hp.1, (hf a (kp_mem hm)).1.trans hp.2.1, (hf a (kp_mem hm)).2.trans hp.2.2⟩) h
/-- the counts behind a rotation -/
theorem rotN {a i : Nat} {v : Int32} {b c d : Tr} {lft : Bool} {x : LB} {fs : List Fr} (hn : (kl kA (plug ((lft, x, d) :: fs) (nd a i v b c))).Nodup) (h : gN (Pn L K Ic) (plug ((lft, x, d) :: fs) (nd a i v b c)))
    (h0 : Ic' 0 = va_up (va_up (Ic 0) x.1 (nI (tsz (if lft = true then c else b) + 1 + tsz d))) a (nI (tsz b + 1 + tsz c + 1 + tsz d))) (h1 : Ic' 1 = Ic 1) : gN (Pn L K Ic') (plug fs (rot1 (nd a i v b c) (lft, x, d))) := by
  obtain ⟨xa, xi, xv⟩ := x
  have hn2 := (kl_plug kA _ _).nodup_iff.mp hn
  obtain ⟨n1, n2, n3⟩ := List.nodup_append.mp hn2
  obtain ⟨m1, m2, -, -⟩ := io_apart n1
  obtain ⟨n9, n10⟩ := List.nodup_cons.mp (show (xa :: (kl kA d ++ kp kA fs)).Nodup from n2)
  have na : a ∈ kl kA (nd a i v b c) := rk_mem kA rfl
  have nb : ∀ q ∈ kl kA b, q ∈ kl kA (nd a i v b c) := fun q hq => by rw [kl_nd]; exact List.mem_append_left _ hq
  have nc : ∀ q ∈ kl kA c, q ∈ kl kA (nd a i v b c) := fun q hq => by rw [kl_nd]; exact List.mem_append_right _ (List.mem_cons_of_mem _ hq)
  have px : xa ∈ kp kA ((lft, (xa, xi, xv), d) :: fs) := List.mem_cons_self
  have pd : ∀ q ∈ kl kA d, q ∈ kp kA ((lft, (xa, xi, xv), d) :: fs) := fun q hq => List.mem_cons_of_mem _ (List.mem_append_left _ hq)
  have pf : ∀ q ∈ kp kA fs, q ∈ kp kA ((lft, (xa, xi, xv), d) :: fs) := fun q hq => List.mem_cons_of_mem _ (List.mem_append_right _ hq)
  have ax : a ≠ xa := n3 a na xa px
  have keep : ∀ q, q ≠ a → q ≠ xa → Ic' 0 q = Ic 0 q ∧ Ic' 1 q = Ic 1 q := fun q g1 g2 => ⟨by rw [h0, va_up_ne _ _ g1, va_up_ne _ _ g2], by rw [h1]⟩
  obtain ⟨⟨p1, p2, p3⟩, p4, p5, p6⟩ := (gN_plug _ _ _).mp h
  have p4 : Pn L K Ic xa xi xv (tsz (nd a i v b c) + 1 + tsz d) := p4
  have p5 : gN (Pn L K Ic) d := p5
  have p6 : gNP (Pn L K Ic) fs (tsz (nd a i v b c) + 1 + tsz d) := p6
  have qb : gN (Pn L K Ic') b := gN_frame (fun q hq => keep q (fun e => m1 (e ▸ hq)) (n3 q (nb q hq) xa px)) p2
  have qc : gN (Pn L K Ic') c := gN_frame (fun q hq => keep q (fun e => m2 (e ▸ hq)) (n3 q (nc q hq) xa px)) p3
  have qd : gN (Pn L K Ic') d := gN_frame (fun q hq => keep q (fun e => n3 a na q (pd q hq) e.symm) (fun e => n9 (by rw [← e]; exact List.mem_append_left _ hq))) p5
  have qf : gNP (Pn L K Ic') fs (tsz (nd a i v b c) + 1 + tsz d) := gNP_frame (fun q hq => keep q (fun e => n3 a na q (pf q hq) e.symm) (fun e => n9 (by rw [← e]; exact List.mem_append_right _ hq))) p6
  have qa : Pn L K Ic' a i v (tsz b + 1 + tsz c + 1 + tsz d) := ⟨p1.1, by rw [h0, va_up_self], by rw [h1]; exact p1.2.2⟩
  have qx : Pn L K Ic' xa xi xv (tsz (if lft = true then c else b) + 1 + tsz d) := ⟨p4.1, by rw [h0, va_up_ne _ _ (Ne.symm ax), va_up_self], by rw [h1]; exact p4.2.2⟩
  refine (gN_plug _ _ _).mpr ?_
  have hs : tsz (nd a i v b c) + 1 + tsz d = tsz b + 1 + tsz c + 1 + tsz d := rfl
  rw [hs] at qf
  cases lft
  · refine ⟨⟨?_, ⟨?_, qd, qb⟩, qc⟩, ?_⟩
    · show Pn L K Ic' a i v (tsz d + 1 + tsz b + 1 + tsz c)
      rw [show tsz d + 1 + tsz b + 1 + tsz c = tsz b + 1 + tsz c + 1 + tsz d by omega]
      exact qa
    · show Pn L K Ic' xa xi xv (tsz d + 1 + tsz b)
      rw [show tsz d + 1 + tsz b = tsz b + 1 + tsz d by omega]
      exact qx
    · show gNP (Pn L K Ic') fs (tsz d + 1 + tsz b + 1 + tsz c)
      rw [show tsz d + 1 + tsz b + 1 + tsz c = tsz b + 1 + tsz c + 1 + tsz d by omega]
      exact qf
  · refine ⟨⟨?_, qb, ⟨qx, qc, qd⟩⟩, ?_⟩
    · show Pn L K Ic' a i v (tsz b + 1 + (tsz c + 1 + tsz d))
      rw [show tsz b + 1 + (tsz c + 1 + tsz d) = tsz b + 1 + tsz c + 1 + tsz d by omega]
      exact qa
    · show gNP (Pn L K Ic') fs (tsz b + 1 + (tsz c + 1 + tsz d))
      rw [show tsz b + 1 + (tsz c + 1 + tsz d) = tsz b + 1 + tsz c + 1 + tsz d by omega]
      exact qf
/-- the links behind the class's rotation of a left, of a right child -/
def rtR (lft : Bool) (Rc : Nat → Nat → Option Nat) (a p : Nat) (sub : Option Nat) (g : Option Nat) (hd : Int32) : Nat → Nat → Option Nat :=
  let R3 := u2 (tkR (if lft = true then 1 else 0) (tkR (if lft = true then 0 else 1) Rc p sub) a (some p)) 2 a g
  match g with
  | none => R3
  | some y => if hd = 1 then u2 R3 0 y (some a) else u2 R3 1 y (some a)
theorem tkR_s (j : Nat) (hj : j ≠ 2) (Rc : Nat → Nat → Option Nat) (a : Nat) (o : Option Nat) : tkR j Rc a o j = va_up (Rc j) a o := by
  cases o with
  | none => exact u2_s _ _ _ _
  | some b => exact (u2_o _ _ _ hj).trans (u2_s _ _ _ _)
theorem tkR_p (j : Nat) (hj : j ≠ 2) (Rc : Nat → Nat → Option Nat) (a : Nat) (o : Option Nat) : tkR j Rc a o 2 = upo (Rc 2) o (some a) := by
  cases o with
  | none => exact u2_o _ _ _ (Ne.symm hj)
  | some b => exact (u2_s _ _ _ _).trans (by rw [u2_o _ _ _ (Ne.symm hj)]; rfl)
theorem tkR_o (j f : Nat) (h1 : f ≠ j) (h2 : f ≠ 2) (Rc : Nat → Nat → Option Nat) (a : Nat) (o : Option Nat) : tkR j Rc a o f = Rc f := funext fun b => tkR_nf j f Rc a b o h1 h2
theorem rotC {a i : Nat} {v : Int32} {b c d : Tr} {lft : Bool} {x : LB} {fs : List Fr} {F : List Tr} (h : cF L K Rc Ic (plug ((lft, x, d) :: fs) (nd a i v b c) :: F))
    (hR : Rc' = rtR lft Rc a x.1 (rk kA (if lft = true then c else b)) (pk kA fs) (hd01 fs))
    (h0 : Ic' 0 = va_up (va_up (Ic 0) x.1 (nI (tsz (if lft = true then c else b) + 1 + tsz d))) a (nI (tsz b + 1 + tsz c + 1 + tsz d))) (h1 : Ic' 1 = Ic 1) :
    cF L K Rc' Ic' (plug fs (rot1 (nd a i v b c) (lft, x, d)) :: F) ∧ Rc' 3 = Rc 3 := by
  have hn := nodup_hd h
  have hc := h.1 _ List.mem_cons_self
  have hhd : (hd01 fs = 1) ↔ (fs.head?.map (·.1)) = some true := by
    unfold hd01
    by_cases hb : (fs.head?.map (·.1)) = some true
    · rw [if_pos hb]
      exact ⟨fun _ => hb, fun _ => rfl⟩
    · rw [if_neg hb]
      exact ⟨fun e => absurd e (by decide), fun e => absurd e hb⟩
  have e0 : Rc' 0 = (if (fs.head?.map (·.1)) = some true then upo (if lft = true then va_up (Rc 0) x.1 (rk kA c) else va_up (Rc 0) a (some x.1)) (pk kA fs) (some a) else (if lft = true then va_up (Rc 0) x.1 (rk kA c) else va_up (Rc 0) a (some x.1))) := by
    have e9 : (u2 (tkR (if lft = true then 1 else 0) (tkR (if lft = true then 0 else 1) Rc x.1 (rk kA (if lft = true then c else b))) a (some x.1)) 2 a (pk kA fs)) 0 = (if lft = true then va_up (Rc 0) x.1 (rk kA c) else va_up (Rc 0) a (some x.1)) := by
      rw [u2_o _ _ _ (by decide)]
      cases lft
      · simp only [Bool.false_eq_true, if_false]
        rw [tkR_s 0 (by decide), tkR_o 1 0 (by decide) (by decide)]
      · simp only [if_true]
        rw [tkR_o 1 0 (by decide) (by decide), tkR_s 0 (by decide)]
    rw [hR]
    unfold rtR
    cases hg : pk kA fs with
    | none =>
      rw [hg] at e9
      rw [show (if (fs.head?.map (·.1)) = some true then upo (if lft = true then va_up (Rc 0) x.1 (rk kA c) else va_up (Rc 0) a (some x.1)) none (some a) else (if lft = true then va_up (Rc 0) x.1 (rk kA c) else va_up (Rc 0) a (some x.1))) = (if lft = true then va_up (Rc 0) x.1 (rk kA c) else va_up (Rc 0) a (some x.1)) from by split <;> rfl]
      exact e9
    | some y =>
      rw [hg] at e9
      show (if hd01 fs = 1 then u2 (u2 (tkR (if lft = true then 1 else 0) (tkR (if lft = true then 0 else 1) Rc x.1 (rk kA (if lft = true then c else b))) a (some x.1)) 2 a (some y)) 0 y (some a) else u2 (u2 (tkR (if lft = true then 1 else 0) (tkR (if lft = true then 0 else 1) Rc x.1 (rk kA (if lft = true then c else b))) a (some x.1)) 2 a (some y)) 1 y (some a)) 0 = _
      by_cases hb : (fs.head?.map (·.1)) = some true
      · rw [if_pos (hhd.mpr hb), if_pos hb, u2_s, e9]
        rfl
      · rw [if_neg (fun e => hb (hhd.mp e)), if_neg hb, u2_o _ _ _ (by decide), e9]
  have e1 : Rc' 1 = (if (fs.head?.map (·.1)) = some true then (if lft = true then va_up (Rc 1) a (some x.1) else va_up (Rc 1) x.1 (rk kA b)) else upo (if lft = true then va_up (Rc 1) a (some x.1) else va_up (Rc 1) x.1 (rk kA b)) (pk kA fs) (some a)) := by
    have e9 : (u2 (tkR (if lft = true then 1 else 0) (tkR (if lft = true then 0 else 1) Rc x.1 (rk kA (if lft = true then c else b))) a (some x.1)) 2 a (pk kA fs)) 1 = (if lft = true then va_up (Rc 1) a (some x.1) else va_up (Rc 1) x.1 (rk kA b)) := by
      rw [u2_o _ _ _ (by decide)]
      cases lft
      · simp only [Bool.false_eq_true, if_false]
        rw [tkR_o 0 1 (by decide) (by decide), tkR_s 1 (by decide)]
      · simp only [if_true]
        rw [tkR_s 1 (by decide), tkR_o 0 1 (by decide) (by decide)]
    rw [hR]
    unfold rtR
    cases hg : pk kA fs with
    | none =>
      rw [hg] at e9
      rw [show (if (fs.head?.map (·.1)) = some true then (if lft = true then va_up (Rc 1) a (some x.1) else va_up (Rc 1) x.1 (rk kA b)) else upo (if lft = true then va_up (Rc 1) a (some x.1) else va_up (Rc 1) x.1 (rk kA b)) none (some a)) = (if lft = true then va_up (Rc 1) a (some x.1) else va_up (Rc 1) x.1 (rk kA b)) from by split <;> rfl]
      exact e9
    | some y =>
      rw [hg] at e9
      show (if hd01 fs = 1 then u2 (u2 (tkR (if lft = true then 1 else 0) (tkR (if lft = true then 0 else 1) Rc x.1 (rk kA (if lft = true then c else b))) a (some x.1)) 2 a (some y)) 0 y (some a) else u2 (u2 (tkR (if lft = true then 1 else 0) (tkR (if lft = true then 0 else 1) Rc x.1 (rk kA (if lft = true then c else b))) a (some x.1)) 2 a (some y)) 1 y (some a)) 1 = _
      by_cases hb : (fs.head?.map (·.1)) = some true
      · rw [if_pos (hhd.mpr hb), if_pos hb, u2_o _ _ _ (by decide), e9]
      · rw [if_neg (fun e => hb (hhd.mp e)), if_neg hb, u2_s, e9]
        rfl
  have e2 : Rc' 2 = va_up (va_up (upo (Rc 2) (rk kA (if lft = true then c else b)) (some x.1)) x.1 (some a)) a (pk kA fs) := by
    have e9 : (u2 (tkR (if lft = true then 1 else 0) (tkR (if lft = true then 0 else 1) Rc x.1 (rk kA (if lft = true then c else b))) a (some x.1)) 2 a (pk kA fs)) 2 = va_up (va_up (upo (Rc 2) (rk kA (if lft = true then c else b)) (some x.1)) x.1 (some a)) a (pk kA fs) := by
      rw [u2_s, tkR_p _ (by cases lft <;> decide), tkR_p _ (by cases lft <;> decide)]
      rfl
    rw [hR]
    unfold rtR
    cases hg : pk kA fs with
    | none =>
      rw [hg] at e9
      exact e9
    | some y =>
      rw [hg] at e9
      show (if hd01 fs = 1 then u2 (u2 (tkR (if lft = true then 1 else 0) (tkR (if lft = true then 0 else 1) Rc x.1 (rk kA (if lft = true then c else b))) a (some x.1)) 2 a (some y)) 0 y (some a) else u2 (u2 (tkR (if lft = true then 1 else 0) (tkR (if lft = true then 0 else 1) Rc x.1 (rk kA (if lft = true then c else b))) a (some x.1)) 2 a (some y)) 1 y (some a)) 2 = _
      split <;> (rw [u2_o _ _ _ (by decide)]; exact e9)
  have e3 : Rc' 3 = Rc 3 := by
    rw [hR]
    unfold rtR
    have e9 : (u2 (tkR (if lft = true then 1 else 0) (tkR (if lft = true then 0 else 1) Rc x.1 (rk kA (if lft = true then c else b))) a (some x.1)) 2 a (pk kA fs)) 3 = Rc 3 := by
      rw [u2_o _ _ _ (by decide), tkR_o _ _ (by cases lft <;> decide) (by decide), tkR_o _ _ (by cases lft <;> decide) (by decide)]
    cases hg : pk kA fs with
    | none =>
      rw [hg] at e9
      exact e9
    | some y =>
      rw [hg] at e9
      show (if hd01 fs = 1 then u2 (u2 (tkR (if lft = true then 1 else 0) (tkR (if lft = true then 0 else 1) Rc x.1 (rk kA (if lft = true then c else b))) a (some x.1)) 2 a (some y)) 0 y (some a) else u2 (u2 (tkR (if lft = true then 1 else 0) (tkR (if lft = true then 0 else 1) Rc x.1 (rk kA (if lft = true then c else b))) a (some x.1)) 2 a (some y)) 1 y (some a)) 3 = _
      split <;> (rw [u2_o _ _ _ (by decide)]; exact e9)
  -- keys
  have ka : a ∈ kl kA (plug ((lft, x, d) :: fs) (nd a i v b c)) := (kl_plug kA _ _).mem_iff.mpr (List.mem_append_left _ (rk_mem kA rfl))
  have kx : x.1 ∈ kl kA (plug ((lft, x, d) :: fs) (nd a i v b c)) := (kl_plug kA _ _).mem_iff.mpr (List.mem_append_right _ List.mem_cons_self)
  have kg : ∀ y, pk kA fs = some y → y ∈ kl kA (plug ((lft, x, d) :: fs) (nd a i v b c)) := fun y hy => (kl_plug kA _ _).mem_iff.mpr (List.mem_append_right _ (List.mem_cons_of_mem _ (List.mem_append_right _ (pk_mem kA hy))))
  have ks : ∀ y, rk kA (if lft = true then c else b) = some y → y ∈ kl kA (plug ((lft, x, d) :: fs) (nd a i v b c)) := fun y hy => (kl_plug kA _ _).mem_iff.mpr (List.mem_append_left _ (by
    rw [kl_nd]
    cases lft
    · exact List.mem_append_left _ (rk_mem kA hy)
    · exact List.mem_append_right _ (List.mem_cons_of_mem _ (rk_mem kA hy))))
  refine ⟨cF_step h (by rw [rot_kl]) ⟨?_, rotN hn hc.2 h0 h1⟩ (fun q hq => ?_), e3⟩
  · cases lft
    · exact rotF_ok id kA (x := x) hn hc.1 e0 e1 e2
    · exact rotT_ok id kA (x := x) hn hc.1 e0 e1 e2
  · have qa : q ≠ a := fun e => hq (e ▸ ka)
    have qx : q ≠ x.1 := fun e => hq (e ▸ kx)
    have qg : pk kA fs ≠ some q := fun e => hq (kg q e)
    have qs : rk kA (if lft = true then c else b) ≠ some q := fun e => hq (ks q e)
    refine ⟨⟨?_, ?_, ?_⟩, ?_, by rw [h1]⟩
    · rw [e0]
      cases lft <;> split <;> simp [upo_ne _ _ qg, va_up_ne _ _ qa, va_up_ne _ _ qx]
    · rw [e1]
      cases lft <;> split <;> simp [upo_ne _ _ qg, va_up_ne _ _ qa, va_up_ne _ _ qx]
    · rw [e2, va_up_ne _ _ qa, va_up_ne _ _ qx, upo_ne _ _ qs]
    · rw [h0, va_up_ne _ _ qa, va_up_ne _ _ qx]
end ROT
