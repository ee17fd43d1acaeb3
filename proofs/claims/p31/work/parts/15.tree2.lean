/-! ===== rotation of a right child, what holds of nodes, splaying, positions ===== -/
section GR
variable {α : Type} (em : Option Nat → α) (ky : Nat → Nat → Nat)
/-- the links after a rotation of a right child -/
theorem rotF_ok {lf rt pa : Nat → α} {a i : Nat} {v : Int32} {b c d : Tr} {x : LB} {fs : List Fr} (hn : (kl ky (plug ((false, x, d) :: fs) (nd a i v b c))).Nodup) (h : gR em ky lf rt pa (plug ((false, x, d) :: fs) (nd a i v b c)) none)
    {lf' rt' pa' : Nat → α} (hl : lf' = (if (fs.head?.map (·.1)) = some true then upo (va_up lf (ky a i) (em (some (ky x.1 x.2.1)))) (pk ky fs) (em (some (ky a i))) else va_up lf (ky a i) (em (some (ky x.1 x.2.1)))))
    (hr : rt' = (if (fs.head?.map (·.1)) = some true then va_up rt (ky x.1 x.2.1) (em (rk ky b)) else upo (va_up rt (ky x.1 x.2.1) (em (rk ky b))) (pk ky fs) (em (some (ky a i)))))
    (hp : pa' = va_up (va_up (upo pa (rk ky b) (em (some (ky x.1 x.2.1)))) (ky x.1 x.2.1) (em (some (ky a i)))) (ky a i) (em (pk ky fs))) :
    gR em ky lf' rt' pa' (plug fs (rot1 (nd a i v b c) (false, x, d))) none := by
  obtain ⟨xa, xi, xv⟩ := x
  have hn2 := (kl_plug ky _ _).nodup_iff.mp hn
  rw [kl_nd] at hn2
  obtain ⟨n1, n2, n3⟩ := List.nodup_append.mp hn2
  obtain ⟨n4, n5, n6⟩ := List.nodup_append.mp n1
  obtain ⟨n7, n8⟩ := List.nodup_cons.mp n5
  obtain ⟨n9, n10⟩ := List.nodup_cons.mp (show (ky xa xi :: (kl ky d ++ kp ky fs)).Nodup from n2)
  obtain ⟨n11, n12, n13⟩ := List.nodup_append.mp n10
  obtain ⟨⟨g1, g2, g3, g4, g5⟩, g6, g7, g8, g9, g10⟩ := (gR_plug em ky _ _).mp h
  have g6 : lf (ky xa xi) = em (rk ky d) := g6
  have g8 : pa (ky xa xi) = em (pk ky fs) := g8
  have g9 : gR em ky lf rt pa d (some (ky xa xi)) := g9
  have g10 : gP em ky lf rt pa fs (some (ky xa xi)) := g10
  -- who is apart from whom
  have pm : ky xa xi ∈ kp ky ((false, (xa, xi, xv), d) :: fs) := List.mem_cons_self
  have dm : ∀ q ∈ kl ky d, q ∈ kp ky ((false, (xa, xi, xv), d) :: fs) := fun q hq => List.mem_cons_of_mem _ (List.mem_append_left _ hq)
  have fm : ∀ q ∈ kp ky fs, q ∈ kp ky ((false, (xa, xi, xv), d) :: fs) := fun q hq => List.mem_cons_of_mem _ (List.mem_append_right _ hq)
  have nm : ky a i ∈ kl ky b ++ ky a i :: kl ky c := List.mem_append_right _ List.mem_cons_self
  have bm : ∀ q ∈ kl ky b, q ∈ kl ky b ++ ky a i :: kl ky c := fun q hq => List.mem_append_left _ hq
  have cm : ∀ q ∈ kl ky c, q ∈ kl ky b ++ ky a i :: kl ky c := fun q hq => List.mem_append_right _ (List.mem_cons_of_mem _ hq)
  have np : ky a i ≠ ky xa xi := n3 _ nm _ pm
  have bp : ∀ q ∈ kl ky b, q ≠ ky xa xi := fun q hq => n3 _ (bm q hq) _ pm
  have cp : ∀ q ∈ kl ky c, q ≠ ky xa xi := fun q hq => n3 _ (cm q hq) _ pm
  have dp : ∀ q ∈ kl ky d, q ≠ ky xa xi := fun q hq e => n9 (by rw [← e]; exact List.mem_append_left _ hq)
  have fp : ∀ q ∈ kp ky fs, q ≠ ky xa xi := fun q hq e => n9 (by rw [← e]; exact List.mem_append_right _ hq)
  have bn : ∀ q ∈ kl ky b, q ≠ ky a i := fun q hq => n6 _ hq _ List.mem_cons_self
  have cn : ∀ q ∈ kl ky c, q ≠ ky a i := fun q hq e => n7 (e ▸ hq)
  have dn : ∀ q ∈ kl ky d, q ≠ ky a i := fun q hq e => n3 _ nm _ (dm q hq) e.symm
  have fn : ∀ q ∈ kp ky fs, q ≠ ky a i := fun q hq e => n3 _ nm _ (fm q hq) e.symm
  have bg : ∀ q ∈ kl ky b, pk ky fs ≠ some q := fun q hq e => n3 _ (bm q hq) _ (fm q (pk_mem ky e)) rfl
  have cg : ∀ q ∈ kl ky c, pk ky fs ≠ some q := fun q hq e => n3 _ (cm q hq) _ (fm q (pk_mem ky e)) rfl
  have dg : ∀ q ∈ kl ky d, pk ky fs ≠ some q := fun q hq e => n13 _ hq _ (pk_mem ky e) rfl
  have pg : pk ky fs ≠ some (ky xa xi) := fun e => fp _ (pk_mem ky e) rfl
  have ng : pk ky fs ≠ some (ky a i) := fun e => fn _ (pk_mem ky e) rfl
  have cb : ∀ q ∈ kl ky c, rk ky b ≠ some q := fun q hq e => n6 _ (rk_mem ky e) _ (List.mem_cons_of_mem _ hq) rfl
  have db : ∀ q ∈ kl ky d, rk ky b ≠ some q := fun q hq e => n3 _ (bm q (rk_mem ky e)) _ (dm q hq) rfl
  have fb : ∀ q ∈ kp ky fs, rk ky b ≠ some q := fun q hq e => n3 _ (bm q (rk_mem ky e)) _ (fm q hq) rfl
  have L : ∀ q, pk ky fs ≠ some q → q ≠ ky a i → lf' q = lf q := by
    intro q h1 h2
    rw [hl]
    by_cases hb : (fs.head?.map (·.1)) = some true
    · rw [if_pos hb, upo_ne _ _ h1, va_up_ne _ _ h2]
    · rw [if_neg hb, va_up_ne _ _ h2]
  have R : ∀ q, pk ky fs ≠ some q → q ≠ ky xa xi → rt' q = rt q := by
    intro q h1 h2
    rw [hr]
    by_cases hb : (fs.head?.map (·.1)) = some true
    · rw [if_pos hb, va_up_ne _ _ h2]
    · rw [if_neg hb, upo_ne _ _ h1, va_up_ne _ _ h2]
  have P : ∀ q, rk ky b ≠ some q → q ≠ ky xa xi → q ≠ ky a i → pa' q = pa q := by
    intro q h1 h2 h3
    rw [hp, va_up_ne _ _ h3, va_up_ne _ _ h2, upo_ne _ _ h1]
  have Ln : lf' (ky a i) = em (some (ky xa xi)) := by
    rw [hl]
    by_cases hb : (fs.head?.map (·.1)) = some true
    · rw [if_pos hb, upo_ne _ _ ng, va_up_self]
    · rw [if_neg hb, va_up_self]
  have Rp : rt' (ky xa xi) = em (rk ky b) := by
    rw [hr]
    by_cases hb : (fs.head?.map (·.1)) = some true
    · rw [if_pos hb, va_up_self]
    · rw [if_neg hb, upo_ne _ _ pg, va_up_self]
  refine (gR_plug em ky _ _).mpr ⟨⟨Ln, (R _ ng np).trans g2, by rw [hp, va_up_self], ⟨(L _ pg (Ne.symm np)).trans g6, Rp, by rw [hp, va_up_ne _ _ (Ne.symm np), va_up_self], ?_, ?_⟩, ?_⟩, ?_⟩
  · exact gR_congr em ky _ _ (fun q hq => ⟨L q (dg q hq) (dn q hq), R q (dg q hq) (dp q hq), P q (db q hq) (dp q hq) (dn q hq)⟩) g9
  · refine gR_congr em ky _ _ (fun q hq => ⟨L q (bg q hq) (bn q hq), R q (bg q hq) (bp q hq), ?_⟩) (gR_up em ky n4 g4 (some (ky xa xi)))
    rw [hp, va_up_ne _ _ (bn q hq), va_up_ne _ _ (bp q hq)]
  · exact gR_congr em ky _ _ (fun q hq => ⟨L q (cg q hq) (cn q hq), R q (cg q hq) (cp q hq), P q (cb q hq) (cp q hq) (cn q hq)⟩) g5
  · refine gP_congr em ky _ _ (fun q hq => ?_) (gP_up em ky n12 g10 (some (ky a i)))
    rw [hl, hr]
    refine ⟨?_, ?_, P q (fb q hq) (fp q hq) (fn q hq)⟩
    · by_cases hb : (fs.head?.map (·.1)) = some true
      · rw [if_pos hb, if_pos hb]
        cases hk : pk ky fs with
        | none => exact va_up_ne _ _ (fn q hq)
        | some g =>
          by_cases hq2 : q = g
          · subst hq2
            simp [upo, va_up]
          · simp [upo, va_up, hq2, fn q hq]
      · rw [if_neg hb, if_neg hb, va_up_ne _ _ (fn q hq)]
    · by_cases hb : (fs.head?.map (·.1)) = some true
      · rw [if_pos hb, if_pos hb, va_up_ne _ _ (fp q hq)]
      · rw [if_neg hb, if_neg hb]
        cases hk : pk ky fs with
        | none => exact va_up_ne _ _ (fp q hq)
        | some g =>
          by_cases hq2 : q = g
          · subst hq2
            simp [upo, va_up]
          · simp [upo, va_up, hq2, fp q hq]

end GR
/-! what holds of each node, with the size of its subtree -/
section GN
variable (P P' : Nat → Nat → Int32 → Nat → Prop)
def gN : Tr → Prop
  | .leaf => True
  | .inner a i v l r => P a i v (tsz l + 1 + tsz r) ∧ gN l ∧ gN r
def gNP : List Fr → Nat → Prop
  | [], _ => True
  | f :: fs, s => P f.2.1.1 f.2.1.2.1 f.2.1.2.2 (s + 1 + tsz f.2.2) ∧ gN P f.2.2 ∧ gNP fs (s + 1 + tsz f.2.2)
theorem tsz_plug1 (f : Fr) (t : Tr) : tsz (plug1 f t) = tsz t + 1 + tsz f.2.2 := by
  obtain ⟨b, ⟨a, i, v⟩, c⟩ := f
  cases b
  · show tsz c + 1 + tsz t = tsz t + 1 + tsz c
    omega
  · rfl
theorem gN_plug (fs : List Fr) : ∀ t, gN P (plug fs t) ↔ gN P t ∧ gNP P fs (tsz t) := by
  induction fs with
  | nil => intro t; simp [plug, gNP]
  | cons f fs ih =>
    intro t
    show gN P (plug fs (plug1 f t)) ↔ _
    rw [ih, tsz_plug1]
    obtain ⟨b, ⟨a, i, v⟩, c⟩ := f
    cases b
    · show (P a i v (tsz c + 1 + tsz t) ∧ gN P c ∧ gN P t) ∧ gNP P fs (tsz t + 1 + tsz c) ↔ gN P t ∧ P a i v (tsz t + 1 + tsz c) ∧ gN P c ∧ gNP P fs (tsz t + 1 + tsz c)
      rw [show tsz c + 1 + tsz t = tsz t + 1 + tsz c by omega]
      constructor
      · rintro ⟨⟨h1, h2, h3⟩, h4⟩
        exact ⟨h3, h1, h2, h4⟩
      · rintro ⟨h3, h1, h2, h4⟩
        exact ⟨⟨h1, h2, h3⟩, h4⟩
    · show (P a i v (tsz t + 1 + tsz c) ∧ gN P t ∧ gN P c) ∧ gNP P fs (tsz t + 1 + tsz c) ↔ gN P t ∧ P a i v (tsz t + 1 + tsz c) ∧ gN P c ∧ gNP P fs (tsz t + 1 + tsz c)
      constructor
      · rintro ⟨⟨h1, h2, h3⟩, h4⟩
        exact ⟨h2, h1, h3, h4⟩
      · rintro ⟨h3, h1, h2, h4⟩
        exact ⟨⟨h1, h3, h2⟩, h4⟩
theorem gN_congr {P P'} (t : Tr) : (∀ a i v s, (a, i, v) ∈ io t → P a i v s → P' a i v s) → gN P t → gN P' t := by
  induction t with
  | leaf => intro _ _; trivial
  | inner a i v l r ihl ihr =>
    rintro h ⟨h1, h2, h3⟩
    exact ⟨h a i v _ (by simp [io]) h1, ihl (fun a' i' v' s hm => h a' i' v' s (by simp [io, hm])) h2, ihr (fun a' i' v' s hm => h a' i' v' s (by simp [io, hm])) h3⟩
theorem gNP_congr {P P'} (fs : List Fr) : ∀ n, (∀ a i v s, (a, i, v) ∈ bef fs ++ aft fs → P a i v s → P' a i v s) → gNP P fs n → gNP P' fs n := by
  induction fs with
  | nil => intro n _ _; trivial
  | cons f fs ih =>
    obtain ⟨b, ⟨a, i, v⟩, c⟩ := f
    rintro n h ⟨h1, h2, h3⟩
    refine ⟨h a i v _ ?_ h1, gN_congr c (fun a' i' v' s hm => h a' i' v' s ?_) h2, ih _ (fun a' i' v' s hm => h a' i' v' s ?_) h3⟩
    · cases b <;> simp [bef, aft]
    · have hm : (a', i', v') ∈ io c := hm
      cases b <;> simp [bef, aft, hm]
    · rcases List.mem_append.mp hm with hm | hm <;> cases b <;> simp [bef, aft, hm]
theorem gN_mem {P} (t : Tr) {a i : Nat} {v : Int32} (h : gN P t) (hm : (a, i, v) ∈ io t) : ∃ s, P a i v s := by
  induction t with
  | leaf => cases hm
  | inner a' i' v' l r ihl ihr =>
    obtain ⟨h1, h2, h3⟩ := h
    rcases List.mem_append.mp (show (a, i, v) ∈ io l ++ (a', i', v') :: io r from hm) with hm | hm
    · exact ihl h2 hm
    · rcases List.mem_cons.mp hm with hm | hm
      · cases hm
        exact ⟨_, h1⟩
      · exact ihr h3 hm
end GN
/-! splaying -/
def zzF (f g : Fr) : Fr := match f, g with
  | (true, x, c), (_, (ga, gi, gv), d) => (true, x, nd ga gi gv c d)
  | (false, x, c), (_, (ga, gi, gv), d) => (false, x, nd ga gi gv d c)
def step2 (f g : Fr) (t : Tr) : Tr := if f.1 = g.1 then rot1 t (zzF f g) else rot1 (rot1 t f) g
def spl : List Fr → Tr → Tr
  | [], t => t
  | [f], t => rot1 t f
  | f :: g :: fs, t => spl fs (step2 f g t)
theorem rot1_zz {f g : Fr} (h : f.1 = g.1) (t : Tr) : rot1 (plug1 f t) g = plug1 (zzF f g) t := by
  obtain ⟨b, ⟨a, i, v⟩, c⟩ := f
  obtain ⟨b', ⟨a', i', v'⟩, c'⟩ := g
  have h : b = b' := h
  subst h
  cases b <;> rfl
theorem bef_cons (f : Fr) (fs : List Fr) : bef (f :: fs) = bef fs ++ bef [f] := by
  obtain ⟨b, x, c⟩ := f
  cases b <;> simp [bef]
theorem aft_cons (f : Fr) (fs : List Fr) : aft (f :: fs) = aft [f] ++ aft fs := by
  obtain ⟨b, x, c⟩ := f
  cases b <;> simp [aft]
theorem rot1_nd (f : Fr) (a i : Nat) (v : Int32) (l r : Tr) : ∃ l' r', rot1 (nd a i v l r) f = nd a i v l' r' ∧ io l' = bef [f] ++ io l ∧ io r' = io r ++ aft [f] := by
  obtain ⟨b, ⟨a', i', v'⟩, c⟩ := f
  cases b
  · exact ⟨_, _, rfl, by simp [io, bef], by simp [aft]⟩
  · exact ⟨_, _, rfl, by simp [bef], by simp [io, aft]⟩
theorem bef_zz (f g : Fr) (h : f.1 = g.1) : bef [zzF f g] = bef [g] ++ bef [f] := by
  obtain ⟨b, ⟨a, i, v⟩, c⟩ := f
  obtain ⟨b', ⟨a', i', v'⟩, c'⟩ := g
  have h : b = b' := h
  subst h
  cases b <;> simp [zzF, bef, io]
theorem aft_zz (f g : Fr) (h : f.1 = g.1) : aft [zzF f g] = aft [f] ++ aft [g] := by
  obtain ⟨b, ⟨a, i, v⟩, c⟩ := f
  obtain ⟨b', ⟨a', i', v'⟩, c'⟩ := g
  have h : b = b' := h
  subst h
  cases b <;> simp [zzF, aft, io]
theorem step2_nd (f g : Fr) (a i : Nat) (v : Int32) (l r : Tr) : ∃ l' r', step2 f g (nd a i v l r) = nd a i v l' r' ∧ io l' = bef [f, g] ++ io l ∧ io r' = io r ++ aft [f, g] := by
  unfold step2
  by_cases h : f.1 = g.1
  · rw [if_pos h]
    obtain ⟨l', r', e1, e2, e3⟩ := rot1_nd (zzF f g) a i v l r
    exact ⟨l', r', e1, by rw [e2, bef_zz f g h, bef_cons f [g]], by rw [e3, aft_zz f g h, aft_cons f [g]]⟩
  · rw [if_neg h]
    obtain ⟨l1, r1, e1, e2, e3⟩ := rot1_nd f a i v l r
    obtain ⟨l2, r2, e4, e5, e6⟩ := rot1_nd g a i v l1 r1
    exact ⟨l2, r2, by rw [e1, e4], by rw [e5, e2, bef_cons f [g], List.append_assoc], by rw [e6, e3, aft_cons f [g], List.append_assoc]⟩
theorem spl_nd (a i : Nat) (v : Int32) : ∀ (n : Nat) (fs : List Fr), fs.length = n → ∀ l r, ∃ l' r', spl fs (nd a i v l r) = nd a i v l' r' ∧ io l' = bef fs ++ io l ∧ io r' = io r ++ aft fs := by
  intro n
  induction n using Nat.strongRecOn with
  | ind n ih =>
    intro fs hn l r
    match fs, hn with
    | [], _ => exact ⟨l, r, rfl, rfl, by simp [aft]⟩
    | [f], _ => exact rot1_nd f a i v l r
    | f :: g :: fs, hn =>
      obtain ⟨l1, r1, e1, e2, e3⟩ := step2_nd f g a i v l r
      obtain ⟨l2, r2, e4, e5, e6⟩ := ih fs.length (by simp at hn; omega) fs rfl l1 r1
      refine ⟨l2, r2, by show spl fs (step2 f g _) = _; rw [e1, e4], ?_, ?_⟩
      · rw [e5, e2, bef_cons f (g :: fs), bef_cons g fs, bef_cons f [g]]
        simp only [List.append_assoc]
      · rw [e6, e3, aft_cons f (g :: fs), aft_cons g fs, aft_cons f [g]]
        simp only [List.append_assoc]
theorem io_tsz {t t' : Tr} (h : io t = io t') : tsz t = tsz t' := by rw [← io_len, ← io_len, h]
theorem kl_io (ky : Nat → Nat → Nat) {t t' : Tr} (h : io t = io t') : kl ky t = kl ky t' := by unfold kl; rw [h]
/-! the node at a position -/
def zat : Tr → Nat → List Fr → Tr × List Fr
  | .leaf, _, fs => (.leaf, fs)
  | .inner a i v l r, k, fs => if k < tsz l then zat l k ((true, (a, i, v), r) :: fs) else if k = tsz l then (nd a i v l r, fs) else zat r (k - tsz l - 1) ((false, (a, i, v), l) :: fs)
theorem zat_in (a i : Nat) (v : Int32) (l r : Tr) (k : Nat) (fs : List Fr) : zat (nd a i v l r) k fs = if k < tsz l then zat l k ((true, (a, i, v), r) :: fs) else if k = tsz l then (nd a i v l r, fs) else zat r (k - tsz l - 1) ((false, (a, i, v), l) :: fs) := rfl
theorem zat_plug1 (t : Tr) : ∀ k fs, plug (zat t k fs).2 (zat t k fs).1 = plug fs t := by
  induction t with
  | leaf => intro k fs; rfl
  | inner a i v l r ihl ihr =>
    intro k fs
    unfold zat
    by_cases h1 : k < tsz l
    · rw [if_pos h1, ihl]
      rfl
    · rw [if_neg h1]
      by_cases h2 : k = tsz l
      · rw [if_pos h2]
      · rw [if_neg h2, ihr]
        rfl
theorem zat_nd (t : Tr) : ∀ k fs, k < tsz t → ∃ a i v l r, (zat t k fs).1 = nd a i v l r ∧ (bef (zat t k fs).2).length + tsz l = (bef fs).length + k ∧ (io t)[k]? = some (a, i, v) := by
  induction t with
  | leaf => intro k fs h; exact absurd h (Nat.not_lt_zero _)
  | inner a i v l r ihl ihr =>
    intro k fs h
    have h : k < tsz l + 1 + tsz r := h
    unfold zat
    by_cases h1 : k < tsz l
    · rw [if_pos h1]
      obtain ⟨a', i', v', l', r', e1, e2, e3⟩ := ihl k ((true, (a, i, v), r) :: fs) h1
      refine ⟨a', i', v', l', r', e1, e2, ?_⟩
      show (io l ++ (a, i, v) :: io r)[k]? = _
      rw [List.getElem?_append_left (by rw [io_len]; exact h1)]
      exact e3
    · rw [if_neg h1]
      by_cases h2 : k = tsz l
      · rw [if_pos h2]
        refine ⟨a, i, v, l, r, rfl, by rw [h2], ?_⟩
        show (io l ++ (a, i, v) :: io r)[k]? = _
        rw [List.getElem?_append_right (by rw [io_len]; omega), io_len, h2, Nat.sub_self]
        rfl
      · rw [if_neg h2]
        obtain ⟨a', i', v', l', r', e1, e2, e3⟩ := ihr (k - tsz l - 1) ((false, (a, i, v), l) :: fs) (by omega)
        refine ⟨a', i', v', l', r', e1, ?_, ?_⟩
        · rw [e2]
          simp only [bef, List.length_append, List.length_cons, List.length_nil, io_len]
          omega
        · show (io l ++ (a, i, v) :: io r)[k]? = _
          rw [List.getElem?_append_right (by rw [io_len]; omega), io_len, show k - tsz l = (k - tsz l - 1) + 1 by omega]
          exact e3
theorem zat_plug (fs : List Fr) : ∀ (t : Tr) (k : Nat) (gs : List Fr), k < tsz t → zat (plug fs t) ((bef fs).length + k) gs = zat t k (fs ++ gs) := by
  induction fs with
  | nil => intro t k gs _; simp [plug, bef]
  | cons f fs ih =>
    intro t k gs hk
    obtain ⟨b, ⟨a, i, v⟩, c⟩ := f
    cases b
    · show zat (plug fs (nd a i v c t)) _ gs = _
      have e : (bef ((false, (a, i, v), c) :: fs)).length + k = (bef fs).length + (tsz c + 1 + k) := by
        simp only [bef, List.length_append, List.length_cons, List.length_nil, io_len]
        omega
      rw [e, ih _ _ _ (show tsz c + 1 + k < tsz c + 1 + tsz t by omega)]
      rw [zat_in, if_neg (by omega), if_neg (by omega), show tsz c + 1 + k - tsz c - 1 = k by omega]
      rfl
    · show zat (plug fs (nd a i v t c)) _ gs = _
      rw [show (bef ((true, (a, i, v), c) :: fs)).length = (bef fs).length from rfl, ih _ _ _ (show k < tsz t + 1 + tsz c by omega)]
      rw [zat_in, if_pos hk]
      rfl
theorem zat_at (fs : List Fr) (a i : Nat) (v : Int32) (l r : Tr) : zat (plug fs (nd a i v l r)) ((bef fs).length + tsz l) [] = (nd a i v l r, fs) := by
  rw [zat_plug _ _ _ _ (show tsz l < tsz l + 1 + tsz r by omega), List.append_nil]
  rw [zat_in, if_neg (Nat.lt_irrefl _), if_pos rfl]
theorem zip_of (t : Tr) {a i : Nat} {v : Int32} (h : (a, i, v) ∈ io t) : ∃ fs l r, t = plug fs (nd a i v l r) := by
  obtain ⟨k, hk⟩ := List.getElem?_of_mem h
  have hlt : k < tsz t := by rw [← io_len]; exact (List.getElem?_eq_some_iff.mp hk).1
  obtain ⟨a', i', v', l, r, e1, e2, e3⟩ := zat_nd t k [] hlt
  have e := Option.some.inj (hk.symm.trans e3)
  cases e
  have e4 := zat_plug1 t k []
  rw [e1] at e4
  exact ⟨_, l, r, e4.symm⟩
def upT (t : Tr) (k : Nat) : Tr := spl (zat t k []).2 (zat t k []).1
def upN (t : Tr) (k : Nat) : Nat := (zat t k []).2.length
theorem upT_nd (t : Tr) (k : Nat) (h : k < tsz t) : ∃ a i v l r, upT t k = nd a i v l r ∧ io (nd a i v l r) = io t ∧ tsz l = k ∧ (io t)[k]? = some (a, i, v) := by
  obtain ⟨a, i, v, l, r, e1, e2, e3⟩ := zat_nd t k [] h
  have e4 := zat_plug1 t k []
  rw [e1] at e4
  have e4 : plug (zat t k []).2 (nd a i v l r) = t := e4
  obtain ⟨l', r', e5, e6, e7⟩ := spl_nd a i v _ (zat t k []).2 rfl l r
  refine ⟨a, i, v, l', r', by unfold upT; rw [e1]; exact e5, ?_, ?_, e3⟩
  · have e8 := io_plug (zat t k []).2 (nd a i v l r)
    rw [e4] at e8
    rw [e8]
    simp [io, e6, e7]
  · rw [← io_len, e6, List.length_append, io_len, e2]
    exact Nat.zero_add k
