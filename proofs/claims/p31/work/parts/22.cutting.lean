/-! ===== subtrees cut off and put on; what split and join make ===== -/
section DRP
variable {L : List Nat} {K : Nat → Nat} {Rc Rc' : Nat → Nat → Option Nat} {Ic Ic' : Nat → Nat → Int32}
theorem dropL {a i : Nat} {v : Int32} {l r : Tr} {F : List Tr} (h : cF L K Rc Ic (nd a i v l r :: F)) (e0 : Rc' 0 = va_up (Rc 0) a none) (e1 : Rc' 1 = Rc 1) (e2 : Rc' 2 = upo (Rc 2) (rk kA l) none) (e3 : Ic' 0 = va_up (Ic 0) a (nI (0 + 1 + tsz r))) (e4 : Ic' 1 = Ic 1) : cF L K Rc' Ic' (l :: nd a i v .leaf r :: F) := by
  obtain ⟨h1, h2⟩ := h
  have h2 : (kl kA (nd a i v l r) ++ F.flatMap (kl kA)).Nodup := h2
  obtain ⟨n1, n2, n3⟩ := List.nodup_append.mp h2
  obtain ⟨m1, m2, m3, m4⟩ := io_apart n1
  have na1 : ∀ q ∈ kl kA l, q ≠ a := fun q hq e => m1 (e ▸ hq)
  have na2 : ∀ q ∈ kl kA r, q ≠ a := fun q hq e => m2 (e ▸ hq)
  have n1' := n1
  rw [kl_nd] at n1'
  have lr : ∀ q ∈ kl kA l, ∀ q' ∈ kl kA r, q ≠ q' := fun q hq q' hq' => (List.nodup_append.mp n1').2.2 q hq q' (List.mem_cons_of_mem _ hq')
  obtain ⟨⟨g1, g2, g3, g4, g5⟩, ⟨p1, p2, p3⟩⟩ := h1 _ List.mem_cons_self
  have ea : rk kA l ≠ some a := fun e => m1 (rk_mem kA e)
  have kx : ∀ q, rk kA l = some q → q ∈ kl kA (nd a i v l r) := fun q hq => by rw [kl_nd]; exact List.mem_append_left _ (rk_mem kA hq)
  refine ⟨fun u hu => ?_, ?_⟩
  · rcases List.mem_cons.mp hu with rfl | hu
    · refine ⟨?_, gN_frame (fun q hq => ⟨by rw [e3, va_up_ne _ _ (na1 q hq)], by rw [e4]⟩) p2⟩
      refine gR_congr id kA _ _ (fun q hq => ⟨?_, ?_, ?_⟩) (gR_up id kA m3 g4 none)
      · rw [e0, va_up_ne _ _ (na1 q hq)]
      · rw [e1]
      · rw [e2]; rfl
    · rcases List.mem_cons.mp hu with rfl | hu
      · refine ⟨⟨by rw [e0, va_up_self]; rfl, by rw [e1]; exact g2, by rw [e2, upo_ne _ _ ea]; exact g3, trivial, gR_congr id kA _ _ (fun q hq => ⟨by rw [e0, va_up_ne _ _ (na2 q hq)], by rw [e1], by rw [e2, upo_ne _ _ (fun e => lr q (rk_mem kA e) q hq rfl)]⟩) g5⟩, ⟨p1.1, by rw [e3, va_up_self]; rfl, by rw [e4]; exact p1.2.2⟩, trivial, gN_frame (fun q hq => ⟨by rw [e3, va_up_ne _ _ (na2 q hq)], by rw [e4]⟩) p3⟩
      · refine cT_frame (fun q hq => ?_) (h1 u (List.mem_cons_of_mem _ hu))
        have hq2 : q ∈ F.flatMap (kl kA) := List.mem_flatMap.mpr ⟨u, hu, hq⟩
        have qa : q ≠ a := fun e => n3 a (rk_mem kA rfl) q hq2 e.symm
        have qx : rk kA l ≠ some q := fun e => n3 q (kx q e) q hq2 rfl
        refine ⟨⟨?_, ?_, by rw [e2, upo_ne _ _ qx]⟩, by rw [e3, va_up_ne _ _ qa], by rw [e4]⟩
        · rw [e0, va_up_ne _ _ qa]
        · rw [e1]
  · show (kl kA l ++ (kl kA (nd a i v .leaf r) ++ F.flatMap (kl kA))).Nodup
    rw [← List.append_assoc]
    refine (List.Perm.append_right _ ?_).nodup_iff.mpr h2
    rw [kl_nd, kl_nd]
    exact List.Perm.refl _
theorem dropR {a i : Nat} {v : Int32} {l r : Tr} {F : List Tr} (h : cF L K Rc Ic (nd a i v l r :: F)) (e0 : Rc' 1 = va_up (Rc 1) a none) (e1 : Rc' 0 = Rc 0) (e2 : Rc' 2 = upo (Rc 2) (rk kA r) none) (e3 : Ic' 0 = va_up (Ic 0) a (nI (tsz l + 1 + 0))) (e4 : Ic' 1 = Ic 1) : cF L K Rc' Ic' (r :: nd a i v l .leaf :: F) := by
  obtain ⟨h1, h2⟩ := h
  have h2 : (kl kA (nd a i v l r) ++ F.flatMap (kl kA)).Nodup := h2
  obtain ⟨n1, n2, n3⟩ := List.nodup_append.mp h2
  obtain ⟨m1, m2, m3, m4⟩ := io_apart n1
  have na1 : ∀ q ∈ kl kA l, q ≠ a := fun q hq e => m1 (e ▸ hq)
  have na2 : ∀ q ∈ kl kA r, q ≠ a := fun q hq e => m2 (e ▸ hq)
  have n1' := n1
  rw [kl_nd] at n1'
  have lr : ∀ q ∈ kl kA l, ∀ q' ∈ kl kA r, q ≠ q' := fun q hq q' hq' => (List.nodup_append.mp n1').2.2 q hq q' (List.mem_cons_of_mem _ hq')
  obtain ⟨⟨g1, g2, g3, g4, g5⟩, ⟨p1, p2, p3⟩⟩ := h1 _ List.mem_cons_self
  have ea : rk kA r ≠ some a := fun e => m2 (rk_mem kA e)
  have kx : ∀ q, rk kA r = some q → q ∈ kl kA (nd a i v l r) := fun q hq => by rw [kl_nd]; exact List.mem_append_right _ (List.mem_cons_of_mem _ (rk_mem kA hq))
  refine ⟨fun u hu => ?_, ?_⟩
  · rcases List.mem_cons.mp hu with rfl | hu
    · refine ⟨?_, gN_frame (fun q hq => ⟨by rw [e3, va_up_ne _ _ (na2 q hq)], by rw [e4]⟩) p3⟩
      refine gR_congr id kA _ _ (fun q hq => ⟨?_, ?_, ?_⟩) (gR_up id kA m4 g5 none)
      · rw [e1]
      · rw [e0, va_up_ne _ _ (na2 q hq)]
      · rw [e2]; rfl
    · rcases List.mem_cons.mp hu with rfl | hu
      · refine ⟨⟨by rw [e1]; exact g1, by rw [e0, va_up_self]; rfl, by rw [e2, upo_ne _ _ ea]; exact g3, gR_congr id kA _ _ (fun q hq => ⟨by rw [e1], by rw [e0, va_up_ne _ _ (na1 q hq)], by rw [e2, upo_ne _ _ (fun e => lr q hq q (rk_mem kA e) rfl)]⟩) g4, trivial⟩, ⟨p1.1, by rw [e3, va_up_self]; rfl, by rw [e4]; exact p1.2.2⟩, gN_frame (fun q hq => ⟨by rw [e3, va_up_ne _ _ (na1 q hq)], by rw [e4]⟩) p2, trivial⟩
      · refine cT_frame (fun q hq => ?_) (h1 u (List.mem_cons_of_mem _ hu))
        have hq2 : q ∈ F.flatMap (kl kA) := List.mem_flatMap.mpr ⟨u, hu, hq⟩
        have qa : q ≠ a := fun e => n3 a (rk_mem kA rfl) q hq2 e.symm
        have qx : rk kA r ≠ some q := fun e => n3 q (kx q e) q hq2 rfl
        refine ⟨⟨?_, ?_, by rw [e2, upo_ne _ _ qx]⟩, by rw [e3, va_up_ne _ _ qa], by rw [e4]⟩
        · rw [e1]
        · rw [e0, va_up_ne _ _ qa]
  · show (kl kA r ++ (kl kA (nd a i v l .leaf) ++ F.flatMap (kl kA))).Nodup
    rw [← List.append_assoc]
    refine (List.Perm.append_right _ ?_).nodup_iff.mpr h2
    rw [kl_nd, kl_nd]
    refine List.perm_append_comm.trans ?_
    rw [List.append_assoc]
    exact List.Perm.refl _
theorem attL {a i : Nat} {v : Int32} {l r : Tr} {F : List Tr} (h : cF L K Rc Ic (nd a i v .leaf r :: l :: F)) (e0 : Rc' 0 = va_up (Rc 0) a (rk kA l)) (e1 : Rc' 1 = Rc 1) (e2 : Rc' 2 = upo (Rc 2) (rk kA l) (some a)) (e3 : Ic' 0 = va_up (Ic 0) a (nI (tsz l + 1 + tsz r))) (e4 : Ic' 1 = Ic 1) : cF L K Rc' Ic' (nd a i v l r :: F) := by
  obtain ⟨h1, h2⟩ := h
  have h2 : (kl kA (nd a i v .leaf r) ++ (kl kA l ++ F.flatMap (kl kA))).Nodup := h2
  have hp : (kl kA (nd a i v l r) ++ F.flatMap (kl kA)).Nodup := by
    rw [← List.append_assoc] at h2
    refine (List.Perm.append_right _ ?_).nodup_iff.mpr h2
    rw [kl_nd, kl_nd]
    exact List.perm_append_comm
  obtain ⟨n1, n2, n3⟩ := List.nodup_append.mp hp
  obtain ⟨m1, m2, m3, m4⟩ := io_apart n1
  have na1 : ∀ q ∈ kl kA l, q ≠ a := fun q hq e => m1 (e ▸ hq)
  have na2 : ∀ q ∈ kl kA r, q ≠ a := fun q hq e => m2 (e ▸ hq)
  have n1' := n1
  rw [kl_nd] at n1'
  have lr : ∀ q ∈ kl kA l, ∀ q' ∈ kl kA r, q ≠ q' := fun q hq q' hq' => (List.nodup_append.mp n1').2.2 q hq q' (List.mem_cons_of_mem _ hq')
  obtain ⟨⟨g1, g2, g3, g4, g5⟩, ⟨p1, p2, p3⟩⟩ := h1 _ List.mem_cons_self
  obtain ⟨y1, y2⟩ := h1 l (List.mem_cons_of_mem _ List.mem_cons_self)
  have ea : rk kA l ≠ some a := fun e => m1 (rk_mem kA e)
  have kx : ∀ q, rk kA l = some q → q ∈ kl kA (nd a i v l r) := fun q hq => by rw [kl_nd]; exact List.mem_append_left _ (rk_mem kA hq)
  refine ⟨fun u hu => ?_, hp⟩
  rcases List.mem_cons.mp hu with rfl | hu
  · have hx : gR id kA (Rc' 0) (Rc' 1) (Rc' 2) l (some a) := by
      refine gR_congr id kA _ _ (fun q hq => ⟨?_, ?_, ?_⟩) (gR_up id kA m3 y1 (some a))
      · rw [e0, va_up_ne _ _ (na1 q hq)]
      · rw [e1]
      · rw [e2]; rfl
    have hz : gN (Pn L K Ic') l := gN_frame (fun q hq => ⟨by rw [e3, va_up_ne _ _ (na1 q hq)], by rw [e4]⟩) y2
    refine ⟨⟨by rw [e0, va_up_self]; rfl, by rw [e1]; exact g2, by rw [e2, upo_ne _ _ ea]; exact g3, hx, gR_congr id kA _ _ (fun q hq => ⟨by rw [e0, va_up_ne _ _ (na2 q hq)], by rw [e1], by rw [e2, upo_ne _ _ (fun e => lr q (rk_mem kA e) q hq rfl)]⟩) g5⟩, ⟨p1.1, by rw [e3, va_up_self], by rw [e4]; exact p1.2.2⟩, hz, gN_frame (fun q hq => ⟨by rw [e3, va_up_ne _ _ (na2 q hq)], by rw [e4]⟩) p3⟩
  · refine cT_frame (fun q hq => ?_) (h1 u (List.mem_cons_of_mem _ (List.mem_cons_of_mem _ hu)))
    have hq2 : q ∈ F.flatMap (kl kA) := List.mem_flatMap.mpr ⟨u, hu, hq⟩
    have qa : q ≠ a := fun e => n3 a (rk_mem kA rfl) q hq2 e.symm
    have qx : rk kA l ≠ some q := fun e => n3 q (kx q e) q hq2 rfl
    refine ⟨⟨?_, ?_, by rw [e2, upo_ne _ _ qx]⟩, by rw [e3, va_up_ne _ _ qa], by rw [e4]⟩
    · rw [e0, va_up_ne _ _ qa]
    · rw [e1]
theorem attR {a i : Nat} {v : Int32} {l r : Tr} {F : List Tr} (h : cF L K Rc Ic (nd a i v l .leaf :: r :: F)) (e0 : Rc' 1 = va_up (Rc 1) a (rk kA r)) (e1 : Rc' 0 = Rc 0) (e2 : Rc' 2 = upo (Rc 2) (rk kA r) (some a)) (e3 : Ic' 0 = va_up (Ic 0) a (nI (tsz l + 1 + tsz r))) (e4 : Ic' 1 = Ic 1) : cF L K Rc' Ic' (nd a i v l r :: F) := by
  obtain ⟨h1, h2⟩ := h
  have h2 : (kl kA (nd a i v l .leaf) ++ (kl kA r ++ F.flatMap (kl kA))).Nodup := h2
  have hp : (kl kA (nd a i v l r) ++ F.flatMap (kl kA)).Nodup := by
    rw [← List.append_assoc] at h2
    refine (List.Perm.append_right _ ?_).nodup_iff.mpr h2
    rw [kl_nd, kl_nd]
    rw [List.append_assoc]
    exact List.Perm.refl _
  obtain ⟨n1, n2, n3⟩ := List.nodup_append.mp hp
  obtain ⟨m1, m2, m3, m4⟩ := io_apart n1
  have na1 : ∀ q ∈ kl kA l, q ≠ a := fun q hq e => m1 (e ▸ hq)
  have na2 : ∀ q ∈ kl kA r, q ≠ a := fun q hq e => m2 (e ▸ hq)
  have n1' := n1
  rw [kl_nd] at n1'
  have lr : ∀ q ∈ kl kA l, ∀ q' ∈ kl kA r, q ≠ q' := fun q hq q' hq' => (List.nodup_append.mp n1').2.2 q hq q' (List.mem_cons_of_mem _ hq')
  obtain ⟨⟨g1, g2, g3, g4, g5⟩, ⟨p1, p2, p3⟩⟩ := h1 _ List.mem_cons_self
  obtain ⟨y1, y2⟩ := h1 r (List.mem_cons_of_mem _ List.mem_cons_self)
  have ea : rk kA r ≠ some a := fun e => m2 (rk_mem kA e)
  have kx : ∀ q, rk kA r = some q → q ∈ kl kA (nd a i v l r) := fun q hq => by rw [kl_nd]; exact List.mem_append_right _ (List.mem_cons_of_mem _ (rk_mem kA hq))
  refine ⟨fun u hu => ?_, hp⟩
  rcases List.mem_cons.mp hu with rfl | hu
  · have hx : gR id kA (Rc' 0) (Rc' 1) (Rc' 2) r (some a) := by
      refine gR_congr id kA _ _ (fun q hq => ⟨?_, ?_, ?_⟩) (gR_up id kA m4 y1 (some a))
      · rw [e1]
      · rw [e0, va_up_ne _ _ (na2 q hq)]
      · rw [e2]; rfl
    have hz : gN (Pn L K Ic') r := gN_frame (fun q hq => ⟨by rw [e3, va_up_ne _ _ (na2 q hq)], by rw [e4]⟩) y2
    refine ⟨⟨by rw [e1]; exact g1, by rw [e0, va_up_self]; rfl, by rw [e2, upo_ne _ _ ea]; exact g3, gR_congr id kA _ _ (fun q hq => ⟨by rw [e1], by rw [e0, va_up_ne _ _ (na1 q hq)], by rw [e2, upo_ne _ _ (fun e => lr q hq q (rk_mem kA e) rfl)]⟩) g4, hx⟩, ⟨p1.1, by rw [e3, va_up_self], by rw [e4]; exact p1.2.2⟩, gN_frame (fun q hq => ⟨by rw [e3, va_up_ne _ _ (na1 q hq)], by rw [e4]⟩) p2, hz⟩
  · refine cT_frame (fun q hq => ?_) (h1 u (List.mem_cons_of_mem _ (List.mem_cons_of_mem _ hu)))
    have hq2 : q ∈ F.flatMap (kl kA) := List.mem_flatMap.mpr ⟨u, hu, hq⟩
    have qa : q ≠ a := fun e => n3 a (rk_mem kA rfl) q hq2 e.symm
    have qx : rk kA r ≠ some q := fun e => n3 q (kx q e) q hq2 rfl
    refine ⟨⟨?_, ?_, by rw [e2, upo_ne _ _ qx]⟩, by rw [e3, va_up_ne _ _ qa], by rw [e4]⟩
    · rw [e1]
    · rw [e0, va_up_ne _ _ qa]
theorem drR_s (j : Nat) (hj : j ≠ 2) (Rc : Nat → Nat → Option Nat) (a : Nat) : drR j Rc a j = va_up (Rc j) a none := by
  unfold drR
  cases h : Rc j a with
  | none => exact u2_s _ _ _ _
  | some b =>
    show u2 (u2 Rc 2 b none) j a none j = _
    rw [u2_s, u2_o _ _ _ hj]
theorem drR_o (j f : Nat) (h1 : f ≠ j) (h2 : f ≠ 2) (Rc : Nat → Nat → Option Nat) (a : Nat) : drR j Rc a f = Rc f := by
  unfold drR
  cases h : Rc j a with
  | none => exact u2_o _ _ _ h1
  | some b =>
    show u2 (u2 Rc 2 b none) j a none f = _
    rw [u2_o _ _ _ h1, u2_o _ _ _ h2]
theorem drR_p (j : Nat) (hj : j ≠ 2) (Rc : Nat → Nat → Option Nat) (a : Nat) : drR j Rc a 2 = upo (Rc 2) (Rc j a) none := by
  unfold drR
  cases h : Rc j a with
  | none => exact u2_o _ _ _ (Ne.symm hj)
  | some b =>
    show u2 (u2 Rc 2 b none) j a none 2 = _
    rw [u2_o _ _ _ (Ne.symm hj), u2_s]
    rfl
end DRP
/-! what split and join make, and what it costs: splays, steps, rotations -/
def splT (t : Tr) (k : Nat) : Tr × Tr := if tsz t ≤ k then (t, .leaf) else if k = 0 then (.leaf, t) else match upT t k with
  | .inner a i v l r => (l, nd a i v .leaf r)
  | .leaf => (.leaf, .leaf)
def splC (t : Tr) (k : Nat) : Nat × Nat × Nat := if tsz t ≤ k then (0, 0, 0) else if k = 0 then (0, 0, 0) else ((upN t k + 1) / 2, upN t k, 1)
def joinT (l r : Tr) : Tr := if tsz l = 0 then r else if tsz r = 0 then l else match upT l (tsz l - 1) with
  | .inner a i v b _ => nd a i v b r
  | .leaf => .leaf
def joinC (l r : Tr) : Nat × Nat × Nat := if tsz l = 0 then (0, 0, 0) else if tsz r = 0 then (0, 0, 0) else ((upN l (tsz l - 1) + 1) / 2, upN l (tsz l - 1), 1)
theorem tsz0 {t : Tr} (h : tsz t = 0) : t = .leaf := by
  cases t with
  | leaf => rfl
  | inner a i v l r =>
    have h : tsz l + 1 + tsz r = 0 := h
    omega
theorem splT_io (t : Tr) (k : Nat) : io (splT t k).1 = (io t).take k ∧ io (splT t k).2 = (io t).drop k := by
  unfold splT
  by_cases h1 : tsz t ≤ k
  · rw [if_pos h1]
    rw [← io_len] at h1
    exact ⟨(List.take_of_length_le h1).symm, (List.drop_of_length_le h1).symm⟩
  · rw [if_neg h1]
    by_cases h2 : k = 0
    · rw [if_pos h2, h2]
      exact ⟨rfl, rfl⟩
    · rw [if_neg h2]
      obtain ⟨a, i, v, l, r, e1, e2, e3, e4⟩ := upT_nd t k (by omega)
      rw [e1]
      have e2 : io l ++ (a, i, v) :: io r = io t := e2
      have hl : (io l).length = k := by rw [io_len, e3]
      refine ⟨?_, ?_⟩
      · show io l = _
        rw [← e2, ← hl, List.take_left]
      · show io (nd a i v .leaf r) = _
        rw [← e2, ← hl, List.drop_left]
        rfl
theorem joinT_io (l r : Tr) : io (joinT l r) = io l ++ io r := by
  unfold joinT
  by_cases h1 : tsz l = 0
  · rw [if_pos h1, tsz0 h1]
    rfl
  · rw [if_neg h1]
    by_cases h2 : tsz r = 0
    · rw [if_pos h2, tsz0 h2]
      simp [io]
    · rw [if_neg h2]
      obtain ⟨a, i, v, b, c, e1, e2, e3, e4⟩ := upT_nd l (tsz l - 1) (by omega)
      rw [e1]
      have e5 : tsz b + 1 + tsz c = tsz l := io_tsz (t := nd a i v b c) e2
      have e6 : c = .leaf := tsz0 (by omega)
      subst e6
      show io (nd a i v b r) = _
      rw [← e2]
      simp [io]
