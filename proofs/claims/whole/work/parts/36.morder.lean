/-! ===== the model: from left to right ===== -/
def ordR (o : Nat → Int32) (t : Tr) : Prop := ∀ (k : Nat) (x : LB), (io t)[k]? = some x → o k = nI x.2.1
/-- nothing is changed but the count and the row of an order -/
def mS (W : Nat → Nat) (Im AIm Im' AIm' : Nat → Nat → Int32) : Prop := (∀ j, j ≠ 3 → Im' j = Im j) ∧ ∀ x, x ≠ W 7 → AIm' x = AIm x
theorem mS_refl {W : Nat → Nat} {Im AIm : Nat → Nat → Int32} : mS W Im AIm Im AIm := ⟨fun _ _ => rfl, fun _ _ => rfl⟩
theorem mS_trans {W : Nat → Nat} {Im AIm I1 A1 I2 A2 : Nat → Nat → Int32} (h : mS W Im AIm I1 A1) (h2 : mS W I1 A1 I2 A2) : mS W Im AIm I2 A2 := ⟨fun j hj => (h2.1 j hj).trans (h.1 j hj), fun x hx => (h2.2 x hx).trans (h.2 x hx)⟩
theorem u2_u2 {α : Type} (f : Nat → Nat → α) (k a : Nat) (x y : α) : u2 (u2 f k a x) k a y = u2 f k a y := by
  funext j b
  by_cases h : j = k ∧ b = a <;> simp [u2, h]
theorem tsz_mem {t : Tr} {p : Nat × Nat} (h : p ∈ ids t) : 0 < tsz t := by
  cases t with
  | leaf => cases h
  | inner a i v l r =>
    show 0 < tsz l + 1 + tsz r
    omega
section MOR
variable {G : GC} {L : List Nat} {K AN : Nat → Nat} {R0 Rc : Nat → Nat → Option Nat} {Ic AIc Im AIm : Nat → Nat → Int32} {AR : Nat → Nat → Option Nat} {AL : Nat → Nat → Int64} {W : Nat → Nat} {t c : Tr}
theorem mK_d (hM : mK W L K AN R0) {i j : Nat} (h : i ≠ j) (hi : 1 ≤ i ∧ i ≤ 7) (hj : 1 ≤ j ∧ j ≤ 7) : W i ≠ W j := hM.2.2.2 i j hi.1 hi.2 hj.1 hj.2 h
theorem mS_T {A' I' : Nat → Nat → Int32} (hM : mK W L K AN R0) (h : mS W Im AIm I' A') (hm : mT W AIm t) : mT W A' t :=
  mT_same (h.2 _ (mK_d hM (by decide) (by decide) (by decide))) (h.2 _ (mK_d hM (by decide) (by decide) (by decide))) (h.2 _ (mK_d hM (by decide) (by decide) (by decide))) hm
theorem mS_F {A' I' : Nat → Nat → Int32} {F : List Tr} (hM : mK W L K AN R0) (h : mS W Im AIm I' A') (hm : mF W AIm F) : mF W A' F :=
  mF_same (h.2 _ (mK_d hM (by decide) (by decide) (by decide))) (h.2 _ (mK_d hM (by decide) (by decide) (by decide))) (h.2 _ (mK_d hM (by decide) (by decide) (by decide))) hm
theorem lay_loop {Q : RS → SS → Prop} (th : Int32) (hM : mK W L K AN R0) (hm : mT W AIm t) (hn : (kl kI t).Nodup) (hs : tsz t ≤ 60) : ∀ (b k : Nat) (o : Nat → Int32), tsz t - k ≤ b → k ≤ tsz t → (∀ j x, j < k → (io t)[j]? = some x → o j = nI x.2.1) →
    (∀ o', ordR o' t → Q (.inl none) (mkS L K AN R0 Rc Ic AIc AR (u2 Im 3 (W 0) (nI (tsz t))) (va_up AIm (W 7) o') AL)) →
    WP G mX5_layOrder Q 0 0 20 [(0, vr (some (W 0))), (1, vi th), (2, vi (ix (((io t)[k]?).map (fun x => x.2.1))))] [] (mkS L K AN R0 Rc Ic AIc AR (u2 Im 3 (W 0) (nI k)) (va_up AIm (W 7) o) AL) := by
  have hM' := hM
  obtain ⟨m0, ⟨f1, f2, f3, f4, f5, f6, f7⟩, ⟨⟨q1, n1⟩, ⟨q2, n2⟩, ⟨q3, n3⟩, ⟨q4, n4⟩, ⟨q5, n5⟩, ⟨q6, n6⟩, ⟨q7, n7⟩⟩, hne⟩ := hM
  intro b
  induction b with
  | zero =>
    intro k o hb hk ho hQ
    obtain rfl : k = tsz t := by omega
    have hx : (io t)[tsz t]? = none := List.getElem?_eq_none (by rw [io_len]; exact Nat.le_refl _)
    rw [hx]
    refine WP_iload_n dX5_layOrder_20 rfl ?_
    refine WP_iconst (-1) dX5_layOrder_21 (by decide) ?_
    refine WP_icmp_eq 54 dX5_layOrder_22 (by decide) (fun h1 => ?_) (fun h1 => ?_)
    · refine WP_return dX5_layOrder_54 rfl (Nat.le_of_ble_eq_true rfl) (Nat.le_of_ble_eq_true rfl) ?_
      exact hQ o (fun j x hj => ho j x (by rw [← io_len]; exact (List.getElem?_eq_some_iff.mp hj).1) hj)
    · exact absurd rfl h1
  | succ b ih =>
    intro k o hb hk ho hQ
    by_cases hkt : k < tsz t
    · obtain ⟨fs, a, i, v, l, r, z1, z2, z3, z4, z5, z6, z7⟩ := at_zip hkt
      have hix : ix (((io t)[k]?).map (fun x => x.2.1)) = nI i := by
        rw [z7]
        rfl
      rw [hix]
      have hm9 := hm
      have hn9 := hn
      rw [z2] at hm9 hn9
      have hi := (mz hm9).1
      refine WP_iload_n dX5_layOrder_20 rfl ?_
      refine WP_iconst (-1) dX5_layOrder_21 (by decide) ?_
      refine WP_icmp_eq 54 dX5_layOrder_22 (by decide) (fun h1 => ?_) (fun h1 => ?_)
      · exact absurd h1 (nI_ne1 hi)
      · refine WP_aload_n dX5_layOrder_25 rfl ?_
        refine gf_RX5_36 dX5_layOrder_26 rfl rfl m0 ?_
        refine WP_aload_n dX5_layOrder_29 rfl ?_
        refine gf_RX5_46 dX5_layOrder_30 rfl rfl m0 ?_
        rw [u2_eq]
        refine WP_iload_n dX5_layOrder_33 rfl ?_
        refine ast_7 k 60 dX5_layOrder_34 f7 q7 n7 rfl (by omega) (by decide) ?_
        refine WP_aload_n dX5_layOrder_35 rfl ?_
        refine WP_dup dX5_layOrder_36 rfl ?_
        rw [va_up_self, up_up]
        refine gf_RX5_46 dX5_layOrder_37 rfl rfl m0 ?_
        refine WP_iconst (1) dX5_layOrder_40 (by decide) ?_
        refine WP_iadd dX5_layOrder_41 ?_
        rw [u2_eq, nI_1]
        refine pf_RX5_46 dX5_layOrder_42 rfl rfl m0 ?_
        refine WP_aload_n dX5_layOrder_45 rfl ?_
        refine WP_iload_n dX5_layOrder_46 rfl ?_
        rw [u2_u2]
        have hS : mS W Im AIm (u2 Im 3 (W 0) (nI (k + 1))) (va_up AIm (W 7) (upd o k (nI i))) := ⟨fun j hj => u2_o _ _ _ hj, fun x hx => va_up_ne _ _ hx⟩
        refine callVi mX5_following [_] dX5_layOrder_47 okc_X5_following ok_742 ⟨by decide, by decide⟩ rfl rfl m0 rfl (Nat.le_of_ble_eq_true rfl) (Nat.le_of_ble_eq_true rfl) (Nat.le_of_ble_eq_true rfl) (m_following a i v l r fs hM' hn9 (mS_T hM' hS hm9)) (fun x1 S1 h1 => ?_)
        obtain ⟨rfl, rfl⟩ := h1
        refine WP_istore_n dX5_layOrder_50 (by decide) rfl ?_
        refine WP_goto 20 dX5_layOrder_51 (by decide) ?_
        have e : hdI (io r ++ aft fs) = ((io t)[k + 1]?).map (fun x => x.2.1) := by
          have h2 := io_plug fs (nd a i v l r)
          rw [← z2] at h2
          have h3 : io t = (bef fs ++ io l) ++ (a, i, v) :: (io r ++ aft fs) := by
            rw [h2]
            simp [io]
          rw [h3, List.getElem?_append_right (by rw [List.length_append, io_len]; omega), List.length_append, io_len, show k + 1 - ((bef fs).length + tsz l) = 0 + 1 by omega, List.getElem?_cons_succ]
          unfold hdI
          rw [List.head?_eq_getElem?]
        rw [e]
        refine WP_lv [(0, vr (some (W 0))), (1, vi th), (2, vi (ix (((io t)[k + 1]?).map (fun x => x.2.1))))] (List.forall_mem_cons.mpr ⟨rfl, List.forall_mem_cons.mpr ⟨rfl, List.forall_mem_cons.mpr ⟨rfl, fun _ h9 => absurd h9 List.not_mem_nil⟩⟩⟩) ?_
        refine ih (k + 1) (upd o k (nI i)) (by omega) (by omega) (fun j x hj hx => ?_) hQ
        unfold upd
        by_cases hjk : j = k
        · rw [if_pos hjk]
          rw [hjk, z7] at hx
          cases hx
          rfl
        · rw [if_neg hjk]
          exact ho j x (by omega) hx
    · obtain rfl : k = tsz t := by omega
      have hx : (io t)[tsz t]? = none := List.getElem?_eq_none (by rw [io_len]; exact Nat.le_refl _)
      rw [hx]
      refine WP_iload_n dX5_layOrder_20 rfl ?_
      refine WP_iconst (-1) dX5_layOrder_21 (by decide) ?_
      refine WP_icmp_eq 54 dX5_layOrder_22 (by decide) (fun h1 => ?_) (fun h1 => ?_)
      · refine WP_return dX5_layOrder_54 rfl (Nat.le_of_ble_eq_true rfl) (Nat.le_of_ble_eq_true rfl) ?_
        exact hQ o (fun j x hj => ho j x (by rw [← io_len]; exact (List.getElem?_eq_some_iff.mp hj).1) hj)
      · exact absurd rfl h1
/-- what laying an order leaves -/
def pO (W : Nat → Nat) (L : List Nat) (K AN : Nat → Nat) (R0 Rc : Nat → Nat → Option Nat) (Ic AIc : Nat → Nat → Int32) (AR : Nat → Nat → Option Nat) (Im AIm : Nat → Nat → Int32) (AL : Nat → Nat → Int64) (p : (Nat → Nat → Int32) → (Nat → Nat → Int32) → Prop) : SS → Prop :=
  fun S' => ∃ Im' AIm', S' = mkS L K AN R0 Rc Ic AIc AR Im' AIm' AL ∧ mS W Im AIm Im' AIm' ∧ p Im' AIm'
theorem m_layOrder (hM : mK W L K AN R0) (hm : mT W AIm t) (hn : (kl kI t).Nodup) (hs : tsz t ≤ 60) :
    MT G mX5_layOrder [vr (some (W 0)), vi (ix (rk kI t))] (mkS L K AN R0 Rc Ic AIc AR Im AIm AL) (rV (pO W L K AN R0 Rc Ic AIc AR Im AIm AL (fun I' A' => I' 3 (W 0) = nI (tsz t) ∧ ordR (A' (W 7)) t))) := by
  have hM' := hM
  obtain ⟨m0, ⟨f1, f2, f3, f4, f5, f6, f7⟩, ⟨⟨q1, n1⟩, ⟨q2, n2⟩, ⟨q3, n3⟩, ⟨q4, n4⟩, ⟨q5, n5⟩, ⟨q6, n6⟩, ⟨q7, n7⟩⟩, hne⟩ := hM
  have hfin : ∀ o', ordR o' t → rV (pO W L K AN R0 Rc Ic AIc AR Im AIm AL (fun I' A' => I' 3 (W 0) = nI (tsz t) ∧ ordR (A' (W 7)) t)) (.inl none) (mkS L K AN R0 Rc Ic AIc AR (u2 Im 3 (W 0) (nI (tsz t))) (va_up AIm (W 7) o') AL) := by
    intro o' ho
    refine ⟨rfl, _, _, rfl, ⟨fun j hj => u2_o _ _ _ hj, fun x hx => va_up_ne _ _ hx⟩, u2_eq _ _ _ _, ?_⟩
    rw [va_up_self]
    exact ho
  have key := lay_loop (G := G) (Rc := Rc) (Ic := Ic) (AIc := AIc) (AR := AR) (AL := AL) (Im := Im) (Q := rV (pO W L K AN R0 Rc Ic AIc AR Im AIm AL (fun I' A' => I' 3 (W 0) = nI (tsz t) ∧ ordR (A' (W 7)) t))) (ix (rk kI t)) hM' hm hn hs (tsz t) 0 (AIm (W 7)) (by omega) (Nat.zero_le _) (fun j x hj => absurd hj (Nat.not_lt_zero _)) hfin
  rw [up_id] at key
  refine MT_of (by decide) rfl (Nat.le_of_ble_eq_true rfl) ?_
  refine WP_aload_n dX5_layOrder_0 rfl ?_
  refine WP_iconst (0) dX5_layOrder_1 (by decide) ?_
  refine pf_RX5_46 dX5_layOrder_2 rfl rfl m0 ?_
  refine WP_iload_n dX5_layOrder_5 rfl ?_
  refine WP_iconst (-1) dX5_layOrder_6 (by decide) ?_
  refine WP_icmp_ne 14 dX5_layOrder_7 (by decide) (fun hb => ?_) (fun hb => ?_)
  · cases t with
    | leaf => exact absurd rfl hb
    | inner a i v l r =>
      obtain ⟨j, hj⟩ : ∃ j, hdI (io (nd a i v l r)) = some j := by
        unfold hdI
        cases h : io (nd a i v l r) with
        | nil =>
          have := io_len (nd a i v l r)
          rw [h] at this
          have this : 0 = tsz l + 1 + tsz r := this
          omega
        | cons x xs => exact ⟨_, rfl⟩
      refine WP_aload_n dX5_layOrder_14 rfl ?_
      refine WP_iload_n dX5_layOrder_15 rfl ?_
      refine callVi mX5_leftmost [_] dX5_layOrder_16 okc_X5_leftmost ok_738 ⟨by decide, by decide⟩ rfl rfl m0 rfl (Nat.le_of_ble_eq_true rfl) (Nat.le_of_ble_eq_true rfl) (Nat.le_of_ble_eq_true rfl) (m_leftmost (nd a i v l r) [] i j hM' hm rfl hj) (fun x1 S1 h1 => ?_)
      obtain ⟨rfl, rfl⟩ := h1
      refine WP_istore_n dX5_layOrder_19 (by decide) rfl ?_
      have e : ((io (nd a i v l r))[0]?).map (fun x => x.2.1) = some j := by
        rw [← hj, ← List.head?_eq_getElem?]
        rfl
      have key := key
      rw [show ((io (Std.DTreeMap.Internal.Impl.inner a i v l r))[0]?).map (fun x => x.2.1) = some j from e] at key
      refine WP_lv [(0, vr (some (W 0))), (1, vi (ix (rk kI (nd a i v l r)))), (2, vi (nI j))] (List.forall_mem_cons.mpr ⟨rfl, List.forall_mem_cons.mpr ⟨rfl, List.forall_mem_cons.mpr ⟨rfl, fun _ h9 => absurd h9 List.not_mem_nil⟩⟩⟩) ?_
      exact key
  · have ht : t = .leaf := by
      have := (ix_m1 (fun i hi => hm.2 i (rk_mem kI hi))).mp hb
      cases t with
      | leaf => rfl
      | inner a i v l r => cases this
    subst ht
    refine WP_iconst (-1) dX5_layOrder_10 (by decide) ?_
    refine WP_goto 19 dX5_layOrder_11 (by decide) ?_
    refine WP_istore_n dX5_layOrder_19 (by decide) rfl ?_
    refine WP_lv [(0, vr (some (W 0))), (1, vi (-1)), (2, vi (-1))] (List.forall_mem_cons.mpr ⟨rfl, List.forall_mem_cons.mpr ⟨rfl, List.forall_mem_cons.mpr ⟨rfl, fun _ h9 => absurd h9 List.not_mem_nil⟩⟩⟩) ?_
    exact key
theorem m_sizeOf (hM : mK W L K AN R0) (hm : mT W AIm t) (hn : (kl kI t).Nodup) (hs : tsz t ≤ 60) :
    MT G mX5_sizeOf [vr (some (W 0)), vi (ix (rk kI t))] (mkS L K AN R0 Rc Ic AIc AR Im AIm AL) (rI (fun x S' => x = nI (tsz t) ∧ pO W L K AN R0 Rc Ic AIc AR Im AIm AL (fun _ _ => True) S')) := by
  have m0 := hM.1
  refine MT_of (by decide) rfl (Nat.le_of_ble_eq_true rfl) ?_
  refine WP_aload_n dX5_sizeOf_0 rfl ?_
  refine WP_iload_n dX5_sizeOf_1 rfl ?_
  refine callVv mX5_layOrder [_] dX5_sizeOf_2 okc_X5_layOrder ok_734 ⟨by decide, by decide⟩ rfl rfl m0 rfl (Nat.le_of_ble_eq_true rfl) (Nat.le_of_ble_eq_true rfl) (Nat.le_of_ble_eq_true rfl) (m_layOrder hM hm hn hs) (fun S1 h1 => ?_)
  obtain ⟨I1, A1, rfl, s1, c1, -⟩ := h1
  refine WP_aload_n dX5_sizeOf_5 rfl ?_
  refine gf_RX5_46 dX5_sizeOf_6 rfl rfl m0 ?_
  rw [c1]
  refine WP_ireturn dX5_sizeOf_9 rfl rfl (Nat.le_of_ble_eq_true rfl) (Nat.le_of_ble_eq_true rfl) ?_
  exact ⟨_, rfl, rfl, _, _, rfl, s1, trivial⟩
theorem m_nodeAt (k : Nat) (hM : mK W L K AN R0) (hm : mT W AIm t) (hn : (kl kI t).Nodup) (hs : tsz t ≤ 60) (hk : k < tsz t) :
    MT G mX5_nodeAt [vr (some (W 0)), vi (ix (rk kI t)), vi (nI k)] (mkS L K AN R0 Rc Ic AIc AR Im AIm AL) (rI (fun x S' => x = nI (idAt t k).2 ∧ pO W L K AN R0 Rc Ic AIc AR Im AIm AL (fun _ _ => True) S')) := by
  have hM' := hM
  obtain ⟨m0, ⟨f1, f2, f3, f4, f5, f6, f7⟩, ⟨⟨q1, n1⟩, ⟨q2, n2⟩, ⟨q3, n3⟩, ⟨q4, n4⟩, ⟨q5, n5⟩, ⟨q6, n6⟩, ⟨q7, n7⟩⟩, hne⟩ := hM
  refine MT_of (by decide) rfl (Nat.le_of_ble_eq_true rfl) ?_
  refine WP_aload_n dX5_nodeAt_0 rfl ?_
  refine WP_iload_n dX5_nodeAt_1 rfl ?_
  refine callVv mX5_layOrder [_] dX5_nodeAt_2 okc_X5_layOrder ok_734 ⟨by decide, by decide⟩ rfl rfl m0 rfl (Nat.le_of_ble_eq_true rfl) (Nat.le_of_ble_eq_true rfl) (Nat.le_of_ble_eq_true rfl) (m_layOrder hM' hm hn hs) (fun S1 h1 => ?_)
  obtain ⟨I1, A1, rfl, s1, c1, o1⟩ := h1
  refine WP_aload_n dX5_nodeAt_5 rfl ?_
  refine gf_RX5_36 dX5_nodeAt_6 rfl rfl m0 ?_
  refine WP_iload_n dX5_nodeAt_9 rfl ?_
  refine ald_7 k 60 dX5_nodeAt_10 f7 q7 n7 rfl (by omega) (by decide) ?_
  obtain ⟨fs, a, i, v, l, r, z1, z2, z3, z4, z5, z6, z7⟩ := at_zip hk
  have e : idAt t k = (a, i) := by
    unfold idAt ids
    rw [List.getElem?_map, z7]
    rfl
  rw [o1 k _ z7]
  refine WP_ireturn dX5_nodeAt_11 rfl rfl (Nat.le_of_ble_eq_true rfl) (Nat.le_of_ble_eq_true rfl) ?_
  exact ⟨_, rfl, by rw [e], _, _, rfl, s1, trivial⟩
theorem idxOf_atN {l : List Nat} (h : l.Nodup) {p k : Nat} (hk : l[k]? = some p) : l.idxOf p = k := by
  obtain ⟨hlt, hk⟩ := List.getElem?_eq_some_iff.mp hk
  subst hk
  exact h.idxOf_getElem k hlt
/-- the place in the order -/
theorem place_loop {Q : RS → SS → Prop} (p : Nat) (a i : Nat) (v : Int32) (hM : mK W L K AN R0) (hn : (kl kI t).Nodup) (hs : tsz t ≤ 60) (hp : (io t)[p]? = some (a, i, v)) (hi : ∀ q ∈ kl kI t, q < 60) (ho : ordR (AIm (W 7)) t) (hQ : Q (.inl (some (vi (nI p)))) (mkS L K AN R0 Rc Ic AIc AR Im AIm AL)) : ∀ (b k : Nat), p - k ≤ b → k ≤ p →
    WP G mX5_placeOf Q 0 0 11 [(0, vr (some (W 0))), (1, vi (nI i)), (2, vi (nI k))] [] (mkS L K AN R0 Rc Ic AIc AR Im AIm AL) := by
  have hM' := hM
  obtain ⟨m0, ⟨f1, f2, f3, f4, f5, f6, f7⟩, ⟨⟨q1, n1⟩, ⟨q2, n2⟩, ⟨q3, n3⟩, ⟨q4, n4⟩, ⟨q5, n5⟩, ⟨q6, n6⟩, ⟨q7, n7⟩⟩, hne⟩ := hM
  have hpt : p < tsz t := by
    rw [← io_len]
    exact (List.getElem?_eq_some_iff.mp hp).1
  intro b
  induction b with
  | zero =>
    intro k hb hk
    obtain rfl : k = p := by omega
    refine WP_aload_n dX5_placeOf_11 rfl ?_
    refine gf_RX5_36 dX5_placeOf_12 rfl rfl m0 ?_
    refine WP_iload_n dX5_placeOf_15 rfl ?_
    refine ald_7 k 60 dX5_placeOf_16 f7 q7 n7 rfl (by omega) (by decide) ?_
    rw [ho k _ hp]
    refine WP_iload_n dX5_placeOf_17 rfl ?_
    refine WP_icmp_eq 27 dX5_placeOf_18 (by decide) (fun h1 => ?_) (fun h1 => ?_)
    · refine WP_iload_n dX5_placeOf_27 rfl ?_
      refine WP_ireturn dX5_placeOf_28 rfl rfl (Nat.le_of_ble_eq_true rfl) (Nat.le_of_ble_eq_true rfl) ?_
      exact hQ
    · exact absurd rfl h1
  | succ b ih =>
    intro k hb hk
    by_cases hkp : k = p
    · subst hkp
      refine WP_aload_n dX5_placeOf_11 rfl ?_
      refine gf_RX5_36 dX5_placeOf_12 rfl rfl m0 ?_
      refine WP_iload_n dX5_placeOf_15 rfl ?_
      refine ald_7 k 60 dX5_placeOf_16 f7 q7 n7 rfl (by omega) (by decide) ?_
      rw [ho k _ hp]
      refine WP_iload_n dX5_placeOf_17 rfl ?_
      refine WP_icmp_eq 27 dX5_placeOf_18 (by decide) (fun h1 => ?_) (fun h1 => ?_)
      · refine WP_iload_n dX5_placeOf_27 rfl ?_
        refine WP_ireturn dX5_placeOf_28 rfl rfl (Nat.le_of_ble_eq_true rfl) (Nat.le_of_ble_eq_true rfl) ?_
        exact hQ
      · exact absurd rfl h1
    · have hkt : k < tsz t := by omega
      obtain ⟨fs, a', i', v', l, r, z1, z2, z3, z4, z5, z6, z7⟩ := at_zip hkt
      have hx1 : (kl kI t)[k]? = some i' := by
        unfold kl
        rw [List.getElem?_map, z7]
        rfl
      have hx2 : (kl kI t)[p]? = some i := by
        unfold kl
        rw [List.getElem?_map, hp]
        rfl
      have hne2 : i' ≠ i := by
        intro e
        rw [e] at hx1
        exact hkp ((idxOf_atN hn hx1).symm.trans (idxOf_atN hn hx2))
      have h60 := hi i' (List.mem_of_getElem? hx1)
      have h61 := hi i (List.mem_of_getElem? hx2)
      refine WP_aload_n dX5_placeOf_11 rfl ?_
      refine gf_RX5_36 dX5_placeOf_12 rfl rfl m0 ?_
      refine WP_iload_n dX5_placeOf_15 rfl ?_
      refine ald_7 k 60 dX5_placeOf_16 f7 q7 n7 rfl (by omega) (by decide) ?_
      rw [ho k _ z7]
      refine WP_iload_n dX5_placeOf_17 rfl ?_
      refine WP_icmp_eq 27 dX5_placeOf_18 (by decide) (fun h1 => ?_) (fun h1 => ?_)
      · exact absurd ((nI_eq (a := i') (b := i) (by omega) (by omega)).mp h1) hne2
      · refine WP_iinc (nI (k + 1)) dX5_placeOf_21 rfl (nI_1 _) (by decide) rfl ?_
        refine WP_goto 11 dX5_placeOf_24 (by decide) ?_
        refine WP_lv [(0, vr (some (W 0))), (1, vi (nI i)), (2, vi (nI (k + 1)))] (List.forall_mem_cons.mpr ⟨rfl, List.forall_mem_cons.mpr ⟨rfl, List.forall_mem_cons.mpr ⟨rfl, fun _ h9 => absurd h9 List.not_mem_nil⟩⟩⟩) ?_
        exact ih (k + 1) (by omega) (by omega)
theorem m_placeOf (a i : Nat) (v : Int32) (l r : Tr) (fs : List Fr) (hM : mK W L K AN R0) (ht : t = plug fs (nd a i v l r)) (hm : mT W AIm t) (hn : (kl kI t).Nodup) (hs : tsz t ≤ 60) :
    MT G mX5_placeOf [vr (some (W 0)), vi (nI i)] (mkS L K AN R0 Rc Ic AIc AR Im AIm AL) (rI (fun x S' => x = nI ((bef fs).length + tsz l) ∧ pO W L K AN R0 Rc Ic AIc AR Im AIm AL (fun _ _ => True) S')) := by
  have hM' := hM
  obtain ⟨m0, ⟨f1, f2, f3, f4, f5, f6, f7⟩, ⟨⟨q1, n1⟩, ⟨q2, n2⟩, ⟨q3, n3⟩, ⟨q4, n4⟩, ⟨q5, n5⟩, ⟨q6, n6⟩, ⟨q7, n7⟩⟩, hne⟩ := hM
  obtain ⟨j, hj⟩ : ∃ j, rk kI t = some j := by
    cases t with
    | leaf =>
      have := tsz_bef fs (nd a i v l r)
      rw [← ht] at this
      have this : 0 = (bef fs).length + (tsz l + 1 + tsz r) + (aft fs).length := this
      omega
    | inner a i v l r => exact ⟨_, rfl⟩
  have hp : (io t)[(bef fs).length + tsz l]? = some (a, i, v) := by
    have h2 := io_plug fs (nd a i v l r)
    rw [← ht] at h2
    have h3 : io t = (bef fs ++ io l) ++ (a, i, v) :: (io r ++ aft fs) := by
      rw [h2]
      simp [io]
    rw [h3, List.getElem?_append_right (by rw [List.length_append, io_len]; omega), List.length_append, io_len, Nat.sub_self]
    rfl
  refine MT_of (by decide) rfl (Nat.le_of_ble_eq_true rfl) ?_
  refine WP_aload_n dX5_placeOf_0 rfl ?_
  refine WP_aload_n dX5_placeOf_1 rfl ?_
  refine WP_iload_n dX5_placeOf_2 rfl ?_
  have hm9 := hm
  have hj9 := hj
  rw [ht] at hm9 hj9
  refine callVi mX5_rootOf [_] dX5_placeOf_3 okc_X5_rootOf ok_860 ⟨by decide, by decide⟩ rfl rfl m0 rfl (Nat.le_of_ble_eq_true rfl) (Nat.le_of_ble_eq_true rfl) (Nat.le_of_ble_eq_true rfl) (m_rootOf (nd a i v l r) fs i j hM' hm9 rfl hj9) (fun x1 S1 h1 => ?_)
  obtain ⟨rfl, rfl⟩ := h1
  rw [show nI j = ix (rk kI t) from by rw [hj]; rfl]
  refine callVv mX5_layOrder [_] dX5_placeOf_6 okc_X5_layOrder ok_734 ⟨by decide, by decide⟩ rfl rfl m0 rfl (Nat.le_of_ble_eq_true rfl) (Nat.le_of_ble_eq_true rfl) (Nat.le_of_ble_eq_true rfl) (m_layOrder hM' hm hn hs) (fun S1 h1 => ?_)
  obtain ⟨I1, A1, rfl, s1, c1, o1⟩ := h1
  refine WP_iconst (0) dX5_placeOf_9 (by decide) ?_
  refine WP_istore_n dX5_placeOf_10 (by decide) rfl ?_
  refine WP_lv [(0, vr (some (W 0))), (1, vi (nI i)), (2, vi (nI 0))] (List.forall_mem_cons.mpr ⟨rfl, List.forall_mem_cons.mpr ⟨rfl, List.forall_mem_cons.mpr ⟨rfl, fun _ h9 => absurd h9 List.not_mem_nil⟩⟩⟩) ?_
  exact place_loop _ a i v hM' hn hs hp hm.2 o1 ⟨_, rfl, rfl, _, _, rfl, s1, trivial⟩ _ 0 (Nat.le_refl _) (Nat.zero_le _)
theorem m_count (hM : mK W L K AN R0) (ht : Im 1 (W 0) = ix (rk kI t)) (hm : mT W AIm t) (hn : (kl kI t).Nodup) (hs : tsz t ≤ 60) :
    MT G mX5_count [vr (some (W 0))] (mkS L K AN R0 Rc Ic AIc AR Im AIm AL) (rI (fun x S' => x = nI (tsz t) ∧ pO W L K AN R0 Rc Ic AIc AR Im AIm AL (fun _ _ => True) S')) := by
  have m0 := hM.1
  refine MT_of (by decide) rfl (Nat.le_of_ble_eq_true rfl) ?_
  refine WP_aload_n dX5_count_0 rfl ?_
  refine WP_aload_n dX5_count_1 rfl ?_
  refine gf_RX5_9 dX5_count_2 rfl rfl m0 ?_
  rw [ht]
  refine callVi mX5_sizeOf [_] dX5_count_5 okc_X5_sizeOf ok_730 ⟨by decide, by decide⟩ rfl rfl m0 rfl (Nat.le_of_ble_eq_true rfl) (Nat.le_of_ble_eq_true rfl) (Nat.le_of_ble_eq_true rfl) (m_sizeOf hM hm hn hs) (fun x1 S1 h1 => ?_)
  obtain ⟨rfl, I1, A1, rfl, s1, -⟩ := h1
  refine WP_ireturn dX5_count_8 rfl rfl (Nat.le_of_ble_eq_true rfl) (Nat.le_of_ble_eq_true rfl) ?_
  exact ⟨_, rfl, rfl, _, _, rfl, s1, trivial⟩
theorem m_isPlace (x : Int32) (hM : mK W L K AN R0) (ht : Im 1 (W 0) = ix (rk kI t)) (hm : mT W AIm t) (hn : (kl kI t).Nodup) (hs : tsz t ≤ 60) :
    MT G mX5_isPlace [vr (some (W 0)), vi x] (mkS L K AN R0 Rc Ic AIc AR Im AIm AL) (rI (fun y S' => y = (if inP (tsz t) x then 1 else 0) ∧ pO W L K AN R0 Rc Ic AIc AR Im AIm AL (fun _ _ => True) S')) := by
  have m0 := hM.1
  refine MT_of (by decide) rfl (Nat.le_of_ble_eq_true rfl) ?_
  refine WP_iload_n dX5_isPlace_0 rfl ?_
  refine WP_if_lt 16 dX5_isPlace_1 (by decide) (fun hb => ?_) (fun hb => ?_)
  · refine WP_iconst (0) dX5_isPlace_16 (by decide) ?_
    refine WP_ireturn dX5_isPlace_17 rfl rfl (Nat.le_of_ble_eq_true rfl) (Nat.le_of_ble_eq_true rfl) ?_
    exact ⟨_, rfl, by rw [if_neg (neg_not hb)], _, _, rfl, mS_refl, trivial⟩
  · refine WP_iload_n dX5_isPlace_4 rfl ?_
    refine WP_aload_n dX5_isPlace_5 rfl ?_
    refine callVi mX5_count [] dX5_isPlace_6 okc_X5_count ok_726 ⟨by decide, by decide⟩ rfl rfl m0 rfl (Nat.le_of_ble_eq_true rfl) (Nat.le_of_ble_eq_true rfl) (Nat.le_of_ble_eq_true rfl) (m_count hM ht hm hn hs) (fun x1 S1 h1 => ?_)
    obtain ⟨rfl, I1, A1, rfl, s1, -⟩ := h1
    refine WP_icmp_ge 16 dX5_isPlace_9 (by decide) (fun hb2 => ?_) (fun hb2 => ?_)
    · refine WP_iconst (0) dX5_isPlace_16 (by decide) ?_
      refine WP_ireturn dX5_isPlace_17 rfl rfl (Nat.le_of_ble_eq_true rfl) (Nat.le_of_ble_eq_true rfl) ?_
      exact ⟨_, rfl, by rw [if_neg (fun h => Int32.not_lt.mpr hb2 ((inP_lt hb (by omega)).mpr h))], _, _, rfl, s1, trivial⟩
    · refine WP_iconst (1) dX5_isPlace_12 (by decide) ?_
      refine WP_goto 17 dX5_isPlace_13 (by decide) ?_
      refine WP_ireturn dX5_isPlace_17 rfl rfl (Nat.le_of_ble_eq_true rfl) (Nat.le_of_ble_eq_true rfl) ?_
      exact ⟨_, rfl, by rw [if_pos ((inP_lt hb (by omega)).mp (Int32.not_le.mp hb2))], _, _, rfl, s1, trivial⟩
theorem m_isRange (x y : Int32) (hM : mK W L K AN R0) (ht : Im 1 (W 0) = ix (rk kI t)) (hm : mT W AIm t) (hn : (kl kI t).Nodup) (hs : tsz t ≤ 60) :
    MT G mX5_isRange [vr (some (W 0)), vi x, vi y] (mkS L K AN R0 Rc Ic AIc AR Im AIm AL) (rI (fun z S' => z = (if inR (tsz t) x y then 1 else 0) ∧ pO W L K AN R0 Rc Ic AIc AR Im AIm AL (fun _ _ => True) S')) := by
  have m0 := hM.1
  have z0 : (0 : Int32).toInt = 0 := rfl
  have zn : (nI (tsz t)).toInt = (tsz t : Int) := nI_toInt (by omega)
  refine MT_of (by decide) rfl (Nat.le_of_ble_eq_true rfl) ?_
  refine WP_iload_n dX5_isRange_0 rfl ?_
  refine WP_if_lt 21 dX5_isRange_1 (by decide) (fun hb => ?_) (fun hb => ?_)
  · refine WP_iconst (0) dX5_isRange_21 (by decide) ?_
    refine WP_ireturn dX5_isRange_22 rfl rfl (Nat.le_of_ble_eq_true rfl) (Nat.le_of_ble_eq_true rfl) ?_
    refine ⟨_, rfl, ?_, _, _, rfl, mS_refl, trivial⟩
    rw [if_neg]
    intro h
    have := Int32.lt_iff_toInt_lt.mp hb
    have := h.1
    omega
  · refine WP_iload_n dX5_isRange_4 rfl ?_
    refine WP_iload_n dX5_isRange_5 rfl ?_
    refine WP_icmp_gt 21 dX5_isRange_6 (by decide) (fun hb2 => ?_) (fun hb2 => ?_)
    · refine WP_iconst (0) dX5_isRange_21 (by decide) ?_
      refine WP_ireturn dX5_isRange_22 rfl rfl (Nat.le_of_ble_eq_true rfl) (Nat.le_of_ble_eq_true rfl) ?_
      refine ⟨_, rfl, ?_, _, _, rfl, mS_refl, trivial⟩
      rw [if_neg]
      intro h
      have := Int32.lt_iff_toInt_lt.mp hb2
      have := h.2.1
      omega
    · refine WP_iload_n dX5_isRange_9 rfl ?_
      refine WP_aload_n dX5_isRange_10 rfl ?_
      refine callVi mX5_count [] dX5_isRange_11 okc_X5_count ok_726 ⟨by decide, by decide⟩ rfl rfl m0 rfl (Nat.le_of_ble_eq_true rfl) (Nat.le_of_ble_eq_true rfl) (Nat.le_of_ble_eq_true rfl) (m_count hM ht hm hn hs) (fun x1 S1 h1 => ?_)
      obtain ⟨rfl, I1, A1, rfl, s1, -⟩ := h1
      rw [Int32.lt_iff_toInt_lt] at hb hb2
      refine WP_icmp_gt 21 dX5_isRange_14 (by decide) (fun hb3 => ?_) (fun hb3 => ?_)
      · refine WP_iconst (0) dX5_isRange_21 (by decide) ?_
        refine WP_ireturn dX5_isRange_22 rfl rfl (Nat.le_of_ble_eq_true rfl) (Nat.le_of_ble_eq_true rfl) ?_
        refine ⟨_, rfl, ?_, _, _, rfl, s1, trivial⟩
        rw [if_neg]
        intro h
        have := Int32.lt_iff_toInt_lt.mp hb3
        have := h.2.2
        omega
      · refine WP_iconst (1) dX5_isRange_17 (by decide) ?_
        refine WP_goto 22 dX5_isRange_18 (by decide) ?_
        refine WP_ireturn dX5_isRange_22 rfl rfl (Nat.le_of_ble_eq_true rfl) (Nat.le_of_ble_eq_true rfl) ?_
        refine ⟨_, rfl, ?_, _, _, rfl, s1, trivial⟩
        rw [if_pos]
        rw [Int32.lt_iff_toInt_lt] at hb3
        exact ⟨by omega, by omega, by omega⟩
theorem m_isValue (x : Int32) : MT G mX5_isValue [vi x] (mkS L K AN R0 Rc Ic AIc AR Im AIm AL) (rI (fun z S' => z = (if okv x then 1 else 0) ∧ S' = mkS L K AN R0 Rc Ic AIc AR Im AIm AL)) := by
  refine MT_of (by decide) rfl (Nat.le_of_ble_eq_true rfl) ?_
  refine WP_iload_n dX5_isValue_0 rfl ?_
  refine WP_sipush (-1000) dX5_isValue_1 (by decide) ?_
  refine WP_icmp_lt 18 dX5_isValue_4 (by decide) (fun hb => ?_) (fun hb => ?_)
  · refine WP_iconst (0) dX5_isValue_18 (by decide) ?_
    refine WP_ireturn dX5_isValue_19 rfl rfl (Nat.le_of_ble_eq_true rfl) (Nat.le_of_ble_eq_true rfl) ?_
    exact ⟨_, rfl, by rw [if_neg (fun h => Int32.not_le.mpr hb h.1)], rfl⟩
  · refine WP_iload_n dX5_isValue_7 rfl ?_
    refine WP_sipush (1000) dX5_isValue_8 (by decide) ?_
    refine WP_icmp_gt 18 dX5_isValue_11 (by decide) (fun hb2 => ?_) (fun hb2 => ?_)
    · refine WP_iconst (0) dX5_isValue_18 (by decide) ?_
      refine WP_ireturn dX5_isValue_19 rfl rfl (Nat.le_of_ble_eq_true rfl) (Nat.le_of_ble_eq_true rfl) ?_
      exact ⟨_, rfl, by rw [if_neg (fun h => Int32.not_le.mpr hb2 h.2)], rfl⟩
    · refine WP_iconst (1) dX5_isValue_14 (by decide) ?_
      refine WP_goto 19 dX5_isValue_15 (by decide) ?_
      refine WP_ireturn dX5_isValue_19 rfl rfl (Nat.le_of_ble_eq_true rfl) (Nat.le_of_ble_eq_true rfl) ?_
      exact ⟨_, rfl, by rw [if_pos ⟨Int32.not_lt.mp hb, Int32.not_lt.mp hb2⟩], rfl⟩
theorem m_isFinger (x : Int32) : MT G mX5_isFinger [vi x] (mkS L K AN R0 Rc Ic AIc AR Im AIm AL) (rI (fun z S' => z = (if inP 4 x then 1 else 0) ∧ S' = mkS L K AN R0 Rc Ic AIc AR Im AIm AL)) := by
  refine MT_of (by decide) rfl (Nat.le_of_ble_eq_true rfl) ?_
  refine WP_iload_n dX5_isFinger_0 rfl ?_
  refine WP_if_lt 13 dX5_isFinger_1 (by decide) (fun hb => ?_) (fun hb => ?_)
  · refine WP_iconst (0) dX5_isFinger_13 (by decide) ?_
    refine WP_ireturn dX5_isFinger_14 rfl rfl (Nat.le_of_ble_eq_true rfl) (Nat.le_of_ble_eq_true rfl) ?_
    exact ⟨_, rfl, by rw [if_neg (neg_not hb)], rfl⟩
  · refine WP_iload_n dX5_isFinger_4 rfl ?_
    refine WP_iconst (4) dX5_isFinger_5 (by decide) ?_
    refine WP_icmp_ge 13 dX5_isFinger_6 (by decide) (fun hb2 => ?_) (fun hb2 => ?_)
    · refine WP_iconst (0) dX5_isFinger_13 (by decide) ?_
      refine WP_ireturn dX5_isFinger_14 rfl rfl (Nat.le_of_ble_eq_true rfl) (Nat.le_of_ble_eq_true rfl) ?_
      exact ⟨_, rfl, by rw [if_neg (fun h => Int32.not_lt.mpr hb2 ((inP_lt (n := 4) hb (by decide)).mpr h))], rfl⟩
    · refine WP_iconst (1) dX5_isFinger_9 (by decide) ?_
      refine WP_goto 14 dX5_isFinger_10 (by decide) ?_
      refine WP_ireturn dX5_isFinger_14 rfl rfl (Nat.le_of_ble_eq_true rfl) (Nat.le_of_ble_eq_true rfl) ?_
      exact ⟨_, rfl, by rw [if_pos ((inP_lt (n := 4) hb (by decide)).mp (Int32.not_le.mp hb2))], rfl⟩
theorem nodup_snd {l : List (Nat × Nat)} (h : (l.map (·.2)).Nodup) : l.Nodup := by
  induction l with
  | nil => exact List.nodup_nil
  | cons x l ih =>
    rw [List.map_cons, List.nodup_cons] at h
    exact List.nodup_cons.mpr ⟨fun e => h.1 (List.mem_map.mpr ⟨x, e, rfl⟩), ih h.2⟩
theorem kl_eqI (t : Tr) : kl kI t = (ids t).map (·.2) := by
  unfold kl ids
  rw [List.map_map]
  rfl
theorem pos_atI {p : Nat × Nat} (hn : (kl kI t).Nodup) (h : p ∈ ids t) : ∃ fs v l r, t = plug fs (nd p.1 p.2 v l r) ∧ (bef fs).length + tsz l = posA t p ∧ posA t p < tsz t ∧ zat t (posA t p) [] = (nd p.1 p.2 v l r, fs) ∧ idAt t (posA t p) = p := by
  obtain ⟨v, hv⟩ := in_ids h
  obtain ⟨fs, l, r, e⟩ := zip_of t hv
  have hz := zat_at fs p.1 p.2 v l r
  rw [← e] at hz
  have hsz := tsz_bef fs (nd p.1 p.2 v l r)
  rw [← e] at hsz
  have hsz : tsz t = (bef fs).length + (tsz l + 1 + tsz r) + (aft fs).length := hsz
  have hlt : (bef fs).length + tsz l < tsz t := by omega
  obtain ⟨fs', a', i', v', l', r', z1, -, -, -, -, -, z2⟩ := at_zip hlt
  rw [hz] at z1
  cases z1
  have hpos : posA t p = (bef fs).length + tsz l := by
    unfold posA
    refine idxOf_at ?_ ?_
    · rw [kl_eqI] at hn
      exact nodup_snd hn
    · unfold ids
      rw [List.getElem?_map, z2]
      rfl
  rw [hpos]
  refine ⟨fs, v, l, r, e, rfl, hlt, hz, ?_⟩
  unfold idAt ids
  rw [List.getElem?_map, z2]
  rfl
theorem m_inSeq (o : Option (Nat × Nat)) (hM : mK W L K AN R0) (ht : Im 1 (W 0) = ix (rk kI t)) (hF : mF W AIm [t, c]) (ho : ∀ p, o = some p → p ∈ ids t ∨ p ∈ ids c) :
    MT G mX5_isInSequence [vr (some (W 0)), vi (ix (o.map (·.2)))] (mkS L K AN R0 Rc Ic AIc AR Im AIm AL) (rI (fun x S' => x = (if ∃ p, o = some p ∧ p ∈ ids t then 1 else 0) ∧ S' = mkS L K AN R0 Rc Ic AIc AR Im AIm AL)) := by
  have hM' := hM
  obtain ⟨m0, ⟨f1, f2, f3, f4, f5, f6, f7⟩, ⟨⟨q1, n1⟩, ⟨q2, n2⟩, ⟨q3, n3⟩, ⟨q4, n4⟩, ⟨q5, n5⟩, ⟨q6, n6⟩, ⟨q7, n7⟩⟩, hne⟩ := hM
  cases o with
  | none =>
    refine MT_of (by decide) rfl (Nat.le_of_ble_eq_true rfl) ?_
    refine WP_iload_n dX5_isInSequence_0 rfl ?_
    refine WP_iconst (-1) dX5_isInSequence_1 (by decide) ?_
    refine WP_icmp_eq 21 dX5_isInSequence_2 (by decide) (fun hb => ?_) (fun hb => ?_)
    · refine WP_iconst (0) dX5_isInSequence_21 (by decide) ?_
      refine WP_ireturn dX5_isInSequence_22 rfl rfl (Nat.le_of_ble_eq_true rfl) (Nat.le_of_ble_eq_true rfl) ?_
      exact ⟨_, rfl, by rw [if_neg (fun ⟨p, h, _⟩ => by cases h)], rfl⟩
    · exact absurd rfl hb
  | some p =>
    have hd : (kl kI t ++ (kl kI c ++ [])).Nodup := hF.2
    have hT := hF.1 t (by simp)
    have hC := hF.1 c (by simp)
    have hnt := mF_hd hF
    have hnc := mF_hd (mF_tail hF)
    have run : ∀ (u : Tr) (j : Nat), p ∈ ids u → (kl kI u).Nodup → mT W AIm u → rk kI u = some j →
        MT G mX5_isInSequence [vr (some (W 0)), vi (nI p.2)] (mkS L K AN R0 Rc Ic AIc AR Im AIm AL) (rI (fun x S' => x = (if nI j = ix (rk kI t) then 1 else 0) ∧ S' = mkS L K AN R0 Rc Ic AIc AR Im AIm AL)) := by
      intro u j hu hnu hTu hj
      obtain ⟨fs, v, l, r, z1, z2, z3, z4, z5⟩ := pos_atI hnu hu
      have hm9 := hTu
      have hj9 := hj
      rw [z1] at hm9 hj9
      have hi := (mz hm9).1
      refine MT_of (by decide) rfl (Nat.le_of_ble_eq_true rfl) ?_
      refine WP_iload_n dX5_isInSequence_0 rfl ?_
      refine WP_iconst (-1) dX5_isInSequence_1 (by decide) ?_
      refine WP_icmp_eq 21 dX5_isInSequence_2 (by decide) (fun hb => ?_) (fun hb => ?_)
      · exact absurd hb (nI_ne1 hi)
      · refine WP_aload_n dX5_isInSequence_5 rfl ?_
        refine WP_iload_n dX5_isInSequence_6 rfl ?_
        refine callVi mX5_rootOf [_] dX5_isInSequence_7 okc_X5_rootOf ok_860 ⟨by decide, by decide⟩ rfl rfl m0 rfl (Nat.le_of_ble_eq_true rfl) (Nat.le_of_ble_eq_true rfl) (Nat.le_of_ble_eq_true rfl) (m_rootOf (nd p.1 p.2 v l r) fs p.2 j hM' hm9 rfl hj9) (fun x1 S1 h1 => ?_)
        obtain ⟨rfl, rfl⟩ := h1
        refine WP_aload_n dX5_isInSequence_10 rfl ?_
        refine gf_RX5_9 dX5_isInSequence_11 rfl rfl m0 ?_
        rw [ht]
        refine WP_icmp_ne 21 dX5_isInSequence_14 (by decide) (fun h2 => ?_) (fun h2 => ?_)
        · refine WP_iconst (0) dX5_isInSequence_21 (by decide) ?_
          refine WP_ireturn dX5_isInSequence_22 rfl rfl (Nat.le_of_ble_eq_true rfl) (Nat.le_of_ble_eq_true rfl) ?_
          exact ⟨_, rfl, by rw [if_neg h2], rfl⟩
        · refine WP_iconst (1) dX5_isInSequence_17 (by decide) ?_
          refine WP_goto 22 dX5_isInSequence_18 (by decide) ?_
          refine WP_ireturn dX5_isInSequence_22 rfl rfl (Nat.le_of_ble_eq_true rfl) (Nat.le_of_ble_eq_true rfl) ?_
          exact ⟨_, rfl, by rw [if_pos h2], rfl⟩
    have rkS' : ∀ u : Tr, p ∈ ids u → ∃ j, rk kI u = some j := fun u hu => by
      cases u with
      | leaf => cases hu
      | inner a i v l r => exact ⟨_, rfl⟩
    by_cases h : p ∈ ids t
    · obtain ⟨j, hj⟩ := rkS' t h
      rw [if_pos ⟨p, rfl, h⟩]
      have := run t j h hnt hT hj
      rw [if_pos (show nI j = ix (rk kI t) by rw [hj]; rfl)] at this
      exact this
    · have h2 := (ho p rfl).resolve_left h
      obtain ⟨j, hj⟩ := rkS' c h2
      rw [if_neg (fun ⟨p', e, h'⟩ => h (by cases e; exact h'))]
      have := run c j h2 hnc hC hj
      rw [if_neg (fun e => by
        have e : ix (some j) = ix (rk kI t) := e
        have := (ix_inj (fun q hq => by cases hq; exact hC.2 _ (rk_mem kI hj)) (fun q hq => hT.2 _ (rk_mem kI hq))).mp e
        exact (List.nodup_append.mp hd).2.2 j (rk_mem kI this.symm) j (List.mem_append_left _ (rk_mem kI hj)) rfl)] at this
      exact this
end MOR
