/-! ===== the model: split, join, raiseUp, open, close ===== -/
/-- what those leave as it was -/
def mX (W : Nat → Nat) (Im AIm Im' AIm' : Nat → Nat → Int32) : Prop := (∀ j, j < 3 ∨ 9 < j → Im' j = Im j) ∧ AIm' (W 1) = AIm (W 1) ∧ AIm' (W 5) = AIm (W 5) ∧ AIm' (W 6) = AIm (W 6)
theorem mX_refl {W : Nat → Nat} {Im AIm : Nat → Nat → Int32} : mX W Im AIm Im AIm := ⟨fun _ _ => rfl, rfl, rfl, rfl⟩
theorem mX_trans {W : Nat → Nat} {Im AIm I1 A1 I2 A2 : Nat → Nat → Int32} (h : mX W Im AIm I1 A1) (h2 : mX W I1 A1 I2 A2) : mX W Im AIm I2 A2 := ⟨fun j hj => (h2.1 j hj).trans (h.1 j hj), h2.2.1.trans h.2.1, h2.2.2.1.trans h.2.2.1, h2.2.2.2.trans h.2.2.2⟩
section MOP
variable {G : GC} {L : List Nat} {K AN : Nat → Nat} {R0 Rc : Nat → Nat → Option Nat} {Ic AIc Im AIm I' A' : Nat → Nat → Int32} {AR : Nat → Nat → Option Nat} {AL : Nat → Nat → Int64} {W : Nat → Nat} {t u : Tr} {F : List Tr}
theorem mS_X (hM : mK W L K AN R0) (h : mS W Im AIm I' A') : mX W Im AIm I' A' := ⟨fun j hj => h.1 j (by omega), h.2 _ (mK_d hM (by decide) (by decide) (by decide)), h.2 _ (mK_d hM (by decide) (by decide) (by decide)), h.2 _ (mK_d hM (by decide) (by decide) (by decide))⟩
theorem mQ_X (hM : mK W L K AN R0) (h : mQ W Im AIm I' A') : mX W Im AIm I' A' :=
  ⟨fun j hj => h.1 j (by omega), h.2 _ (mK_d hM (by decide) (by decide) (by decide)) (mK_d hM (by decide) (by decide) (by decide)) (mK_d hM (by decide) (by decide) (by decide)), h.2 _ (mK_d hM (by decide) (by decide) (by decide)) (mK_d hM (by decide) (by decide) (by decide)) (mK_d hM (by decide) (by decide) (by decide)), h.2 _ (mK_d hM (by decide) (by decide) (by decide)) (mK_d hM (by decide) (by decide) (by decide)) (mK_d hM (by decide) (by decide) (by decide))⟩
theorem mS_c (h : mS W Im AIm I' A') : cmO I' W = cmO Im W := by
  unfold cmO
  rw [h.1 6 (by decide), h.1 7 (by decide), h.1 8 (by decide), h.1 9 (by decide)]
theorem mQ_7 (hM : mK W L K AN R0) (h : mQ W Im AIm I' A') : A' (W 7) = AIm (W 7) := h.2 _ (mK_d hM (by decide) (by decide) (by decide)) (mK_d hM (by decide) (by decide) (by decide)) (mK_d hM (by decide) (by decide) (by decide))
theorem m_begins (hM : mK W L K AN R0) : MT G mX5_begins [vr (some (W 0))] (mkS L K AN R0 Rc Ic AIc AR Im AIm AL) (rV (fun S' => ∃ I', S' = mkS L K AN R0 Rc Ic AIc AR I' AIm AL ∧ (∀ j, j < 6 ∨ 9 < j → I' j = Im j) ∧ cmO I' W = begC (cmO Im W))) := by
  have m0 := hM.1
  refine MT_of (by decide) rfl (Nat.le_of_ble_eq_true rfl) ?_
  refine WP_aload_n dX5_begins_0 rfl ?_
  refine WP_iconst (0) dX5_begins_1 (by decide) ?_
  refine pf_RX5_72 dX5_begins_2 rfl rfl m0 ?_
  refine WP_aload_n dX5_begins_5 rfl ?_
  refine WP_iconst (0) dX5_begins_6 (by decide) ?_
  refine pf_RX5_63 dX5_begins_7 rfl rfl m0 ?_
  refine WP_return dX5_begins_10 rfl (Nat.le_of_ble_eq_true rfl) (Nat.le_of_ble_eq_true rfl) ?_
  refine ⟨rfl, _, rfl, fun j hj => by rw [u2_o _ _ _ (by omega), u2_o _ _ _ (by omega)], ?_⟩
  simp [cmO, begC, u2]
theorem m_goesWell (x : Int32) (hM : mK W L K AN R0) : MT G mX5_goesWell [vr (some (W 0)), vi x] (mkS L K AN R0 Rc Ic AIc AR Im AIm AL) (rI (fun y S' => y = (if x = 0 then 1 else 0) ∧ S' = mkS L K AN R0 Rc Ic AIc AR (u2 Im 0 (W 0) x) AIm AL)) := by
  have m0 := hM.1
  refine MT_of (by decide) rfl (Nat.le_of_ble_eq_true rfl) ?_
  refine WP_aload_n dX5_goesWell_0 rfl ?_
  refine WP_iload_n dX5_goesWell_1 rfl ?_
  refine pf_RX5_39 dX5_goesWell_2 rfl rfl m0 ?_
  refine WP_iload_n dX5_goesWell_5 rfl ?_
  refine WP_if_ne 13 dX5_goesWell_6 (by decide) (fun hb => ?_) (fun hb => ?_)
  · refine WP_iconst (0) dX5_goesWell_13 (by decide) ?_
    refine WP_ireturn dX5_goesWell_14 rfl rfl (Nat.le_of_ble_eq_true rfl) (Nat.le_of_ble_eq_true rfl) ?_
    exact ⟨_, rfl, by rw [if_neg hb], rfl⟩
  · refine WP_iconst (1) dX5_goesWell_9 (by decide) ?_
    refine WP_goto 14 dX5_goesWell_10 (by decide) ?_
    refine WP_ireturn dX5_goesWell_14 rfl rfl (Nat.le_of_ble_eq_true rfl) (Nat.le_of_ble_eq_true rfl) ?_
    exact ⟨_, rfl, by rw [if_pos hb], rfl⟩
theorem idAt_of {k a i : Nat} {v : Int32} (h : (io t)[k]? = some (a, i, v)) : idAt t k = (a, i) := by
  unfold idAt ids
  rw [List.getElem?_map, h]
  rfl
theorem upT_id {k : Nat} (hk : k < tsz t) : ∃ v l r, upT t k = nd (idAt t k).1 (idAt t k).2 v l r ∧ io l ++ ((idAt t k).1, (idAt t k).2, v) :: io r = io t ∧ tsz l = k ∧ vAt t k = v := by
  obtain ⟨a, i, v, l, r, e1, e2, e3, e4⟩ := upT_nd t k hk
  rw [idAt_of e4]
  refine ⟨v, l, r, e1, e2, e3, ?_⟩
  unfold vAt vls
  rw [List.getElem?_map, e4]
  rfl
theorem m_splayAt (k : Nat) (hM : mK W L K AN R0) (hk : k < tsz t) (h : mF W AIm (t :: F)) :
    MT G mX5_splay [vr (some (W 0)), vi (nI (idAt t k).2)] (mkS L K AN R0 Rc Ic AIc AR Im AIm AL) (rV (fun S' => ∃ I' A', S' = mkS L K AN R0 Rc Ic AIc AR I' A' AL ∧ mF W A' (upT t k :: F) ∧ mQ W Im AIm I' A' ∧ cmO I' W = addC (cmO Im W) (upC t k))) := by
  obtain ⟨fs, a, i, v, l, r, z1, z2, z3, z4, z5, z6, z7⟩ := at_zip hk
  rw [idAt_of z7]
  unfold upC
  rw [z3, z4]
  rw [z2] at h
  exact m_splay a i v l r fs F hM h
theorem rk_some (h : tsz t ≠ 0) : ∃ j, rk kI t = some j := by
  cases t with
  | leaf => exact absurd rfl h
  | inner a i v l r => exact ⟨_, rfl⟩
theorem m_split (k : Nat) (hM : mK W L K AN R0) (h : mF W AIm (t :: F)) (hs : tsz t ≤ 60) (hk : k ≤ 60) :
    MT G mX5_split [vr (some (W 0)), vi (ix (rk kI t)), vi (nI k)] (mkS L K AN R0 Rc Ic AIc AR Im AIm AL) (rV (fun S' => ∃ I' A', S' = mkS L K AN R0 Rc Ic AIc AR I' A' AL ∧ mF W A' ((splT t k).1 :: (splT t k).2 :: F) ∧ mX W Im AIm I' A' ∧ cmO I' W = addC (cmO Im W) (splC t k) ∧ I' 4 (W 0) = ix (rk kI (splT t k).1) ∧ I' 5 (W 0) = ix (rk kI (splT t k).2))) := by
  have hM' := hM
  obtain ⟨m0, ⟨f1, f2, f3, f4, f5, f6, f7⟩, ⟨⟨q1, n1⟩, ⟨q2, n2⟩, ⟨q3, n3⟩, ⟨q4, n4⟩, ⟨q5, n5⟩, ⟨q6, n6⟩, ⟨q7, n7⟩⟩, hne⟩ := hM
  have hm := h.1 t List.mem_cons_self
  have hn := mF_hd h
  refine MT_of (by decide) rfl (Nat.le_of_ble_eq_true rfl) ?_
  refine WP_aload_n dX5_split_0 rfl ?_
  refine WP_iload_n dX5_split_1 rfl ?_
  refine callVi mX5_sizeOf [_] dX5_split_2 okc_X5_sizeOf ok_730 ⟨by decide, by decide⟩ rfl rfl m0 rfl (Nat.le_of_ble_eq_true rfl) (Nat.le_of_ble_eq_true rfl) (Nat.le_of_ble_eq_true rfl) (m_sizeOf hM' hm hn hs) (fun x1 S1 h1 => ?_)
  obtain ⟨rfl, I1, A1, rfl, s1, -⟩ := h1
  have F1 := mS_F hM' s1 h
  refine WP_istore_n dX5_split_5 (by decide) rfl ?_
  refine WP_aload_n dX5_split_6 rfl ?_
  refine WP_iload_n dX5_split_7 rfl ?_
  by_cases hk0 : k = 0
  · subst hk0
    have fin : ∀ (I2 : Nat → Nat → Int32), (∀ j, j ≠ 4 → j ≠ 5 → I2 j = I1 j) → I2 4 (W 0) = -1 → I2 5 (W 0) = ix (rk kI t) → ∃ I' A', mkS L K AN R0 Rc Ic AIc AR I2 A1 AL = mkS L K AN R0 Rc Ic AIc AR I' A' AL ∧ mF W A' ((splT t 0).1 :: (splT t 0).2 :: F) ∧ mX W Im AIm I' A' ∧ cmO I' W = addC (cmO Im W) (splC t 0) ∧ I' 4 (W 0) = ix (rk kI (splT t 0).1) ∧ I' 5 (W 0) = ix (rk kI (splT t 0).2) := by
      intro I2 hj h4 h5
      have hX : mX W Im AIm I2 A1 := mX_trans (mS_X hM' s1) ⟨fun j hj' => hj j (by omega) (by omega), rfl, rfl, rfl⟩
      have hc : cmO I2 W = cmO Im W := by
        rw [← mS_c s1]
        unfold cmO
        rw [hj 6 (by decide) (by decide), hj 7 (by decide) (by decide), hj 8 (by decide) (by decide), hj 9 (by decide) (by decide)]
      refine ⟨I2, A1, rfl, ?_, hX, ?_, ?_, ?_⟩
      · unfold splT
        by_cases h0 : tsz t ≤ 0
        · rw [if_pos h0]
          exact mF_perm (List.Perm.swap _ _ _) (mF_leaf F1)
        · rw [if_neg h0, if_pos rfl]
          exact mF_leaf F1
      · rw [hc]
        unfold splC
        by_cases h0 : tsz t ≤ 0
        · rw [if_pos h0, addC_0]
        · rw [if_neg h0, if_pos rfl, addC_0]
      · rw [h4]
        unfold splT
        by_cases h0 : tsz t ≤ 0
        · rw [if_pos h0, tsz0 (Nat.le_zero.mp h0)]
          rfl
        · rw [if_neg h0, if_pos rfl]
          rfl
      · rw [h5]
        unfold splT
        by_cases h0 : tsz t ≤ 0
        · rw [if_pos h0, tsz0 (Nat.le_zero.mp h0)]
        · rw [if_neg h0, if_pos rfl]
    refine WP_if_ne 15 dX5_split_8 (by decide) (fun hb => ?_) (fun hb => ?_)
    · exact absurd rfl hb
    · refine WP_iconst (-1) dX5_split_11 (by decide) ?_
      refine WP_goto 16 dX5_split_12 (by decide) ?_
      refine pf_RX5_81 dX5_split_16 rfl rfl m0 ?_
      refine WP_aload_n dX5_split_19 rfl ?_
      refine WP_iload_n dX5_split_20 rfl ?_
      refine WP_if_ne 28 dX5_split_21 (by decide) (fun hb => ?_) (fun hb => ?_)
      · exact absurd rfl hb
      · refine WP_iload_n dX5_split_24 rfl ?_
        refine WP_goto 29 dX5_split_25 (by decide) ?_
        refine pf_RX5_84 dX5_split_29 rfl rfl m0 ?_
        refine WP_iload_n dX5_split_32 rfl ?_
        refine WP_if_le 90 dX5_split_33 (by decide) (fun hb => ?_) (fun hb => ?_)
        · refine WP_return dX5_split_90 rfl (Nat.le_of_ble_eq_true rfl) (Nat.le_of_ble_eq_true rfl) ?_
          exact ⟨rfl, fin _ (fun j h1 h2 => by rw [u2_o _ _ _ h2, u2_o _ _ _ h1]) (by rw [u2_o _ _ _ (by decide), u2_eq]) (u2_eq _ _ _ _)⟩
        · exact absurd (Int32.le_refl _) hb
  · have hkz : ¬ nI k = 0 := nI_ne0 (by omega) (by omega)
    refine WP_if_ne 15 dX5_split_8 (by decide) (fun hb => ?_) (fun hb => ?_)
    · refine WP_iload_n dX5_split_15 rfl ?_
      refine pf_RX5_81 dX5_split_16 rfl rfl m0 ?_
      refine WP_aload_n dX5_split_19 rfl ?_
      refine WP_iload_n dX5_split_20 rfl ?_
      refine WP_if_ne 28 dX5_split_21 (by decide) (fun hb => ?_) (fun hb => ?_)
      · refine WP_iconst (-1) dX5_split_28 (by decide) ?_
        refine pf_RX5_84 dX5_split_29 rfl rfl m0 ?_
        refine WP_iload_n dX5_split_32 rfl ?_
        have hj2 : ∀ j, j ≠ 4 → j ≠ 5 → (u2 (u2 I1 4 (W 0) (ix (rk kI t))) 5 (W 0) (-1)) j = I1 j := fun j h1 h2 => by rw [u2_o _ _ _ h2, u2_o _ _ _ h1]
        have h42 : (u2 (u2 I1 4 (W 0) (ix (rk kI t))) 5 (W 0) (-1)) 4 (W 0) = ix (rk kI t) := by rw [u2_o _ _ _ (by decide), u2_eq]
        have h52 : (u2 (u2 I1 4 (W 0) (ix (rk kI t))) 5 (W 0) (-1)) 5 (W 0) = -1 := u2_eq _ _ _ _
        generalize u2 (u2 I1 4 (W 0) (ix (rk kI t))) 5 (W 0) (-1) = I2 at hj2 h42 h52 ⊢
        have hX : mX W Im AIm I2 A1 := mX_trans (mS_X hM' s1) ⟨fun j hj' => hj2 j (by omega) (by omega), rfl, rfl, rfl⟩
        have hc : cmO I2 W = cmO Im W := by
          rw [← mS_c s1]
          unfold cmO
          rw [hj2 6 (by decide) (by decide), hj2 7 (by decide) (by decide), hj2 8 (by decide) (by decide), hj2 9 (by decide) (by decide)]
        refine WP_if_le 90 dX5_split_33 (by decide) (fun hb2 => ?_) (fun hb2 => ?_)
        · exact absurd hb2 (nI_nle (by omega) (by omega))
        · refine WP_iload_n dX5_split_36 rfl ?_
          refine WP_iload_n dX5_split_37 rfl ?_
          refine WP_icmp_ge 90 dX5_split_38 (by decide) (fun hb3 => ?_) (fun hb3 => ?_)
          · have hkt : tsz t ≤ k := (nI_leI (by omega) (by omega)).mp hb3
            have e1 : splT t k = (t, .leaf) := by
              unfold splT
              rw [if_pos hkt]
            have e2 : splC t k = (0, 0, 0) := by
              unfold splC
              rw [if_pos hkt]
            refine WP_return dX5_split_90 rfl (Nat.le_of_ble_eq_true rfl) (Nat.le_of_ble_eq_true rfl) ?_
            rw [e1, e2, addC_0]
            exact ⟨rfl, _, _, rfl, mF_perm (List.Perm.swap _ _ _) (mF_leaf F1), hX, hc, h42, h52⟩
          · have hkt : k < tsz t := by
              by_cases e : tsz t ≤ k
              · exact absurd (nI_le e (by omega)) hb3
              · omega
            obtain ⟨v, l, r, u1, u2', u3, -⟩ := upT_id hkt
            have e1 : splT t k = (l, nd (idAt t k).1 (idAt t k).2 v .leaf r) := by
              unfold splT
              rw [if_neg (by omega), if_neg hk0, u1]
            have e2 : splC t k = upC t k := by
              unfold splC upC
              rw [if_neg (by omega), if_neg hk0]
            refine WP_aload_n dX5_split_41 rfl ?_
            refine WP_iload_n dX5_split_42 rfl ?_
            refine WP_iload_n dX5_split_43 rfl ?_
            refine callVi mX5_nodeAt [_, _] dX5_split_44 okc_X5_nodeAt ok_761 ⟨by decide, by decide⟩ rfl rfl m0 rfl (Nat.le_of_ble_eq_true rfl) (Nat.le_of_ble_eq_true rfl) (Nat.le_of_ble_eq_true rfl) (m_nodeAt k hM' (F1.1 t List.mem_cons_self) hn hs hkt) (fun x1 S1 h1 => ?_)
            obtain ⟨rfl, I3, A3, rfl, s3, -⟩ := h1
            have F3 := mS_F hM' s3 F1
            refine WP_istore dX5_split_47 (by decide) rfl ?_
            refine WP_aload_n dX5_split_49 rfl ?_
            refine WP_iload dX5_split_50 rfl ?_
            refine callVv mX5_splay [_] dX5_split_52 okc_X5_splay ok_765 ⟨by decide, by decide⟩ rfl rfl m0 rfl (Nat.le_of_ble_eq_true rfl) (Nat.le_of_ble_eq_true rfl) (Nat.le_of_ble_eq_true rfl) (m_splayAt k hM' hkt F3) (fun S1 h1 => ?_)
            obtain ⟨I4, A4, rfl, F4, Q4, c4⟩ := h1
            rw [u1] at F4
            obtain ⟨z0, z1, z2, z3⟩ := mz (fs := []) (F4.1 _ List.mem_cons_self)
            obtain ⟨j, hj⟩ := rk_some (t := l) (by omega)
            have hj9 : j < 60 := (F4.1 _ List.mem_cons_self).2 j (by rw [kl_nd]; exact List.mem_append_left _ (rk_mem kI hj))
            refine WP_aload_n dX5_split_55 rfl ?_
            refine WP_aload_n dX5_split_56 rfl ?_
            refine gf_RX5_20 dX5_split_57 rfl rfl m0 ?_
            refine WP_iload dX5_split_60 rfl ?_
            refine ald_7 ((idAt t k).2) 60 dX5_split_62 f2 q2 n2 rfl z0 (by decide) ?_
            rw [z1, hj]
            refine pf_RX5_81 dX5_split_63 rfl rfl m0 ?_
            refine WP_aload_n dX5_split_66 rfl ?_
            refine WP_iload dX5_split_67 rfl ?_
            refine pf_RX5_84 dX5_split_69 rfl rfl m0 ?_
            refine WP_aload_n dX5_split_72 rfl ?_
            refine gf_RX5_26 dX5_split_73 rfl rfl m0 ?_
            refine WP_aload_n dX5_split_76 rfl ?_
            refine gf_RX5_81 dX5_split_77 rfl rfl m0 ?_
            rw [u2_o _ _ _ (show 4 ≠ 5 by decide), u2_eq]
            have w23 : W 2 ≠ W 3 := mK_d hM' (by decide) (by decide) (by decide)
            have w24 : W 2 ≠ W 4 := mK_d hM' (by decide) (by decide) (by decide)
            have w34 : W 3 ≠ W 4 := mK_d hM' (by decide) (by decide) (by decide)
            refine WP_iconst (-1) dX5_split_80 (by decide) ?_
            refine ast_7 j 60 dX5_split_81 f4 q4 n4 rfl hj9 (by decide) ?_
            refine WP_aload_n dX5_split_82 rfl ?_
            refine gf_RX5_20 dX5_split_83 rfl rfl m0 ?_
            refine WP_iload dX5_split_86 rfl ?_
            refine WP_iconst (-1) dX5_split_88 (by decide) ?_
            refine ast_7 ((idAt t k).2) 60 dX5_split_89 f2 q2 n2 rfl z0 (by decide) ?_
            refine WP_return dX5_split_90 rfl (Nat.le_of_ble_eq_true rfl) (Nat.le_of_ble_eq_true rfl) ?_
            rw [e1, e2]
            refine ⟨rfl, _, _, rfl, detM F4 ?_ ?_ ?_, ?_, ?_, ?_, ?_⟩
            · rw [va_up_self, va_up_ne _ _ w24]
              rfl
            · rw [va_up_ne _ _ (Ne.symm w23), va_up_ne _ _ w34]
            · rw [va_up_ne _ _ (Ne.symm w24), va_up_self, hj]
              rfl
            · refine mX_trans hX (mX_trans (mS_X hM' s3) (mX_trans (mQ_X hM' Q4) ⟨fun j hj' => ?_, ?_, ?_, ?_⟩))
              · rw [u2_o _ _ _ (by omega), u2_o _ _ _ (by omega)]
              · rw [va_up_ne _ _ (mK_d hM' (by decide) (by decide) (by decide)), va_up_ne _ _ (mK_d hM' (by decide) (by decide) (by decide))]
              · rw [va_up_ne _ _ (mK_d hM' (by decide) (by decide) (by decide)), va_up_ne _ _ (mK_d hM' (by decide) (by decide) (by decide))]
              · rw [va_up_ne _ _ (mK_d hM' (by decide) (by decide) (by decide)), va_up_ne _ _ (mK_d hM' (by decide) (by decide) (by decide))]
            · rw [← hc, ← mS_c s3, ← c4]
              simp [cmO, u2]
            · rw [u2_o _ _ _ (by decide), u2_eq]
              exact congrArg ix hj.symm
            · exact u2_eq _ _ _ _
      · exact absurd hb hkz
    · exact absurd hb hkz
theorem m_join (hM : mK W L K AN R0) (h : mF W AIm (t :: u :: F)) :
    MT G mX5_join [vr (some (W 0)), vi (ix (rk kI t)), vi (ix (rk kI u))] (mkS L K AN R0 Rc Ic AIc AR Im AIm AL) (rI (fun x S' => x = ix (rk kI (joinT t u)) ∧ ∃ I' A', S' = mkS L K AN R0 Rc Ic AIc AR I' A' AL ∧ mF W A' (joinT t u :: F) ∧ mX W Im AIm I' A' ∧ I' 4 = Im 4 ∧ I' 5 = Im 5 ∧ cmO I' W = addC (cmO Im W) (joinC t u))) := by
  have hM' := hM
  obtain ⟨m0, ⟨f1, f2, f3, f4, f5, f6, f7⟩, ⟨⟨q1, n1⟩, ⟨q2, n2⟩, ⟨q3, n3⟩, ⟨q4, n4⟩, ⟨q5, n5⟩, ⟨q6, n6⟩, ⟨q7, n7⟩⟩, hne⟩ := hM
  have hmt := h.1 t List.mem_cons_self
  have hmu := h.1 u (List.mem_cons_of_mem _ List.mem_cons_self)
  by_cases ht : tsz t = 0
  · have e1 : joinT t u = u := by
      unfold joinT
      rw [if_pos ht]
    have e2 : joinC t u = (0, 0, 0) := by
      unfold joinC
      rw [if_pos ht]
    obtain rfl := tsz0 ht
    refine MT_of (by decide) rfl (Nat.le_of_ble_eq_true rfl) ?_
    refine WP_iload_n dX5_join_0 rfl ?_
    refine WP_iconst (-1) dX5_join_1 (by decide) ?_
    refine WP_icmp_eq 10 dX5_join_2 (by decide) (fun hb => ?_) (fun hb => ?_)
    · refine WP_iload_n dX5_join_10 rfl ?_
      refine WP_iconst (-1) dX5_join_11 (by decide) ?_
      refine WP_icmp_ne 19 dX5_join_12 (by decide) (fun hb2 => ?_) (fun hb2 => ?_)
      · exact absurd rfl hb2
      · refine WP_iload_n dX5_join_15 rfl ?_
        refine WP_goto 20 dX5_join_16 (by decide) ?_
        refine WP_ireturn dX5_join_20 rfl rfl (Nat.le_of_ble_eq_true rfl) (Nat.le_of_ble_eq_true rfl) ?_
        rw [e1, e2, addC_0]
        exact ⟨_, rfl, rfl, _, _, rfl, mF_tail h, mX_refl, rfl, rfl, rfl⟩
    · exact absurd rfl hb
  · obtain ⟨j, hj⟩ := rk_some ht
    have hj9 : j < 60 := hmt.2 j (rk_mem kI hj)
    by_cases hu : tsz u = 0
    · have e1 : joinT t u = t := by
        unfold joinT
        rw [if_neg ht, if_pos hu]
      have e2 : joinC t u = (0, 0, 0) := by
        unfold joinC
        rw [if_neg ht, if_pos hu]
      obtain rfl := tsz0 hu
      rw [hj]
      refine MT_of (by decide) rfl (Nat.le_of_ble_eq_true rfl) ?_
      refine WP_iload_n dX5_join_0 rfl ?_
      refine WP_iconst (-1) dX5_join_1 (by decide) ?_
      refine WP_icmp_eq 10 dX5_join_2 (by decide) (fun hb => ?_) (fun hb => ?_)
      · exact absurd hb (nI_ne1 hj9)
      · refine WP_iload_n dX5_join_5 rfl ?_
        refine WP_iconst (-1) dX5_join_6 (by decide) ?_
        refine WP_icmp_ne 21 dX5_join_7 (by decide) (fun hb2 => ?_) (fun hb2 => ?_)
        · exact absurd rfl hb2
        · refine WP_iload_n dX5_join_10 rfl ?_
          refine WP_iconst (-1) dX5_join_11 (by decide) ?_
          refine WP_icmp_ne 19 dX5_join_12 (by decide) (fun hb3 => ?_) (fun hb3 => ?_)
          · refine WP_iload_n dX5_join_19 rfl ?_
            refine WP_ireturn dX5_join_20 rfl rfl (Nat.le_of_ble_eq_true rfl) (Nat.le_of_ble_eq_true rfl) ?_
            rw [e1, e2, addC_0, ← hj]
            exact ⟨_, rfl, rfl, _, _, rfl, mF_tail (mF_perm (List.Perm.swap _ _ _) h), mX_refl, rfl, rfl, rfl⟩
          · exact absurd hb3 (nI_ne1 hj9)
    · obtain ⟨q, hq⟩ := rk_some hu
      have hq9 : q < 60 := hmu.2 q (rk_mem kI hq)
      have hkt : tsz t - 1 < tsz t := by omega
      obtain ⟨v, l, r, u1, u2', u3, -⟩ := upT_id hkt
      have e8 : tsz l + 1 + tsz r = tsz t := io_tsz (t := nd _ _ v l r) u2'
      have e9 : r = .leaf := tsz0 (by omega)
      subst e9
      have e1 : joinT t u = nd (idAt t (tsz t - 1)).1 (idAt t (tsz t - 1)).2 v l u := by
        unfold joinT
        rw [if_neg ht, if_neg hu, u1]
      have e2 : joinC t u = upC t (tsz t - 1) := by
        unfold joinC upC
        rw [if_neg ht, if_neg hu]
      have hm9 : mT W AIm (plug [] t) := hmt
      rw [hj, hq]
      refine MT_of (by decide) rfl (Nat.le_of_ble_eq_true rfl) ?_
      refine WP_iload_n dX5_join_0 rfl ?_
      refine WP_iconst (-1) dX5_join_1 (by decide) ?_
      refine WP_icmp_eq 10 dX5_join_2 (by decide) (fun hb => ?_) (fun hb => ?_)
      · exact absurd hb (nI_ne1 hj9)
      · refine WP_iload_n dX5_join_5 rfl ?_
        refine WP_iconst (-1) dX5_join_6 (by decide) ?_
        refine WP_icmp_ne 21 dX5_join_7 (by decide) (fun hb2 => ?_) (fun hb2 => ?_)
        · refine WP_aload_n dX5_join_21 rfl ?_
          refine WP_iload_n dX5_join_22 rfl ?_
          refine callVi mX5_rightmost [_] dX5_join_23 okc_X5_rightmost ok_789 ⟨by decide, by decide⟩ rfl rfl m0 rfl (Nat.le_of_ble_eq_true rfl) (Nat.le_of_ble_eq_true rfl) (Nat.le_of_ble_eq_true rfl) (m_rightmost t [] j hM' hm9 hj) (fun x1 S1 h1 => ?_)
          obtain ⟨⟨y, hy, rfl⟩, rfl⟩ := h1
          obtain ⟨ya, yi, yv⟩ := y
          have ey : yi = (idAt t (tsz t - 1)).2 := by rw [idAt_of hy]
          subst ey
          refine WP_istore_n dX5_join_26 (by decide) rfl ?_
          refine WP_aload_n dX5_join_27 rfl ?_
          refine WP_iload_n dX5_join_28 rfl ?_
          refine callVv mX5_splay [_] dX5_join_29 okc_X5_splay ok_765 ⟨by decide, by decide⟩ rfl rfl m0 rfl (Nat.le_of_ble_eq_true rfl) (Nat.le_of_ble_eq_true rfl) (Nat.le_of_ble_eq_true rfl) (m_splayAt (tsz t - 1) hM' hkt h) (fun S1 h1 => ?_)
          obtain ⟨I4, A4, rfl, F4, Q4, c4⟩ := h1
          rw [u1] at F4
          have z0 := (mz (fs := []) (F4.1 _ List.mem_cons_self)).1
          refine WP_aload_n dX5_join_32 rfl ?_
          refine WP_iload_n dX5_join_33 rfl ?_
          refine WP_iload_n dX5_join_34 rfl ?_
          refine WP_iconst (1) dX5_join_35 (by decide) ?_
          refine callVv mX5_hang [_, _, _] dX5_join_36 okc_X5_hang ok_773 ⟨by decide, by decide⟩ rfl rfl m0 rfl (Nat.le_of_ble_eq_true rfl) (Nat.le_of_ble_eq_true rfl) (Nat.le_of_ble_eq_true rfl) (m_hang (some q) (some (idAt t (tsz t - 1)).2) true hM' (fun j hj => by cases hj; exact hq9) (fun j hj => by cases hj; exact z0)) (fun S1 h1 => ?_)
          subst h1
          refine WP_iload_n dX5_join_39 rfl ?_
          refine WP_ireturn dX5_join_40 rfl rfl (Nat.le_of_ble_eq_true rfl) (Nat.le_of_ble_eq_true rfl) ?_
          rw [e1, e2]
          refine ⟨_, rfl, rfl, _, _, rfl, attRM F4 ?_ ?_ ?_, mX_trans (mQ_X hM' Q4) ⟨fun _ _ => rfl, ?_, ?_, ?_⟩, Q4.1 4 (by decide), Q4.1 5 (by decide), c4⟩
          · rw [hq]
            exact hgA_s hM' true A4 _ _
          · exact hgA_o true A4 _ _ (mK_d hM' (by decide) (by decide) (by decide)) (mK_d hM' (by decide) (by decide) (by decide))
          · rw [hq]
            exact hgA_4 hM' true A4 _ _
          · exact hgA_o true A4 _ _ (mK_d hM' (by decide) (by decide) (by decide)) (mK_d hM' (by decide) (by decide) (by decide))
          · exact hgA_o true A4 _ _ (mK_d hM' (by decide) (by decide) (by decide)) (mK_d hM' (by decide) (by decide) (by decide))
          · exact hgA_o true A4 _ _ (mK_d hM' (by decide) (by decide) (by decide)) (mK_d hM' (by decide) (by decide) (by decide))
        · exact absurd hb2 (nI_ne1 hq9)
/-- what raiseUp leaves -/
theorem m_raiseUp (k : Nat) (hM : mK W L K AN R0) (ht : Im 1 (W 0) = ix (rk kI t)) (h : mF W AIm (t :: F)) (hs : tsz t ≤ 60) (hk : k < tsz t) :
    MT G mX5_raiseUp [vr (some (W 0)), vi (nI k)] (mkS L K AN R0 Rc Ic AIc AR Im AIm AL) (rI (fun x S' => x = nI (idAt t k).2 ∧ ∃ I' A', S' = mkS L K AN R0 Rc Ic AIc AR I' A' AL ∧ mF W A' (upT t k :: F) ∧ mX W (u2 Im 1 (W 0) (ix (rk kI (upT t k)))) AIm I' A' ∧ cmO I' W = addC (cmO Im W) (upC t k) ∧ (idAt t k).2 < 60)) := by
  have m0 := hM.1
  have hn := mF_hd h
  obtain ⟨v, l, r, u1, -, -, -⟩ := upT_id hk
  refine MT_of (by decide) rfl (Nat.le_of_ble_eq_true rfl) ?_
  refine WP_aload_n dX5_raiseUp_0 rfl ?_
  refine WP_aload_n dX5_raiseUp_1 rfl ?_
  refine gf_RX5_9 dX5_raiseUp_2 rfl rfl m0 ?_
  refine WP_iload_n dX5_raiseUp_5 rfl ?_
  rw [ht]
  refine callVi mX5_nodeAt [_, _] dX5_raiseUp_6 okc_X5_nodeAt ok_761 ⟨by decide, by decide⟩ rfl rfl m0 rfl (Nat.le_of_ble_eq_true rfl) (Nat.le_of_ble_eq_true rfl) (Nat.le_of_ble_eq_true rfl) (m_nodeAt k hM (h.1 t List.mem_cons_self) hn hs hk) (fun x1 S1 h1 => ?_)
  obtain ⟨rfl, I3, A3, rfl, s3, -⟩ := h1
  have F3 := mS_F hM s3 h
  refine WP_istore_n dX5_raiseUp_9 (by decide) rfl ?_
  refine WP_aload_n dX5_raiseUp_10 rfl ?_
  refine WP_iload_n dX5_raiseUp_11 rfl ?_
  refine callVv mX5_splay [_] dX5_raiseUp_12 okc_X5_splay ok_765 ⟨by decide, by decide⟩ rfl rfl m0 rfl (Nat.le_of_ble_eq_true rfl) (Nat.le_of_ble_eq_true rfl) (Nat.le_of_ble_eq_true rfl) (m_splayAt k hM hk F3) (fun S1 h1 => ?_)
  obtain ⟨I4, A4, rfl, F4, Q4, c4⟩ := h1
  have hX := mX_trans (mS_X hM s3) (mQ_X hM Q4)
  have z0 : (idAt t k).2 < 60 := by
    have := F4.1 _ List.mem_cons_self
    rw [u1] at this
    exact (mz (fs := []) this).1
  refine WP_aload_n dX5_raiseUp_15 rfl ?_
  refine WP_iload_n dX5_raiseUp_16 rfl ?_
  refine pf_RX5_9 dX5_raiseUp_17 rfl rfl m0 ?_
  refine WP_iload_n dX5_raiseUp_20 rfl ?_
  refine WP_ireturn dX5_raiseUp_21 rfl rfl (Nat.le_of_ble_eq_true rfl) (Nat.le_of_ble_eq_true rfl) ?_
  refine ⟨_, rfl, rfl, _, _, rfl, F4, ⟨fun j hj => ?_, hX.2⟩, ?_, z0⟩
  · by_cases hj1 : j = 1
    · subst hj1
      rw [u2_s, u2_s, hX.1 1 (by decide), u1]
      rfl
    · rw [u2_o _ _ _ hj1, u2_o _ _ _ hj1]
      exact hX.1 j hj
  · rw [← mS_c s3, ← c4]
    simp [cmO, u2]
/-- after open: three trees and their roots -/
theorem m_open (f w : Nat) (hM : mK W L K AN R0) (ht : Im 1 (W 0) = ix (rk kI t)) (h : mF W AIm (t :: F)) (hs : tsz t ≤ 60) (hfw : f ≤ w) (hw : w ≤ tsz t) :
    MT G mX5_open [vr (some (W 0)), vi (nI f), vi (nI w)] (mkS L K AN R0 Rc Ic AIc AR Im AIm AL) (rV (fun S' => ∃ I' A', S' = mkS L K AN R0 Rc Ic AIc AR I' A' AL ∧ mF W A' ((rgT t f w).1 :: (rgT t f w).2.1 :: (rgT t f w).2.2 :: F) ∧ (∀ j, j < 3 → I' j = Im j) ∧ (A' (W 1) = AIm (W 1) ∧ A' (W 5) = AIm (W 5) ∧ A' (W 6) = AIm (W 6)) ∧ cmO I' W = rgN (begC (cmO Im W)) t f w ∧ I' 10 (W 0) = ix (rk kI (rgT t f w).1) ∧ I' 11 (W 0) = ix (rk kI (rgT t f w).2.1) ∧ I' 12 (W 0) = ix (rk kI (rgT t f w).2.2))) := by
  have m0 := hM.1
  refine MT_of (by decide) rfl (Nat.le_of_ble_eq_true rfl) ?_
  refine WP_aload_n dX5_open_0 rfl ?_
  refine callVv mX5_begins [] dX5_open_1 okc_X5_begins ok_753 ⟨by decide, by decide⟩ rfl rfl m0 rfl (Nat.le_of_ble_eq_true rfl) (Nat.le_of_ble_eq_true rfl) (Nat.le_of_ble_eq_true rfl) (m_begins hM) (fun S1 h1 => ?_)
  obtain ⟨I1, rfl, j1, c1⟩ := h1
  have ht1 : I1 1 (W 0) = ix (rk kI t) := by rw [j1 1 (by decide)]; exact ht
  refine WP_aload_n dX5_open_4 rfl ?_
  refine WP_aload_n dX5_open_5 rfl ?_
  refine gf_RX5_9 dX5_open_6 rfl rfl m0 ?_
  refine pf_RX5_124 dX5_open_9 rfl rfl m0 ?_
  refine WP_aload_n dX5_open_12 rfl ?_
  refine WP_iconst (-1) dX5_open_13 (by decide) ?_
  refine pf_RX5_127 dX5_open_14 rfl rfl m0 ?_
  refine WP_aload_n dX5_open_17 rfl ?_
  refine WP_iconst (-1) dX5_open_18 (by decide) ?_
  refine pf_RX5_130 dX5_open_19 rfl rfl m0 ?_
  refine WP_iload_n dX5_open_22 rfl ?_
  refine WP_iload_n dX5_open_23 rfl ?_
  rw [ht1]
  have hj2 : ∀ j, j < 10 → (u2 (u2 (u2 I1 10 (W 0) (ix (rk kI t))) 11 (W 0) (-1)) 12 (W 0) (-1)) j = I1 j := fun j hj => by rw [u2_o _ _ _ (by omega), u2_o _ _ _ (by omega), u2_o _ _ _ (by omega)]
  have h10 : (u2 (u2 (u2 I1 10 (W 0) (ix (rk kI t))) 11 (W 0) (-1)) 12 (W 0) (-1)) 10 (W 0) = ix (rk kI t) := by rw [u2_o _ _ _ (by decide), u2_o _ _ _ (by decide), u2_eq]
  have h11 : (u2 (u2 (u2 I1 10 (W 0) (ix (rk kI t))) 11 (W 0) (-1)) 12 (W 0) (-1)) 11 (W 0) = -1 := by rw [u2_o _ _ _ (by decide), u2_eq]
  have h12 : (u2 (u2 (u2 I1 10 (W 0) (ix (rk kI t))) 11 (W 0) (-1)) 12 (W 0) (-1)) 12 (W 0) = -1 := u2_eq _ _ _ _
  generalize u2 (u2 (u2 I1 10 (W 0) (ix (rk kI t))) 11 (W 0) (-1)) 12 (W 0) (-1) = I2 at hj2 h10 h11 h12 ⊢
  have hc2 : cmO I2 W = begC (cmO Im W) := by
    rw [← c1]
    unfold cmO
    rw [hj2 6 (by decide), hj2 7 (by decide), hj2 8 (by decide), hj2 9 (by decide)]
  refine WP_icmp_ge 69 dX5_open_24 (by decide) (fun hb => ?_) (fun hb => ?_)
  · have hfw' : ¬ f < w := by
      have := (nI_leI (by omega) (by omega)).mp hb
      omega
    refine WP_return dX5_open_69 rfl (Nat.le_of_ble_eq_true rfl) (Nat.le_of_ble_eq_true rfl) ?_
    unfold rgT rgN
    rw [if_neg hfw', if_neg hfw']
    exact ⟨rfl, I2, AIm, rfl, mF_perm (List.perm_append_comm (l₁ := [lf0, lf0]) (l₂ := [t]) |>.append_right F) (mF_leaf (mF_leaf h)), fun j hj => by rw [hj2 j (by omega), j1 j (by omega)], ⟨rfl, rfl, rfl⟩, hc2, h10, h11, h12⟩
  · have hfw' : f < w := by
      by_cases e : w ≤ f
      · exact absurd (nI_le e (by omega)) hb
      · omega
    refine WP_aload_n dX5_open_27 rfl ?_
    refine WP_aload_n dX5_open_28 rfl ?_
    refine gf_RX5_9 dX5_open_29 rfl rfl m0 ?_
    refine WP_iload_n dX5_open_32 rfl ?_
    rw [hj2 1 (by decide), ht1]
    refine callVv mX5_split [_, _] dX5_open_33 okc_X5_split ok_757 ⟨by decide, by decide⟩ rfl rfl m0 rfl (Nat.le_of_ble_eq_true rfl) (Nat.le_of_ble_eq_true rfl) (Nat.le_of_ble_eq_true rfl) (m_split w hM h hs (by omega)) (fun S1 h1 => ?_)
    obtain ⟨I3, A3, rfl, F3, X3, c3, g4, g5⟩ := h1
    have hs1 : tsz (splT t w).1 ≤ 60 := by
      rw [tsz_spl1]
      omega
    refine WP_aload_n dX5_open_36 rfl ?_
    refine WP_aload_n dX5_open_37 rfl ?_
    refine gf_RX5_84 dX5_open_38 rfl rfl m0 ?_
    refine pf_RX5_130 dX5_open_41 rfl rfl m0 ?_
    refine WP_aload_n dX5_open_44 rfl ?_
    refine WP_aload_n dX5_open_45 rfl ?_
    refine gf_RX5_81 dX5_open_46 rfl rfl m0 ?_
    refine WP_iload_n dX5_open_49 rfl ?_
    rw [u2_o _ _ _ (show 4 ≠ 12 by decide), g4, g5]
    refine callVv mX5_split [_, _] dX5_open_50 okc_X5_split ok_757 ⟨by decide, by decide⟩ rfl rfl m0 rfl (Nat.le_of_ble_eq_true rfl) (Nat.le_of_ble_eq_true rfl) (Nat.le_of_ble_eq_true rfl) (m_split f hM F3 hs1 (by omega)) (fun S1 h1 => ?_)
    obtain ⟨I4, A4, rfl, F4, X4, c4, y4, y5⟩ := h1
    refine WP_aload_n dX5_open_53 rfl ?_
    refine WP_aload_n dX5_open_54 rfl ?_
    refine gf_RX5_81 dX5_open_55 rfl rfl m0 ?_
    refine pf_RX5_124 dX5_open_58 rfl rfl m0 ?_
    refine WP_aload_n dX5_open_61 rfl ?_
    refine WP_aload_n dX5_open_62 rfl ?_
    refine gf_RX5_84 dX5_open_63 rfl rfl m0 ?_
    refine pf_RX5_127 dX5_open_66 rfl rfl m0 ?_
    rw [y4, u2_o _ _ _ (show 5 ≠ 10 by decide), y5]
    refine WP_return dX5_open_69 rfl (Nat.le_of_ble_eq_true rfl) (Nat.le_of_ble_eq_true rfl) ?_
    unfold rgT rgN
    rw [if_pos hfw', if_pos hfw']
    refine ⟨rfl, _, _, rfl, F4, fun j hj => ?_, ⟨?_, ?_, ?_⟩, ?_, ?_, ?_, ?_⟩
    · rw [u2_o _ _ _ (by omega), u2_o _ _ _ (by omega), X4.1 j (by omega), u2_o _ _ _ (by omega), X3.1 j (by omega), hj2 j (by omega), j1 j (by omega)]
    · exact X4.2.1.trans X3.2.1
    · exact X4.2.2.1.trans X3.2.2.1
    · exact X4.2.2.2.trans X3.2.2.2
    · have e1 : cmO (u2 (u2 I4 10 (W 0) (ix (rk kI (splT (splT t w).1 f).1))) 11 (W 0) (ix (rk kI (splT (splT t w).1 f).2))) W = cmO I4 W := by simp [cmO, u2]
      have e2 : cmO (u2 I3 12 (W 0) (ix (rk kI (splT t w).2))) W = cmO I3 W := by simp [cmO, u2]
      rw [e1, c4, e2, c3, hc2]
    · rw [u2_o _ _ _ (by decide), u2_eq]
    · exact u2_eq _ _ _ _
    · rw [u2_o _ _ _ (by decide), u2_o _ _ _ (by decide), X4.1 12 (by decide), u2_eq]
theorem m_close {l m r : Tr} (hM : mK W L K AN R0) (h : mF W AIm (l :: m :: r :: F)) (h10 : Im 10 (W 0) = ix (rk kI l)) (h11 : Im 11 (W 0) = ix (rk kI m)) (h12 : Im 12 (W 0) = ix (rk kI r)) :
    MT G mX5_close [vr (some (W 0))] (mkS L K AN R0 Rc Ic AIc AR Im AIm AL) (rV (fun S' => ∃ I' A', S' = mkS L K AN R0 Rc Ic AIc AR I' A' AL ∧ mF W A' (jn3 (l, m, r) :: F) ∧ mX W (u2 Im 1 (W 0) (ix (rk kI (jn3 (l, m, r))))) AIm I' A' ∧ cmO I' W = jn3N (cmO Im W) (l, m, r))) := by
  have m0 := hM.1
  refine MT_of (by decide) rfl (Nat.le_of_ble_eq_true rfl) ?_
  refine WP_aload_n dX5_close_0 rfl ?_
  refine WP_aload_n dX5_close_1 rfl ?_
  refine WP_aload_n dX5_close_2 rfl ?_
  refine WP_aload_n dX5_close_3 rfl ?_
  refine gf_RX5_124 dX5_close_4 rfl rfl m0 ?_
  refine WP_aload_n dX5_close_7 rfl ?_
  refine gf_RX5_127 dX5_close_8 rfl rfl m0 ?_
  rw [h10, h11]
  refine callVi mX5_join [_, _] dX5_close_11 okc_X5_join ok_785 ⟨by decide, by decide⟩ rfl rfl m0 rfl (Nat.le_of_ble_eq_true rfl) (Nat.le_of_ble_eq_true rfl) (Nat.le_of_ble_eq_true rfl) (m_join hM h) (fun x1 S1 h1 => ?_)
  obtain ⟨rfl, I1, A1, rfl, F1, X1, -, -, c1⟩ := h1
  refine WP_aload_n dX5_close_14 rfl ?_
  refine gf_RX5_130 dX5_close_15 rfl rfl m0 ?_
  rw [X1.1 12 (by decide), h12]
  refine callVi mX5_join [_, _] dX5_close_18 okc_X5_join ok_785 ⟨by decide, by decide⟩ rfl rfl m0 rfl (Nat.le_of_ble_eq_true rfl) (Nat.le_of_ble_eq_true rfl) (Nat.le_of_ble_eq_true rfl) (m_join hM F1) (fun x1 S1 h1 => ?_)
  obtain ⟨rfl, I2, A2, rfl, F2, X2, -, -, c2⟩ := h1
  refine pf_RX5_9 dX5_close_21 rfl rfl m0 ?_
  refine WP_return dX5_close_24 rfl (Nat.le_of_ble_eq_true rfl) (Nat.le_of_ble_eq_true rfl) ?_
  have hX := mX_trans X1 X2
  refine ⟨rfl, _, _, rfl, F2, ⟨fun j hj => ?_, hX.2⟩, ?_⟩
  · by_cases hj1 : j = 1
    · subst hj1
      rw [u2_s, u2_s, hX.1 1 (by decide)]
      rfl
    · rw [u2_o _ _ _ hj1, u2_o _ _ _ hj1]
      exact hX.1 j hj
  · have e : cmO (u2 I2 1 (W 0) (ix (rk kI (joinT (joinT l m) r)))) W = cmO I2 W := by simp [cmO, u2]
    rw [e, c2, c1]
    rfl
end MOP
