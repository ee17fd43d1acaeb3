/-! ===== the model: what each call does (2) ===== -/
section MP2
variable {G : GC} {L : List Nat} {K AN : Nat → Nat} {R0 Rc : Nat → Nat → Option Nat} {Ic AIc Im AIm I1 A1 : Nat → Nat → Int32} {AR : Nat → Nat → Option Nat} {AL : Nat → Nat → Int64} {W : Nat → Nat} {t c m : Tr} {fg : Nat → Option (Nat × Nat)} {n : Cn} {F : List Tr}
theorem p_cut (x y : Int32) (hA : AI (t, c, fg, n)) (hI : mI W L K AN R0 Im AIm (t, c, fg, n)) :
    MT G mX5_cut [vr (some (W 0)), vi x, vi y] (mkS L K AN R0 Rc Ic AIc AR Im AIm AL) (mR W L K AN R0 Rc Ic AIc AR AL (aCut (t, c, fg, n) x y)) := by
  obtain ⟨hM, ⟨ht, hc⟩, hF, hcn, hv, ⟨hth1, hth0⟩, hfg⟩ := id hI
  have ht : Im 1 (W 0) = ix (rk kI t) := ht
  have hc : Im 2 (W 0) = ix (rk kI c) := hc
  have hF : mF W AIm [t, c] := hF
  have hcn : cmO Im W = n := hcn
  have hfg : ∀ k, k < 4 → AIm (W 6) k = ix ((fg k).map (·.2)) := hfg
  have hs : tsz t + tsz c ≤ 60 := hA.1
  have hst : tsz t ≤ 60 := by omega
  have hmt := hF.1 t List.mem_cons_self
  have hnt := mF_hd hF
  obtain ⟨m0, ⟨f1, f2, f3, f4, f5, f6, f7⟩, ⟨⟨q1, n1⟩, ⟨q2, n2⟩, ⟨q3, n3⟩, ⟨q4, n4⟩, ⟨q5, n5⟩, ⟨q6, n6⟩, ⟨q7, n7⟩⟩, hne⟩ := id hM
  refine MT_of (by decide) rfl (Nat.le_of_ble_eq_true rfl) ?_
  refine WP_aload_n dX5_cut_0 rfl ?_
  refine WP_aload_n dX5_cut_1 rfl ?_
  refine WP_iload_n dX5_cut_2 rfl ?_
  refine WP_iload_n dX5_cut_3 rfl ?_
  refine callVi mX5_isRange [_, _] dX5_cut_4 okc_X5_isRange ok_809 ⟨by decide, by decide⟩ rfl rfl m0 rfl (Nat.le_of_ble_eq_true rfl) (Nat.le_of_ble_eq_true rfl) (Nat.le_of_ble_eq_true rfl) (m_isRange x y hM ht hmt hnt hst) (fun x1 S1 h1 => ?_)
  obtain ⟨rfl, I1, A1, rfl, s1, -⟩ := h1
  by_cases hx : inR (tsz t) x y
  · rw [if_pos hx]
    refine WP_if_ne 14 dX5_cut_7 (by decide) (fun _ => ?_) (fun hb => absurd hb (by decide))
    refine WP_aload_n dX5_cut_14 rfl ?_
    refine gf_RX5_13 dX5_cut_15 rfl rfl m0 ?_
    refine WP_iconst (-1) dX5_cut_18 (by decide) ?_
    rw [s1.1 2 (by decide), hc]
    by_cases hcz : tsz c = 0
    · obtain rfl := tsz0 hcz
      refine WP_icmp_eq 26 dX5_cut_19 (by decide) (fun _ => ?_) (fun hb => absurd hb (by decide))
      refine WP_iconst (0) dX5_cut_26 (by decide) ?_
      refine callVi mX5_goesWell [_] dX5_cut_27 okc_X5_goesWell ok_749 ⟨by decide, by decide⟩ rfl rfl m0 rfl (Nat.le_of_ble_eq_true rfl) (Nat.le_of_ble_eq_true rfl) (Nat.le_of_ble_eq_true rfl) (m_goesWell 0 hM) (fun x1 S1 h1 => ?_)
      obtain ⟨rfl, rfl⟩ := h1
      rw [if_pos rfl]
      have hI2 := mI_S hI s1 0
      have th : (u2 I1 0 (W 0) 0) 0 (W 0) = 0 := u2_eq _ _ _ _
      generalize u2 I1 0 (W 0) 0 = Im2 at hI2 th ⊢
      obtain ⟨-, ⟨ht2, hc2⟩, hF2, hn2, -, -, -⟩ := id hI2
      have ht2 : Im2 1 (W 0) = ix (rk kI t) := ht2
      have hF2 : mF W A1 [t, .leaf] := hF2
      have hn2 : cmO Im2 W = n := hn2
      refine WP_if_ne 35 dX5_cut_30 (by decide) (fun _ => ?_) (fun hb => absurd hb (by decide))
      obtain ⟨f, u, hfu, hu, rfl, rfl⟩ := inR_of hx (by omega)
      have z1 := rgT_sz t f u hu hfu
      have ez : aCut (t, .leaf, fg, n) (nI f) (nI u) = (0, nI u - nI f, (joinT (rgT t f u).1 (rgT t f u).2.2, (rgT t f u).2.1, fg, addC (rgN (begC n) t f u) (joinC (rgT t f u).1 (rgT t f u).2.2))) := by
        unfold aCut
        rw [if_pos hx, if_pos hcz, pI_n (by omega), pI_n (by omega)]
      rw [ez]
      refine WP_aload_n dX5_cut_35 rfl ?_
      refine WP_iload_n dX5_cut_36 rfl ?_
      refine WP_iload_n dX5_cut_37 rfl ?_
      refine callVv mX5_open [_, _] dX5_cut_38 okc_X5_open ok_813 ⟨by decide, by decide⟩ rfl rfl m0 rfl (Nat.le_of_ble_eq_true rfl) (Nat.le_of_ble_eq_true rfl) (Nat.le_of_ble_eq_true rfl) (m_open f u hM ht2 hF2 hst hfu hu) (fun S1 h1 => ?_)
      obtain ⟨I3, A3, rfl, F3, j3, ⟨r31, r35, r36⟩, c3, g10, g11, g12⟩ := h1
      refine WP_aload_n dX5_cut_41 rfl ?_
      refine WP_aload_n dX5_cut_42 rfl ?_
      refine gf_RX5_127 dX5_cut_43 rfl rfl m0 ?_
      refine pf_RX5_13 dX5_cut_46 rfl rfl m0 ?_
      refine WP_aload_n dX5_cut_49 rfl ?_
      refine WP_aload_n dX5_cut_50 rfl ?_
      refine WP_aload_n dX5_cut_51 rfl ?_
      refine gf_RX5_124 dX5_cut_52 rfl rfl m0 ?_
      refine WP_aload_n dX5_cut_55 rfl ?_
      refine gf_RX5_130 dX5_cut_56 rfl rfl m0 ?_
      rw [g11, u2_o _ _ _ (show 10 ≠ 2 by decide), g10, u2_o _ _ _ (show 12 ≠ 2 by decide), g12]
      have F3' : mF W A3 ((rgT t f u).1 :: (rgT t f u).2.2 :: [(rgT t f u).2.1]) := mF_tail (mF_perm (show List.Perm [(rgT t f u).1, (rgT t f u).2.1, (rgT t f u).2.2, lf0] [lf0, (rgT t f u).1, (rgT t f u).2.2, (rgT t f u).2.1] from
        (List.perm_append_comm (l₁ := [(rgT t f u).1, (rgT t f u).2.1, (rgT t f u).2.2]) (l₂ := [lf0])).trans (List.Perm.cons _ (List.Perm.cons _ (List.Perm.swap _ _ _)))) F3)
      refine callVi mX5_join [_, _] dX5_cut_59 okc_X5_join ok_785 ⟨by decide, by decide⟩ rfl rfl m0 rfl (Nat.le_of_ble_eq_true rfl) (Nat.le_of_ble_eq_true rfl) (Nat.le_of_ble_eq_true rfl) (m_join hM F3') (fun x1 S1 h1 => ?_)
      obtain ⟨rfl, I4, A4, rfl, F4, X4, -, -, c4⟩ := h1
      refine pf_RX5_9 dX5_cut_62 rfl rfl m0 ?_
      refine WP_iload_n dX5_cut_65 rfl ?_
      refine WP_iload_n dX5_cut_66 rfl ?_
      refine WP_isub dX5_cut_67 ?_
      refine WP_ireturn dX5_cut_68 rfl rfl (Nat.le_of_ble_eq_true rfl) (Nat.le_of_ble_eq_true rfl) ?_
      refine ⟨_, _, _, rfl, fun _ => rfl, rfl, mI_mk hI2 (fun x => ?_) F4 (u2_eq _ _ _ _) ?_ ?_ (X4.2.1.trans r31) (X4.2.2.1.trans r35) (X4.2.2.2.trans r36), ?_⟩
      · unfold mB
        rw [joinT_io, ← rg_io hfu hu]
        simp only [List.mem_append]
        have : x ∉ io lf0 := fun h => by cases h
        constructor
        · rintro ((h | h) | h)
          · exact Or.inl (Or.inl (Or.inl h))
          · exact Or.inl (Or.inr h)
          · exact Or.inl (Or.inl (Or.inr h))
        · rintro (((h | h) | h) | h)
          · exact Or.inl (Or.inl h)
          · exact Or.inr h
          · exact Or.inl (Or.inr h)
          · exact absurd h this
      · rw [u2_o _ _ _ (by decide), X4.1 2 (by decide), u2_eq]
      · have e1 : cmO (u2 I4 1 (W 0) (ix (rk kI (joinT (rgT t f u).1 (rgT t f u).2.2)))) W = cmO I4 W := by simp [cmO, u2]
        have e2 : cmO (u2 I3 2 (W 0) (ix (rk kI (rgT t f u).2.1))) W = cmO I3 W := by simp [cmO, u2]
        rw [e1, c4, e2, c3, hn2]
      · rw [u2_o _ _ _ (by decide), X4.1 0 (by decide), u2_o _ _ _ (by decide), j3 0 (by decide)]
        exact th
    · obtain ⟨j, hj⟩ := rk_some hcz
      rw [hj]
      have hj9 : j < 60 := (hF.1 c (by simp)).2 j (rk_mem kI hj)
      refine WP_icmp_eq 26 dX5_cut_19 (by decide) (fun hb => absurd hb (nI_ne1 hj9)) (fun _ => ?_)
      refine WP_iconst (2) dX5_cut_22 (by decide) ?_
      refine WP_goto 27 dX5_cut_23 (by decide) ?_
      refine callVi mX5_goesWell [_] dX5_cut_27 okc_X5_goesWell ok_749 ⟨by decide, by decide⟩ rfl rfl m0 rfl (Nat.le_of_ble_eq_true rfl) (Nat.le_of_ble_eq_true rfl) (Nat.le_of_ble_eq_true rfl) (m_goesWell 2 hM) (fun x1 S1 h1 => ?_)
      obtain ⟨rfl, rfl⟩ := h1
      rw [if_neg (by decide)]
      refine WP_if_ne 35 dX5_cut_30 (by decide) (fun hb => absurd hb (by decide)) (fun _ => ?_)
      refine WP_iconst (0) dX5_cut_33 (by decide) ?_
      refine WP_ireturn dX5_cut_34 rfl rfl (Nat.le_of_ble_eq_true rfl) (Nat.le_of_ble_eq_true rfl) ?_
      have ez : aCut (t, c, fg, n) x y = (2, 0, (t, c, fg, n)) := by
        unfold aCut
        rw [if_pos hx, if_neg hcz]
      rw [ez]
      exact mR_thr hI s1
  · rw [if_neg hx]
    refine WP_if_ne 14 dX5_cut_7 (by decide) (fun hb => absurd hb (by decide)) (fun _ => ?_)
    refine WP_iconst (1) dX5_cut_10 (by decide) ?_
    refine WP_goto 27 dX5_cut_11 (by decide) ?_
    refine callVi mX5_goesWell [_] dX5_cut_27 okc_X5_goesWell ok_749 ⟨by decide, by decide⟩ rfl rfl m0 rfl (Nat.le_of_ble_eq_true rfl) (Nat.le_of_ble_eq_true rfl) (Nat.le_of_ble_eq_true rfl) (m_goesWell 1 hM) (fun x1 S1 h1 => ?_)
    obtain ⟨rfl, rfl⟩ := h1
    rw [if_neg (by decide)]
    refine WP_if_ne 35 dX5_cut_30 (by decide) (fun hb => absurd hb (by decide)) (fun _ => ?_)
    refine WP_iconst (0) dX5_cut_33 (by decide) ?_
    refine WP_ireturn dX5_cut_34 rfl rfl (Nat.le_of_ble_eq_true rfl) (Nat.le_of_ble_eq_true rfl) ?_
    have ez : aCut (t, c, fg, n) x y = (1, 0, (t, c, fg, n)) := by
      unfold aCut
      rw [if_neg hx]
    rw [ez]
    exact mR_thr hI s1
theorem p_paste (x : Int32) (hA : AI (t, c, fg, n)) (hI : mI W L K AN R0 Im AIm (t, c, fg, n)) :
    MT G mX5_paste [vr (some (W 0)), vi x] (mkS L K AN R0 Rc Ic AIc AR Im AIm AL) (mR W L K AN R0 Rc Ic AIc AR AL (aPas (t, c, fg, n) x)) := by
  obtain ⟨hM, ⟨ht, hc⟩, hF, hcn, hv, ⟨hth1, hth0⟩, hfg⟩ := id hI
  have ht : Im 1 (W 0) = ix (rk kI t) := ht
  have hc : Im 2 (W 0) = ix (rk kI c) := hc
  have hF : mF W AIm [t, c] := hF
  have hcn : cmO Im W = n := hcn
  have hfg : ∀ k, k < 4 → AIm (W 6) k = ix ((fg k).map (·.2)) := hfg
  have hs : tsz t + tsz c ≤ 60 := hA.1
  have hst : tsz t ≤ 60 := by omega
  have hmt := hF.1 t List.mem_cons_self
  have hnt := mF_hd hF
  obtain ⟨m0, ⟨f1, f2, f3, f4, f5, f6, f7⟩, ⟨⟨q1, n1⟩, ⟨q2, n2⟩, ⟨q3, n3⟩, ⟨q4, n4⟩, ⟨q5, n5⟩, ⟨q6, n6⟩, ⟨q7, n7⟩⟩, hne⟩ := id hM
  have bad : ∀ I1 A1, mS W Im AIm I1 A1 → ¬ inP (tsz t + 1) x → WP G mX5_paste (mR W L K AN R0 Rc Ic AIc AR AL (aPas (t, c, fg, n) x)) 0 0 18 [] [vi 1, vr (some (W 0))] (mkS L K AN R0 Rc Ic AIc AR I1 A1 AL) := by
    intro I1 A1 s1 hx
    refine callVi mX5_goesWell [_] dX5_paste_18 okc_X5_goesWell ok_749 ⟨by decide, by decide⟩ rfl rfl m0 rfl (Nat.le_of_ble_eq_true rfl) (Nat.le_of_ble_eq_true rfl) (Nat.le_of_ble_eq_true rfl) (m_goesWell 1 hM) (fun x1 S1 h1 => ?_)
    obtain ⟨rfl, rfl⟩ := h1
    rw [if_neg (by decide)]
    refine WP_if_ne 26 dX5_paste_21 (by decide) (fun hb => absurd hb (by decide)) (fun _ => ?_)
    refine WP_iconst (0) dX5_paste_24 (by decide) ?_
    refine WP_ireturn dX5_paste_25 rfl rfl (Nat.le_of_ble_eq_true rfl) (Nat.le_of_ble_eq_true rfl) ?_
    have ez : aPas (t, c, fg, n) x = (1, 0, (t, c, fg, n)) := by
      unfold aPas
      rw [if_neg hx]
    rw [ez]
    exact mR_thr hI s1
  refine MT_of (by decide) rfl (Nat.le_of_ble_eq_true rfl) ?_
  refine WP_aload_n dX5_paste_0 rfl ?_
  refine WP_iload_n dX5_paste_1 rfl ?_
  refine WP_if_lt 13 dX5_paste_2 (by decide) (fun hb => ?_) (fun hb => ?_)
  · refine WP_iconst (1) dX5_paste_13 (by decide) ?_
    refine WP_goto 18 dX5_paste_14 (by decide) ?_
    refine WP_lv [] (fun _ h9 => absurd h9 List.not_mem_nil) ?_
    exact bad _ _ mS_refl (neg_not hb)
  · refine WP_iload_n dX5_paste_5 rfl ?_
    refine WP_aload_n dX5_paste_6 rfl ?_
    refine callVi mX5_count [] dX5_paste_7 okc_X5_count ok_726 ⟨by decide, by decide⟩ rfl rfl m0 rfl (Nat.le_of_ble_eq_true rfl) (Nat.le_of_ble_eq_true rfl) (Nat.le_of_ble_eq_true rfl) (m_count hM ht hmt hnt hst) (fun x1 S1 h1 => ?_)
    obtain ⟨rfl, I1, A1, rfl, s1, -⟩ := h1
    by_cases hx : inP (tsz t + 1) x
    · obtain ⟨k, hk, rfl⟩ := inP_of hx (by omega)
      refine WP_icmp_le 17 dX5_paste_10 (by decide) (fun hb2 => ?_) (fun hb2 => ?_)
      · refine WP_iconst (0) dX5_paste_17 (by decide) ?_
        refine callVi mX5_goesWell [_] dX5_paste_18 okc_X5_goesWell ok_749 ⟨by decide, by decide⟩ rfl rfl m0 rfl (Nat.le_of_ble_eq_true rfl) (Nat.le_of_ble_eq_true rfl) (Nat.le_of_ble_eq_true rfl) (m_goesWell 0 hM) (fun x1 S1 h1 => ?_)
        obtain ⟨rfl, rfl⟩ := h1
        rw [if_pos rfl]
        have hI2 := mI_S hI s1 0
        have th : (u2 I1 0 (W 0) 0) 0 (W 0) = 0 := u2_eq _ _ _ _
        generalize u2 I1 0 (W 0) 0 = Im2 at hI2 th ⊢
        obtain ⟨-, ⟨ht2, hc2⟩, hF2, hn2, -, -, -⟩ := id hI2
        have ht2 : Im2 1 (W 0) = ix (rk kI t) := ht2
        have hc2 : Im2 2 (W 0) = ix (rk kI c) := hc2
        have hF2 : mF W A1 [t, c] := hF2
        have hn2 : cmO Im2 W = n := hn2
        refine WP_if_ne 26 dX5_paste_21 (by decide) (fun _ => ?_) (fun hb => absurd hb (by decide))
        refine WP_aload_n dX5_paste_26 rfl ?_
        refine callVv mX5_begins [] dX5_paste_27 okc_X5_begins ok_753 ⟨by decide, by decide⟩ rfl rfl m0 rfl (Nat.le_of_ble_eq_true rfl) (Nat.le_of_ble_eq_true rfl) (Nat.le_of_ble_eq_true rfl) (m_begins hM) (fun S1 h1 => ?_)
        obtain ⟨I3, rfl, j3, c3⟩ := h1
        refine WP_aload_n dX5_paste_30 rfl ?_
        refine WP_aload_n dX5_paste_31 rfl ?_
        refine gf_RX5_13 dX5_paste_32 rfl rfl m0 ?_
        rw [j3 2 (by decide), hc2]
        refine callVi mX5_sizeOf [_] dX5_paste_35 okc_X5_sizeOf ok_730 ⟨by decide, by decide⟩ rfl rfl m0 rfl (Nat.le_of_ble_eq_true rfl) (Nat.le_of_ble_eq_true rfl) (Nat.le_of_ble_eq_true rfl) (m_sizeOf hM (hF2.1 c (by simp)) (mF_hd (mF_tail hF2)) (by omega)) (fun x1 S1 h1 => ?_)
        obtain ⟨rfl, I4, A4, rfl, s4, -⟩ := h1
        have X4 := mS_X hM s4
        have F4 := mS_F hM s4 hF2
        refine WP_istore_n dX5_paste_38 (by decide) rfl ?_
        refine WP_iload_n dX5_paste_39 rfl ?_
        by_cases hcz : tsz c = 0
        · refine WP_if_le 83 dX5_paste_40 (by decide) (fun hb3 => ?_) (fun hb3 => ?_)
          · refine WP_iload_n dX5_paste_83 rfl ?_
            refine WP_ireturn dX5_paste_84 rfl rfl (Nat.le_of_ble_eq_true rfl) (Nat.le_of_ble_eq_true rfl) ?_
            have ez : aPas (t, c, fg, n) (nI k) = (0, 0, (t, c, fg, begC n)) := by
              unfold aPas
              rw [if_pos hx, if_pos hcz]
            rw [ez]
            refine ⟨_, _, _, rfl, fun _ => by rw [hcz]; rfl, rfl, mI_mk hI2 (fun _ => Iff.rfl) F4 ?_ ?_ ?_ X4.2.1 X4.2.2.1 X4.2.2.2, ?_⟩
            · rw [X4.1 1 (by decide), j3 1 (by decide)]
              exact ht2
            · rw [X4.1 2 (by decide), j3 2 (by decide)]
              exact hc2
            · rw [mS_c s4, c3, hn2]
            · rw [X4.1 0 (by decide), j3 0 (by decide)]
              exact th
          · exact absurd (by rw [hcz]; exact Int32.le_refl _) hb3
        · refine WP_if_le 83 dX5_paste_40 (by decide) (fun hb3 => ?_) (fun hb3 => ?_)
          · exact absurd hb3 (nI_nle (by omega) (by omega))
          · have ez : aPas (t, c, fg, n) (nI k) = (0, nI (tsz c), (jn3 ((splT t k).1, c, (splT t k).2), .leaf, fg, jn3N (addC (begC n) (splC t k)) ((splT t k).1, c, (splT t k).2))) := by
              unfold aPas
              rw [if_pos hx, if_neg hcz, pI_n (by omega)]
            rw [ez]
            refine WP_aload_n dX5_paste_43 rfl ?_
            refine WP_aload_n dX5_paste_44 rfl ?_
            refine gf_RX5_9 dX5_paste_45 rfl rfl m0 ?_
            refine WP_iload_n dX5_paste_48 rfl ?_
            rw [X4.1 1 (by decide), j3 1 (by decide), ht2]
            refine callVv mX5_split [_, _] dX5_paste_49 okc_X5_split ok_757 ⟨by decide, by decide⟩ rfl rfl m0 rfl (Nat.le_of_ble_eq_true rfl) (Nat.le_of_ble_eq_true rfl) (Nat.le_of_ble_eq_true rfl) (m_split k hM F4 hst (by omega)) (fun S1 h1 => ?_)
            obtain ⟨I5, A5, rfl, F5, X5, c5, g4, g5⟩ := h1
            refine WP_aload_n dX5_paste_52 rfl ?_
            refine gf_RX5_84 dX5_paste_53 rfl rfl m0 ?_
            refine WP_istore_n dX5_paste_56 (by decide) rfl ?_
            refine WP_aload_n dX5_paste_57 rfl ?_
            refine WP_aload_n dX5_paste_58 rfl ?_
            refine WP_aload_n dX5_paste_59 rfl ?_
            refine WP_aload_n dX5_paste_60 rfl ?_
            refine gf_RX5_81 dX5_paste_61 rfl rfl m0 ?_
            refine WP_aload_n dX5_paste_64 rfl ?_
            refine gf_RX5_13 dX5_paste_65 rfl rfl m0 ?_
            rw [g4, g5, X5.1 2 (by decide), X4.1 2 (by decide), j3 2 (by decide), hc2]
            have F5' : mF W A5 ((splT t k).1 :: c :: [(splT t k).2]) := mF_perm (List.Perm.cons _ (List.Perm.swap _ _ _)) F5
            refine callVi mX5_join [_, _] dX5_paste_68 okc_X5_join ok_785 ⟨by decide, by decide⟩ rfl rfl m0 rfl (Nat.le_of_ble_eq_true rfl) (Nat.le_of_ble_eq_true rfl) (Nat.le_of_ble_eq_true rfl) (m_join hM F5') (fun x1 S1 h1 => ?_)
            obtain ⟨rfl, I6, A6, rfl, F6, X6, -, -, c6⟩ := h1
            refine WP_iload_n dX5_paste_71 rfl ?_
            refine callVi mX5_join [_, _] dX5_paste_72 okc_X5_join ok_785 ⟨by decide, by decide⟩ rfl rfl m0 rfl (Nat.le_of_ble_eq_true rfl) (Nat.le_of_ble_eq_true rfl) (Nat.le_of_ble_eq_true rfl) (m_join hM F6) (fun x1 S1 h1 => ?_)
            obtain ⟨rfl, I7, A7, rfl, F7, X7, -, -, c7⟩ := h1
            refine pf_RX5_9 dX5_paste_75 rfl rfl m0 ?_
            refine WP_aload_n dX5_paste_78 rfl ?_
            refine WP_iconst (-1) dX5_paste_79 (by decide) ?_
            refine pf_RX5_13 dX5_paste_80 rfl rfl m0 ?_
            refine WP_iload_n dX5_paste_83 rfl ?_
            refine WP_ireturn dX5_paste_84 rfl rfl (Nat.le_of_ble_eq_true rfl) (Nat.le_of_ble_eq_true rfl) ?_
            refine ⟨_, _, _, rfl, fun _ => rfl, rfl, mI_mk hI2 (fun x => ?_) (mF_perm (List.Perm.swap _ _ _) (mF_leaf F7)) ?_ (u2_eq _ _ _ _) ?_ ?_ ?_ ?_, ?_⟩
            · have hx9 : x ∉ io lf0 := fun h => by cases h
              unfold mB
              rw [jn3_io]
              have e : io t = io (splT t k).1 ++ io (splT t k).2 := by rw [(splT_io t k).1, (splT_io t k).2, List.take_append_drop]
              rw [e]
              simp only [List.mem_append]
              constructor
              · rintro (((h | h) | h) | h)
                · exact Or.inl (Or.inl h)
                · exact Or.inr h
                · exact Or.inl (Or.inr h)
                · exact absurd h hx9
              · rintro ((h | h) | h)
                · exact Or.inl (Or.inl (Or.inl h))
                · exact Or.inl (Or.inr h)
                · exact Or.inl (Or.inl (Or.inr h))
            · rw [u2_o _ _ _ (by decide), u2_eq]
              rfl
            · have e1 : cmO (u2 (u2 I7 1 (W 0) (ix (rk kI (joinT (joinT (splT t k).1 c) (splT t k).2)))) 2 (W 0) (-1)) W = cmO I7 W := by simp [cmO, u2]
              rw [e1, c7, c6, c5, mS_c s4, c3, hn2]
              rfl
            · exact X7.2.1.trans (X6.2.1.trans (X5.2.1.trans X4.2.1))
            · exact X7.2.2.1.trans (X6.2.2.1.trans (X5.2.2.1.trans X4.2.2.1))
            · exact X7.2.2.2.trans (X6.2.2.2.trans (X5.2.2.2.trans X4.2.2.2))
            · rw [u2_o _ _ _ (by decide), u2_o _ _ _ (by decide), X7.1 0 (by decide), X6.1 0 (by decide), X5.1 0 (by decide), X4.1 0 (by decide), j3 0 (by decide)]
              exact th
      · exact absurd (nI_le (show k ≤ tsz t by omega) (by omega)) hb2
    · refine WP_icmp_le 17 dX5_paste_10 (by decide) (fun hb2 => ?_) (fun hb2 => ?_)
      · exact absurd ((inP_le hb (by omega)).mp hb2) hx
      · refine WP_iconst (1) dX5_paste_13 (by decide) ?_
        refine WP_goto 18 dX5_paste_14 (by decide) ?_
        refine WP_lv [] (fun _ h9 => absurd h9 List.not_mem_nil) ?_
        exact bad _ _ s1 hx
theorem p_set (x w : Int32) (hA : AI (t, c, fg, n)) (hI : mI W L K AN R0 Im AIm (t, c, fg, n)) :
    MT G mX5_set [vr (some (W 0)), vi x, vi w] (mkS L K AN R0 Rc Ic AIc AR Im AIm AL) (mR W L K AN R0 Rc Ic AIc AR AL (aSet (t, c, fg, n) x w)) := by
  obtain ⟨hM, ⟨ht, hc⟩, hF, hcn, hv, ⟨hth1, hth0⟩, hfg⟩ := id hI
  have ht : Im 1 (W 0) = ix (rk kI t) := ht
  have hc : Im 2 (W 0) = ix (rk kI c) := hc
  have hF : mF W AIm [t, c] := hF
  have hcn : cmO Im W = n := hcn
  have hfg : ∀ k, k < 4 → AIm (W 6) k = ix ((fg k).map (·.2)) := hfg
  have hs : tsz t + tsz c ≤ 60 := hA.1
  have hst : tsz t ≤ 60 := by omega
  have hmt := hF.1 t List.mem_cons_self
  have hnt := mF_hd hF
  obtain ⟨m0, ⟨f1, f2, f3, f4, f5, f6, f7⟩, ⟨⟨q1, n1⟩, ⟨q2, n2⟩, ⟨q3, n3⟩, ⟨q4, n4⟩, ⟨q5, n5⟩, ⟨q6, n6⟩, ⟨q7, n7⟩⟩, hne⟩ := id hM
  refine MT_of (by decide) rfl (Nat.le_of_ble_eq_true rfl) ?_
  refine WP_aload_n dX5_set_0 rfl ?_
  refine WP_aload_n dX5_set_1 rfl ?_
  refine WP_iload_n dX5_set_2 rfl ?_
  refine callVi mX5_isPlace [_] dX5_set_3 okc_X5_isPlace ok_781 ⟨by decide, by decide⟩ rfl rfl m0 rfl (Nat.le_of_ble_eq_true rfl) (Nat.le_of_ble_eq_true rfl) (Nat.le_of_ble_eq_true rfl) (m_isPlace x hM ht hmt hnt hst) (fun x1 S1 h1 => ?_)
  obtain ⟨rfl, I1, A1, rfl, s1, -⟩ := h1
  by_cases hx : inP (tsz t) x
  · rw [if_pos hx]
    refine WP_if_ne 13 dX5_set_6 (by decide) (fun _ => ?_) (fun hb => absurd hb (by decide))
    refine WP_iload_n dX5_set_13 rfl ?_
    refine callSi mX5_isValue [_] dX5_set_14 okc_X5_isValue ok_746 ⟨by decide, by decide⟩ rfl rfl (Nat.le_of_ble_eq_true rfl) (Nat.le_of_ble_eq_true rfl) (Nat.le_of_ble_eq_true rfl) (m_isValue w) rfl (fun x1 S1 h1 => ?_)
    obtain ⟨rfl, rfl⟩ := h1
    by_cases hd : okv w
    · rw [if_pos hd]
      refine WP_if_ne 24 dX5_set_17 (by decide) (fun _ => ?_) (fun hb => absurd hb (by decide))
      refine WP_iconst (0) dX5_set_24 (by decide) ?_
      refine callVi mX5_goesWell [_] dX5_set_25 okc_X5_goesWell ok_749 ⟨by decide, by decide⟩ rfl rfl m0 rfl (Nat.le_of_ble_eq_true rfl) (Nat.le_of_ble_eq_true rfl) (Nat.le_of_ble_eq_true rfl) (m_goesWell 0 hM) (fun x1 S1 h1 => ?_)
      obtain ⟨rfl, rfl⟩ := h1
      rw [if_pos rfl]
      have hI2 := mI_S hI s1 0
      have th : (u2 I1 0 (W 0) 0) 0 (W 0) = 0 := u2_eq _ _ _ _
      generalize u2 I1 0 (W 0) 0 = Im2 at hI2 th ⊢
      obtain ⟨-, ⟨ht2, hc2⟩, hF2, hn2, hv2, -, -⟩ := id hI2
      have ht2 : Im2 1 (W 0) = ix (rk kI t) := ht2
      have hc2 : Im2 2 (W 0) = ix (rk kI c) := hc2
      have hF2 : mF W A1 [t, c] := hF2
      have hn2 : cmO Im2 W = n := hn2
      have hv2 : ∀ x, mB t c x → A1 (W 1) x.2.1 = x.2.2 := hv2
      refine WP_if_ne 33 dX5_set_28 (by decide) (fun _ => ?_) (fun hb => absurd hb (by decide))
      obtain ⟨k, hk, rfl⟩ := inP_of hx (by omega)
      obtain ⟨v, l, r, u1, u2', u3, u4⟩ := upT_id hk
      have ez : aSet (t, c, fg, n) (nI k) w = (0, vAt t k, (nd (idAt t k).1 (idAt t k).2 w l r, c, fg, addC (begC n) (upC t k))) := by
        unfold aSet
        rw [if_pos hx, if_pos hd, pI_n (by omega), u1]
        rfl
      rw [ez]
      refine WP_aload_n dX5_set_33 rfl ?_
      refine callVv mX5_begins [] dX5_set_34 okc_X5_begins ok_753 ⟨by decide, by decide⟩ rfl rfl m0 rfl (Nat.le_of_ble_eq_true rfl) (Nat.le_of_ble_eq_true rfl) (Nat.le_of_ble_eq_true rfl) (m_begins hM) (fun S1 h1 => ?_)
      obtain ⟨I3, rfl, j3, c3⟩ := h1
      refine WP_aload_n dX5_set_37 rfl ?_
      refine WP_iload_n dX5_set_38 rfl ?_
      refine callVi mX5_raiseUp [_] dX5_set_39 okc_X5_raiseUp ok_797 ⟨by decide, by decide⟩ rfl rfl m0 rfl (Nat.le_of_ble_eq_true rfl) (Nat.le_of_ble_eq_true rfl) (Nat.le_of_ble_eq_true rfl) (m_raiseUp k hM (by rw [j3 1 (by decide)]; exact ht2) hF2 hst hk) (fun x1 S1 h1 => ?_)
      obtain ⟨rfl, I4, A4, rfl, F4, X4, c4, h60⟩ := h1
      rw [u1] at F4
      refine WP_istore_n dX5_set_42 (by decide) rfl ?_
      refine WP_aload_n dX5_set_43 rfl ?_
      refine gf_RX5_16 dX5_set_44 rfl rfl m0 ?_
      refine WP_iload_n dX5_set_47 rfl ?_
      refine ald_7 ((idAt t k).2) 60 dX5_set_48 f1 q1 n1 rfl h60 (by decide) ?_
      rw [show A4 (W 1) (idAt t k).2 = vAt t k from by rw [X4.2.1]; exact hv2 _ (mB_at hk)]
      refine WP_istore dX5_set_49 (by decide) rfl ?_
      refine WP_aload_n dX5_set_51 rfl ?_
      refine gf_RX5_16 dX5_set_52 rfl rfl m0 ?_
      refine WP_iload_n dX5_set_55 rfl ?_
      refine WP_iload_n dX5_set_56 rfl ?_
      refine ast_7 ((idAt t k).2) 60 dX5_set_57 f1 q1 n1 rfl h60 (by decide) ?_
      refine WP_iload dX5_set_58 rfl ?_
      refine WP_ireturn dX5_set_60 rfl rfl (Nat.le_of_ble_eq_true rfl) (Nat.le_of_ble_eq_true rfl) ?_
      have d1 : ∀ j, j ≠ 1 → 1 ≤ j ∧ j ≤ 7 → va_up A4 (W 1) (upd (A4 (W 1)) (idAt t k).2 w) (W j) = A4 (W j) := fun j hj hj2 => va_up_ne _ _ (mK_d hM hj hj2 (by decide))
      have hnd := hF2.2
      have hkl : kl kI t = kl kI l ++ (idAt t k).2 :: kl kI r := by
        unfold kl
        rw [← u2']
        simp
      have hnd : (kl kI t ++ (kl kI c ++ [])).Nodup := hnd
      rw [List.append_nil, hkl] at hnd
      have hin : ∀ z, mB (nd (idAt t k).1 (idAt t k).2 w l r) c z → z = ((idAt t k).1, (idAt t k).2, w) ∨ (mB t c z ∧ z.2.1 ≠ (idAt t k).2) := by
        intro z hz
        obtain ⟨n1', n2', n3'⟩ := List.nodup_append.mp hnd
        obtain ⟨n4', n5', n6'⟩ := List.nodup_append.mp n1'
        rcases hz with hz | hz
        · rcases List.mem_append.mp (show z ∈ io l ++ ((idAt t k).1, (idAt t k).2, w) :: io r from hz) with hz | hz
          · exact Or.inr ⟨Or.inl (by rw [← u2']; simp [hz]), fun e => n6' z.2.1 (List.mem_map.mpr ⟨z, hz, rfl⟩) _ List.mem_cons_self e⟩
          · rcases List.mem_cons.mp hz with hz | hz
            · exact Or.inl hz
            · refine Or.inr ⟨Or.inl (by rw [← u2']; simp [hz]), fun e => ?_⟩
              rw [List.nodup_cons] at n5'
              exact n5'.1 (by rw [← e]; exact List.mem_map.mpr ⟨z, hz, rfl⟩)
        · exact Or.inr ⟨Or.inr hz, fun e => n3' (idAt t k).2 (List.mem_append_right _ List.mem_cons_self) z.2.1 (List.mem_map.mpr ⟨z, hz, rfl⟩) e.symm⟩
      refine ⟨_, _, _, rfl, fun _ => rfl, rfl, mI_mk2 hI2 (fun i => ⟨?_, ?_⟩) (?_ : mF W _ [nd (idAt t k).1 (idAt t k).2 w l r, c]) ?_ ?_ ?_ (fun z hz => ?_) ?_ ?_, ?_⟩
      · rintro ⟨z, hz, rfl⟩
        rcases hin z hz with e | ⟨e, -⟩
        · rw [e]
          exact ⟨_, mB_at hk, rfl⟩
        · exact ⟨z, e, rfl⟩
      · rintro ⟨z, hz, rfl⟩
        rcases hz with hz | hz
        · rw [← u2'] at hz
          rcases List.mem_append.mp hz with hz | hz
          · exact ⟨z, Or.inl (List.mem_append_left _ hz), rfl⟩
          · rcases List.mem_cons.mp hz with hz | hz
            · rw [hz]
              exact ⟨((idAt t k).1, (idAt t k).2, w), Or.inl (List.mem_append_right _ List.mem_cons_self), rfl⟩
            · exact ⟨z, Or.inl (List.mem_append_right _ (List.mem_cons_of_mem _ hz)), rfl⟩
        · exact ⟨z, Or.inr hz, rfl⟩
      · refine mF_same (d1 2 (by decide) (by decide)) (d1 3 (by decide) (by decide)) (d1 4 (by decide) (by decide)) ?_
        exact mF_step F4 (by rw [kl_nd, kl_nd]) (F4.1 _ List.mem_cons_self).1 (fun _ _ => ⟨rfl, rfl, rfl⟩)
      · rw [X4.1 1 (by decide), u2_eq, u1]
        rfl
      · rw [X4.1 2 (by decide), u2_o _ _ _ (by decide), j3 2 (by decide)]
        exact hc2
      · rw [c4, c3, hn2]
      · rw [va_up_self]
        rcases hin z hz with e | ⟨e, e2⟩
        · rw [e]
          exact pk_us
        · rw [pk_un e2, X4.2.1]
          exact hv2 z e
      · rw [d1 5 (by decide) (by decide)]
        exact X4.2.2.1
      · rw [d1 6 (by decide) (by decide)]
        exact X4.2.2.2
      · rw [X4.1 0 (by decide), u2_o _ _ _ (by decide), j3 0 (by decide)]
        exact th
    · rw [if_neg hd]
      refine WP_if_ne 24 dX5_set_17 (by decide) (fun hb => absurd hb (by decide)) (fun _ => ?_)
      refine WP_iconst (2) dX5_set_20 (by decide) ?_
      refine WP_goto 25 dX5_set_21 (by decide) ?_
      refine callVi mX5_goesWell [_] dX5_set_25 okc_X5_goesWell ok_749 ⟨by decide, by decide⟩ rfl rfl m0 rfl (Nat.le_of_ble_eq_true rfl) (Nat.le_of_ble_eq_true rfl) (Nat.le_of_ble_eq_true rfl) (m_goesWell 2 hM) (fun x1 S1 h1 => ?_)
      obtain ⟨rfl, rfl⟩ := h1
      rw [if_neg (by decide)]
      refine WP_if_ne 33 dX5_set_28 (by decide) (fun hb => absurd hb (by decide)) (fun _ => ?_)
      refine WP_iconst (0) dX5_set_31 (by decide) ?_
      refine WP_ireturn dX5_set_32 rfl rfl (Nat.le_of_ble_eq_true rfl) (Nat.le_of_ble_eq_true rfl) ?_
      have ez : aSet (t, c, fg, n) x w = (2, 0, (t, c, fg, n)) := by
        unfold aSet
        rw [if_pos hx, if_neg hd]
      rw [ez]
      exact mR_thr hI s1
  · rw [if_neg hx]
    refine WP_if_ne 13 dX5_set_6 (by decide) (fun hb => absurd hb (by decide)) (fun _ => ?_)
    refine WP_iconst (1) dX5_set_9 (by decide) ?_
    refine WP_goto 25 dX5_set_10 (by decide) ?_
    refine callVi mX5_goesWell [_] dX5_set_25 okc_X5_goesWell ok_749 ⟨by decide, by decide⟩ rfl rfl m0 rfl (Nat.le_of_ble_eq_true rfl) (Nat.le_of_ble_eq_true rfl) (Nat.le_of_ble_eq_true rfl) (m_goesWell 1 hM) (fun x1 S1 h1 => ?_)
    obtain ⟨rfl, rfl⟩ := h1
    rw [if_neg (by decide)]
    refine WP_if_ne 33 dX5_set_28 (by decide) (fun hb => absurd hb (by decide)) (fun _ => ?_)
    refine WP_iconst (0) dX5_set_31 (by decide) ?_
    refine WP_ireturn dX5_set_32 rfl rfl (Nat.le_of_ble_eq_true rfl) (Nat.le_of_ble_eq_true rfl) ?_
    have ez : aSet (t, c, fg, n) x w = (1, 0, (t, c, fg, n)) := by
      unfold aSet
      rw [if_neg hx]
    rw [ez]
    exact mR_thr hI s1
end MP2
