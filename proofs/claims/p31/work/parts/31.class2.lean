/-! ===== SplaySequence: what each call does (2) ===== -/
section CL2
variable {G : GC} {L : List Nat} {K AN : Nat → Nat} {R0 Rc : Nat → Nat → Option Nat} {Ic AIc Im AIm : Nat → Nat → Int32} {AR : Nat → Nat → Option Nat} {AL : Nat → Nat → Int64} {E : Nat → Nat} {t c : Tr} {fg : Nat → Option (Nat × Nat)} {n : Cn}
theorem nI_sub {f u : Nat} (h : f ≤ u) : nI u - nI f = nI (u - f) := pk_sub h
theorem cut_rows {g g2 : Nat → Int32} {f u : Nat} (hfu : f ≤ u) (hu : u ≤ tsz t) (h : rowV g (vls t)) : rowV (va_cpy g g u f (tsz t - u)) (vls (joinT (rgT t f u).1 (rgT t f u).2.2)) ∧ rowV (va_cpy g g2 f 0 (u - f)) (vls (rgT t f u).2.1) := by
  have hj : vls (joinT (rgT t f u).1 (rgT t f u).2.2) = vls (rgT t f u).1 ++ vls (rgT t f u).2.2 := by
    unfold vls
    rw [joinT_io, List.map_append]
  rw [hj]
  have h' := h
  rw [vls_rg hfu hu] at h
  obtain ⟨z1, z2⟩ := rgT_sz t f u hu hfu
  by_cases h2 : f < u
  · have h3 := rg_l h2 hu
    have := rowV_out (g := g2) (n := tsz t) h (by rw [vls_len, vls_len, vls_len]; omega)
    rw [vls_len, vls_len, h3, z2, show f + (u - f) = u by omega] at this
    exact this
  · obtain rfl : f = u := by omega
    have e : va_cpy g g f f (tsz t - f) = g := by
      funext j
      unfold va_cpy
      by_cases hc : f ≤ j ∧ j < f + (tsz t - f)
      · rw [if_pos hc, show f + (j - f) = j by omega]
      · rw [if_neg hc]
    rw [e]
    unfold rgT
    rw [if_neg h2]
    refine ⟨?_, fun j hj => absurd hj (Nat.not_lt_zero _)⟩
    show rowV g (vls t ++ [])
    rw [List.append_nil]
    exact h'
theorem k_cut (x y : Int32) (hI : cI E L K AN R0 Rc Ic AIc AR (t, c, fg, n)) :
    MT G mX4_cut [vr (some (E 0)), vi x, vi y] (mkS L K AN R0 Rc Ic AIc AR Im AIm AL) (cR [xO, xS] (cJ E L K AN R0 Im AIm AL) (aCut (t, c, fg, n) x y)) := by
  have hI9 := hI
  obtain ⟨hK, hW, ⟨hl1, hl2⟩, hv1, hv2, hfg, hA1, hA2⟩ := hI9
  have hW : cW E L K Rc Ic (t, c, .leaf, .leaf) n := hW
  have hl1 : Ic 2 (E 7) = nI (tsz t) := hl1
  have hl2 : Ic 2 (E 8) = nI (tsz c) := hl2
  have hv1 : rowV (AIc (E 9)) (vls t) := hv1
  have hv2 : rowV (AIc (E 10)) (vls c) := hv2
  have hfg : ∀ k, k < 4 → AR (E 6) k = (fg k).map (·.1) := hfg
  have hs : tsz t + tsz c ≤ 60 := hA1
  have hA2 : ∀ k p, k < 4 → fg k = some p → p ∈ ids t ∨ p ∈ ids c := hA2
  have h0 := hK.1
  obtain ⟨k1, k2, k3, k4⟩ := hK.2.2.1
  have k5 := hK.2.2.2.1
  obtain ⟨k6, n6⟩ := hK.2.2.2.2.1
  have k7 := hK.2.2.2.2.2.1
  have k8 := hK.2.2.2.2.2.2.1
  obtain ⟨d78, d910⟩ := hK.2.2.2.2.2.2.2.1
  obtain ⟨e1, e2, e3, e4, e5, e6, e7, e8⟩ := hK.2.1
  refine MT_of (by decide) rfl (Nat.le_of_ble_eq_true rfl) ?_
  refine WP_aload_n dX4_cut_0 rfl ?_
  refine WP_iload_n dX4_cut_1 rfl ?_
  refine WP_iload_n dX4_cut_2 rfl ?_
  refine callVtv mX4_checkRange [_, _] dX4_cut_3 okc_X4_checkRange ok_333 ⟨by decide, by decide⟩ rfl rfl h0 rfl (Nat.le_of_ble_eq_true rfl) (Nat.le_of_ble_eq_true rfl) (Nat.le_of_ble_eq_true rfl) (c_checkRange x y hK hW (by omega)) rfl (fun E9 S9 ht => ?_) (fun S1 h1 => ?_)
  · obtain ⟨⟨rfl, hx⟩, rfl⟩ := ht
    unfold aCut
    rw [if_neg hx]
    exact cR_thr rfl hI
  · obtain ⟨hr, rfl⟩ := h1
    refine WP_aload_n dX4_cut_6 rfl ?_
    refine gf_RX4_16 dX4_cut_7 rfl rfl h0 ?_
    rw [e2]
    refine callVi mX3_count [] dX4_cut_10 okc_X3_count ok_134 ⟨by decide, by decide⟩ rfl rfl k2 rfl (Nat.le_of_ble_eq_true rfl) (Nat.le_of_ble_eq_true rfl) (Nat.le_of_ble_eq_true rfl) (c_count (E 2) c k2 hW.2.1.2.1 (cW_T hW).2.1) (fun x1 S1 h1 => ?_)
    obtain ⟨rfl, rfl⟩ := h1
    refine WP_if_le 26 dX4_cut_13 (by decide) (fun hz => ?_) (fun hz => ?_)
    · have hc0 : tsz c = 0 := by
        by_cases e : tsz c = 0
        · exact e
        · exact absurd hz (nI_nle (by omega) (by omega))
      obtain ⟨f, u, hfu, hu, rfl, rfl⟩ := inR_of hr (by omega)
      have z1 := rgT_sz t f u hu hfu
      have ez : aCut (t, c, fg, n) (nI f) (nI u) = (0, nI u - nI f, (joinT (rgT t f u).1 (rgT t f u).2.2, (rgT t f u).2.1, fg, addC (rgN (begC n) t f u) (joinC (rgT t f u).1 (rgT t f u).2.2))) := by
        unfold aCut
        rw [if_pos hr, if_pos hc0, pI_n (by omega), pI_n (by omega)]
      rw [ez]
      obtain rfl := tsz0 hc0
      refine WP_aload_n dX4_cut_26 rfl ?_
      refine gf_RX4_28 dX4_cut_27 rfl rfl h0 ?_
      rw [e5]
      refine callVv mX2_beginCall [] dX4_cut_30 okc_X2_beginCall ok_225 ⟨by decide, by decide⟩ rfl rfl k5 rfl (Nat.le_of_ble_eq_true rfl) (Nat.le_of_ble_eq_true rfl) (Nat.le_of_ble_eq_true rfl) (w_begin hK hW) (fun S1 h1 => ?_)
      obtain ⟨R1, I1, rfl, W1, i1⟩ := h1
      refine WP_aload_n dX4_cut_33 rfl ?_
      refine WP_iload_n dX4_cut_34 rfl ?_
      refine WP_iload_n dX4_cut_35 rfl ?_
      refine callVv mX4_takeRange [_, _] dX4_cut_36 okc_X4_takeRange ok_338 ⟨by decide, by decide⟩ rfl rfl h0 rfl (Nat.le_of_ble_eq_true rfl) (Nat.le_of_ble_eq_true rfl) (Nat.le_of_ble_eq_true rfl) (w_takeRange f u hK W1 (by omega) hfu hu) (fun S1 h1 => ?_)
      obtain ⟨R2, I2, rfl, W2, i2⟩ := h1
      refine WP_aload_n dX4_cut_39 rfl ?_
      refine gf_RX4_16 dX4_cut_40 rfl rfl h0 ?_
      refine WP_aload_n dX4_cut_43 rfl ?_
      refine gf_RX4_19 dX4_cut_44 rfl rfl h0 ?_
      rw [e2, e3]
      refine callVr mX3_takeAll [] dX4_cut_47 okc_X3_takeAll ok_439 ⟨by decide, by decide⟩ rfl rfl k3 rfl (Nat.le_of_ble_eq_true rfl) (Nat.le_of_ble_eq_true rfl) (Nat.le_of_ble_eq_true rfl) (c_takeAll (E 3) k3) (fun o1 S1 h1 => ?_)
      obtain ⟨rfl, rfl⟩ := h1
      rw [show R2 3 (E 3) = rk kA (rgT t f u).2.1 from W2.2.1.2.2.1]
      refine pf_RX4_86 dX4_cut_50 rfl rfl k2 ?_
      obtain ⟨d12, d13, d14, d23, d24, d34⟩ := hK.2.2.2.2.2.2.2.2
      have W3 : cW E L K (u2 (u2 R2 3 (E 3) none) 3 (E 2) (rk kA (rgT t f u).2.1)) I2 ((rgT t f u).1, (rgT t f u).2.1, .leaf, (rgT t f u).2.2) (rgN (begC n) t f u) := by
        refine ⟨cF_perm (show List.Perm [(rgT t f u).1, lf0, (rgT t f u).2.1, (rgT t f u).2.2] [(rgT t f u).1, (rgT t f u).2.1, lf0, (rgT t f u).2.2] from List.Perm.cons _ (List.Perm.swap _ _ _)) (cF_same W2.1 ?_ ?_ ?_ rfl rfl), ⟨?_, ?_, ?_, ?_⟩, W2.2.2⟩
        · rw [u2_o _ _ _ (by decide), u2_o _ _ _ (by decide)]
        · rw [u2_o _ _ _ (by decide), u2_o _ _ _ (by decide)]
        · rw [u2_o _ _ _ (by decide), u2_o _ _ _ (by decide)]
        · rw [u2_na _ _ _ _ d12, u2_na _ _ _ _ d13]
          exact W2.2.1.1
        · exact u2_eq _ _ _ _
        · rw [u2_na _ _ _ _ (Ne.symm d23), u2_eq]
          rfl
        · rw [u2_na _ _ _ _ (Ne.symm d24), u2_na _ _ _ _ (Ne.symm d34)]
          exact W2.2.1.2.2.2
      refine WP_aload_n dX4_cut_53 rfl ?_
      refine gf_RX4_28 dX4_cut_54 rfl rfl h0 ?_
      refine WP_aload_n dX4_cut_57 rfl ?_
      refine gf_RX4_10 dX4_cut_58 rfl rfl h0 ?_
      refine WP_aload_n dX4_cut_61 rfl ?_
      refine gf_RX4_22 dX4_cut_62 rfl rfl h0 ?_
      rw [e5, e1, e4]
      refine callVv mX2_join [_, _] dX4_cut_65 okc_X2_join ok_260 ⟨by decide, by decide⟩ rfl rfl k5 rfl (Nat.le_of_ble_eq_true rfl) (Nat.le_of_ble_eq_true rfl) (Nat.le_of_ble_eq_true rfl) (w_join4 hK W3 (by omega)) (fun S1 h1 => ?_)
      obtain ⟨R4, I4, rfl, W4, i4⟩ := h1
      have i9 : I4 2 = Ic 2 := i4.trans (i2.trans i1)
      refine WP_aload_n dX4_cut_68 rfl ?_
      refine gf_RX4_41 dX4_cut_69 rfl rfl h0 ?_
      refine WP_iload_n dX4_cut_72 rfl ?_
      refine WP_iload_n dX4_cut_73 rfl ?_
      refine WP_aload_n dX4_cut_74 rfl ?_
      refine gf_RX4_45 dX4_cut_75 rfl rfl h0 ?_
      rw [e7, e8]
      refine callVv mX1_moveOut [_, _, _] dX4_cut_78 okc_X1_moveOut ok_440 ⟨by decide, by decide⟩ rfl rfl k7.1 rfl (Nat.le_of_ble_eq_true rfl) (Nat.le_of_ble_eq_true rfl) (Nat.le_of_ble_eq_true rfl) (c_moveOut (E 7) (E 9) (E 8) (E 10) f u (tsz t) k7 k8 d910 d78 (by rw [i9, hl1]) (by omega) hfu hu) (fun S1 h1 => ?_)
      subst h1
      refine WP_iload_n dX4_cut_81 rfl ?_
      refine WP_iload_n dX4_cut_82 rfl ?_
      refine WP_isub dX4_cut_83 ?_
      refine WP_ireturn dX4_cut_84 rfl rfl (Nat.le_of_ble_eq_true rfl) (Nat.le_of_ble_eq_true rfl) ?_
      obtain ⟨r1, r2⟩ := cut_rows (g2 := AIc (E 10)) hfu hu hv1
      refine cR_ok (A := (t, .leaf, fg, n)) ⟨hK, cW_same W4 rfl rfl rfl rfl (fun j hj => ?_), ⟨?_, ?_⟩, ?_, ?_, hfg, ?_, fun k p h1 h2 => ?_⟩
      · rw [u2_o _ _ _ hj, u2_o _ _ _ hj]
      · rw [u2_eq]
        refine congrArg nI ?_
        show _ = tsz (joinT _ _)
        rw [tsz_join]
        omega
      · rw [u2_na _ _ _ _ (Ne.symm d78), u2_eq]
        refine congrArg nI ?_
        show u - f = tsz (rgT t f u).2.1
        omega
      · rw [va_up_self]
        exact r1
      · rw [va_up_ne _ _ (Ne.symm d910), va_up_self]
        exact r2
      · show tsz (joinT _ _) + tsz (rgT t f u).2.1 ≤ 60
        rw [tsz_join]
        omega
      · have h3 : p ∈ ids t ∨ p ∈ ids lf0 := hA2 k p h1 h2
        show p ∈ ids (joinT _ _) ∨ p ∈ ids (rgT t f u).2.1
        have hj : ids (joinT (rgT t f u).1 (rgT t f u).2.2) = ids (rgT t f u).1 ++ ids (rgT t f u).2.2 := by
          unfold ids
          rw [joinT_io, List.map_append]
        rcases h3 with h3 | h3
        · rw [ids_rg hfu hu] at h3
          rw [hj]
          simp only [List.mem_append] at h3 ⊢
          rcases h3 with (h3 | h3) | h3
          · exact Or.inl (Or.inl h3)
          · exact Or.inr h3
          · exact Or.inl (Or.inr h3)
        · cases h3
    · have hc0 : tsz c ≠ 0 := by
        intro e
        apply hz
        rw [e]
        exact Int32.le_refl _
      refine WP_throw "java/lang/IllegalStateException" "the clipboard is not empty" 59 156 63 rfl rfl (by decide +kernel) ok_423 ok_23 sr_156 sx_156 tw_S to_S cst_S dX4_cut_16 dX4_cut_19 dX4_cut_20 dX4_cut_22 dX4_cut_25 (by decide) (Nat.le_of_ble_eq_true rfl) (Nat.le_of_ble_eq_true rfl) (Nat.le_of_ble_eq_true rfl) ?_
      unfold aCut
      rw [if_pos hr, if_neg hc0]
      exact cR_thr rfl hI
theorem k_paste (x : Int32) (hI : cI E L K AN R0 Rc Ic AIc AR (t, c, fg, n)) :
    MT G mX4_paste [vr (some (E 0)), vi x] (mkS L K AN R0 Rc Ic AIc AR Im AIm AL) (cR [xO] (cJ E L K AN R0 Im AIm AL) (aPas (t, c, fg, n) x)) := by
  have hI9 := hI
  obtain ⟨hK, hW, ⟨hl1, hl2⟩, hv1, hv2, hfg, hA1, hA2⟩ := hI9
  have hW : cW E L K Rc Ic (t, c, .leaf, .leaf) n := hW
  have hl1 : Ic 2 (E 7) = nI (tsz t) := hl1
  have hl2 : Ic 2 (E 8) = nI (tsz c) := hl2
  have hv1 : rowV (AIc (E 9)) (vls t) := hv1
  have hv2 : rowV (AIc (E 10)) (vls c) := hv2
  have hfg : ∀ k, k < 4 → AR (E 6) k = (fg k).map (·.1) := hfg
  have hs : tsz t + tsz c ≤ 60 := hA1
  have hA2 : ∀ k p, k < 4 → fg k = some p → p ∈ ids t ∨ p ∈ ids c := hA2
  have h0 := hK.1
  obtain ⟨k1, k2, k3, k4⟩ := hK.2.2.1
  have k5 := hK.2.2.2.1
  obtain ⟨k6, n6⟩ := hK.2.2.2.2.1
  have k7 := hK.2.2.2.2.2.1
  have k8 := hK.2.2.2.2.2.2.1
  obtain ⟨d78, d910⟩ := hK.2.2.2.2.2.2.2.1
  obtain ⟨e1, e2, e3, e4, e5, e6, e7, e8⟩ := hK.2.1
  refine MT_of (by decide) rfl (Nat.le_of_ble_eq_true rfl) ?_
  refine WP_aload_n dX4_paste_0 rfl ?_
  refine WP_iload_n dX4_paste_1 rfl ?_
  refine callVtv mX4_checkGap [_] dX4_paste_2 okc_X4_checkGap ok_451 ⟨by decide, by decide⟩ rfl rfl h0 rfl (Nat.le_of_ble_eq_true rfl) (Nat.le_of_ble_eq_true rfl) (Nat.le_of_ble_eq_true rfl) (c_checkGap x hK hW (by omega)) rfl (fun E9 S9 ht => ?_) (fun S1 h1 => ?_)
  · obtain ⟨⟨rfl, hx⟩, rfl⟩ := ht
    unfold aPas
    rw [if_neg hx]
    exact cR_thr rfl hI
  · obtain ⟨hr, rfl⟩ := h1
    refine WP_aload_n dX4_paste_5 rfl ?_
    refine gf_RX4_28 dX4_paste_6 rfl rfl h0 ?_
    rw [e5]
    refine callVv mX2_beginCall [] dX4_paste_9 okc_X2_beginCall ok_225 ⟨by decide, by decide⟩ rfl rfl k5 rfl (Nat.le_of_ble_eq_true rfl) (Nat.le_of_ble_eq_true rfl) (Nat.le_of_ble_eq_true rfl) (w_begin hK hW) (fun S1 h1 => ?_)
    obtain ⟨R1, I1, rfl, W1, i1⟩ := h1
    refine WP_aload_n dX4_paste_12 rfl ?_
    refine gf_RX4_16 dX4_paste_13 rfl rfl h0 ?_
    rw [e2]
    refine callVi mX3_count [] dX4_paste_16 okc_X3_count ok_134 ⟨by decide, by decide⟩ rfl rfl k2 rfl (Nat.le_of_ble_eq_true rfl) (Nat.le_of_ble_eq_true rfl) (Nat.le_of_ble_eq_true rfl) (c_count (E 2) c k2 W1.2.1.2.1 (cW_T W1).2.1) (fun x1 S1 h1 => ?_)
    obtain ⟨rfl, rfl⟩ := h1
    refine WP_istore_n dX4_paste_19 (by decide) rfl ?_
    refine WP_iload_n dX4_paste_20 rfl ?_
    refine WP_if_le 82 dX4_paste_21 (by decide) (fun hz => ?_) (fun hz => ?_)
    · have hc0 : tsz c = 0 := by
        by_cases e : tsz c = 0
        · exact e
        · exact absurd hz (nI_nle (by omega) (by omega))
      have ez : aPas (t, c, fg, n) x = (0, nI (tsz c), (t, c, fg, begC n)) := by
        unfold aPas
        rw [if_pos hr, if_pos hc0, hc0]
        rfl
      rw [ez]
      refine WP_iload_n dX4_paste_82 rfl ?_
      refine WP_ireturn dX4_paste_83 rfl rfl (Nat.le_of_ble_eq_true rfl) (Nat.le_of_ble_eq_true rfl) ?_
      exact cR_ok (A := (t, c, fg, n)) (cI_up hI rfl W1 i1)
    · have hc0 : tsz c ≠ 0 := by
        intro e
        apply hz
        rw [e]
        exact Int32.le_refl _
      obtain ⟨k, hk, rfl⟩ := inP_of hr (by omega)
      have ez : aPas (t, c, fg, n) (nI k) = (0, nI (tsz c), (jn3 ((splT t k).1, c, (splT t k).2), .leaf, fg, jn3N (addC (begC n) (splC t k)) ((splT t k).1, c, (splT t k).2))) := by
        unfold aPas
        rw [if_pos hr, if_neg hc0, pI_n (by omega)]
      rw [ez]
      have s1 := tsz_spl1 t k
      have s2 := tsz_spl2 t k
      refine WP_aload_n dX4_paste_24 rfl ?_
      refine gf_RX4_28 dX4_paste_25 rfl rfl h0 ?_
      refine WP_aload_n dX4_paste_28 rfl ?_
      refine gf_RX4_10 dX4_paste_29 rfl rfl h0 ?_
      refine WP_iload_n dX4_paste_32 rfl ?_
      refine WP_aload_n dX4_paste_33 rfl ?_
      refine gf_RX4_22 dX4_paste_34 rfl rfl h0 ?_
      rw [e5, e1, e4]
      refine callVv mX2_split [_, _, _] dX4_paste_37 okc_X2_split ok_342 ⟨by decide, by decide⟩ rfl rfl k5 rfl (Nat.le_of_ble_eq_true rfl) (Nat.le_of_ble_eq_true rfl) (Nat.le_of_ble_eq_true rfl) (w_split4 hK W1 (by omega) (by omega)) (fun S1 h1 => ?_)
      obtain ⟨R2, I2, rfl, W2, i2⟩ := h1
      refine WP_aload_n dX4_paste_40 rfl ?_
      refine gf_RX4_28 dX4_paste_41 rfl rfl h0 ?_
      refine WP_aload_n dX4_paste_44 rfl ?_
      refine gf_RX4_10 dX4_paste_45 rfl rfl h0 ?_
      refine WP_aload_n dX4_paste_48 rfl ?_
      refine gf_RX4_16 dX4_paste_49 rfl rfl h0 ?_
      rw [e5, e1, e2]
      refine callVv mX2_join [_, _] dX4_paste_52 okc_X2_join ok_260 ⟨by decide, by decide⟩ rfl rfl k5 rfl (Nat.le_of_ble_eq_true rfl) (Nat.le_of_ble_eq_true rfl) (Nat.le_of_ble_eq_true rfl) (w_join2 hK W2 (by omega)) (fun S1 h1 => ?_)
      obtain ⟨R3, I3, rfl, W3, i3⟩ := h1
      refine WP_aload_n dX4_paste_55 rfl ?_
      refine gf_RX4_28 dX4_paste_56 rfl rfl h0 ?_
      refine WP_aload_n dX4_paste_59 rfl ?_
      refine gf_RX4_10 dX4_paste_60 rfl rfl h0 ?_
      refine WP_aload_n dX4_paste_63 rfl ?_
      refine gf_RX4_22 dX4_paste_64 rfl rfl h0 ?_
      rw [e5, e1, e4]
      refine callVv mX2_join [_, _] dX4_paste_67 okc_X2_join ok_260 ⟨by decide, by decide⟩ rfl rfl k5 rfl (Nat.le_of_ble_eq_true rfl) (Nat.le_of_ble_eq_true rfl) (Nat.le_of_ble_eq_true rfl) (w_join4 hK W3 (by rw [tsz_join]; omega)) (fun S1 h1 => ?_)
      obtain ⟨R4, I4, rfl, W4, i4⟩ := h1
      have i9 : I4 2 = Ic 2 := i4.trans (i3.trans (i2.trans i1))
      refine WP_aload_n dX4_paste_70 rfl ?_
      refine gf_RX4_41 dX4_paste_71 rfl rfl h0 ?_
      refine WP_iload_n dX4_paste_74 rfl ?_
      refine WP_aload_n dX4_paste_75 rfl ?_
      refine gf_RX4_45 dX4_paste_76 rfl rfl h0 ?_
      rw [e7, e8]
      refine callVv mX1_moveIn [_, _] dX4_paste_79 okc_X1_moveIn ok_455 ⟨by decide, by decide⟩ rfl rfl k7.1 rfl (Nat.le_of_ble_eq_true rfl) (Nat.le_of_ble_eq_true rfl) (Nat.le_of_ble_eq_true rfl) (c_moveIn (E 7) (E 9) (E 8) (E 10) k (tsz t) (tsz c) k7 k8 d910 d78 (by rw [i9, hl1]) (by rw [i9, hl2]) hs (by omega)) (fun S1 h1 => ?_)
      subst h1
      refine WP_iload_n dX4_paste_82 rfl ?_
      refine WP_ireturn dX4_paste_83 rfl rfl (Nat.le_of_ble_eq_true rfl) (Nat.le_of_ble_eq_true rfl) ?_
      have et : vls t = vls (splT t k).1 ++ vls (splT t k).2 := by
        unfold vls
        rw [(splT_io t k).1, (splT_io t k).2, ← List.map_append, List.take_append_drop]
      have ed : ids t = ids (splT t k).1 ++ ids (splT t k).2 := by
        unfold ids
        rw [(splT_io t k).1, (splT_io t k).2, ← List.map_append, List.take_append_drop]
      refine cR_ok (A := (t, c, fg, n)) ⟨hK, cW_same W4 rfl rfl rfl rfl (fun j hj => ?_), ⟨?_, ?_⟩, ?_, ?_, hfg, ?_, fun q p h1 h2 => ?_⟩
      · rw [u2_o _ _ _ hj, u2_o _ _ _ hj]
      · rw [u2_na _ _ _ _ d78, u2_eq]
        refine congrArg nI ?_
        show _ = tsz (jn3 _)
        rw [jn3_sz]
        show _ = tsz (splT t k).1 + tsz c + tsz (splT t k).2
        omega
      · rw [u2_eq]
        rfl
      · rw [va_up_self]
        show rowV _ (vls (jn3 _))
        rw [vls3]
        have hv1 := hv1
        rw [et] at hv1
        have := rowV_in (n := tsz t) hv1 hv2 (by rw [vls_len, vls_len]; omega)
        rw [vls_len, vls_len, show tsz (splT t k).1 = k by omega] at this
        exact this
      · intro j hj
        exact absurd hj (Nat.not_lt_zero _)
      · show tsz (jn3 _) + 0 ≤ 60
        rw [jn3_sz]
        show tsz (splT t k).1 + tsz c + tsz (splT t k).2 + 0 ≤ 60
        omega
      · have h3 : p ∈ ids t ∨ p ∈ ids c := hA2 q p h1 h2
        refine Or.inl ?_
        show p ∈ ids (jn3 _)
        rw [ids3]
        rw [ed] at h3
        simp only [List.mem_append] at h3 ⊢
        rcases h3 with (h3 | h3) | h3
        · exact Or.inl (Or.inl h3)
        · exact Or.inr h3
        · exact Or.inl (Or.inr h3)
/-- the node of a finger, where it is in the sequence -/
theorem in_ids {p : Nat × Nat} (h : p ∈ ids t) : ∃ v, (p.1, p.2, v) ∈ io t := by
  obtain ⟨x, h1, h2⟩ := List.mem_map.mp h
  subst h2
  exact ⟨x.2.2, h1⟩
theorem ids_kl {p : Nat × Nat} (h : p ∈ ids t) : p.1 ∈ kl kA t := by
  obtain ⟨v, h⟩ := in_ids h
  exact kl_mem h
theorem kl_ids {a : Nat} (h : a ∈ kl kA t) : ∃ i, (a, i) ∈ ids t := by
  obtain ⟨x, h1, h2⟩ := List.mem_map.mp h
  subst h2
  exact ⟨x.2.1, List.mem_map.mpr ⟨x, h1, rfl⟩⟩
theorem kl_eq (t : Tr) : kl kA t = (ids t).map (·.1) := by
  unfold kl ids
  rw [List.map_map]
  rfl
theorem nodup_fst {l : List (Nat × Nat)} (h : (l.map (·.1)).Nodup) {p q : Nat × Nat} (hp : p ∈ l) (hq : q ∈ l) (e : p.1 = q.1) : p = q := by
  induction l with
  | nil => cases hp
  | cons x l ih =>
    rw [List.map_cons, List.nodup_cons] at h
    rcases List.mem_cons.mp hp with e1 | hp2
    · rcases List.mem_cons.mp hq with e2 | hq2
      · rw [e1, e2]
      · exact absurd (List.mem_map.mpr ⟨q, hq2, by rw [← e, e1]⟩) h.1
    · rcases List.mem_cons.mp hq with e2 | hq2
      · exact absurd (List.mem_map.mpr ⟨p, hp2, by rw [e, e2]⟩) h.1
      · exact ih h.2 hp2 hq2
theorem nodup_of {l : List (Nat × Nat)} (h : (l.map (·.1)).Nodup) : l.Nodup := by
  induction l with
  | nil => exact List.nodup_nil
  | cons x l ih =>
    rw [List.map_cons, List.nodup_cons] at h
    exact List.nodup_cons.mpr ⟨fun e => h.1 (List.mem_map.mpr ⟨x, e, rfl⟩), ih h.2⟩
theorem idxOf_at {l : List (Nat × Nat)} (h : l.Nodup) {p : Nat × Nat} {k : Nat} (hk : l[k]? = some p) : l.idxOf p = k := by
  obtain ⟨hlt, hk⟩ := List.getElem?_eq_some_iff.mp hk
  subst hk
  exact h.idxOf_getElem k hlt
/-- a node of a tree, by its pair: where it is -/
theorem pos_at {p : Nat × Nat} (hn : (kl kA t).Nodup) (h : p ∈ ids t) : ∃ fs v l r, t = plug fs (nd p.1 p.2 v l r) ∧ (bef fs).length + tsz l = posA t p ∧ posA t p < tsz t ∧ rk kA (zat t (posA t p) []).1 = some p.1 ∧ zat t (posA t p) [] = (nd p.1 p.2 v l r, fs) := by
  obtain ⟨v, hv⟩ := in_ids h
  obtain ⟨fs, l, r, e⟩ := zip_of t hv
  have hz := zat_at fs p.1 p.2 v l r
  rw [← e] at hz
  have hsz := tsz_bef fs (nd p.1 p.2 v l r)
  rw [← e] at hsz
  have hsz : tsz t = (bef fs).length + (tsz l + 1 + tsz r) + (aft fs).length := hsz
  have hlt : (bef fs).length + tsz l < tsz t := by omega
  obtain ⟨fs', a', i', v', l', r', z1, -, -, -, -, -, z2⟩ := at_zip hlt
  rw [hz] at z1
  cases z1
  have hpos : posA t p = (bef fs).length + tsz l := by
    unfold posA
    refine idxOf_at ?_ ?_
    · rw [kl_eq] at hn
      exact nodup_of hn
    · unfold ids
      rw [List.getElem?_map, z2]
      rfl
  rw [hpos]
  exact ⟨fs, v, l, r, e, rfl, hlt, by rw [hz]; rfl, hz⟩
end CL2
