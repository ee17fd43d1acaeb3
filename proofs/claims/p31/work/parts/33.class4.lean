/-! ===== SplaySequence: what each call does (4): readers, insert, remove ===== -/
section CL4
variable {G : GC} {L : List Nat} {K AN : Nat → Nat} {R0 Rc : Nat → Nat → Option Nat} {Ic AIc Im AIm : Nat → Nat → Int32} {AR : Nat → Nat → Option Nat} {AL : Nat → Nat → Int64} {E : Nat → Nat} {t c : Tr} {fg : Nat → Option (Nat × Nat)} {n : Cn}
/-- an answer, and nothing is changed -/
def cV (S : SS) (v : Int32) : RS → SS → Prop := rI (fun x S' => x = v ∧ S' = S)
theorem k_lastSteps (hI : cI E L K AN R0 Rc Ic AIc AR (t, c, fg, n)) : MT G mX4_lastSteps [vr (some (E 0))] (mkS L K AN R0 Rc Ic AIc AR Im AIm AL) (cV (mkS L K AN R0 Rc Ic AIc AR Im AIm AL) n.1) := by
  have hI9 := hI
  obtain ⟨hK, hW, ⟨hl1, hl2⟩, hv1, hv2, hfg, hA1, hA2⟩ := hI9
  have hW : cW E L K Rc Ic (t, c, .leaf, .leaf) n := hW
  have hl1 : Ic 2 (E 7) = nI (tsz t) := hl1
  have hl2 : Ic 2 (E 8) = nI (tsz c) := hl2
  have hv1 : rowV (AIc (E 9)) (vls t) := hv1
  have hv2 : rowV (AIc (E 10)) (vls c) := hv2
  have hfg : ∀ k, k < 4 → AR (E 6) k = (fg k).map (·.1) := hfg
  have hs : tsz t + tsz c ≤ 60 := hA1
  have hA2 : ∀ k p, k < 4 → fg k = some p → p ∈ ids t ∨ p ∈ ids c := hA2
  have h0 := hK.1
  obtain ⟨k1, k2, k3, k4⟩ := hK.2.2.1
  have k5 := hK.2.2.2.1
  obtain ⟨k6, n6⟩ := hK.2.2.2.2.1
  have k7 := hK.2.2.2.2.2.1
  have k8 := hK.2.2.2.2.2.2.1
  obtain ⟨d78, d910⟩ := hK.2.2.2.2.2.2.2.1
  obtain ⟨e1, e2, e3, e4, e5, e6, e7, e8⟩ := hK.2.1
  refine MT_of (by decide) rfl (Nat.le_of_ble_eq_true rfl) ?_
  refine WP_aload_n dX4_lastSteps_0 rfl ?_
  refine gf_RX4_28 dX4_lastSteps_1 rfl rfl h0 ?_
  rw [e5]
  refine gf_RX4_180 dX4_lastSteps_4 rfl rfl k5 ?_
  refine WP_ireturn dX4_lastSteps_7 rfl rfl (Nat.le_of_ble_eq_true rfl) (Nat.le_of_ble_eq_true rfl) ?_
  exact ⟨_, rfl, by rw [← hW.2.2]; rfl, rfl⟩
theorem k_lastRotations (hI : cI E L K AN R0 Rc Ic AIc AR (t, c, fg, n)) : MT G mX4_lastRotations [vr (some (E 0))] (mkS L K AN R0 Rc Ic AIc AR Im AIm AL) (cV (mkS L K AN R0 Rc Ic AIc AR Im AIm AL) n.2.1) := by
  have hI9 := hI
  obtain ⟨hK, hW, ⟨hl1, hl2⟩, hv1, hv2, hfg, hA1, hA2⟩ := hI9
  have hW : cW E L K Rc Ic (t, c, .leaf, .leaf) n := hW
  have hl1 : Ic 2 (E 7) = nI (tsz t) := hl1
  have hl2 : Ic 2 (E 8) = nI (tsz c) := hl2
  have hv1 : rowV (AIc (E 9)) (vls t) := hv1
  have hv2 : rowV (AIc (E 10)) (vls c) := hv2
  have hfg : ∀ k, k < 4 → AR (E 6) k = (fg k).map (·.1) := hfg
  have hs : tsz t + tsz c ≤ 60 := hA1
  have hA2 : ∀ k p, k < 4 → fg k = some p → p ∈ ids t ∨ p ∈ ids c := hA2
  have h0 := hK.1
  obtain ⟨k1, k2, k3, k4⟩ := hK.2.2.1
  have k5 := hK.2.2.2.1
  obtain ⟨k6, n6⟩ := hK.2.2.2.2.1
  have k7 := hK.2.2.2.2.2.1
  have k8 := hK.2.2.2.2.2.2.1
  obtain ⟨d78, d910⟩ := hK.2.2.2.2.2.2.2.1
  obtain ⟨e1, e2, e3, e4, e5, e6, e7, e8⟩ := hK.2.1
  refine MT_of (by decide) rfl (Nat.le_of_ble_eq_true rfl) ?_
  refine WP_aload_n dX4_lastRotations_0 rfl ?_
  refine gf_RX4_28 dX4_lastRotations_1 rfl rfl h0 ?_
  rw [e5]
  refine gf_RX4_183 dX4_lastRotations_4 rfl rfl k5 ?_
  refine WP_ireturn dX4_lastRotations_7 rfl rfl (Nat.le_of_ble_eq_true rfl) (Nat.le_of_ble_eq_true rfl) ?_
  exact ⟨_, rfl, by rw [← hW.2.2]; rfl, rfl⟩
theorem k_steps (hI : cI E L K AN R0 Rc Ic AIc AR (t, c, fg, n)) : MT G mX4_steps [vr (some (E 0))] (mkS L K AN R0 Rc Ic AIc AR Im AIm AL) (cV (mkS L K AN R0 Rc Ic AIc AR Im AIm AL) n.2.2.1) := by
  have hI9 := hI
  obtain ⟨hK, hW, ⟨hl1, hl2⟩, hv1, hv2, hfg, hA1, hA2⟩ := hI9
  have hW : cW E L K Rc Ic (t, c, .leaf, .leaf) n := hW
  have hl1 : Ic 2 (E 7) = nI (tsz t) := hl1
  have hl2 : Ic 2 (E 8) = nI (tsz c) := hl2
  have hv1 : rowV (AIc (E 9)) (vls t) := hv1
  have hv2 : rowV (AIc (E 10)) (vls c) := hv2
  have hfg : ∀ k, k < 4 → AR (E 6) k = (fg k).map (·.1) := hfg
  have hs : tsz t + tsz c ≤ 60 := hA1
  have hA2 : ∀ k p, k < 4 → fg k = some p → p ∈ ids t ∨ p ∈ ids c := hA2
  have h0 := hK.1
  obtain ⟨k1, k2, k3, k4⟩ := hK.2.2.1
  have k5 := hK.2.2.2.1
  obtain ⟨k6, n6⟩ := hK.2.2.2.2.1
  have k7 := hK.2.2.2.2.2.1
  have k8 := hK.2.2.2.2.2.2.1
  obtain ⟨d78, d910⟩ := hK.2.2.2.2.2.2.2.1
  obtain ⟨e1, e2, e3, e4, e5, e6, e7, e8⟩ := hK.2.1
  refine MT_of (by decide) rfl (Nat.le_of_ble_eq_true rfl) ?_
  refine WP_aload_n dX4_steps_0 rfl ?_
  refine gf_RX4_28 dX4_steps_1 rfl rfl h0 ?_
  rw [e5]
  refine gf_RX4_186 dX4_steps_4 rfl rfl k5 ?_
  refine WP_ireturn dX4_steps_7 rfl rfl (Nat.le_of_ble_eq_true rfl) (Nat.le_of_ble_eq_true rfl) ?_
  exact ⟨_, rfl, by rw [← hW.2.2]; rfl, rfl⟩
theorem k_splays (hI : cI E L K AN R0 Rc Ic AIc AR (t, c, fg, n)) : MT G mX4_splays [vr (some (E 0))] (mkS L K AN R0 Rc Ic AIc AR Im AIm AL) (cV (mkS L K AN R0 Rc Ic AIc AR Im AIm AL) n.2.2.2) := by
  have hI9 := hI
  obtain ⟨hK, hW, ⟨hl1, hl2⟩, hv1, hv2, hfg, hA1, hA2⟩ := hI9
  have hW : cW E L K Rc Ic (t, c, .leaf, .leaf) n := hW
  have hl1 : Ic 2 (E 7) = nI (tsz t) := hl1
  have hl2 : Ic 2 (E 8) = nI (tsz c) := hl2
  have hv1 : rowV (AIc (E 9)) (vls t) := hv1
  have hv2 : rowV (AIc (E 10)) (vls c) := hv2
  have hfg : ∀ k, k < 4 → AR (E 6) k = (fg k).map (·.1) := hfg
  have hs : tsz t + tsz c ≤ 60 := hA1
  have hA2 : ∀ k p, k < 4 → fg k = some p → p ∈ ids t ∨ p ∈ ids c := hA2
  have h0 := hK.1
  obtain ⟨k1, k2, k3, k4⟩ := hK.2.2.1
  have k5 := hK.2.2.2.1
  obtain ⟨k6, n6⟩ := hK.2.2.2.2.1
  have k7 := hK.2.2.2.2.2.1
  have k8 := hK.2.2.2.2.2.2.1
  obtain ⟨d78, d910⟩ := hK.2.2.2.2.2.2.2.1
  obtain ⟨e1, e2, e3, e4, e5, e6, e7, e8⟩ := hK.2.1
  refine MT_of (by decide) rfl (Nat.le_of_ble_eq_true rfl) ?_
  refine WP_aload_n dX4_splays_0 rfl ?_
  refine gf_RX4_28 dX4_splays_1 rfl rfl h0 ?_
  rw [e5]
  refine gf_RX4_189 dX4_splays_4 rfl rfl k5 ?_
  refine WP_ireturn dX4_splays_7 rfl rfl (Nat.le_of_ble_eq_true rfl) (Nat.le_of_ble_eq_true rfl) ?_
  exact ⟨_, rfl, by rw [← hW.2.2]; rfl, rfl⟩
theorem k_potential (hI : cI E L K AN R0 Rc Ic AIc AR (t, c, fg, n)) : MT G mX4_potential [vr (some (E 0))] (mkS L K AN R0 Rc Ic AIc AR Im AIm AL) (cV (mkS L K AN R0 Rc Ic AIc AR Im AIm AL) (nI (rkS t + rkS c))) := by
  have hI9 := hI
  obtain ⟨hK, hW, ⟨hl1, hl2⟩, hv1, hv2, hfg, hA1, hA2⟩ := hI9
  have hW : cW E L K Rc Ic (t, c, .leaf, .leaf) n := hW
  have hl1 : Ic 2 (E 7) = nI (tsz t) := hl1
  have hl2 : Ic 2 (E 8) = nI (tsz c) := hl2
  have hv1 : rowV (AIc (E 9)) (vls t) := hv1
  have hv2 : rowV (AIc (E 10)) (vls c) := hv2
  have hfg : ∀ k, k < 4 → AR (E 6) k = (fg k).map (·.1) := hfg
  have hs : tsz t + tsz c ≤ 60 := hA1
  have hA2 : ∀ k p, k < 4 → fg k = some p → p ∈ ids t ∨ p ∈ ids c := hA2
  have h0 := hK.1
  obtain ⟨k1, k2, k3, k4⟩ := hK.2.2.1
  have k5 := hK.2.2.2.1
  obtain ⟨k6, n6⟩ := hK.2.2.2.2.1
  have k7 := hK.2.2.2.2.2.1
  have k8 := hK.2.2.2.2.2.2.1
  obtain ⟨d78, d910⟩ := hK.2.2.2.2.2.2.2.1
  obtain ⟨e1, e2, e3, e4, e5, e6, e7, e8⟩ := hK.2.1
  refine MT_of (by decide) rfl (Nat.le_of_ble_eq_true rfl) ?_
  refine WP_aload_n dX4_potential_0 rfl ?_
  refine gf_RX4_10 dX4_potential_1 rfl rfl h0 ?_
  rw [e1]
  refine callVi mX3_sumOfRanks [] dX4_potential_4 okc_X3_sumOfRanks ok_610 ⟨by decide, by decide⟩ rfl rfl k1 rfl (Nat.le_of_ble_eq_true rfl) (Nat.le_of_ble_eq_true rfl) (Nat.le_of_ble_eq_true rfl) (c_sumOfRanks (E 1) t k1 hW.2.1.1 (by omega) (cW_nd hW).1 (cW_T hW).1) (fun x1 S1 h1 => ?_)
  obtain ⟨rfl, rfl⟩ := h1
  refine WP_aload_n dX4_potential_7 rfl ?_
  refine gf_RX4_16 dX4_potential_8 rfl rfl h0 ?_
  rw [e2]
  refine callVi mX3_sumOfRanks [] dX4_potential_11 okc_X3_sumOfRanks ok_610 ⟨by decide, by decide⟩ rfl rfl k2 rfl (Nat.le_of_ble_eq_true rfl) (Nat.le_of_ble_eq_true rfl) (Nat.le_of_ble_eq_true rfl) (c_sumOfRanks (E 2) c k2 hW.2.1.2.1 (by omega) (cW_nd hW).2.1 (cW_T hW).2.1) (fun x1 S1 h1 => ?_)
  obtain ⟨rfl, rfl⟩ := h1
  refine WP_iadd dX4_potential_14 ?_
  refine WP_ireturn dX4_potential_15 rfl rfl (Nat.le_of_ble_eq_true rfl) (Nat.le_of_ble_eq_true rfl) ?_
  exact ⟨_, rfl, nI_add _ _, rfl⟩
theorem k_size (hI : cI E L K AN R0 Rc Ic AIc AR (t, c, fg, n)) : MT G mX4_size [vr (some (E 0))] (mkS L K AN R0 Rc Ic AIc AR Im AIm AL) (cV (mkS L K AN R0 Rc Ic AIc AR Im AIm AL) (nI (tsz t))) := by
  have hI9 := hI
  obtain ⟨hK, hW, ⟨hl1, hl2⟩, hv1, hv2, hfg, hA1, hA2⟩ := hI9
  have hW : cW E L K Rc Ic (t, c, .leaf, .leaf) n := hW
  have hl1 : Ic 2 (E 7) = nI (tsz t) := hl1
  have hl2 : Ic 2 (E 8) = nI (tsz c) := hl2
  have hv1 : rowV (AIc (E 9)) (vls t) := hv1
  have hv2 : rowV (AIc (E 10)) (vls c) := hv2
  have hfg : ∀ k, k < 4 → AR (E 6) k = (fg k).map (·.1) := hfg
  have hs : tsz t + tsz c ≤ 60 := hA1
  have hA2 : ∀ k p, k < 4 → fg k = some p → p ∈ ids t ∨ p ∈ ids c := hA2
  have h0 := hK.1
  obtain ⟨k1, k2, k3, k4⟩ := hK.2.2.1
  have k5 := hK.2.2.2.1
  obtain ⟨k6, n6⟩ := hK.2.2.2.2.1
  have k7 := hK.2.2.2.2.2.1
  have k8 := hK.2.2.2.2.2.2.1
  obtain ⟨d78, d910⟩ := hK.2.2.2.2.2.2.2.1
  obtain ⟨e1, e2, e3, e4, e5, e6, e7, e8⟩ := hK.2.1
  refine MT_of (by decide) rfl (Nat.le_of_ble_eq_true rfl) ?_
  refine WP_aload_n dX4_size_0 rfl ?_
  refine gf_RX4_10 dX4_size_1 rfl rfl h0 ?_
  rw [e1]
  refine callVi mX3_count [] dX4_size_4 okc_X3_count ok_134 ⟨by decide, by decide⟩ rfl rfl k1 rfl (Nat.le_of_ble_eq_true rfl) (Nat.le_of_ble_eq_true rfl) (Nat.le_of_ble_eq_true rfl) (c_count (E 1) t k1 hW.2.1.1 (cW_T hW).1) (fun x1 S1 h1 => ?_)
  obtain ⟨rfl, rfl⟩ := h1
  refine WP_ireturn dX4_size_7 rfl rfl (Nat.le_of_ble_eq_true rfl) (Nat.le_of_ble_eq_true rfl) ?_
  exact ⟨_, rfl, rfl, rfl⟩
theorem k_clipped (hI : cI E L K AN R0 Rc Ic AIc AR (t, c, fg, n)) : MT G mX4_clipped [vr (some (E 0))] (mkS L K AN R0 Rc Ic AIc AR Im AIm AL) (cV (mkS L K AN R0 Rc Ic AIc AR Im AIm AL) (nI (tsz c))) := by
  have hI9 := hI
  obtain ⟨hK, hW, ⟨hl1, hl2⟩, hv1, hv2, hfg, hA1, hA2⟩ := hI9
  have hW : cW E L K Rc Ic (t, c, .leaf, .leaf) n := hW
  have hl1 : Ic 2 (E 7) = nI (tsz t) := hl1
  have hl2 : Ic 2 (E 8) = nI (tsz c) := hl2
  have hv1 : rowV (AIc (E 9)) (vls t) := hv1
  have hv2 : rowV (AIc (E 10)) (vls c) := hv2
  have hfg : ∀ k, k < 4 → AR (E 6) k = (fg k).map (·.1) := hfg
  have hs : tsz t + tsz c ≤ 60 := hA1
  have hA2 : ∀ k p, k < 4 → fg k = some p → p ∈ ids t ∨ p ∈ ids c := hA2
  have h0 := hK.1
  obtain ⟨k1, k2, k3, k4⟩ := hK.2.2.1
  have k5 := hK.2.2.2.1
  obtain ⟨k6, n6⟩ := hK.2.2.2.2.1
  have k7 := hK.2.2.2.2.2.1
  have k8 := hK.2.2.2.2.2.2.1
  obtain ⟨d78, d910⟩ := hK.2.2.2.2.2.2.2.1
  obtain ⟨e1, e2, e3, e4, e5, e6, e7, e8⟩ := hK.2.1
  refine MT_of (by decide) rfl (Nat.le_of_ble_eq_true rfl) ?_
  refine WP_aload_n dX4_clipped_0 rfl ?_
  refine gf_RX4_16 dX4_clipped_1 rfl rfl h0 ?_
  rw [e2]
  refine callVi mX3_count [] dX4_clipped_4 okc_X3_count ok_134 ⟨by decide, by decide⟩ rfl rfl k2 rfl (Nat.le_of_ble_eq_true rfl) (Nat.le_of_ble_eq_true rfl) (Nat.le_of_ble_eq_true rfl) (c_count (E 2) c k2 hW.2.1.2.1 (cW_T hW).2.1) (fun x1 S1 h1 => ?_)
  obtain ⟨rfl, rfl⟩ := h1
  refine WP_ireturn dX4_clipped_7 rfl rfl (Nat.le_of_ble_eq_true rfl) (Nat.le_of_ble_eq_true rfl) ?_
  exact ⟨_, rfl, rfl, rfl⟩
theorem k_root (hI : cI E L K AN R0 Rc Ic AIc AR (t, c, fg, n)) : MT G mX4_root [vr (some (E 0))] (mkS L K AN R0 Rc Ic AIc AR Im AIm AL) (cV (mkS L K AN R0 Rc Ic AIc AR Im AIm AL) (posP [] t)) := by
  have hI9 := hI
  obtain ⟨hK, hW, ⟨hl1, hl2⟩, hv1, hv2, hfg, hA1, hA2⟩ := hI9
  have hW : cW E L K Rc Ic (t, c, .leaf, .leaf) n := hW
  have hl1 : Ic 2 (E 7) = nI (tsz t) := hl1
  have hl2 : Ic 2 (E 8) = nI (tsz c) := hl2
  have hv1 : rowV (AIc (E 9)) (vls t) := hv1
  have hv2 : rowV (AIc (E 10)) (vls c) := hv2
  have hfg : ∀ k, k < 4 → AR (E 6) k = (fg k).map (·.1) := hfg
  have hs : tsz t + tsz c ≤ 60 := hA1
  have hA2 : ∀ k p, k < 4 → fg k = some p → p ∈ ids t ∨ p ∈ ids c := hA2
  have h0 := hK.1
  obtain ⟨k1, k2, k3, k4⟩ := hK.2.2.1
  have k5 := hK.2.2.2.1
  obtain ⟨k6, n6⟩ := hK.2.2.2.2.1
  have k7 := hK.2.2.2.2.2.1
  have k8 := hK.2.2.2.2.2.2.1
  obtain ⟨d78, d910⟩ := hK.2.2.2.2.2.2.2.1
  obtain ⟨e1, e2, e3, e4, e5, e6, e7, e8⟩ := hK.2.1
  refine MT_of (by decide) rfl (Nat.le_of_ble_eq_true rfl) ?_
  refine WP_aload_n dX4_root_0 rfl ?_
  refine gf_RX4_10 dX4_root_1 rfl rfl h0 ?_
  rw [e1]
  refine gf_RX4_86 dX4_root_4 rfl rfl k1 ?_
  rw [show Rc 3 (E 1) = rk kA t from hW.2.1.1]
  refine callSi mX4_positionOrNone [_] dX4_root_7 okc_X4_positionOrNone ok_575 ⟨by decide, by decide⟩ rfl rfl (Nat.le_of_ble_eq_true rfl) (Nat.le_of_ble_eq_true rfl) (Nat.le_of_ble_eq_true rfl) (c_posOr [] t (cW_nd hW).1 (cW_T hW).1) rfl (fun x1 S1 h1 => ?_)
  obtain ⟨rfl, rfl⟩ := h1
  refine WP_ireturn dX4_root_10 rfl rfl (Nat.le_of_ble_eq_true rfl) (Nat.le_of_ble_eq_true rfl) ?_
  exact ⟨_, rfl, rfl, rfl⟩
theorem k_height (hI : cI E L K AN R0 Rc Ic AIc AR (t, c, fg, n)) : MT G mX4_height [vr (some (E 0))] (mkS L K AN R0 Rc Ic AIc AR Im AIm AL) (cV (mkS L K AN R0 Rc Ic AIc AR Im AIm AL) (nI (lvT t 0 0))) := by
  have hI9 := hI
  obtain ⟨hK, hW, ⟨hl1, hl2⟩, hv1, hv2, hfg, hA1, hA2⟩ := hI9
  have hW : cW E L K Rc Ic (t, c, .leaf, .leaf) n := hW
  have hl1 : Ic 2 (E 7) = nI (tsz t) := hl1
  have hl2 : Ic 2 (E 8) = nI (tsz c) := hl2
  have hv1 : rowV (AIc (E 9)) (vls t) := hv1
  have hv2 : rowV (AIc (E 10)) (vls c) := hv2
  have hfg : ∀ k, k < 4 → AR (E 6) k = (fg k).map (·.1) := hfg
  have hs : tsz t + tsz c ≤ 60 := hA1
  have hA2 : ∀ k p, k < 4 → fg k = some p → p ∈ ids t ∨ p ∈ ids c := hA2
  have h0 := hK.1
  obtain ⟨k1, k2, k3, k4⟩ := hK.2.2.1
  have k5 := hK.2.2.2.1
  obtain ⟨k6, n6⟩ := hK.2.2.2.2.1
  have k7 := hK.2.2.2.2.2.1
  have k8 := hK.2.2.2.2.2.2.1
  obtain ⟨d78, d910⟩ := hK.2.2.2.2.2.2.2.1
  obtain ⟨e1, e2, e3, e4, e5, e6, e7, e8⟩ := hK.2.1
  refine MT_of (by decide) rfl (Nat.le_of_ble_eq_true rfl) ?_
  refine WP_aload_n dX4_height_0 rfl ?_
  refine gf_RX4_10 dX4_height_1 rfl rfl h0 ?_
  rw [e1]
  refine callVi mX3_levels [] dX4_height_4 okc_X3_levels ok_586 ⟨by decide, by decide⟩ rfl rfl k1 rfl (Nat.le_of_ble_eq_true rfl) (Nat.le_of_ble_eq_true rfl) (Nat.le_of_ble_eq_true rfl) (c_levels (E 1) t k1 hW.2.1.1 (by omega) (cW_nd hW).1 (cW_T hW).1) (fun x1 S1 h1 => ?_)
  obtain ⟨rfl, rfl⟩ := h1
  refine WP_ireturn dX4_height_7 rfl rfl (Nat.le_of_ble_eq_true rfl) (Nat.le_of_ble_eq_true rfl) ?_
  exact ⟨_, rfl, rfl, rfl⟩
theorem k_depth (x : Int32) (hI : cI E L K AN R0 Rc Ic AIc AR (t, c, fg, n)) :
    MT G mX4_depth [vr (some (E 0)), vi x] (mkS L K AN R0 Rc Ic AIc AR Im AIm AL) (cR [xO] (cJ E L K AN R0 Im AIm AL) (aDep (t, c, fg, n) x)) := by
  have hI9 := hI
  obtain ⟨hK, hW, ⟨hl1, hl2⟩, hv1, hv2, hfg, hA1, hA2⟩ := hI9
  have hW : cW E L K Rc Ic (t, c, .leaf, .leaf) n := hW
  have hl1 : Ic 2 (E 7) = nI (tsz t) := hl1
  have hl2 : Ic 2 (E 8) = nI (tsz c) := hl2
  have hv1 : rowV (AIc (E 9)) (vls t) := hv1
  have hv2 : rowV (AIc (E 10)) (vls c) := hv2
  have hfg : ∀ k, k < 4 → AR (E 6) k = (fg k).map (·.1) := hfg
  have hs : tsz t + tsz c ≤ 60 := hA1
  have hA2 : ∀ k p, k < 4 → fg k = some p → p ∈ ids t ∨ p ∈ ids c := hA2
  have h0 := hK.1
  obtain ⟨k1, k2, k3, k4⟩ := hK.2.2.1
  have k5 := hK.2.2.2.1
  obtain ⟨k6, n6⟩ := hK.2.2.2.2.1
  have k7 := hK.2.2.2.2.2.1
  have k8 := hK.2.2.2.2.2.2.1
  obtain ⟨d78, d910⟩ := hK.2.2.2.2.2.2.2.1
  obtain ⟨e1, e2, e3, e4, e5, e6, e7, e8⟩ := hK.2.1
  refine MT_of (by decide) rfl (Nat.le_of_ble_eq_true rfl) ?_
  refine WP_aload_n dX4_depth_0 rfl ?_
  refine WP_iload_n dX4_depth_1 rfl ?_
  refine callVtr mX4_nodeAt [_] dX4_depth_2 okc_X4_nodeAt ok_149 ⟨by decide, by decide⟩ rfl rfl h0 rfl (Nat.le_of_ble_eq_true rfl) (Nat.le_of_ble_eq_true rfl) (Nat.le_of_ble_eq_true rfl) (c_nodeAt x hK hW (by omega)) rfl (fun E9 S9 ht => ?_) (fun a S1 h1 => ?_)
  · obtain ⟨⟨rfl, hx⟩, rfl⟩ := ht
    unfold aDep
    rw [if_neg hx]
    exact cR_thr rfl hI
  · obtain ⟨⟨k, hk, rfl, ha⟩, rfl⟩ := h1
    obtain ⟨fs, a', i, v, l, r, z1, z2, z3, z4, z5, z6, z7⟩ := at_zip hk
    rw [z1] at ha
    have ha : some a' = some a := ha
    cases ha
    have ez : aDep (t, c, fg, n) (nI k) = (0, nI fs.length, (t, c, fg, n)) := by
      unfold aDep
      rw [if_pos (inP_nI hk (by omega)), pI_n (by omega), z4]
    rw [ez]
    have hc : cT L K Rc Ic t := (cW_T hW).1
    rw [z2] at hc
    have ka := (cz hc).1
    refine callVi mX0_nodesAbove [] dX4_depth_5 okc_X0_nodesAbove ok_556 ⟨by decide, by decide⟩ rfl rfl ka rfl (Nat.le_of_ble_eq_true rfl) (Nat.le_of_ble_eq_true rfl) (Nat.le_of_ble_eq_true rfl) (c_nodesAbove a i v l r fs hc) (fun x1 S1 h1 => ?_)
    obtain ⟨rfl, rfl⟩ := h1
    refine WP_ireturn dX4_depth_8 rfl rfl (Nat.le_of_ble_eq_true rfl) (Nat.le_of_ble_eq_true rfl) ?_
    exact cR_ok (A := (t, c, fg, n)) hI
theorem k_subtree (x : Int32) (hI : cI E L K AN R0 Rc Ic AIc AR (t, c, fg, n)) :
    MT G mX4_subtree [vr (some (E 0)), vi x] (mkS L K AN R0 Rc Ic AIc AR Im AIm AL) (cR [xO] (cJ E L K AN R0 Im AIm AL) (aSub (t, c, fg, n) x)) := by
  have hI9 := hI
  obtain ⟨hK, hW, ⟨hl1, hl2⟩, hv1, hv2, hfg, hA1, hA2⟩ := hI9
  have hW : cW E L K Rc Ic (t, c, .leaf, .leaf) n := hW
  have hl1 : Ic 2 (E 7) = nI (tsz t) := hl1
  have hl2 : Ic 2 (E 8) = nI (tsz c) := hl2
  have hv1 : rowV (AIc (E 9)) (vls t) := hv1
  have hv2 : rowV (AIc (E 10)) (vls c) := hv2
  have hfg : ∀ k, k < 4 → AR (E 6) k = (fg k).map (·.1) := hfg
  have hs : tsz t + tsz c ≤ 60 := hA1
  have hA2 : ∀ k p, k < 4 → fg k = some p → p ∈ ids t ∨ p ∈ ids c := hA2
  have h0 := hK.1
  obtain ⟨k1, k2, k3, k4⟩ := hK.2.2.1
  have k5 := hK.2.2.2.1
  obtain ⟨k6, n6⟩ := hK.2.2.2.2.1
  have k7 := hK.2.2.2.2.2.1
  have k8 := hK.2.2.2.2.2.2.1
  obtain ⟨d78, d910⟩ := hK.2.2.2.2.2.2.2.1
  obtain ⟨e1, e2, e3, e4, e5, e6, e7, e8⟩ := hK.2.1
  refine MT_of (by decide) rfl (Nat.le_of_ble_eq_true rfl) ?_
  refine WP_aload_n dX4_subtree_0 rfl ?_
  refine WP_iload_n dX4_subtree_1 rfl ?_
  refine callVtr mX4_nodeAt [_] dX4_subtree_2 okc_X4_nodeAt ok_149 ⟨by decide, by decide⟩ rfl rfl h0 rfl (Nat.le_of_ble_eq_true rfl) (Nat.le_of_ble_eq_true rfl) (Nat.le_of_ble_eq_true rfl) (c_nodeAt x hK hW (by omega)) rfl (fun E9 S9 ht => ?_) (fun a S1 h1 => ?_)
  · obtain ⟨⟨rfl, hx⟩, rfl⟩ := ht
    unfold aSub
    rw [if_neg hx]
    exact cR_thr rfl hI
  · obtain ⟨⟨k, hk, rfl, ha⟩, rfl⟩ := h1
    obtain ⟨fs, a', i, v, l, r, z1, z2, z3, z4, z5, z6, z7⟩ := at_zip hk
    rw [z1] at ha
    have ha : some a' = some a := ha
    cases ha
    have ez : aSub (t, c, fg, n) (nI k) = (0, nI (tsz l + 1 + tsz r), (t, c, fg, n)) := by
      unfold aSub
      rw [if_pos (inP_nI hk (by omega)), pI_n (by omega), z1]
      rfl
    rw [ez]
    have hc : cT L K Rc Ic t := (cW_T hW).1
    rw [z2] at hc
    obtain ⟨ka, -, -, -, kc, -⟩ := cz hc
    refine gf_RX4_205 dX4_subtree_5 rfl rfl ka ?_
    rw [kc]
    refine WP_ireturn dX4_subtree_8 rfl rfl (Nat.le_of_ble_eq_true rfl) (Nat.le_of_ble_eq_true rfl) ?_
    exact cR_ok (A := (t, c, fg, n)) hI
theorem k_child (x b : Int32) (hI : cI E L K AN R0 Rc Ic AIc AR (t, c, fg, n)) :
    MT G mX4_child [vr (some (E 0)), vi x, vi b] (mkS L K AN R0 Rc Ic AIc AR Im AIm AL) (cR [xO] (cJ E L K AN R0 Im AIm AL) (aChi (t, c, fg, n) x (decide (b ≠ 0)))) := by
  have hI9 := hI
  obtain ⟨hK, hW, ⟨hl1, hl2⟩, hv1, hv2, hfg, hA1, hA2⟩ := hI9
  have hW : cW E L K Rc Ic (t, c, .leaf, .leaf) n := hW
  have hl1 : Ic 2 (E 7) = nI (tsz t) := hl1
  have hl2 : Ic 2 (E 8) = nI (tsz c) := hl2
  have hv1 : rowV (AIc (E 9)) (vls t) := hv1
  have hv2 : rowV (AIc (E 10)) (vls c) := hv2
  have hfg : ∀ k, k < 4 → AR (E 6) k = (fg k).map (·.1) := hfg
  have hs : tsz t + tsz c ≤ 60 := hA1
  have hA2 : ∀ k p, k < 4 → fg k = some p → p ∈ ids t ∨ p ∈ ids c := hA2
  have h0 := hK.1
  obtain ⟨k1, k2, k3, k4⟩ := hK.2.2.1
  have k5 := hK.2.2.2.1
  obtain ⟨k6, n6⟩ := hK.2.2.2.2.1
  have k7 := hK.2.2.2.2.2.1
  have k8 := hK.2.2.2.2.2.2.1
  obtain ⟨d78, d910⟩ := hK.2.2.2.2.2.2.2.1
  obtain ⟨e1, e2, e3, e4, e5, e6, e7, e8⟩ := hK.2.1
  refine MT_of (by decide) rfl (Nat.le_of_ble_eq_true rfl) ?_
  refine WP_aload_n dX4_child_0 rfl ?_
  refine WP_iload_n dX4_child_1 rfl ?_
  refine callVtr mX4_nodeAt [_] dX4_child_2 okc_X4_nodeAt ok_149 ⟨by decide, by decide⟩ rfl rfl h0 rfl (Nat.le_of_ble_eq_true rfl) (Nat.le_of_ble_eq_true rfl) (Nat.le_of_ble_eq_true rfl) (c_nodeAt x hK hW (by omega)) rfl (fun E9 S9 ht => ?_) (fun a S1 h1 => ?_)
  · obtain ⟨⟨rfl, hx⟩, rfl⟩ := ht
    unfold aChi
    rw [if_neg hx]
    exact cR_thr rfl hI
  · obtain ⟨⟨k, hk, rfl, ha⟩, rfl⟩ := h1
    obtain ⟨fs, a', i, v, l, r, z1, z2, z3, z4, z5, z6, z7⟩ := at_zip hk
    rw [z1] at ha
    have ha : some a' = some a := ha
    cases ha
    have ez : aChi (t, c, fg, n) (nI k) (decide (b ≠ 0)) = (0, if b ≠ 0 then posP ((false, (a, i, v), l) :: fs) r else posP ((true, (a, i, v), r) :: fs) l, (t, c, fg, n)) := by
      unfold aChi
      rw [if_pos (inP_nI hk (by omega)), pI_n (by omega), z1]
      simp [chP]
    rw [ez]
    have hc : cT L K Rc Ic t := (cW_T hW).1
    have hnd : (kl kA t).Nodup := (cW_nd hW).1
    rw [z2] at hc hnd
    obtain ⟨ka, kl', kr, -, -, -⟩ := cz hc
    refine WP_astore_n dX4_child_5 (by decide) rfl ?_
    refine WP_iload_n dX4_child_6 rfl ?_
    refine WP_if_eq 17 dX4_child_7 (by decide) (fun h2 => ?_) (fun h2 => ?_)
    · rw [if_neg (fun h => h h2)]
      refine WP_aload_n dX4_child_17 rfl ?_
      refine gf_RX4_210 dX4_child_18 rfl rfl ka ?_
      rw [kl']
      refine callSi mX4_positionOrNone [_] dX4_child_21 okc_X4_positionOrNone ok_575 ⟨by decide, by decide⟩ rfl rfl (Nat.le_of_ble_eq_true rfl) (Nat.le_of_ble_eq_true rfl) (Nat.le_of_ble_eq_true rfl) (c_posOr ((true, (a, i, v), r) :: fs) l hnd hc) rfl (fun x1 S1 h1 => ?_)
      obtain ⟨rfl, rfl⟩ := h1
      refine WP_ireturn dX4_child_24 rfl rfl (Nat.le_of_ble_eq_true rfl) (Nat.le_of_ble_eq_true rfl) ?_
      exact cR_ok (A := (t, c, fg, n)) hI
    · rw [if_pos h2]
      refine WP_aload_n dX4_child_10 rfl ?_
      refine gf_RX4_207 dX4_child_11 rfl rfl ka ?_
      refine WP_goto 21 dX4_child_14 (by decide) ?_
      rw [kr]
      refine callSi mX4_positionOrNone [_] dX4_child_21 okc_X4_positionOrNone ok_575 ⟨by decide, by decide⟩ rfl rfl (Nat.le_of_ble_eq_true rfl) (Nat.le_of_ble_eq_true rfl) (Nat.le_of_ble_eq_true rfl) (c_posOr ((false, (a, i, v), l) :: fs) r hnd hc) rfl (fun x1 S1 h1 => ?_)
      obtain ⟨rfl, rfl⟩ := h1
      refine WP_ireturn dX4_child_24 rfl rfl (Nat.le_of_ble_eq_true rfl) (Nat.le_of_ble_eq_true rfl) ?_
      exact cR_ok (A := (t, c, fg, n)) hI
theorem k_whereIs (f : Int32) (hI : cI E L K AN R0 Rc Ic AIc AR (t, c, fg, n)) :
    MT G mX4_whereIs [vr (some (E 0)), vi f] (mkS L K AN R0 Rc Ic AIc AR Im AIm AL) (cR [xO] (cJ E L K AN R0 Im AIm AL) (aWhe (t, c, fg, n) f)) := by
  have hI9 := hI
  obtain ⟨hK, hW, ⟨hl1, hl2⟩, hv1, hv2, hfg, hA1, hA2⟩ := hI9
  have hW : cW E L K Rc Ic (t, c, .leaf, .leaf) n := hW
  have hl1 : Ic 2 (E 7) = nI (tsz t) := hl1
  have hl2 : Ic 2 (E 8) = nI (tsz c) := hl2
  have hv1 : rowV (AIc (E 9)) (vls t) := hv1
  have hv2 : rowV (AIc (E 10)) (vls c) := hv2
  have hfg : ∀ k, k < 4 → AR (E 6) k = (fg k).map (·.1) := hfg
  have hs : tsz t + tsz c ≤ 60 := hA1
  have hA2 : ∀ k p, k < 4 → fg k = some p → p ∈ ids t ∨ p ∈ ids c := hA2
  have h0 := hK.1
  obtain ⟨k1, k2, k3, k4⟩ := hK.2.2.1
  have k5 := hK.2.2.2.1
  obtain ⟨k6, n6⟩ := hK.2.2.2.2.1
  have k7 := hK.2.2.2.2.2.1
  have k8 := hK.2.2.2.2.2.2.1
  obtain ⟨d78, d910⟩ := hK.2.2.2.2.2.2.2.1
  obtain ⟨e1, e2, e3, e4, e5, e6, e7, e8⟩ := hK.2.1
  refine MT_of (by decide) rfl (Nat.le_of_ble_eq_true rfl) ?_
  refine WP_aload_n dX4_whereIs_0 rfl ?_
  refine WP_iload_n dX4_whereIs_1 rfl ?_
  refine callVtv mX4_checkFinger [_] dX4_whereIs_2 okc_X4_checkFinger ok_466 ⟨by decide, by decide⟩ rfl rfl h0 rfl (Nat.le_of_ble_eq_true rfl) (Nat.le_of_ble_eq_true rfl) (Nat.le_of_ble_eq_true rfl) (c_checkFinger f hK) rfl (fun E9 S9 ht => ?_) (fun S1 h1 => ?_)
  · obtain ⟨⟨rfl, hx⟩, rfl⟩ := ht
    unfold aWhe
    rw [if_neg hx]
    exact cR_thr rfl hI
  · obtain ⟨hf, rfl⟩ := h1
    obtain ⟨j, hj, rfl⟩ := inP_of hf (by decide)
    refine WP_aload_n dX4_whereIs_5 rfl ?_
    refine gf_RX4_34 dX4_whereIs_6 rfl rfl h0 ?_
    rw [e6]
    refine WP_iload_n dX4_whereIs_9 rfl ?_
    refine ald_9 j 4 dX4_whereIs_10 rfl k6 n6 rfl hj (by decide) ?_
    refine WP_astore_n dX4_whereIs_11 (by decide) rfl ?_
    refine WP_aload_n dX4_whereIs_12 rfl ?_
    rw [hfg j hj]
    cases hg : fg j with
    | none =>
      have ez : aWhe (t, c, fg, n) (nI j) = (0, 0, (t, c, fg, n)) := by
        unfold aWhe
        rw [if_pos hf, pI_n (by omega)]
        show (match fg j with | none => _ | some p => _) = _
        rw [hg]
      rw [ez]
      refine WP_ifnonnull 18 dX4_whereIs_13 (by decide) (fun p9 h1 => ?_) (fun h1 => ?_)
      · cases h1
      · refine WP_iconst (0) dX4_whereIs_16 (by decide) ?_
        refine WP_ireturn dX4_whereIs_17 rfl rfl (Nat.le_of_ble_eq_true rfl) (Nat.le_of_ble_eq_true rfl) ?_
        exact cR_ok (A := (t, c, fg, n)) hI
    | some p =>
      have hp := hA2 j p hj hg
      have ez : aWhe (t, c, fg, n) (nI j) = (0, if p ∈ ids t then 1 else 2, (t, c, fg, n)) := by
        unfold aWhe
        rw [if_pos hf, pI_n (by omega)]
        show (match fg j with | none => _ | some p => _) = _
        rw [hg]
      rw [ez]
      refine WP_ifnonnull 18 dX4_whereIs_13 (by decide) (fun p9 h1 => ?_) (fun h1 => ?_)
      · have h1 : some p.1 = some p9 := h1
        cases h1
        refine WP_aload_n dX4_whereIs_18 rfl ?_
        refine gf_RX4_10 dX4_whereIs_19 rfl rfl h0 ?_
        refine WP_aload_n dX4_whereIs_22 rfl ?_
        rw [e1]
        refine callVi mX3_holds [_] dX4_whereIs_23 okc_X3_holds ok_478 ⟨by decide, by decide⟩ rfl rfl k1 rfl (Nat.le_of_ble_eq_true rfl) (Nat.le_of_ble_eq_true rfl) (Nat.le_of_ble_eq_true rfl) (w_holds p hK hW hp) (fun x1 S1 h1 => ?_)
        obtain ⟨rfl, rfl⟩ := h1
        by_cases hin : p ∈ ids t
        · rw [if_pos hin, if_pos hin]
          refine WP_if_eq 33 dX4_whereIs_26 (by decide) (fun h2 => ?_) (fun h2 => ?_)
          · exact absurd h2 (by decide)
          · refine WP_iconst (1) dX4_whereIs_29 (by decide) ?_
            refine WP_goto 34 dX4_whereIs_30 (by decide) ?_
            refine WP_ireturn dX4_whereIs_34 rfl rfl (Nat.le_of_ble_eq_true rfl) (Nat.le_of_ble_eq_true rfl) ?_
            exact cR_ok (A := (t, c, fg, n)) hI
        · rw [if_neg hin, if_neg hin]
          refine WP_if_eq 33 dX4_whereIs_26 (by decide) (fun h2 => ?_) (fun h2 => ?_)
          · refine WP_iconst (2) dX4_whereIs_33 (by decide) ?_
            refine WP_ireturn dX4_whereIs_34 rfl rfl (Nat.le_of_ble_eq_true rfl) (Nat.le_of_ble_eq_true rfl) ?_
            exact cR_ok (A := (t, c, fg, n)) hI
          · exact absurd rfl h2
      · cases h1
theorem k_plain (x : Int32) (hI : cI E L K AN R0 Rc Ic AIc AR (t, c, fg, n)) :
    MT G mX4_plain [vr (some (E 0)), vi x] (mkS L K AN R0 Rc Ic AIc AR Im AIm AL) (cR [xO] (cJ E L K AN R0 Im AIm AL) (aPla (t, c, fg, n) x)) := by
  have hI9 := hI
  obtain ⟨hK, hW, ⟨hl1, hl2⟩, hv1, hv2, hfg, hA1, hA2⟩ := hI9
  have hW : cW E L K Rc Ic (t, c, .leaf, .leaf) n := hW
  have hl1 : Ic 2 (E 7) = nI (tsz t) := hl1
  have hl2 : Ic 2 (E 8) = nI (tsz c) := hl2
  have hv1 : rowV (AIc (E 9)) (vls t) := hv1
  have hv2 : rowV (AIc (E 10)) (vls c) := hv2
  have hfg : ∀ k, k < 4 → AR (E 6) k = (fg k).map (·.1) := hfg
  have hs : tsz t + tsz c ≤ 60 := hA1
  have hA2 : ∀ k p, k < 4 → fg k = some p → p ∈ ids t ∨ p ∈ ids c := hA2
  have h0 := hK.1
  obtain ⟨k1, k2, k3, k4⟩ := hK.2.2.1
  have k5 := hK.2.2.2.1
  obtain ⟨k6, n6⟩ := hK.2.2.2.2.1
  have k7 := hK.2.2.2.2.2.1
  have k8 := hK.2.2.2.2.2.2.1
  obtain ⟨d78, d910⟩ := hK.2.2.2.2.2.2.2.1
  obtain ⟨e1, e2, e3, e4, e5, e6, e7, e8⟩ := hK.2.1
  refine MT_of (by decide) rfl (Nat.le_of_ble_eq_true rfl) ?_
  refine WP_aload_n dX4_plain_0 rfl ?_
  refine WP_iload_n dX4_plain_1 rfl ?_
  refine callVtr mX4_nodeAt [_] dX4_plain_2 okc_X4_nodeAt ok_149 ⟨by decide, by decide⟩ rfl rfl h0 rfl (Nat.le_of_ble_eq_true rfl) (Nat.le_of_ble_eq_true rfl) (Nat.le_of_ble_eq_true rfl) (c_nodeAt x hK hW (by omega)) rfl (fun E9 S9 ht => ?_) (fun a S1 h1 => ?_)
  · obtain ⟨⟨rfl, hx⟩, rfl⟩ := ht
    unfold aPla
    rw [if_neg hx]
    exact cR_thr rfl hI
  · obtain ⟨⟨k, hk, rfl, ha⟩, rfl⟩ := h1
    have ez : aPla (t, c, fg, n) (nI k) = (0, vAt t k, (t, c, fg, n)) := by
      unfold aPla
      rw [if_pos (inP_nI hk (by omega)), pI_n (by omega)]
    rw [ez]
    refine WP_pop dX4_plain_5 rfl ?_
    refine WP_aload_n dX4_plain_6 rfl ?_
    refine gf_RX4_41 dX4_plain_7 rfl rfl h0 ?_
    refine WP_iload_n dX4_plain_10 rfl ?_
    rw [e7]
    refine callVi mX1_valueAt [_] dX4_plain_11 okc_X1_valueAt ok_564 ⟨by decide, by decide⟩ rfl rfl k7.1 rfl (Nat.le_of_ble_eq_true rfl) (Nat.le_of_ble_eq_true rfl) (Nat.le_of_ble_eq_true rfl) (c_valueAt (E 7) (E 9) k (tsz t) k7 hl1 (by omega) hk) (fun x1 S1 h1 => ?_)
    obtain ⟨rfl, rfl⟩ := h1
    rw [vAt_row hv1 hk]
    refine WP_ireturn dX4_plain_14 rfl rfl (Nat.le_of_ble_eq_true rfl) (Nat.le_of_ble_eq_true rfl) ?_
    exact cR_ok (A := (t, c, fg, n)) hI
theorem k_plainSum (x y : Int32) (hI : cI E L K AN R0 Rc Ic AIc AR (t, c, fg, n)) :
    MT G mX4_plainSum [vr (some (E 0)), vi x, vi y] (mkS L K AN R0 Rc Ic AIc AR Im AIm AL) (cR [xO] (cJ E L K AN R0 Im AIm AL) (aPSu (t, c, fg, n) x y)) := by
  have hI9 := hI
  obtain ⟨hK, hW, ⟨hl1, hl2⟩, hv1, hv2, hfg, hA1, hA2⟩ := hI9
  have hW : cW E L K Rc Ic (t, c, .leaf, .leaf) n := hW
  have hl1 : Ic 2 (E 7) = nI (tsz t) := hl1
  have hl2 : Ic 2 (E 8) = nI (tsz c) := hl2
  have hv1 : rowV (AIc (E 9)) (vls t) := hv1
  have hv2 : rowV (AIc (E 10)) (vls c) := hv2
  have hfg : ∀ k, k < 4 → AR (E 6) k = (fg k).map (·.1) := hfg
  have hs : tsz t + tsz c ≤ 60 := hA1
  have hA2 : ∀ k p, k < 4 → fg k = some p → p ∈ ids t ∨ p ∈ ids c := hA2
  have h0 := hK.1
  obtain ⟨k1, k2, k3, k4⟩ := hK.2.2.1
  have k5 := hK.2.2.2.1
  obtain ⟨k6, n6⟩ := hK.2.2.2.2.1
  have k7 := hK.2.2.2.2.2.1
  have k8 := hK.2.2.2.2.2.2.1
  obtain ⟨d78, d910⟩ := hK.2.2.2.2.2.2.2.1
  obtain ⟨e1, e2, e3, e4, e5, e6, e7, e8⟩ := hK.2.1
  refine MT_of (by decide) rfl (Nat.le_of_ble_eq_true rfl) ?_
  refine WP_aload_n dX4_plainSum_0 rfl ?_
  refine WP_iload_n dX4_plainSum_1 rfl ?_
  refine WP_iload_n dX4_plainSum_2 rfl ?_
  refine callVtv mX4_checkRange [_, _] dX4_plainSum_3 okc_X4_checkRange ok_333 ⟨by decide, by decide⟩ rfl rfl h0 rfl (Nat.le_of_ble_eq_true rfl) (Nat.le_of_ble_eq_true rfl) (Nat.le_of_ble_eq_true rfl) (c_checkRange x y hK hW (by omega)) rfl (fun E9 S9 ht => ?_) (fun S1 h1 => ?_)
  · obtain ⟨⟨rfl, hx⟩, rfl⟩ := ht
    unfold aPSu
    rw [if_neg hx]
    exact cR_thr rfl hI
  · obtain ⟨hr, rfl⟩ := h1
    obtain ⟨f, u, hfu, hu, rfl, rfl⟩ := inR_of hr (by omega)
    have ez : aPSu (t, c, fg, n) (nI f) (nI u) = (0, sumF (vAt t) f (u - f), (t, c, fg, n)) := by
      unfold aPSu
      rw [if_pos hr, pI_n (by omega), pI_n (by omega)]
    rw [ez]
    refine WP_aload_n dX4_plainSum_6 rfl ?_
    refine gf_RX4_41 dX4_plainSum_7 rfl rfl h0 ?_
    refine WP_iload_n dX4_plainSum_10 rfl ?_
    refine WP_iload_n dX4_plainSum_11 rfl ?_
    rw [e7]
    refine callVi mX1_total [_, _] dX4_plainSum_12 okc_X1_total ok_598 ⟨by decide, by decide⟩ rfl rfl k7.1 rfl (Nat.le_of_ble_eq_true rfl) (Nat.le_of_ble_eq_true rfl) (Nat.le_of_ble_eq_true rfl) (c_totalRow (E 7) (E 9) f u (tsz t) k7 hl1 (by omega) hfu hu) (fun x1 S1 h1 => ?_)
    obtain ⟨rfl, rfl⟩ := h1
    rw [sumF_congr (g := vAt t) f (u - f) (fun j h1 h2 => vAt_row hv1 (by omega))]
    refine WP_ireturn dX4_plainSum_15 rfl rfl (Nat.le_of_ble_eq_true rfl) (Nat.le_of_ble_eq_true rfl) ?_
    exact cR_ok (A := (t, c, fg, n)) hI
theorem k_remove (x : Int32) (hI : cI E L K AN R0 Rc Ic AIc AR (t, c, fg, n)) :
    MT G mX4_remove [vr (some (E 0)), vi x] (mkS L K AN R0 Rc Ic AIc AR Im AIm AL) (cR [xO] (cJ E L K AN R0 Im AIm AL) (aRem (t, c, fg, n) x)) := by
  have hI9 := hI
  obtain ⟨hK, hW, ⟨hl1, hl2⟩, hv1, hv2, hfg, hA1, hA2⟩ := hI9
  have hW : cW E L K Rc Ic (t, c, .leaf, .leaf) n := hW
  have hl1 : Ic 2 (E 7) = nI (tsz t) := hl1
  have hl2 : Ic 2 (E 8) = nI (tsz c) := hl2
  have hv1 : rowV (AIc (E 9)) (vls t) := hv1
  have hv2 : rowV (AIc (E 10)) (vls c) := hv2
  have hfg : ∀ k, k < 4 → AR (E 6) k = (fg k).map (·.1) := hfg
  have hs : tsz t + tsz c ≤ 60 := hA1
  have hA2 : ∀ k p, k < 4 → fg k = some p → p ∈ ids t ∨ p ∈ ids c := hA2
  have h0 := hK.1
  obtain ⟨k1, k2, k3, k4⟩ := hK.2.2.1
  have k5 := hK.2.2.2.1
  obtain ⟨k6, n6⟩ := hK.2.2.2.2.1
  have k7 := hK.2.2.2.2.2.1
  have k8 := hK.2.2.2.2.2.2.1
  obtain ⟨d78, d910⟩ := hK.2.2.2.2.2.2.2.1
  obtain ⟨e1, e2, e3, e4, e5, e6, e7, e8⟩ := hK.2.1
  obtain ⟨d12, d13, d14, d23, d24, d34⟩ := hK.2.2.2.2.2.2.2.2
  refine MT_of (by decide) rfl (Nat.le_of_ble_eq_true rfl) ?_
  refine WP_aload_n dX4_remove_0 rfl ?_
  refine WP_iload_n dX4_remove_1 rfl ?_
  refine callVtr mX4_nodeAt [_] dX4_remove_2 okc_X4_nodeAt ok_149 ⟨by decide, by decide⟩ rfl rfl h0 rfl (Nat.le_of_ble_eq_true rfl) (Nat.le_of_ble_eq_true rfl) (Nat.le_of_ble_eq_true rfl) (c_nodeAt x hK hW (by omega)) rfl (fun E9 S9 ht => ?_) (fun a S1 h1 => ?_)
  · obtain ⟨⟨rfl, hx⟩, rfl⟩ := ht
    unfold aRem
    rw [if_neg hx]
    exact cR_thr rfl hI
  · obtain ⟨⟨k, hk, rfl, ha⟩, rfl⟩ := h1
    obtain ⟨i, v, l, r, u1, u2', u3, u4, u5⟩ := upT_at hk ha
    have hsz : tsz l + 1 + tsz r = tsz t := by
      rw [← io_len t, ← u2', List.length_append, List.length_cons, io_len, io_len]
      omega
    have ez : aRem (t, c, fg, n) (nI k) = (0, v, (joinT l r, c, (fun q => if fg q = some (a, i) then none else fg q), addC (addC (begC n) (upC t k)) (joinC l r))) := by
      unfold aRem
      rw [if_pos (inP_nI hk (by omega)), pI_n (by omega), u4, u5, u1]
      rfl
    rw [ez]
    refine WP_astore_n dX4_remove_5 (by decide) rfl ?_
    refine WP_aload_n dX4_remove_6 rfl ?_
    refine gf_RX4_28 dX4_remove_7 rfl rfl h0 ?_
    rw [e5]
    refine callVv mX2_beginCall [] dX4_remove_10 okc_X2_beginCall ok_225 ⟨by decide, by decide⟩ rfl rfl k5 rfl (Nat.le_of_ble_eq_true rfl) (Nat.le_of_ble_eq_true rfl) (Nat.le_of_ble_eq_true rfl) (w_begin hK hW) (fun S1 h1 => ?_)
    obtain ⟨R1, I1, rfl, W1, i1⟩ := h1
    refine WP_aload_n dX4_remove_13 rfl ?_
    refine gf_RX4_28 dX4_remove_14 rfl rfl h0 ?_
    refine WP_aload_n dX4_remove_17 rfl ?_
    refine gf_RX4_10 dX4_remove_18 rfl rfl h0 ?_
    refine WP_aload_n dX4_remove_21 rfl ?_
    rw [e5, e1]
    refine callVv mX2_splay [_, _] dX4_remove_22 okc_X2_splay ok_229 ⟨by decide, by decide⟩ rfl rfl k5 rfl (Nat.le_of_ble_eq_true rfl) (Nat.le_of_ble_eq_true rfl) (Nat.le_of_ble_eq_true rfl) (w_splay hK W1 hk (by omega) ha) (fun S1 h1 => ?_)
    obtain ⟨R2, I2, rfl, W2, i2⟩ := h1
    rw [u1] at W2
    have hc := (cW_T W2).1
    obtain ⟨ka, hz0, hz1, hz2, hz3, hz4⟩ := cz (fs := []) hc
    have hgl := hc.2.2.1
    have hgr := hc.2.2.2
    refine WP_aload_n dX4_remove_25 rfl ?_
    refine gf_RX4_10 dX4_remove_26 rfl rfl h0 ?_
    refine WP_aload_n dX4_remove_29 rfl ?_
    rw [e1]
    refine callVr mX0_dropLeft [] dX4_remove_30 okc_X0_dropLeft ok_250 ⟨by decide, by decide⟩ rfl rfl ka rfl (Nat.le_of_ble_eq_true rfl) (Nat.le_of_ble_eq_true rfl) (Nat.le_of_ble_eq_true rfl) (c_dropLeft a ka (fun b hb => rk_K hgl b (hz0.symm.trans hb)) (fun b hb => rk_K hgr b (hz1.symm.trans hb))) (fun o2 S1 h1 => ?_)
    obtain ⟨rfl, rfl⟩ := h1
    rw [hz0, hz1, cnt_rk (par := none) hgr]
    refine pf_RX4_86 dX4_remove_33 rfl rfl k1 ?_
    refine WP_aload_n dX4_remove_36 rfl ?_
    refine gf_RX4_22 dX4_remove_37 rfl rfl h0 ?_
    refine WP_aload_n dX4_remove_40 rfl ?_
    rw [e4]
    have F1 : cF L K (u2 (drR 0 R2 a) 3 (E 1) (rk kA l)) (u2 I2 0 a (1 + 0 + nI (tsz r))) (l :: nd a i v .leaf r :: [c, .leaf, .leaf]) := by
      refine dropL W2.1 ?_ ?_ ?_ ?_ ?_
      · rw [u2_o _ _ _ (by decide), drR_s _ (by decide)]
      · rw [u2_o _ _ _ (by decide), drR_o _ _ (by decide) (by decide)]
      · rw [u2_o _ _ _ (by decide), drR_p _ (by decide), hz0]
      · rw [u2_s]
        show va_up (I2 0) a (1 + nI 0 + nI (tsz r)) = _
        rw [n3]
      · rw [u2_o _ _ _ (by decide)]
    have F1' := cF_perm (List.Perm.swap _ _ _) F1
    have hc1 := F1'.1 _ List.mem_cons_self
    obtain ⟨-, y0, y1, y2, y3, y4⟩ := cz (fs := []) hc1
    refine callVr mX0_dropRight [] dX4_remove_41 okc_X0_dropRight ok_255 ⟨by decide, by decide⟩ rfl rfl ka rfl (Nat.le_of_ble_eq_true rfl) (Nat.le_of_ble_eq_true rfl) (Nat.le_of_ble_eq_true rfl) (c_dropRight a ka (fun b hb => rk_K hc1.2.2.2 b (y1.symm.trans hb)) (fun b hb => by cases (y0.symm.trans hb))) (fun o2 S1 h1 => ?_)
    obtain ⟨rfl, rfl⟩ := h1
    rw [y0, y1]
    refine pf_RX4_86 dX4_remove_44 rfl rfl k4 ?_
    refine WP_aload_n dX4_remove_47 rfl ?_
    refine gf_RX4_28 dX4_remove_48 rfl rfl h0 ?_
    refine WP_aload_n dX4_remove_51 rfl ?_
    refine gf_RX4_10 dX4_remove_52 rfl rfl h0 ?_
    refine WP_aload_n dX4_remove_55 rfl ?_
    refine gf_RX4_22 dX4_remove_56 rfl rfl h0 ?_
    rw [e5, e1, e4]
    have F2 : cF L K (u2 (drR 1 (u2 (drR 0 R2 a) 3 (E 1) (rk kA l)) a) 3 (E 4) (rk kA r)) (u2 (u2 I2 0 a (1 + 0 + nI (tsz r))) 0 a (1 + cntO (u2 I2 0 a (1 + 0 + nI (tsz r)) 0) (rk kA lf0) + 0)) (r :: nd a i v .leaf .leaf :: l :: [c, .leaf, .leaf]) := by
      refine dropR F1' ?_ ?_ ?_ ?_ ?_
      · rw [u2_o _ _ _ (by decide), drR_s _ (by decide)]
      · rw [u2_o _ _ _ (by decide), drR_o _ _ (by decide) (by decide)]
      · rw [u2_o _ _ _ (by decide), drR_p _ (by decide), y1]
      · rw [u2_s]
        rfl
      · rw [u2_o _ _ _ (by decide)]
    have F2' : cF L K (u2 (drR 1 (u2 (drR 0 R2 a) 3 (E 1) (rk kA l)) a) 3 (E 4) (rk kA r)) (u2 (u2 I2 0 a (1 + 0 + nI (tsz r))) 0 a (1 + cntO (u2 I2 0 a (1 + 0 + nI (tsz r)) 0) (rk kA lf0) + 0)) (l :: r :: [nd a i v .leaf .leaf, c, .leaf, .leaf]) :=
      cF_perm (show List.Perm (r :: nd a i v .leaf .leaf :: l :: [c, .leaf, .leaf]) (l :: r :: [nd a i v .leaf .leaf, c, .leaf, .leaf]) from List.perm_middle (l₁ := [r, nd a i v .leaf .leaf])) F2
    refine callVv mX2_join [_, _] dX4_remove_59 okc_X2_join ok_260 ⟨by decide, by decide⟩ rfl rfl k5 rfl (Nat.le_of_ble_eq_true rfl) (Nat.le_of_ble_eq_true rfl) (Nat.le_of_ble_eq_true rfl) (c_join (E 5) (E 1) (E 4) l r [nd a i v .leaf .leaf, c, .leaf, .leaf] k5 k1 k4 d14 (by omega) (by rw [u2_na _ _ _ _ d14, drR_o _ _ (by decide) (by decide), u2_eq]) (u2_eq _ _ _ _) F2') (fun S1 h1 => ?_)
    obtain ⟨R3, I3, rfl, F3, ⟨g2, g3, g4⟩, g5, g6⟩ := h1
    have va : I3 1 a = v := (cz (fs := []) (F3.1 (nd a i v .leaf .leaf) (by simp))).2.2.2.2.2
    have i9 : I3 2 = Ic 2 := by rw [g5, u2_o _ _ _ (by decide), u2_o _ _ _ (by decide), i2, i1]
    have W4 : cW E L K R3 I3 (joinT l r, c, .leaf, .leaf) (addC (addC (begC n) (upC t k)) (joinC l r)) := by
      refine ⟨cF_tail (cF_perm (List.Perm.swap _ _ _) F3), ⟨g2, ?_, ?_, g3⟩, ?_⟩
      · rw [g4 _ (Ne.symm d12) d24, u2_na _ _ _ _ d24, drR_o _ _ (by decide) (by decide), u2_na _ _ _ _ (Ne.symm d12), drR_o _ _ (by decide) (by decide)]
        exact W2.2.1.2.1
      · rw [g4 _ (Ne.symm d13) d34, u2_na _ _ _ _ d34, drR_o _ _ (by decide) (by decide), u2_na _ _ _ _ (Ne.symm d13), drR_o _ _ (by decide) (by decide)]
        exact W2.2.1.2.2.1
      · rw [cnO_of g6, ← W2.2.2]
        refine congrArg (fun z => addC z (joinC l r)) ?_
        simp [cnO, u2]
    refine WP_aload_n dX4_remove_62 rfl ?_
    refine WP_aload_n dX4_remove_63 rfl ?_
    refine callVv mX4_liftFingersFrom [_] dX4_remove_64 okc_X4_liftFingersFrom ok_273 ⟨by decide, by decide⟩ rfl rfl h0 rfl (Nat.le_of_ble_eq_true rfl) (Nat.le_of_ble_eq_true rfl) (Nat.le_of_ble_eq_true rfl) (c_lift a hK) (fun S1 h1 => ?_)
    subst h1
    refine WP_aload_n dX4_remove_67 rfl ?_
    refine gf_RX4_41 dX4_remove_68 rfl rfl h0 ?_
    refine WP_iload_n dX4_remove_71 rfl ?_
    rw [e7]
    refine callVv mX1_close [_] dX4_remove_72 okc_X1_close ok_277 ⟨by decide, by decide⟩ rfl rfl k7.1 rfl (Nat.le_of_ble_eq_true rfl) (Nat.le_of_ble_eq_true rfl) (Nat.le_of_ble_eq_true rfl) (c_close (E 7) (E 9) k (tsz t) k7 (by rw [i9, hl1]) (by omega) hk) (fun S1 h1 => ?_)
    subst h1
    refine WP_aload_n dX4_remove_75 rfl ?_
    refine gf_RX4_118 dX4_remove_76 rfl rfl ka ?_
    rw [u2_o _ _ _ (by decide), va]
    refine WP_ireturn dX4_remove_79 rfl rfl (Nat.le_of_ble_eq_true rfl) (Nat.le_of_ble_eq_true rfl) ?_
    obtain ⟨q1, q2, -, -⟩ := vls_split (w := v) u2' u3
    have eid : ids t = ids l ++ (a, i) :: ids r := by
      unfold ids
      rw [← u2']
      simp
    have hjv : vls (joinT l r) = vls l ++ vls r := by
      unfold vls
      rw [joinT_io, List.map_append]
    have hji : ids (joinT l r) = ids l ++ ids r := by
      unfold ids
      rw [joinT_io, List.map_append]
    have hai : (a, i) ∈ ids t := by
      rw [eid]
      simp
    have hnd9 : ((ids t ++ ids c).map (·.1)).Nodup := by
      have : (kl kA t ++ (kl kA c ++ (kl kA lf0 ++ (kl kA lf0 ++ [])))).Nodup := hW.1.2
      rw [List.map_append, ← kl_eq, ← kl_eq]
      simpa [kl, io] using this
    have hfa : ∀ q, q < 4 → (AR (E 6) q = some a ↔ fg q = some (a, i)) := by
      intro q hq
      rw [hfg q hq]
      constructor
      · intro h
        cases hg : fg q with
        | none => rw [hg] at h; cases h
        | some p =>
          rw [hg] at h
          have h : some p.1 = some a := h
          have hp := hA2 q p hq hg
          have := nodup_fst hnd9 (p := p) (q := (a, i)) (by simpa using hp) (by simp [hai]) (Option.some.inj h)
          rw [this]
      · intro h
        rw [h]
        rfl
    refine cR_ok (A := (t, c, fg, n)) ⟨hK, cW_same W4 rfl rfl rfl rfl (fun j hj => ?_), ⟨?_, ?_⟩, ?_, ?_, fun q hq => ?_, ?_, fun q p h1 h2 => ?_⟩
    · rw [u2_o _ _ _ hj]
    · rw [u2_eq]
      refine congrArg nI ?_
      show _ = tsz (joinT l r)
      rw [tsz_join]
      omega
    · rw [u2_na _ _ _ _ (Ne.symm d78), i9, hl2]
    · rw [va_up_self]
      show rowV _ (vls (joinT l r))
      have hv1 := hv1
      rw [hjv]
      rw [q1] at hv1
      have := rowV_del (n := tsz t) hv1 (by rw [vls_len, vls_len]; omega)
      rw [q2] at this
      exact this
    · rw [va_up_ne _ _ (Ne.symm d910)]
      exact hv2
    · rw [va_up_self]
      show lftF a 4 (AR (E 6)) q = (if fg q = some (a, i) then none else fg q).map (·.1)
      unfold lftF
      by_cases hq2 : fg q = some (a, i)
      · rw [if_pos hq2, if_pos ⟨hq, (hfa q hq).mpr hq2⟩]
        rfl
      · rw [if_neg hq2, if_neg (fun h => hq2 ((hfa q hq).mp h.2))]
        exact hfg q hq
    · show tsz (joinT l r) + tsz c ≤ 60
      rw [tsz_join]
      omega
    · have h2 : (if fg q = some (a, i) then none else fg q) = some p := h2
      by_cases hq2 : fg q = some (a, i)
      · rw [if_pos hq2] at h2
        cases h2
      · rw [if_neg hq2] at h2
        have h3 := hA2 q p h1 h2
        show p ∈ ids (joinT l r) ∨ p ∈ ids c
        rcases h3 with h3 | h3
        · rw [eid] at h3
          rw [hji]
          have hpa : p ≠ (a, i) := fun e => hq2 (by rw [h2, e])
          simp only [List.mem_append, List.mem_cons] at h3 ⊢
          rcases h3 with h3 | h3 | h3
          · exact Or.inl (Or.inl h3)
          · exact absurd h3 hpa
          · exact Or.inl (Or.inr h3)
        · exact Or.inr h3
end CL4
