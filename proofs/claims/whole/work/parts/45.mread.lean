/-! ===== the model: readers ===== -/
def mV (W : Nat → Nat) (L : List Nat) (K AN : Nat → Nat) (R0 Rc : Nat → Nat → Option Nat) (Ic AIc : Nat → Nat → Int32) (AR : Nat → Nat → Option Nat) (AL : Nat → Nat → Int64) (v : Int32) (A : AB) : RS → SS → Prop := fun r S' =>
  ∃ I' A', r = .inl (some (vi v)) ∧ S' = mkS L K AN R0 Rc Ic AIc AR I' A' AL ∧ mI W L K AN R0 I' A' A
section MRE
variable {G : GC} {L : List Nat} {K AN : Nat → Nat} {R0 Rc : Nat → Nat → Option Nat} {Ic AIc Im AIm I1 A1 : Nat → Nat → Int32} {AR : Nat → Nat → Option Nat} {AL : Nat → Nat → Int64} {W : Nat → Nat} {t c m : Tr} {fg fg' : Nat → Option (Nat × Nat)} {n : Cn} {F : List Tr}
theorem cm_6 (hn : cmO Im W = n) : Im 6 (W 0) = n.1 ∧ Im 7 (W 0) = n.2.1 ∧ Im 8 (W 0) = n.2.2.1 ∧ Im 9 (W 0) = n.2.2.2 := by
  rw [← hn]
  exact ⟨rfl, rfl, rfl, rfl⟩
theorem p_lastSteps (hA : AI (t, c, fg, n)) (hI : mI W L K AN R0 Im AIm (t, c, fg, n)) : MT G mX5_lastSteps [vr (some (W 0))] (mkS L K AN R0 Rc Ic AIc AR Im AIm AL) (mV W L K AN R0 Rc Ic AIc AR AL n.1 (t, c, fg, n)) := by
  obtain ⟨hM, ⟨ht, hc⟩, hF, hcn, hv, ⟨hth1, hth0⟩, hfg⟩ := id hI
  have ht : Im 1 (W 0) = ix (rk kI t) := ht
  have hc : Im 2 (W 0) = ix (rk kI c) := hc
  have hF : mF W AIm [t, c] := hF
  have hcn : cmO Im W = n := hcn
  have hfg : ∀ k, k < 4 → AIm (W 6) k = ix ((fg k).map (·.2)) := hfg
  have hs : tsz t + tsz c ≤ 60 := hA.1
  have hst : tsz t ≤ 60 := by omega
  have hmt := hF.1 t List.mem_cons_self
  have hnt := mF_hd hF
  obtain ⟨m0, ⟨f1, f2, f3, f4, f5, f6, f7⟩, ⟨⟨q1, n1⟩, ⟨q2, n2⟩, ⟨q3, n3⟩, ⟨q4, n4⟩, ⟨q5, n5⟩, ⟨q6, n6⟩, ⟨q7, n7⟩⟩, hne⟩ := id hM
  refine MT_of (by decide) rfl (Nat.le_of_ble_eq_true rfl) ?_
  refine WP_aload_n dX5_lastSteps_0 rfl ?_
  refine WP_iconst (0) dX5_lastSteps_1 (by decide) ?_
  refine pf_RX5_39 dX5_lastSteps_2 rfl rfl m0 ?_
  refine WP_aload_n dX5_lastSteps_5 rfl ?_
  refine gf_RX5_72 dX5_lastSteps_6 rfl rfl m0 ?_
  rw [u2_o _ _ _ (show 6 ≠ 0 by decide), (cm_6 hcn).1]
  refine WP_ireturn dX5_lastSteps_9 rfl rfl (Nat.le_of_ble_eq_true rfl) (Nat.le_of_ble_eq_true rfl) ?_
  exact ⟨_, _, rfl, rfl, mI_S hI mS_refl 0⟩
theorem p_lastRotations (hA : AI (t, c, fg, n)) (hI : mI W L K AN R0 Im AIm (t, c, fg, n)) : MT G mX5_lastRotations [vr (some (W 0))] (mkS L K AN R0 Rc Ic AIc AR Im AIm AL) (mV W L K AN R0 Rc Ic AIc AR AL n.2.1 (t, c, fg, n)) := by
  obtain ⟨hM, ⟨ht, hc⟩, hF, hcn, hv, ⟨hth1, hth0⟩, hfg⟩ := id hI
  have ht : Im 1 (W 0) = ix (rk kI t) := ht
  have hc : Im 2 (W 0) = ix (rk kI c) := hc
  have hF : mF W AIm [t, c] := hF
  have hcn : cmO Im W = n := hcn
  have hfg : ∀ k, k < 4 → AIm (W 6) k = ix ((fg k).map (·.2)) := hfg
  have hs : tsz t + tsz c ≤ 60 := hA.1
  have hst : tsz t ≤ 60 := by omega
  have hmt := hF.1 t List.mem_cons_self
  have hnt := mF_hd hF
  obtain ⟨m0, ⟨f1, f2, f3, f4, f5, f6, f7⟩, ⟨⟨q1, n1⟩, ⟨q2, n2⟩, ⟨q3, n3⟩, ⟨q4, n4⟩, ⟨q5, n5⟩, ⟨q6, n6⟩, ⟨q7, n7⟩⟩, hne⟩ := id hM
  refine MT_of (by decide) rfl (Nat.le_of_ble_eq_true rfl) ?_
  refine WP_aload_n dX5_lastRotations_0 rfl ?_
  refine WP_iconst (0) dX5_lastRotations_1 (by decide) ?_
  refine pf_RX5_39 dX5_lastRotations_2 rfl rfl m0 ?_
  refine WP_aload_n dX5_lastRotations_5 rfl ?_
  refine gf_RX5_63 dX5_lastRotations_6 rfl rfl m0 ?_
  rw [u2_o _ _ _ (show 7 ≠ 0 by decide), (cm_6 hcn).2.1]
  refine WP_ireturn dX5_lastRotations_9 rfl rfl (Nat.le_of_ble_eq_true rfl) (Nat.le_of_ble_eq_true rfl) ?_
  exact ⟨_, _, rfl, rfl, mI_S hI mS_refl 0⟩
theorem p_steps (hA : AI (t, c, fg, n)) (hI : mI W L K AN R0 Im AIm (t, c, fg, n)) : MT G mX5_steps [vr (some (W 0))] (mkS L K AN R0 Rc Ic AIc AR Im AIm AL) (mV W L K AN R0 Rc Ic AIc AR AL n.2.2.1 (t, c, fg, n)) := by
  obtain ⟨hM, ⟨ht, hc⟩, hF, hcn, hv, ⟨hth1, hth0⟩, hfg⟩ := id hI
  have ht : Im 1 (W 0) = ix (rk kI t) := ht
  have hc : Im 2 (W 0) = ix (rk kI c) := hc
  have hF : mF W AIm [t, c] := hF
  have hcn : cmO Im W = n := hcn
  have hfg : ∀ k, k < 4 → AIm (W 6) k = ix ((fg k).map (·.2)) := hfg
  have hs : tsz t + tsz c ≤ 60 := hA.1
  have hst : tsz t ≤ 60 := by omega
  have hmt := hF.1 t List.mem_cons_self
  have hnt := mF_hd hF
  obtain ⟨m0, ⟨f1, f2, f3, f4, f5, f6, f7⟩, ⟨⟨q1, n1⟩, ⟨q2, n2⟩, ⟨q3, n3⟩, ⟨q4, n4⟩, ⟨q5, n5⟩, ⟨q6, n6⟩, ⟨q7, n7⟩⟩, hne⟩ := id hM
  refine MT_of (by decide) rfl (Nat.le_of_ble_eq_true rfl) ?_
  refine WP_aload_n dX5_steps_0 rfl ?_
  refine WP_iconst (0) dX5_steps_1 (by decide) ?_
  refine pf_RX5_39 dX5_steps_2 rfl rfl m0 ?_
  refine WP_aload_n dX5_steps_5 rfl ?_
  refine gf_RX5_75 dX5_steps_6 rfl rfl m0 ?_
  rw [u2_o _ _ _ (show 8 ≠ 0 by decide), (cm_6 hcn).2.2.1]
  refine WP_ireturn dX5_steps_9 rfl rfl (Nat.le_of_ble_eq_true rfl) (Nat.le_of_ble_eq_true rfl) ?_
  exact ⟨_, _, rfl, rfl, mI_S hI mS_refl 0⟩
theorem p_splays (hA : AI (t, c, fg, n)) (hI : mI W L K AN R0 Im AIm (t, c, fg, n)) : MT G mX5_splays [vr (some (W 0))] (mkS L K AN R0 Rc Ic AIc AR Im AIm AL) (mV W L K AN R0 Rc Ic AIc AR AL n.2.2.2 (t, c, fg, n)) := by
  obtain ⟨hM, ⟨ht, hc⟩, hF, hcn, hv, ⟨hth1, hth0⟩, hfg⟩ := id hI
  have ht : Im 1 (W 0) = ix (rk kI t) := ht
  have hc : Im 2 (W 0) = ix (rk kI c) := hc
  have hF : mF W AIm [t, c] := hF
  have hcn : cmO Im W = n := hcn
  have hfg : ∀ k, k < 4 → AIm (W 6) k = ix ((fg k).map (·.2)) := hfg
  have hs : tsz t + tsz c ≤ 60 := hA.1
  have hst : tsz t ≤ 60 := by omega
  have hmt := hF.1 t List.mem_cons_self
  have hnt := mF_hd hF
  obtain ⟨m0, ⟨f1, f2, f3, f4, f5, f6, f7⟩, ⟨⟨q1, n1⟩, ⟨q2, n2⟩, ⟨q3, n3⟩, ⟨q4, n4⟩, ⟨q5, n5⟩, ⟨q6, n6⟩, ⟨q7, n7⟩⟩, hne⟩ := id hM
  refine MT_of (by decide) rfl (Nat.le_of_ble_eq_true rfl) ?_
  refine WP_aload_n dX5_splays_0 rfl ?_
  refine WP_iconst (0) dX5_splays_1 (by decide) ?_
  refine pf_RX5_39 dX5_splays_2 rfl rfl m0 ?_
  refine WP_aload_n dX5_splays_5 rfl ?_
  refine gf_RX5_66 dX5_splays_6 rfl rfl m0 ?_
  rw [u2_o _ _ _ (show 9 ≠ 0 by decide), (cm_6 hcn).2.2.2]
  refine WP_ireturn dX5_splays_9 rfl rfl (Nat.le_of_ble_eq_true rfl) (Nat.le_of_ble_eq_true rfl) ?_
  exact ⟨_, _, rfl, rfl, mI_S hI mS_refl 0⟩
/-- scratch behind a first store of 0 -/
theorem mI_S0 {A : AB} (hI : mI W L K AN R0 Im AIm A) (s : mS W (u2 Im 0 (W 0) 0) AIm I1 A1) : mI W L K AN R0 I1 A1 A := by
  have h := mI_S (mI_S hI mS_refl 0) s (I1 0 (W 0))
  have e : u2 I1 0 (W 0) (I1 0 (W 0)) = I1 := by
    funext j b
    by_cases h : j = 0 ∧ b = W 0
    · rw [h.1, h.2, u2_eq]
    · simp [u2, h]
  rw [e] at h
  exact h
theorem p_size (hA : AI (t, c, fg, n)) (hI : mI W L K AN R0 Im AIm (t, c, fg, n)) : MT G mX5_size [vr (some (W 0))] (mkS L K AN R0 Rc Ic AIc AR Im AIm AL) (mV W L K AN R0 Rc Ic AIc AR AL (nI (tsz t)) (t, c, fg, n)) := by
  obtain ⟨hM, ⟨ht, hc⟩, hF, hcn, hv, ⟨hth1, hth0⟩, hfg⟩ := id hI
  have ht : Im 1 (W 0) = ix (rk kI t) := ht
  have hc : Im 2 (W 0) = ix (rk kI c) := hc
  have hF : mF W AIm [t, c] := hF
  have hcn : cmO Im W = n := hcn
  have hfg : ∀ k, k < 4 → AIm (W 6) k = ix ((fg k).map (·.2)) := hfg
  have hs : tsz t + tsz c ≤ 60 := hA.1
  have hst : tsz t ≤ 60 := by omega
  have hmt := hF.1 t List.mem_cons_self
  have hnt := mF_hd hF
  obtain ⟨m0, ⟨f1, f2, f3, f4, f5, f6, f7⟩, ⟨⟨q1, n1⟩, ⟨q2, n2⟩, ⟨q3, n3⟩, ⟨q4, n4⟩, ⟨q5, n5⟩, ⟨q6, n6⟩, ⟨q7, n7⟩⟩, hne⟩ := id hM
  refine MT_of (by decide) rfl (Nat.le_of_ble_eq_true rfl) ?_
  refine WP_aload_n dX5_size_0 rfl ?_
  refine WP_iconst (0) dX5_size_1 (by decide) ?_
  refine pf_RX5_39 dX5_size_2 rfl rfl m0 ?_
  refine WP_aload_n dX5_size_5 rfl ?_
  refine callVi mX5_count [] dX5_size_6 okc_X5_count ok_726 ⟨by decide, by decide⟩ rfl rfl m0 rfl (Nat.le_of_ble_eq_true rfl) (Nat.le_of_ble_eq_true rfl) (Nat.le_of_ble_eq_true rfl) (m_count hM (by rw [u2_o _ _ _ (by decide)]; exact ht) hmt hnt hst) (fun x1 S1 h1 => ?_)
  obtain ⟨rfl, I1, A1, rfl, s1, -⟩ := h1
  refine WP_ireturn dX5_size_9 rfl rfl (Nat.le_of_ble_eq_true rfl) (Nat.le_of_ble_eq_true rfl) ?_
  exact ⟨_, _, rfl, rfl, mI_S0 hI s1⟩
theorem p_clipped (hA : AI (t, c, fg, n)) (hI : mI W L K AN R0 Im AIm (t, c, fg, n)) : MT G mX5_clipped [vr (some (W 0))] (mkS L K AN R0 Rc Ic AIc AR Im AIm AL) (mV W L K AN R0 Rc Ic AIc AR AL (nI (tsz c)) (t, c, fg, n)) := by
  obtain ⟨hM, ⟨ht, hc⟩, hF, hcn, hv, ⟨hth1, hth0⟩, hfg⟩ := id hI
  have ht : Im 1 (W 0) = ix (rk kI t) := ht
  have hc : Im 2 (W 0) = ix (rk kI c) := hc
  have hF : mF W AIm [t, c] := hF
  have hcn : cmO Im W = n := hcn
  have hfg : ∀ k, k < 4 → AIm (W 6) k = ix ((fg k).map (·.2)) := hfg
  have hs : tsz t + tsz c ≤ 60 := hA.1
  have hst : tsz t ≤ 60 := by omega
  have hmt := hF.1 t List.mem_cons_self
  have hnt := mF_hd hF
  obtain ⟨m0, ⟨f1, f2, f3, f4, f5, f6, f7⟩, ⟨⟨q1, n1⟩, ⟨q2, n2⟩, ⟨q3, n3⟩, ⟨q4, n4⟩, ⟨q5, n5⟩, ⟨q6, n6⟩, ⟨q7, n7⟩⟩, hne⟩ := id hM
  refine MT_of (by decide) rfl (Nat.le_of_ble_eq_true rfl) ?_
  refine WP_aload_n dX5_clipped_0 rfl ?_
  refine WP_iconst (0) dX5_clipped_1 (by decide) ?_
  refine pf_RX5_39 dX5_clipped_2 rfl rfl m0 ?_
  refine WP_aload_n dX5_clipped_5 rfl ?_
  refine WP_aload_n dX5_clipped_6 rfl ?_
  refine gf_RX5_13 dX5_clipped_7 rfl rfl m0 ?_
  rw [u2_o _ _ _ (show 2 ≠ 0 by decide), hc]
  refine callVi mX5_sizeOf [_] dX5_clipped_10 okc_X5_sizeOf ok_730 ⟨by decide, by decide⟩ rfl rfl m0 rfl (Nat.le_of_ble_eq_true rfl) (Nat.le_of_ble_eq_true rfl) (Nat.le_of_ble_eq_true rfl) (m_sizeOf hM (hF.1 c (by simp)) (mF_hd (mF_tail hF)) (by omega)) (fun x1 S1 h1 => ?_)
  obtain ⟨rfl, I1, A1, rfl, s1, -⟩ := h1
  refine WP_ireturn dX5_clipped_13 rfl rfl (Nat.le_of_ble_eq_true rfl) (Nat.le_of_ble_eq_true rfl) ?_
  exact ⟨_, _, rfl, rfl, mI_S0 hI s1⟩
theorem p_root (hA : AI (t, c, fg, n)) (hI : mI W L K AN R0 Im AIm (t, c, fg, n)) : MT G mX5_root [vr (some (W 0))] (mkS L K AN R0 Rc Ic AIc AR Im AIm AL) (mV W L K AN R0 Rc Ic AIc AR AL (posP [] t) (t, c, fg, n)) := by
  obtain ⟨hM, ⟨ht, hc⟩, hF, hcn, hv, ⟨hth1, hth0⟩, hfg⟩ := id hI
  have ht : Im 1 (W 0) = ix (rk kI t) := ht
  have hc : Im 2 (W 0) = ix (rk kI c) := hc
  have hF : mF W AIm [t, c] := hF
  have hcn : cmO Im W = n := hcn
  have hfg : ∀ k, k < 4 → AIm (W 6) k = ix ((fg k).map (·.2)) := hfg
  have hs : tsz t + tsz c ≤ 60 := hA.1
  have hst : tsz t ≤ 60 := by omega
  have hmt := hF.1 t List.mem_cons_self
  have hnt := mF_hd hF
  obtain ⟨m0, ⟨f1, f2, f3, f4, f5, f6, f7⟩, ⟨⟨q1, n1⟩, ⟨q2, n2⟩, ⟨q3, n3⟩, ⟨q4, n4⟩, ⟨q5, n5⟩, ⟨q6, n6⟩, ⟨q7, n7⟩⟩, hne⟩ := id hM
  refine MT_of (by decide) rfl (Nat.le_of_ble_eq_true rfl) ?_
  refine WP_aload_n dX5_root_0 rfl ?_
  refine WP_iconst (0) dX5_root_1 (by decide) ?_
  refine pf_RX5_39 dX5_root_2 rfl rfl m0 ?_
  refine WP_aload_n dX5_root_5 rfl ?_
  refine gf_RX5_9 dX5_root_6 rfl rfl m0 ?_
  refine WP_iconst (-1) dX5_root_9 (by decide) ?_
  rw [u2_o _ _ _ (show 1 ≠ 0 by decide), ht]
  cases t with
  | leaf =>
    refine WP_icmp_ne 17 dX5_root_10 (by decide) (fun hb => ?_) (fun hb => ?_)
    · exact absurd rfl hb
    · refine WP_iconst (-1) dX5_root_13 (by decide) ?_
      refine WP_goto 25 dX5_root_14 (by decide) ?_
      refine WP_ireturn dX5_root_25 rfl rfl (Nat.le_of_ble_eq_true rfl) (Nat.le_of_ble_eq_true rfl) ?_
      exact ⟨_, _, rfl, rfl, mI_S hI mS_refl 0⟩
  | inner a i v l r =>
    have hi := (mz (fs := []) hmt).1
    refine WP_icmp_ne 17 dX5_root_10 (by decide) (fun hb => ?_) (fun hb => ?_)
    · refine WP_aload_n dX5_root_17 rfl ?_
      refine WP_aload_n dX5_root_18 rfl ?_
      refine gf_RX5_9 dX5_root_19 rfl rfl m0 ?_
      rw [u2_o _ _ _ (show 1 ≠ 0 by decide), ht]
      refine callVi mX5_placeOf [_] dX5_root_22 okc_X5_placeOf ok_864 ⟨by decide, by decide⟩ rfl rfl m0 rfl (Nat.le_of_ble_eq_true rfl) (Nat.le_of_ble_eq_true rfl) (Nat.le_of_ble_eq_true rfl) (m_placeOf a i v l r [] hM rfl hmt hnt hst) (fun x1 S1 h1 => ?_)
      obtain ⟨rfl, I1, A1, rfl, s1, -⟩ := h1
      refine WP_ireturn dX5_root_25 rfl rfl (Nat.le_of_ble_eq_true rfl) (Nat.le_of_ble_eq_true rfl) ?_
      exact ⟨_, _, rfl, rfl, mI_S0 hI s1⟩
    · exact absurd hb (nI_ne1 hi)
theorem p_depth (x : Int32) (hA : AI (t, c, fg, n)) (hI : mI W L K AN R0 Im AIm (t, c, fg, n)) :
    MT G mX5_depth [vr (some (W 0)), vi x] (mkS L K AN R0 Rc Ic AIc AR Im AIm AL) (mR W L K AN R0 Rc Ic AIc AR AL (aDep (t, c, fg, n) x)) := by
  obtain ⟨hM, ⟨ht, hc⟩, hF, hcn, hv, ⟨hth1, hth0⟩, hfg⟩ := id hI
  have ht : Im 1 (W 0) = ix (rk kI t) := ht
  have hc : Im 2 (W 0) = ix (rk kI c) := hc
  have hF : mF W AIm [t, c] := hF
  have hcn : cmO Im W = n := hcn
  have hfg : ∀ k, k < 4 → AIm (W 6) k = ix ((fg k).map (·.2)) := hfg
  have hs : tsz t + tsz c ≤ 60 := hA.1
  have hst : tsz t ≤ 60 := by omega
  have hmt := hF.1 t List.mem_cons_self
  have hnt := mF_hd hF
  obtain ⟨m0, ⟨f1, f2, f3, f4, f5, f6, f7⟩, ⟨⟨q1, n1⟩, ⟨q2, n2⟩, ⟨q3, n3⟩, ⟨q4, n4⟩, ⟨q5, n5⟩, ⟨q6, n6⟩, ⟨q7, n7⟩⟩, hne⟩ := id hM
  refine MT_of (by decide) rfl (Nat.le_of_ble_eq_true rfl) ?_
  by_cases hx : inP (tsz t) x
  · refine WP_aload_n dX5_depth_0 rfl ?_
    refine WP_aload_n dX5_depth_1 rfl ?_
    refine WP_iload_n dX5_depth_2 rfl ?_
    refine callVi mX5_isPlace [_] dX5_depth_3 okc_X5_isPlace ok_781 ⟨by decide, by decide⟩ rfl rfl m0 rfl (Nat.le_of_ble_eq_true rfl) (Nat.le_of_ble_eq_true rfl) (Nat.le_of_ble_eq_true rfl) (m_isPlace x hM ht hmt hnt hst) (fun x1 S1 h1 => ?_)
    obtain ⟨rfl, I1, A1, rfl, s1, -⟩ := h1
    rw [if_pos hx]
    refine WP_if_eq 13 dX5_depth_6 (by decide) (fun hb => absurd hb (by decide)) (fun _ => ?_)
    refine WP_iconst (0) dX5_depth_9 (by decide) ?_
    refine WP_goto 14 dX5_depth_10 (by decide) ?_
    refine callVi mX5_goesWell [_] dX5_depth_14 okc_X5_goesWell ok_749 ⟨by decide, by decide⟩ rfl rfl m0 rfl (Nat.le_of_ble_eq_true rfl) (Nat.le_of_ble_eq_true rfl) (Nat.le_of_ble_eq_true rfl) (m_goesWell 0 hM) (fun x1 S1 h1 => ?_)
    obtain ⟨rfl, rfl⟩ := h1
    rw [if_pos rfl]
    have hI2 := mI_S hI s1 0
    have th : (u2 I1 0 (W 0) 0) 0 (W 0) = 0 := u2_eq _ _ _ _
    generalize u2 I1 0 (W 0) 0 = Im2 at hI2 th ⊢
    refine WP_if_eq 36 dX5_depth_17 (by decide) (fun hb => absurd hb (by decide)) (fun _ => ?_)
    obtain ⟨-, ⟨ht2, hc2⟩, hF2, hn2, hv2, ⟨hi2, hj2⟩, hfg2⟩ := id hI2
    have ht2 : Im2 1 (W 0) = ix (rk kI t) := ht2
    have hc2 : Im2 2 (W 0) = ix (rk kI c) := hc2
    have hF2 : mF W A1 [t, c] := hF2
    have hn2 : cmO Im2 W = n := hn2
    have hfg2 : ∀ k, k < 4 → A1 (W 6) k = ix ((fg k).map (·.2)) := hfg2
    have hv2 : ∀ x, mB t c x → A1 (W 1) x.2.1 = x.2.2 := hv2
    obtain ⟨k, hk, rfl⟩ := inP_of hx (by omega)
    obtain ⟨fs, a, i, v, l, r, z1, z2, z3, z4, z5, z6, z7⟩ := at_zip hk
    have ez : aDep (t, c, fg, n) (nI k) = (0, nI fs.length, (t, c, fg, n)) := by
      unfold aDep
      rw [if_pos hx, pI_n (by omega), z4]
    rw [ez]
    refine WP_aload_n dX5_depth_20 rfl ?_
    refine WP_aload_n dX5_depth_21 rfl ?_
    refine WP_aload_n dX5_depth_22 rfl ?_
    refine gf_RX5_9 dX5_depth_23 rfl rfl m0 ?_
    refine WP_iload_n dX5_depth_26 rfl ?_
    rw [ht2]
    refine callVi mX5_nodeAt [_, _] dX5_depth_27 okc_X5_nodeAt ok_761 ⟨by decide, by decide⟩ rfl rfl m0 rfl (Nat.le_of_ble_eq_true rfl) (Nat.le_of_ble_eq_true rfl) (Nat.le_of_ble_eq_true rfl) (m_nodeAt k hM (hF2.1 t List.mem_cons_self) hnt hst hk) (fun x1 S1 h1 => ?_)
    obtain ⟨rfl, I3, A3, rfl, s3, -⟩ := h1
    rw [idAt_of z7]
    have hm3 := (mS_F hM s3 hF2).1 t List.mem_cons_self
    rw [z2] at hm3
    refine callVi mX5_depthOf [_] dX5_depth_30 okc_X5_depthOf ok_920 ⟨by decide, by decide⟩ rfl rfl m0 rfl (Nat.le_of_ble_eq_true rfl) (Nat.le_of_ble_eq_true rfl) (Nat.le_of_ble_eq_true rfl) (m_depthOf a i v l r fs hM hm3) (fun x1 S1 h1 => ?_)
    obtain ⟨rfl, rfl⟩ := h1
    refine WP_goto 37 dX5_depth_33 (by decide) ?_
    refine WP_ireturn dX5_depth_37 rfl rfl (Nat.le_of_ble_eq_true rfl) (Nat.le_of_ble_eq_true rfl) ?_
    refine ⟨_, _, _, rfl, fun _ => rfl, rfl, mI_mk hI2 (fun _ => Iff.rfl) (mS_F hM s3 hF2) ?_ ?_ ?_ (mS_X hM s3).2.1 (mS_X hM s3).2.2.1 (mS_X hM s3).2.2.2, ?_⟩
    · rw [s3.1 1 (by decide)]
      exact ht2
    · rw [s3.1 2 (by decide)]
      exact hc2
    · rw [mS_c s3, hn2]
    · rw [s3.1 0 (by decide)]
      exact th
  · have ez : aDep (t, c, fg, n) x = (1, 0, (t, c, fg, n)) := by
      unfold aDep
      rw [if_neg hx]
    rw [ez]
    refine WP_aload_n dX5_depth_0 rfl ?_
    refine WP_aload_n dX5_depth_1 rfl ?_
    refine WP_iload_n dX5_depth_2 rfl ?_
    refine callVi mX5_isPlace [_] dX5_depth_3 okc_X5_isPlace ok_781 ⟨by decide, by decide⟩ rfl rfl m0 rfl (Nat.le_of_ble_eq_true rfl) (Nat.le_of_ble_eq_true rfl) (Nat.le_of_ble_eq_true rfl) (m_isPlace x hM ht hmt hnt hst) (fun x1 S1 h1 => ?_)
    obtain ⟨rfl, I1, A1, rfl, s1, -⟩ := h1
    rw [if_neg hx]
    refine WP_if_eq 13 dX5_depth_6 (by decide) (fun _ => ?_) (fun hb => absurd hb (by decide))
    refine WP_iconst (1) dX5_depth_13 (by decide) ?_
    refine callVi mX5_goesWell [_] dX5_depth_14 okc_X5_goesWell ok_749 ⟨by decide, by decide⟩ rfl rfl m0 rfl (Nat.le_of_ble_eq_true rfl) (Nat.le_of_ble_eq_true rfl) (Nat.le_of_ble_eq_true rfl) (m_goesWell 1 hM) (fun x1 S1 h1 => ?_)
    obtain ⟨rfl, rfl⟩ := h1
    rw [if_neg (by decide)]
    refine WP_if_eq 36 dX5_depth_17 (by decide) (fun _ => ?_) (fun hb => absurd hb (by decide))
    refine WP_iconst (0) dX5_depth_36 (by decide) ?_
    refine WP_ireturn dX5_depth_37 rfl rfl (Nat.le_of_ble_eq_true rfl) (Nat.le_of_ble_eq_true rfl) ?_
    exact mR_thr hI s1
theorem p_plain (x : Int32) (hA : AI (t, c, fg, n)) (hI : mI W L K AN R0 Im AIm (t, c, fg, n)) :
    MT G mX5_plain [vr (some (W 0)), vi x] (mkS L K AN R0 Rc Ic AIc AR Im AIm AL) (mR W L K AN R0 Rc Ic AIc AR AL (aPla (t, c, fg, n) x)) := by
  obtain ⟨hM, ⟨ht, hc⟩, hF, hcn, hv, ⟨hth1, hth0⟩, hfg⟩ := id hI
  have ht : Im 1 (W 0) = ix (rk kI t) := ht
  have hc : Im 2 (W 0) = ix (rk kI c) := hc
  have hF : mF W AIm [t, c] := hF
  have hcn : cmO Im W = n := hcn
  have hfg : ∀ k, k < 4 → AIm (W 6) k = ix ((fg k).map (·.2)) := hfg
  have hs : tsz t + tsz c ≤ 60 := hA.1
  have hst : tsz t ≤ 60 := by omega
  have hmt := hF.1 t List.mem_cons_self
  have hnt := mF_hd hF
  obtain ⟨m0, ⟨f1, f2, f3, f4, f5, f6, f7⟩, ⟨⟨q1, n1⟩, ⟨q2, n2⟩, ⟨q3, n3⟩, ⟨q4, n4⟩, ⟨q5, n5⟩, ⟨q6, n6⟩, ⟨q7, n7⟩⟩, hne⟩ := id hM
  refine MT_of (by decide) rfl (Nat.le_of_ble_eq_true rfl) ?_
  by_cases hx : inP (tsz t) x
  · refine WP_aload_n dX5_plain_0 rfl ?_
    refine WP_aload_n dX5_plain_1 rfl ?_
    refine WP_iload_n dX5_plain_2 rfl ?_
    refine callVi mX5_isPlace [_] dX5_plain_3 okc_X5_isPlace ok_781 ⟨by decide, by decide⟩ rfl rfl m0 rfl (Nat.le_of_ble_eq_true rfl) (Nat.le_of_ble_eq_true rfl) (Nat.le_of_ble_eq_true rfl) (m_isPlace x hM ht hmt hnt hst) (fun x1 S1 h1 => ?_)
    obtain ⟨rfl, I1, A1, rfl, s1, -⟩ := h1
    rw [if_pos hx]
    refine WP_if_eq 13 dX5_plain_6 (by decide) (fun hb => absurd hb (by decide)) (fun _ => ?_)
    refine WP_iconst (0) dX5_plain_9 (by decide) ?_
    refine WP_goto 14 dX5_plain_10 (by decide) ?_
    refine callVi mX5_goesWell [_] dX5_plain_14 okc_X5_goesWell ok_749 ⟨by decide, by decide⟩ rfl rfl m0 rfl (Nat.le_of_ble_eq_true rfl) (Nat.le_of_ble_eq_true rfl) (Nat.le_of_ble_eq_true rfl) (m_goesWell 0 hM) (fun x1 S1 h1 => ?_)
    obtain ⟨rfl, rfl⟩ := h1
    rw [if_pos rfl]
    have hI2 := mI_S hI s1 0
    have th : (u2 I1 0 (W 0) 0) 0 (W 0) = 0 := u2_eq _ _ _ _
    generalize u2 I1 0 (W 0) 0 = Im2 at hI2 th ⊢
    refine WP_if_eq 37 dX5_plain_17 (by decide) (fun hb => absurd hb (by decide)) (fun _ => ?_)
    obtain ⟨-, ⟨ht2, hc2⟩, hF2, hn2, hv2, ⟨hi2, hj2⟩, hfg2⟩ := id hI2
    have ht2 : Im2 1 (W 0) = ix (rk kI t) := ht2
    have hc2 : Im2 2 (W 0) = ix (rk kI c) := hc2
    have hF2 : mF W A1 [t, c] := hF2
    have hn2 : cmO Im2 W = n := hn2
    have hfg2 : ∀ k, k < 4 → A1 (W 6) k = ix ((fg k).map (·.2)) := hfg2
    have hv2 : ∀ x, mB t c x → A1 (W 1) x.2.1 = x.2.2 := hv2
    obtain ⟨k, hk, rfl⟩ := inP_of hx (by omega)
    obtain ⟨fs, a, i, v, l, r, z1, z2, z3, z4, z5, z6, z7⟩ := at_zip hk
    have ez : aPla (t, c, fg, n) (nI k) = (0, vAt t k, (t, c, fg, n)) := by
      unfold aPla
      rw [if_pos hx, pI_n (by omega)]
    rw [ez]
    refine WP_aload_n dX5_plain_20 rfl ?_
    refine gf_RX5_16 dX5_plain_21 rfl rfl m0 ?_
    refine WP_aload_n dX5_plain_24 rfl ?_
    refine WP_aload_n dX5_plain_25 rfl ?_
    refine gf_RX5_9 dX5_plain_26 rfl rfl m0 ?_
    refine WP_iload_n dX5_plain_29 rfl ?_
    rw [ht2]
    refine callVi mX5_nodeAt [_, _] dX5_plain_30 okc_X5_nodeAt ok_761 ⟨by decide, by decide⟩ rfl rfl m0 rfl (Nat.le_of_ble_eq_true rfl) (Nat.le_of_ble_eq_true rfl) (Nat.le_of_ble_eq_true rfl) (m_nodeAt k hM (hF2.1 t List.mem_cons_self) hnt hst hk) (fun x1 S1 h1 => ?_)
    obtain ⟨rfl, I3, A3, rfl, s3, -⟩ := h1
    have h60 : (idAt t k).2 < 60 := by
      rw [idAt_of z7]
      have := hF2.1 t List.mem_cons_self
      rw [z2] at this
      exact (mz this).1
    refine ald_7 ((idAt t k).2) 60 dX5_plain_33 f1 q1 n1 rfl h60 (by decide) ?_
    rw [show A3 (W 1) (idAt t k).2 = vAt t k from by rw [(mS_X hM s3).2.1]; exact hv2 _ (mB_at hk)]
    refine WP_goto 38 dX5_plain_34 (by decide) ?_
    refine WP_ireturn dX5_plain_38 rfl rfl (Nat.le_of_ble_eq_true rfl) (Nat.le_of_ble_eq_true rfl) ?_
    refine ⟨_, _, _, rfl, fun _ => rfl, rfl, mI_mk hI2 (fun _ => Iff.rfl) (mS_F hM s3 hF2) ?_ ?_ ?_ (mS_X hM s3).2.1 (mS_X hM s3).2.2.1 (mS_X hM s3).2.2.2, ?_⟩
    · rw [s3.1 1 (by decide)]
      exact ht2
    · rw [s3.1 2 (by decide)]
      exact hc2
    · rw [mS_c s3, hn2]
    · rw [s3.1 0 (by decide)]
      exact th
  · have ez : aPla (t, c, fg, n) x = (1, 0, (t, c, fg, n)) := by
      unfold aPla
      rw [if_neg hx]
    rw [ez]
    refine WP_aload_n dX5_plain_0 rfl ?_
    refine WP_aload_n dX5_plain_1 rfl ?_
    refine WP_iload_n dX5_plain_2 rfl ?_
    refine callVi mX5_isPlace [_] dX5_plain_3 okc_X5_isPlace ok_781 ⟨by decide, by decide⟩ rfl rfl m0 rfl (Nat.le_of_ble_eq_true rfl) (Nat.le_of_ble_eq_true rfl) (Nat.le_of_ble_eq_true rfl) (m_isPlace x hM ht hmt hnt hst) (fun x1 S1 h1 => ?_)
    obtain ⟨rfl, I1, A1, rfl, s1, -⟩ := h1
    rw [if_neg hx]
    refine WP_if_eq 13 dX5_plain_6 (by decide) (fun _ => ?_) (fun hb => absurd hb (by decide))
    refine WP_iconst (1) dX5_plain_13 (by decide) ?_
    refine callVi mX5_goesWell [_] dX5_plain_14 okc_X5_goesWell ok_749 ⟨by decide, by decide⟩ rfl rfl m0 rfl (Nat.le_of_ble_eq_true rfl) (Nat.le_of_ble_eq_true rfl) (Nat.le_of_ble_eq_true rfl) (m_goesWell 1 hM) (fun x1 S1 h1 => ?_)
    obtain ⟨rfl, rfl⟩ := h1
    rw [if_neg (by decide)]
    refine WP_if_eq 37 dX5_plain_17 (by decide) (fun _ => ?_) (fun hb => absurd hb (by decide))
    refine WP_iconst (0) dX5_plain_37 (by decide) ?_
    refine WP_ireturn dX5_plain_38 rfl rfl (Nat.le_of_ble_eq_true rfl) (Nat.le_of_ble_eq_true rfl) ?_
    exact mR_thr hI s1
theorem p_child (x b : Int32) (hA : AI (t, c, fg, n)) (hI : mI W L K AN R0 Im AIm (t, c, fg, n)) :
    MT G mX5_child [vr (some (W 0)), vi x, vi b] (mkS L K AN R0 Rc Ic AIc AR Im AIm AL) (mR W L K AN R0 Rc Ic AIc AR AL (aChi (t, c, fg, n) x (decide (b ≠ 0)))) := by
  obtain ⟨hM, ⟨ht, hc⟩, hF, hcn, hv, ⟨hth1, hth0⟩, hfg⟩ := id hI
  have ht : Im 1 (W 0) = ix (rk kI t) := ht
  have hc : Im 2 (W 0) = ix (rk kI c) := hc
  have hF : mF W AIm [t, c] := hF
  have hcn : cmO Im W = n := hcn
  have hfg : ∀ k, k < 4 → AIm (W 6) k = ix ((fg k).map (·.2)) := hfg
  have hs : tsz t + tsz c ≤ 60 := hA.1
  have hst : tsz t ≤ 60 := by omega
  have hmt := hF.1 t List.mem_cons_self
  have hnt := mF_hd hF
  obtain ⟨m0, ⟨f1, f2, f3, f4, f5, f6, f7⟩, ⟨⟨q1, n1⟩, ⟨q2, n2⟩, ⟨q3, n3⟩, ⟨q4, n4⟩, ⟨q5, n5⟩, ⟨q6, n6⟩, ⟨q7, n7⟩⟩, hne⟩ := id hM
  refine MT_of (by decide) rfl (Nat.le_of_ble_eq_true rfl) ?_
  by_cases hx : inP (tsz t) x
  · refine WP_aload_n dX5_child_0 rfl ?_
    refine WP_aload_n dX5_child_1 rfl ?_
    refine WP_iload_n dX5_child_2 rfl ?_
    refine callVi mX5_isPlace [_] dX5_child_3 okc_X5_isPlace ok_781 ⟨by decide, by decide⟩ rfl rfl m0 rfl (Nat.le_of_ble_eq_true rfl) (Nat.le_of_ble_eq_true rfl) (Nat.le_of_ble_eq_true rfl) (m_isPlace x hM ht hmt hnt hst) (fun x1 S1 h1 => ?_)
    obtain ⟨rfl, I1, A1, rfl, s1, -⟩ := h1
    rw [if_pos hx]
    refine WP_if_eq 13 dX5_child_6 (by decide) (fun hb => absurd hb (by decide)) (fun _ => ?_)
    refine WP_iconst (0) dX5_child_9 (by decide) ?_
    refine WP_goto 14 dX5_child_10 (by decide) ?_
    refine callVi mX5_goesWell [_] dX5_child_14 okc_X5_goesWell ok_749 ⟨by decide, by decide⟩ rfl rfl m0 rfl (Nat.le_of_ble_eq_true rfl) (Nat.le_of_ble_eq_true rfl) (Nat.le_of_ble_eq_true rfl) (m_goesWell 0 hM) (fun x1 S1 h1 => ?_)
    obtain ⟨rfl, rfl⟩ := h1
    rw [if_pos rfl]
    have hI2 := mI_S hI s1 0
    have th : (u2 I1 0 (W 0) 0) 0 (W 0) = 0 := u2_eq _ _ _ _
    generalize u2 I1 0 (W 0) 0 = Im2 at hI2 th ⊢
    refine WP_if_ne 22 dX5_child_17 (by decide) (fun _ => ?_) (fun hb => absurd hb (by decide))
    obtain ⟨-, ⟨ht2, hc2⟩, hF2, hn2, hv2, ⟨hi2, hj2⟩, hfg2⟩ := id hI2
    have ht2 : Im2 1 (W 0) = ix (rk kI t) := ht2
    have hc2 : Im2 2 (W 0) = ix (rk kI c) := hc2
    have hF2 : mF W A1 [t, c] := hF2
    have hn2 : cmO Im2 W = n := hn2
    have hfg2 : ∀ k, k < 4 → A1 (W 6) k = ix ((fg k).map (·.2)) := hfg2
    have hv2 : ∀ x, mB t c x → A1 (W 1) x.2.1 = x.2.2 := hv2
    obtain ⟨k, hk, rfl⟩ := inP_of hx (by omega)
    obtain ⟨fs, a, i, v, l, r, z1, z2, z3, z4, z5, z6, z7⟩ := at_zip hk
    have ez : aChi (t, c, fg, n) (nI k) (decide (b ≠ 0)) = (0, if b ≠ 0 then posP ((false, (a, i, v), l) :: fs) r else posP ((true, (a, i, v), r) :: fs) l, (t, c, fg, n)) := by
      unfold aChi
      rw [if_pos hx, pI_n (by omega), z1]
      simp [chP]
    rw [ez]
    refine WP_aload_n dX5_child_22 rfl ?_
    refine WP_aload_n dX5_child_23 rfl ?_
    refine gf_RX5_9 dX5_child_24 rfl rfl m0 ?_
    refine WP_iload_n dX5_child_27 rfl ?_
    rw [ht2]
    refine callVi mX5_nodeAt [_, _] dX5_child_28 okc_X5_nodeAt ok_761 ⟨by decide, by decide⟩ rfl rfl m0 rfl (Nat.le_of_ble_eq_true rfl) (Nat.le_of_ble_eq_true rfl) (Nat.le_of_ble_eq_true rfl) (m_nodeAt k hM (hF2.1 t List.mem_cons_self) hnt hst hk) (fun x1 S1 h1 => ?_)
    obtain ⟨rfl, I3, A3, rfl, s3, -⟩ := h1
    rw [idAt_of z7]
    have F3 := mS_F hM s3 hF2
    have hm3 := F3.1 t List.mem_cons_self
    have hm4 := hm3
    rw [z2] at hm4
    obtain ⟨y0, y1, y2, y3⟩ := mz hm4
    have fin : ∀ (gs : List Fr) (u : Tr), t = plug gs u → WP G mX5_child (mR W L K AN R0 Rc Ic AIc AR AL (0, posP gs u, (t, c, fg, n))) 0 0 51 [(0, vr (some (W 0)))] [vi (ix (rk kI u))] (mkS L K AN R0 Rc Ic AIc AR I3 A3 AL) := by
      intro gs u hu
      have hfin : ∀ I4 A4, mS W I3 A3 I4 A4 → mR W L K AN R0 Rc Ic AIc AR AL (0, posP gs u, (t, c, fg, n)) (.inl (some (vi (posP gs u)))) (mkS L K AN R0 Rc Ic AIc AR I4 A4 AL) := by
        intro I4 A4 s4
        have s5 := mS_trans s3 s4
        refine ⟨_, _, _, rfl, fun _ => rfl, rfl, mI_mk hI2 (fun _ => Iff.rfl) (mS_F hM s5 hF2) ?_ ?_ ?_ (mS_X hM s5).2.1 (mS_X hM s5).2.2.1 (mS_X hM s5).2.2.2, ?_⟩
        · rw [s5.1 1 (by decide)]
          exact ht2
        · rw [s5.1 2 (by decide)]
          exact hc2
        · rw [mS_c s5, hn2]
        · rw [s5.1 0 (by decide)]
          exact th
      have hm5 := hm3
      rw [hu] at hm5
      cases u with
      | leaf =>
        refine WP_istore dX5_child_51 (by decide) rfl ?_
        refine WP_iload dX5_child_53 rfl ?_
        refine WP_iconst (-1) dX5_child_55 (by decide) ?_
        refine WP_icmp_ne 63 dX5_child_56 (by decide) (fun hb => ?_) (fun hb => ?_)
        · exact absurd rfl hb
        · refine WP_iconst (-1) dX5_child_59 (by decide) ?_
          refine WP_goto 69 dX5_child_60 (by decide) ?_
          refine WP_ireturn dX5_child_69 rfl rfl (Nat.le_of_ble_eq_true rfl) (Nat.le_of_ble_eq_true rfl) ?_
          exact hfin _ _ mS_refl
      | inner a' i' v' l' r' =>
        have hi := (mz hm5).1
        refine WP_istore dX5_child_51 (by decide) rfl ?_
        refine WP_iload dX5_child_53 rfl ?_
        refine WP_iconst (-1) dX5_child_55 (by decide) ?_
        refine WP_icmp_ne 63 dX5_child_56 (by decide) (fun hb => ?_) (fun hb => ?_)
        · refine WP_aload_n dX5_child_63 rfl ?_
          refine WP_iload dX5_child_64 rfl ?_
          refine callVi mX5_placeOf [_] dX5_child_66 okc_X5_placeOf ok_864 ⟨by decide, by decide⟩ rfl rfl m0 rfl (Nat.le_of_ble_eq_true rfl) (Nat.le_of_ble_eq_true rfl) (Nat.le_of_ble_eq_true rfl) (m_placeOf a' i' v' l' r' gs hM hu hm3 hnt hst) (fun x1 S1 h1 => ?_)
          obtain ⟨rfl, I4, A4, rfl, s4, -⟩ := h1
          refine WP_ireturn dX5_child_69 rfl rfl (Nat.le_of_ble_eq_true rfl) (Nat.le_of_ble_eq_true rfl) ?_
          exact hfin _ _ s4
        · exact absurd hb (nI_ne1 hi)
    refine WP_istore_n dX5_child_31 (by decide) rfl ?_
    refine WP_iload_n dX5_child_32 rfl ?_
    refine WP_if_eq 45 dX5_child_33 (by decide) (fun h2 => ?_) (fun h2 => ?_)
    · rw [if_neg (fun h => h h2)]
      refine WP_aload_n dX5_child_45 rfl ?_
      refine gf_RX5_20 dX5_child_46 rfl rfl m0 ?_
      refine WP_iload_n dX5_child_49 rfl ?_
      refine ald_7 i 60 dX5_child_50 f2 q2 n2 rfl y0 (by decide) ?_
      rw [y1]
      refine WP_lv [(0, vr (some (W 0)))] (List.forall_mem_cons.mpr ⟨rfl, fun _ h9 => absurd h9 List.not_mem_nil⟩) ?_
      exact fin ((true, (a, i, v), r) :: fs) l z2
    · rw [if_pos h2]
      refine WP_aload_n dX5_child_36 rfl ?_
      refine gf_RX5_23 dX5_child_37 rfl rfl m0 ?_
      refine WP_iload_n dX5_child_40 rfl ?_
      refine ald_7 i 60 dX5_child_41 f3 q3 n3 rfl y0 (by decide) ?_
      refine WP_goto 51 dX5_child_42 (by decide) ?_
      rw [y2]
      refine WP_lv [(0, vr (some (W 0)))] (List.forall_mem_cons.mpr ⟨rfl, fun _ h9 => absurd h9 List.not_mem_nil⟩) ?_
      exact fin ((false, (a, i, v), l) :: fs) r z2
  · have ez : aChi (t, c, fg, n) x (decide (b ≠ 0)) = (1, 0, (t, c, fg, n)) := by
      unfold aChi
      rw [if_neg hx]
    rw [ez]
    refine WP_aload_n dX5_child_0 rfl ?_
    refine WP_aload_n dX5_child_1 rfl ?_
    refine WP_iload_n dX5_child_2 rfl ?_
    refine callVi mX5_isPlace [_] dX5_child_3 okc_X5_isPlace ok_781 ⟨by decide, by decide⟩ rfl rfl m0 rfl (Nat.le_of_ble_eq_true rfl) (Nat.le_of_ble_eq_true rfl) (Nat.le_of_ble_eq_true rfl) (m_isPlace x hM ht hmt hnt hst) (fun x1 S1 h1 => ?_)
    obtain ⟨rfl, I1, A1, rfl, s1, -⟩ := h1
    rw [if_neg hx]
    refine WP_if_eq 13 dX5_child_6 (by decide) (fun _ => ?_) (fun hb => absurd hb (by decide))
    refine WP_iconst (1) dX5_child_13 (by decide) ?_
    refine callVi mX5_goesWell [_] dX5_child_14 okc_X5_goesWell ok_749 ⟨by decide, by decide⟩ rfl rfl m0 rfl (Nat.le_of_ble_eq_true rfl) (Nat.le_of_ble_eq_true rfl) (Nat.le_of_ble_eq_true rfl) (m_goesWell 1 hM) (fun x1 S1 h1 => ?_)
    obtain ⟨rfl, rfl⟩ := h1
    rw [if_neg (by decide)]
    refine WP_if_ne 22 dX5_child_17 (by decide) (fun hb => absurd hb (by decide)) (fun _ => ?_)
    refine WP_iconst (0) dX5_child_20 (by decide) ?_
    refine WP_ireturn dX5_child_21 rfl rfl (Nat.le_of_ble_eq_true rfl) (Nat.le_of_ble_eq_true rfl) ?_
    exact mR_thr hI s1
theorem p_whereIs (f : Int32) (hA : AI (t, c, fg, n)) (hI : mI W L K AN R0 Im AIm (t, c, fg, n)) :
    MT G mX5_whereIs [vr (some (W 0)), vi f] (mkS L K AN R0 Rc Ic AIc AR Im AIm AL) (mR W L K AN R0 Rc Ic AIc AR AL (aWhe (t, c, fg, n) f)) := by
  obtain ⟨hM, ⟨ht, hc⟩, hF, hcn, hv, ⟨hth1, hth0⟩, hfg⟩ := id hI
  have ht : Im 1 (W 0) = ix (rk kI t) := ht
  have hc : Im 2 (W 0) = ix (rk kI c) := hc
  have hF : mF W AIm [t, c] := hF
  have hcn : cmO Im W = n := hcn
  have hfg : ∀ k, k < 4 → AIm (W 6) k = ix ((fg k).map (·.2)) := hfg
  have hs : tsz t + tsz c ≤ 60 := hA.1
  have hst : tsz t ≤ 60 := by omega
  have hmt := hF.1 t List.mem_cons_self
  have hnt := mF_hd hF
  obtain ⟨m0, ⟨f1, f2, f3, f4, f5, f6, f7⟩, ⟨⟨q1, n1⟩, ⟨q2, n2⟩, ⟨q3, n3⟩, ⟨q4, n4⟩, ⟨q5, n5⟩, ⟨q6, n6⟩, ⟨q7, n7⟩⟩, hne⟩ := id hM
  refine MT_of (by decide) rfl (Nat.le_of_ble_eq_true rfl) ?_
  refine WP_aload_n dX5_whereIs_0 rfl ?_
  refine WP_iload_n dX5_whereIs_1 rfl ?_
  refine callSi mX5_isFinger [_] dX5_whereIs_2 okc_X5_isFinger ok_849 ⟨by decide, by decide⟩ rfl rfl (Nat.le_of_ble_eq_true rfl) (Nat.le_of_ble_eq_true rfl) (Nat.le_of_ble_eq_true rfl) (m_isFinger f) rfl (fun x1 S1 h1 => ?_)
  obtain ⟨rfl, rfl⟩ := h1
  by_cases hf : inP 4 f
  · rw [if_pos hf]
    refine WP_if_eq 12 dX5_whereIs_5 (by decide) (fun hb => absurd hb (by decide)) (fun _ => ?_)
    refine WP_iconst (0) dX5_whereIs_8 (by decide) ?_
    refine WP_goto 13 dX5_whereIs_9 (by decide) ?_
    refine callVi mX5_goesWell [_] dX5_whereIs_13 okc_X5_goesWell ok_749 ⟨by decide, by decide⟩ rfl rfl m0 rfl (Nat.le_of_ble_eq_true rfl) (Nat.le_of_ble_eq_true rfl) (Nat.le_of_ble_eq_true rfl) (m_goesWell 0 hM) (fun x1 S1 h1 => ?_)
    obtain ⟨rfl, rfl⟩ := h1
    rw [if_pos rfl]
    have hI2 := mI_S hI mS_refl 0
    have th : (u2 Im 0 (W 0) 0) 0 (W 0) = 0 := u2_eq _ _ _ _
    have ht2 : (u2 Im 0 (W 0) 0) 1 (W 0) = ix (rk kI t) := by rw [u2_o _ _ _ (by decide)]; exact ht
    refine WP_if_ne 21 dX5_whereIs_16 (by decide) (fun _ => ?_) (fun hb => absurd hb (by decide))
    obtain ⟨j, hj, rfl⟩ := inP_of hf (by decide)
    refine WP_aload_n dX5_whereIs_21 rfl ?_
    refine gf_RX5_33 dX5_whereIs_22 rfl rfl m0 ?_
    refine WP_iload_n dX5_whereIs_25 rfl ?_
    refine ald_7 j 4 dX5_whereIs_26 f6 q6 n6 rfl hj (by decide) ?_
    refine WP_iconst (-1) dX5_whereIs_27 (by decide) ?_
    rw [hfg j hj]
    cases hg : fg j with
    | none =>
      have ez : aWhe (t, c, fg, n) (nI j) = (0, 0, (t, c, fg, n)) := by
        unfold aWhe
        rw [if_pos hf, pI_n (by omega)]
        show (match fg j with | none => _ | some p => _) = _
        rw [hg]
      rw [ez]
      refine WP_icmp_ne 35 dX5_whereIs_28 (by decide) (fun hb => ?_) (fun hb => ?_)
      · exact absurd rfl hb
      · refine WP_iconst (0) dX5_whereIs_31 (by decide) ?_
        refine WP_goto 53 dX5_whereIs_32 (by decide) ?_
        refine WP_ireturn dX5_whereIs_53 rfl rfl (Nat.le_of_ble_eq_true rfl) (Nat.le_of_ble_eq_true rfl) ?_
        exact ⟨_, _, _, rfl, fun _ => rfl, rfl, hI2, th⟩
    | some p =>
      have hp := hA.2 j p hj hg
      have hp60 : p.2 < 60 := by
        rcases hp with hp | hp
        · obtain ⟨v, hv9⟩ := in_ids hp
          exact hmt.2 _ (List.mem_map.mpr ⟨_, hv9, rfl⟩)
        · obtain ⟨v, hv9⟩ := in_ids hp
          exact (hF.1 c (by simp)).2 _ (List.mem_map.mpr ⟨_, hv9, rfl⟩)
      have ez : aWhe (t, c, fg, n) (nI j) = (0, if p ∈ ids t then 1 else 2, (t, c, fg, n)) := by
        unfold aWhe
        rw [if_pos hf, pI_n (by omega)]
        show (match fg j with | none => _ | some p => _) = _
        rw [hg]
      rw [ez]
      refine WP_icmp_ne 35 dX5_whereIs_28 (by decide) (fun hb => ?_) (fun hb => ?_)
      · refine WP_aload_n dX5_whereIs_35 rfl ?_
        refine WP_aload_n dX5_whereIs_36 rfl ?_
        refine gf_RX5_33 dX5_whereIs_37 rfl rfl m0 ?_
        refine WP_iload_n dX5_whereIs_40 rfl ?_
        refine ald_7 j 4 dX5_whereIs_41 f6 q6 n6 rfl hj (by decide) ?_
        rw [hfg j hj]
        refine callVi mX5_isInSequence [_] dX5_whereIs_42 okc_X5_isInSequence ok_856 ⟨by decide, by decide⟩ rfl rfl m0 rfl (Nat.le_of_ble_eq_true rfl) (Nat.le_of_ble_eq_true rfl) (Nat.le_of_ble_eq_true rfl) (m_inSeq (fg j) hM ht2 hF (fun p hp => hA.2 j p hj hp)) (fun x1 S1 h1 => ?_)
        obtain ⟨rfl, rfl⟩ := h1
        by_cases hin : p ∈ ids t
        · rw [if_pos hin, if_pos (show ∃ p, fg j = some p ∧ p ∈ ids t from ⟨p, hg, hin⟩)]
          refine WP_if_eq 52 dX5_whereIs_45 (by decide) (fun hb => absurd hb (by decide)) (fun _ => ?_)
          refine WP_iconst (1) dX5_whereIs_48 (by decide) ?_
          refine WP_goto 53 dX5_whereIs_49 (by decide) ?_
          refine WP_ireturn dX5_whereIs_53 rfl rfl (Nat.le_of_ble_eq_true rfl) (Nat.le_of_ble_eq_true rfl) ?_
          exact ⟨_, _, _, rfl, fun _ => rfl, rfl, hI2, th⟩
        · rw [if_neg hin, if_neg (show ¬ ∃ p, fg j = some p ∧ p ∈ ids t from fun ⟨p', h, h'⟩ => hin (by rw [hg] at h; cases h; exact h'))]
          refine WP_if_eq 52 dX5_whereIs_45 (by decide) (fun _ => ?_) (fun hb => absurd hb (by decide))
          refine WP_iconst (2) dX5_whereIs_52 (by decide) ?_
          refine WP_ireturn dX5_whereIs_53 rfl rfl (Nat.le_of_ble_eq_true rfl) (Nat.le_of_ble_eq_true rfl) ?_
          exact ⟨_, _, _, rfl, fun _ => rfl, rfl, hI2, th⟩
      · exact absurd hb (nI_ne1 hp60)
  · rw [if_neg hf]
    refine WP_if_eq 12 dX5_whereIs_5 (by decide) (fun _ => ?_) (fun hb => absurd hb (by decide))
    refine WP_iconst (1) dX5_whereIs_12 (by decide) ?_
    refine callVi mX5_goesWell [_] dX5_whereIs_13 okc_X5_goesWell ok_749 ⟨by decide, by decide⟩ rfl rfl m0 rfl (Nat.le_of_ble_eq_true rfl) (Nat.le_of_ble_eq_true rfl) (Nat.le_of_ble_eq_true rfl) (m_goesWell 1 hM) (fun x1 S1 h1 => ?_)
    obtain ⟨rfl, rfl⟩ := h1
    rw [if_neg (by decide)]
    refine WP_if_ne 21 dX5_whereIs_16 (by decide) (fun hb => absurd hb (by decide)) (fun _ => ?_)
    refine WP_iconst (0) dX5_whereIs_19 (by decide) ?_
    refine WP_ireturn dX5_whereIs_20 rfl rfl (Nat.le_of_ble_eq_true rfl) (Nat.le_of_ble_eq_true rfl) ?_
    have ez : aWhe (t, c, fg, n) f = (1, 0, (t, c, fg, n)) := by
      unfold aWhe
      rw [if_neg hf]
    rw [ez]
    exact mR_thr hI mS_refl
/-! the sum of the plain row -/
theorem psum_m {Q : RS → SS → Prop} (f u : Nat) (hM : mK W L K AN R0) (hm : mT W AIm t) (hs : tsz t ≤ 60) (hu : u ≤ tsz t) (ho : ordR (AIm (W 7)) t) (hv : ∀ x ∈ io t, AIm (W 1) x.2.1 = x.2.2)
    (hQ : Q (.inl (some (vi (sumF (vAt t) f (u - f))))) (mkS L K AN R0 Rc Ic AIc AR Im AIm AL)) : ∀ (b k : Nat), u - (f + k) ≤ b → f + k ≤ u →
    WP G mX5_plainSum Q 0 0 36 [(0, vr (some (W 0))), (1, vi (nI f)), (2, vi (nI u)), (3, vi (sumF (vAt t) f k)), (4, vi (nI (f + k)))] [] (mkS L K AN R0 Rc Ic AIc AR Im AIm AL) := by
  have hM' := hM
  obtain ⟨m0, ⟨f1, f2, f3, f4, f5, f6, f7⟩, ⟨⟨q1, n1⟩, ⟨q2, n2⟩, ⟨q3, n3⟩, ⟨q4, n4⟩, ⟨q5, n5⟩, ⟨q6, n6⟩, ⟨q7, n7⟩⟩, hne⟩ := hM
  have fin : ∀ k, f + k = u → WP G mX5_plainSum Q 0 0 36 [(0, vr (some (W 0))), (1, vi (nI f)), (2, vi (nI u)), (3, vi (sumF (vAt t) f k)), (4, vi (nI (f + k)))] [] (mkS L K AN R0 Rc Ic AIc AR Im AIm AL) := by
    intro k hk
    rw [hk]
    obtain rfl : k = u - f := by omega
    refine WP_iload dX5_plainSum_36 rfl ?_
    refine WP_iload_n dX5_plainSum_38 rfl ?_
    refine WP_icmp_ge 63 dX5_plainSum_39 (by decide) (fun h1 => ?_) (fun h1 => ?_)
    · refine WP_iload_n dX5_plainSum_63 rfl ?_
      refine WP_ireturn dX5_plainSum_64 rfl rfl (Nat.le_of_ble_eq_true rfl) (Nat.le_of_ble_eq_true rfl) ?_
      exact hQ
    · exact absurd (Int32.le_refl _) h1
  intro b
  induction b with
  | zero => intro k hb hk; exact fin k (by omega)
  | succ b ih =>
    intro k hb hk
    by_cases hku : f + k < u
    · obtain ⟨z, hz⟩ := io_at (t := t) (k := f + k) (by omega)
      have hi : z.2.1 < 60 := hm.2 _ (List.mem_of_getElem? (kl_at hz))
      refine WP_iload dX5_plainSum_36 rfl ?_
      refine WP_iload_n dX5_plainSum_38 rfl ?_
      refine WP_icmp_ge 63 dX5_plainSum_39 (by decide) (fun h1 => ?_) (fun h1 => ?_)
      · exact absurd h1 (nI_ge hku (by omega))
      · refine WP_iload_n dX5_plainSum_42 rfl ?_
        refine WP_aload_n dX5_plainSum_43 rfl ?_
        refine gf_RX5_16 dX5_plainSum_44 rfl rfl m0 ?_
        refine WP_aload_n dX5_plainSum_47 rfl ?_
        refine gf_RX5_36 dX5_plainSum_48 rfl rfl m0 ?_
        refine WP_iload dX5_plainSum_51 rfl ?_
        refine ald_7 (f + k) 60 dX5_plainSum_53 f7 q7 n7 rfl (by omega) (by decide) ?_
        rw [ho (f + k) z hz]
        refine ald_7 (z.2.1) 60 dX5_plainSum_54 f1 q1 n1 rfl hi (by decide) ?_
        rw [hv z (List.mem_of_getElem? hz), ← vAt_io hz]
        refine WP_iadd dX5_plainSum_55 ?_
        refine WP_istore_n dX5_plainSum_56 (by decide) rfl ?_
        refine WP_iinc (nI (f + (k + 1))) dX5_plainSum_57 rfl (nI_1 _) (by decide) rfl ?_
        refine WP_goto 36 dX5_plainSum_60 (by decide) ?_
        refine WP_lv [(0, vr (some (W 0))), (1, vi (nI f)), (2, vi (nI u)), (3, vi (sumF (vAt t) f (k + 1))), (4, vi (nI (f + (k + 1))))] (List.forall_mem_cons.mpr ⟨rfl, List.forall_mem_cons.mpr ⟨rfl, List.forall_mem_cons.mpr ⟨rfl, List.forall_mem_cons.mpr ⟨rfl, List.forall_mem_cons.mpr ⟨rfl, fun _ h9 => absurd h9 List.not_mem_nil⟩⟩⟩⟩⟩) ?_
        exact ih (k + 1) (by omega) (by omega)
    · exact fin k (by omega)
theorem p_plainSum (x y : Int32) (hA : AI (t, c, fg, n)) (hI : mI W L K AN R0 Im AIm (t, c, fg, n)) :
    MT G mX5_plainSum [vr (some (W 0)), vi x, vi y] (mkS L K AN R0 Rc Ic AIc AR Im AIm AL) (mR W L K AN R0 Rc Ic AIc AR AL (aPSu (t, c, fg, n) x y)) := by
  obtain ⟨hM, ⟨ht, hc⟩, hF, hcn, hv, ⟨hth1, hth0⟩, hfg⟩ := id hI
  have ht : Im 1 (W 0) = ix (rk kI t) := ht
  have hc : Im 2 (W 0) = ix (rk kI c) := hc
  have hF : mF W AIm [t, c] := hF
  have hcn : cmO Im W = n := hcn
  have hfg : ∀ k, k < 4 → AIm (W 6) k = ix ((fg k).map (·.2)) := hfg
  have hs : tsz t + tsz c ≤ 60 := hA.1
  have hst : tsz t ≤ 60 := by omega
  have hmt := hF.1 t List.mem_cons_self
  have hnt := mF_hd hF
  obtain ⟨m0, ⟨f1, f2, f3, f4, f5, f6, f7⟩, ⟨⟨q1, n1⟩, ⟨q2, n2⟩, ⟨q3, n3⟩, ⟨q4, n4⟩, ⟨q5, n5⟩, ⟨q6, n6⟩, ⟨q7, n7⟩⟩, hne⟩ := id hM
  refine MT_of (by decide) rfl (Nat.le_of_ble_eq_true rfl) ?_
  by_cases hx : inR (tsz t) x y
  · refine WP_aload_n dX5_plainSum_0 rfl ?_
    refine WP_aload_n dX5_plainSum_1 rfl ?_
    refine WP_iload_n dX5_plainSum_2 rfl ?_
    refine WP_iload_n dX5_plainSum_3 rfl ?_
    refine callVi mX5_isRange [_, _] dX5_plainSum_4 okc_X5_isRange ok_809 ⟨by decide, by decide⟩ rfl rfl m0 rfl (Nat.le_of_ble_eq_true rfl) (Nat.le_of_ble_eq_true rfl) (Nat.le_of_ble_eq_true rfl) (m_isRange x y hM ht hmt hnt hst) (fun x1 S1 h1 => ?_)
    obtain ⟨rfl, I1, A1, rfl, s1, -⟩ := h1
    rw [if_pos hx]
    refine WP_if_eq 14 dX5_plainSum_7 (by decide) (fun hb => absurd hb (by decide)) (fun _ => ?_)
    refine WP_iconst (0) dX5_plainSum_10 (by decide) ?_
    refine WP_goto 15 dX5_plainSum_11 (by decide) ?_
    refine callVi mX5_goesWell [_] dX5_plainSum_15 okc_X5_goesWell ok_749 ⟨by decide, by decide⟩ rfl rfl m0 rfl (Nat.le_of_ble_eq_true rfl) (Nat.le_of_ble_eq_true rfl) (Nat.le_of_ble_eq_true rfl) (m_goesWell 0 hM) (fun x1 S1 h1 => ?_)
    obtain ⟨rfl, rfl⟩ := h1
    rw [if_pos rfl]
    have hI2 := mI_S hI s1 0
    have th : (u2 I1 0 (W 0) 0) 0 (W 0) = 0 := u2_eq _ _ _ _
    generalize u2 I1 0 (W 0) 0 = Im2 at hI2 th ⊢
    refine WP_if_ne 23 dX5_plainSum_18 (by decide) (fun _ => ?_) (fun hb => absurd hb (by decide))
    obtain ⟨-, ⟨ht2, hc2⟩, hF2, hn2, hv2, ⟨hi2, hj2⟩, hfg2⟩ := id hI2
    have ht2 : Im2 1 (W 0) = ix (rk kI t) := ht2
    have hc2 : Im2 2 (W 0) = ix (rk kI c) := hc2
    have hF2 : mF W A1 [t, c] := hF2
    have hn2 : cmO Im2 W = n := hn2
    have hfg2 : ∀ k, k < 4 → A1 (W 6) k = ix ((fg k).map (·.2)) := hfg2
    have hv2 : ∀ x, mB t c x → A1 (W 1) x.2.1 = x.2.2 := hv2
    obtain ⟨f, u, hfu, hu, rfl, rfl⟩ := inR_of hx (by omega)
    have ez : aPSu (t, c, fg, n) (nI f) (nI u) = (0, sumF (vAt t) f (u - f), (t, c, fg, n)) := by
      unfold aPSu
      rw [if_pos hx, pI_n (by omega), pI_n (by omega)]
    rw [ez]
    refine WP_aload_n dX5_plainSum_23 rfl ?_
    refine WP_aload_n dX5_plainSum_24 rfl ?_
    refine gf_RX5_9 dX5_plainSum_25 rfl rfl m0 ?_
    rw [ht2]
    refine callVv mX5_layOrder [_] dX5_plainSum_28 okc_X5_layOrder ok_734 ⟨by decide, by decide⟩ rfl rfl m0 rfl (Nat.le_of_ble_eq_true rfl) (Nat.le_of_ble_eq_true rfl) (Nat.le_of_ble_eq_true rfl) (m_layOrder hM (hF2.1 t List.mem_cons_self) hnt hst) (fun S1 h1 => ?_)
    obtain ⟨I4, A4, rfl, s4, o4, o5⟩ := h1
    have F4 := mS_F hM s4 hF2
    have X4 := mS_X hM s4
    refine WP_iconst (0) dX5_plainSum_31 (by decide) ?_
    refine WP_istore_n dX5_plainSum_32 (by decide) rfl ?_
    refine WP_iload_n dX5_plainSum_33 rfl ?_
    refine WP_istore dX5_plainSum_34 (by decide) rfl ?_
    refine WP_lv [(0, vr (some (W 0))), (1, vi (nI f)), (2, vi (nI u)), (3, vi (sumF (vAt t) f 0)), (4, vi (nI (f + 0)))] (List.forall_mem_cons.mpr ⟨rfl, List.forall_mem_cons.mpr ⟨rfl, List.forall_mem_cons.mpr ⟨rfl, List.forall_mem_cons.mpr ⟨rfl, List.forall_mem_cons.mpr ⟨rfl, fun _ h9 => absurd h9 List.not_mem_nil⟩⟩⟩⟩⟩) ?_
    refine psum_m f u hM (F4.1 t List.mem_cons_self) hst hu o5 (fun x hx => ?_) ?_ _ 0 (Nat.le_refl _) (by omega)
    · rw [X4.2.1]
      exact hv2 x (Or.inl hx)
    · refine ⟨_, _, _, rfl, fun _ => rfl, rfl, mI_mk hI2 (fun _ => Iff.rfl) F4 ?_ ?_ ?_ X4.2.1 X4.2.2.1 X4.2.2.2, ?_⟩
      · rw [s4.1 1 (by decide)]
        exact ht2
      · rw [s4.1 2 (by decide)]
        exact hc2
      · rw [mS_c s4, hn2]
      · rw [s4.1 0 (by decide)]
        exact th
  · have ez : aPSu (t, c, fg, n) x y = (1, 0, (t, c, fg, n)) := by
      unfold aPSu
      rw [if_neg hx]
    rw [ez]
    refine WP_aload_n dX5_plainSum_0 rfl ?_
    refine WP_aload_n dX5_plainSum_1 rfl ?_
    refine WP_iload_n dX5_plainSum_2 rfl ?_
    refine WP_iload_n dX5_plainSum_3 rfl ?_
    refine callVi mX5_isRange [_, _] dX5_plainSum_4 okc_X5_isRange ok_809 ⟨by decide, by decide⟩ rfl rfl m0 rfl (Nat.le_of_ble_eq_true rfl) (Nat.le_of_ble_eq_true rfl) (Nat.le_of_ble_eq_true rfl) (m_isRange x y hM ht hmt hnt hst) (fun x1 S1 h1 => ?_)
    obtain ⟨rfl, I1, A1, rfl, s1, -⟩ := h1
    rw [if_neg hx]
    refine WP_if_eq 14 dX5_plainSum_7 (by decide) (fun _ => ?_) (fun hb => absurd hb (by decide))
    refine WP_iconst (1) dX5_plainSum_14 (by decide) ?_
    refine callVi mX5_goesWell [_] dX5_plainSum_15 okc_X5_goesWell ok_749 ⟨by decide, by decide⟩ rfl rfl m0 rfl (Nat.le_of_ble_eq_true rfl) (Nat.le_of_ble_eq_true rfl) (Nat.le_of_ble_eq_true rfl) (m_goesWell 1 hM) (fun x1 S1 h1 => ?_)
    obtain ⟨rfl, rfl⟩ := h1
    rw [if_neg (by decide)]
    refine WP_if_ne 23 dX5_plainSum_18 (by decide) (fun hb => absurd hb (by decide)) (fun _ => ?_)
    refine WP_iconst (0) dX5_plainSum_21 (by decide) ?_
    refine WP_ireturn dX5_plainSum_22 rfl rfl (Nat.le_of_ble_eq_true rfl) (Nat.le_of_ble_eq_true rfl) ?_
    exact mR_thr hI s1
end MRE
