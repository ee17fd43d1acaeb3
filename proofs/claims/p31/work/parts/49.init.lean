/-! ===== constructors ===== -/
theorem new_K {L : List Nat} {K : Nat → Nat} (q k : Nat) : q ∈ L ++ [q] ∧ va_up K q k q = k := ⟨by simp, va_up_self _ _ _⟩
section INI
variable {G : GC} {L : List Nat} {K AN : Nat → Nat} {R0 Rc : Nat → Nat → Option Nat} {Ic AIc Im AIm : Nat → Nat → Int32} {AR : Nat → Nat → Option Nat} {AL : Nat → Nat → Int64}
theorem c_TreeInit (q : Nat) : MT G mX3_init [vr (some q)] (mkS L K AN R0 Rc Ic AIc AR Im AIm AL) (rV (fun S' => S' = mkS L K AN R0 Rc Ic AIc AR Im AIm AL)) := by
  refine MT_of (by decide) rfl (Nat.le_of_ble_eq_true rfl) ?_
  refine WP_aload_n dX3_init_0 rfl ?_
  refine WP_obj dX3_init_1 ok_37 (by decide) (Nat.le_of_ble_eq_true rfl) ?_
  refine WP_return dX3_init_4 rfl (Nat.le_of_ble_eq_true rfl) (Nat.le_of_ble_eq_true rfl) ?_
  exact ⟨rfl, rfl⟩
theorem c_SplInit (q : Nat) : MT G mX2_init [vr (some q)] (mkS L K AN R0 Rc Ic AIc AR Im AIm AL) (rV (fun S' => S' = mkS L K AN R0 Rc Ic AIc AR Im AIm AL)) := by
  refine MT_of (by decide) rfl (Nat.le_of_ble_eq_true rfl) ?_
  refine WP_aload_n dX2_init_0 rfl ?_
  refine WP_obj dX2_init_1 ok_49 (by decide) (Nat.le_of_ble_eq_true rfl) ?_
  refine WP_return dX2_init_4 rfl (Nat.le_of_ble_eq_true rfl) (Nat.le_of_ble_eq_true rfl) ?_
  exact ⟨rfl, rfl⟩
theorem c_RowInit (q : Nat) (hq : q ∈ L ∧ K q = 1) : MT G mX1_init [vr (some q)] (mkS L K AN R0 Rc Ic AIc AR Im AIm AL) (rV (fun S' => ∃ V, V ∉ L ∧ S' = mkS (L ++ [V]) (va_up K V 6) (va_up AN V 60) (u2 R0 0 q (some V)) Rc Ic (va_up AIc V (fun _ => 0)) AR Im AIm AL)) := by
  refine MT_of (by decide) rfl (Nat.le_of_ble_eq_true rfl) ?_
  refine WP_aload_n dX1_init_0 rfl ?_
  refine WP_obj dX1_init_1 ok_74 (by decide) (Nat.le_of_ble_eq_true rfl) ?_
  refine WP_aload_n dX1_init_4 rfl ?_
  refine WP_bipush (60) dX1_init_5 (by decide) ?_
  refine newa_6 60 dX1_init_7 rfl (by decide) (Nat.le_of_ble_eq_true rfl) (Nat.le_of_ble_eq_true rfl) (fun V hV => ?_)
  have hq2 := grow_K hV hq 6
  have hVK : V ∈ L ++ [V] ∧ va_up K V 6 V = 6 := new_K V 6
  refine pf_RX1_9 dX1_init_9 rfl rfl rfl hq2 ?_
  refine WP_return dX1_init_12 rfl (Nat.le_of_ble_eq_true rfl) (Nat.le_of_ble_eq_true rfl) ?_
  exact ⟨rfl, V, hV, rfl⟩
def emA : AB := (.leaf, .leaf, fun _ => none, (0, 0, 0, 0))
theorem apart_new {P : Prop} {q b : Nat} (hq : q ∉ L) (h : b ∈ L ∧ P) : b ≠ q := fun e => hq (e ▸ h.1)
theorem c_SeqInit (q0 : Nat) (h0 : q0 ∈ L ∧ K q0 = 4) : MT G mX4_init [vr (some q0)] (mkS L K AN R0 Rc Ic AIc AR Im AIm AL) (rV (fun S' => ∃ E L' K' AN' R0' Rc' Ic' AIc' AR', E 0 = q0 ∧ S' = mkS L' K' AN' R0' Rc' Ic' AIc' AR' Im AIm AL ∧ cI E L' K' AN' R0' Rc' Ic' AIc' AR' emA)) := by
  refine MT_of (by decide) rfl (Nat.le_of_ble_eq_true rfl) ?_
  refine WP_aload_n dX4_init_0 rfl ?_
  refine WP_obj dX4_init_1 ok_29 (by decide) (Nat.le_of_ble_eq_true rfl) ?_
  refine WP_aload_n dX4_init_4 rfl ?_
  refine new_3 dX4_init_5 ok_32 (Nat.le_of_ble_eq_true rfl) (Nat.le_of_ble_eq_true rfl) (fun q1 hq1 => ?_)
  have n0_q1 : q0 ≠ q1 := apart_new hq1 h0
  replace h0 := grow_K hq1 h0 3
  have kq1 : q1 ∈ (L ++ [q1]) ∧ (va_up K q1 3) q1 = 3 := new_K q1 3
  refine WP_dup dX4_init_8 rfl ?_
  refine callINv (na := 0) mX3_init [] dX4_init_9 okc_X3_init rfl rfl rfl ⟨⟨by decide, by decide⟩, by decide +kernel⟩ nk_34 ⟨by decide, by decide⟩ rfl rfl (Nat.le_of_ble_eq_true rfl) (Nat.le_of_ble_eq_true rfl) (Nat.le_of_ble_eq_true rfl) (c_TreeInit q1) (fun S1 h1 => ?_)
  subst h1
  refine pf_RX4_10 dX4_init_12 rfl rfl rfl h0 ?_
  refine WP_aload_n dX4_init_15 rfl ?_
  refine new_3 dX4_init_16 ok_32 (Nat.le_of_ble_eq_true rfl) (Nat.le_of_ble_eq_true rfl) (fun q2 hq2 => ?_)
  have nq1_q2 : q1 ≠ q2 := apart_new hq2 kq1
  have n0_q2 : q0 ≠ q2 := apart_new hq2 h0
  replace h0 := grow_K hq2 h0 3
  replace kq1 := grow_K hq2 kq1 3
  have kq2 : q2 ∈ ((L ++ [q1]) ++ [q2]) ∧ (va_up (va_up K q1 3) q2 3) q2 = 3 := new_K q2 3
  refine WP_dup dX4_init_19 rfl ?_
  refine callINv (na := 0) mX3_init [] dX4_init_20 okc_X3_init rfl rfl rfl ⟨⟨by decide, by decide⟩, by decide +kernel⟩ nk_34 ⟨by decide, by decide⟩ rfl rfl (Nat.le_of_ble_eq_true rfl) (Nat.le_of_ble_eq_true rfl) (Nat.le_of_ble_eq_true rfl) (c_TreeInit q2) (fun S1 h1 => ?_)
  subst h1
  refine pf_RX4_16 dX4_init_23 rfl rfl rfl h0 ?_
  refine WP_aload_n dX4_init_26 rfl ?_
  refine new_3 dX4_init_27 ok_32 (Nat.le_of_ble_eq_true rfl) (Nat.le_of_ble_eq_true rfl) (fun q3 hq3 => ?_)
  have nq1_q3 : q1 ≠ q3 := apart_new hq3 kq1
  have nq2_q3 : q2 ≠ q3 := apart_new hq3 kq2
  have n0_q3 : q0 ≠ q3 := apart_new hq3 h0
  replace h0 := grow_K hq3 h0 3
  replace kq1 := grow_K hq3 kq1 3
  replace kq2 := grow_K hq3 kq2 3
  have kq3 : q3 ∈ (((L ++ [q1]) ++ [q2]) ++ [q3]) ∧ (va_up (va_up (va_up K q1 3) q2 3) q3 3) q3 = 3 := new_K q3 3
  refine WP_dup dX4_init_30 rfl ?_
  refine callINv (na := 0) mX3_init [] dX4_init_31 okc_X3_init rfl rfl rfl ⟨⟨by decide, by decide⟩, by decide +kernel⟩ nk_34 ⟨by decide, by decide⟩ rfl rfl (Nat.le_of_ble_eq_true rfl) (Nat.le_of_ble_eq_true rfl) (Nat.le_of_ble_eq_true rfl) (c_TreeInit q3) (fun S1 h1 => ?_)
  subst h1
  refine pf_RX4_19 dX4_init_34 rfl rfl rfl h0 ?_
  refine WP_aload_n dX4_init_37 rfl ?_
  refine new_3 dX4_init_38 ok_32 (Nat.le_of_ble_eq_true rfl) (Nat.le_of_ble_eq_true rfl) (fun q4 hq4 => ?_)
  have nq1_q4 : q1 ≠ q4 := apart_new hq4 kq1
  have nq2_q4 : q2 ≠ q4 := apart_new hq4 kq2
  have nq3_q4 : q3 ≠ q4 := apart_new hq4 kq3
  have n0_q4 : q0 ≠ q4 := apart_new hq4 h0
  replace h0 := grow_K hq4 h0 3
  replace kq1 := grow_K hq4 kq1 3
  replace kq2 := grow_K hq4 kq2 3
  replace kq3 := grow_K hq4 kq3 3
  have kq4 : q4 ∈ ((((L ++ [q1]) ++ [q2]) ++ [q3]) ++ [q4]) ∧ (va_up (va_up (va_up (va_up K q1 3) q2 3) q3 3) q4 3) q4 = 3 := new_K q4 3
  refine WP_dup dX4_init_41 rfl ?_
  refine callINv (na := 0) mX3_init [] dX4_init_42 okc_X3_init rfl rfl rfl ⟨⟨by decide, by decide⟩, by decide +kernel⟩ nk_34 ⟨by decide, by decide⟩ rfl rfl (Nat.le_of_ble_eq_true rfl) (Nat.le_of_ble_eq_true rfl) (Nat.le_of_ble_eq_true rfl) (c_TreeInit q4) (fun S1 h1 => ?_)
  subst h1
  refine pf_RX4_22 dX4_init_45 rfl rfl rfl h0 ?_
  refine WP_aload_n dX4_init_48 rfl ?_
  refine new_2 dX4_init_49 ok_44 (Nat.le_of_ble_eq_true rfl) (Nat.le_of_ble_eq_true rfl) (fun q5 hq5 => ?_)
  have nq1_q5 : q1 ≠ q5 := apart_new hq5 kq1
  have nq2_q5 : q2 ≠ q5 := apart_new hq5 kq2
  have nq3_q5 : q3 ≠ q5 := apart_new hq5 kq3
  have nq4_q5 : q4 ≠ q5 := apart_new hq5 kq4
  have n0_q5 : q0 ≠ q5 := apart_new hq5 h0
  replace h0 := grow_K hq5 h0 2
  replace kq1 := grow_K hq5 kq1 2
  replace kq2 := grow_K hq5 kq2 2
  replace kq3 := grow_K hq5 kq3 2
  replace kq4 := grow_K hq5 kq4 2
  have kq5 : q5 ∈ (((((L ++ [q1]) ++ [q2]) ++ [q3]) ++ [q4]) ++ [q5]) ∧ (va_up (va_up (va_up (va_up (va_up K q1 3) q2 3) q3 3) q4 3) q5 2) q5 = 2 := new_K q5 2
  refine WP_dup dX4_init_52 rfl ?_
  refine callINv (na := 0) mX2_init [] dX4_init_53 okc_X2_init rfl rfl rfl ⟨⟨by decide, by decide⟩, by decide +kernel⟩ nk_46 ⟨by decide, by decide⟩ rfl rfl (Nat.le_of_ble_eq_true rfl) (Nat.le_of_ble_eq_true rfl) (Nat.le_of_ble_eq_true rfl) (c_SplInit q5) (fun S1 h1 => ?_)
  subst h1
  refine pf_RX4_28 dX4_init_56 rfl rfl rfl h0 ?_
  refine WP_aload_n dX4_init_59 rfl ?_
  refine WP_iconst (4) dX4_init_60 (by decide) ?_
  refine newa_9 4 dX4_init_61 ok_67 rfl (by decide) (Nat.le_of_ble_eq_true rfl) (Nat.le_of_ble_eq_true rfl) (fun q6 hq6 => ?_)
  have nq1_q6 : q1 ≠ q6 := apart_new hq6 kq1
  have nq2_q6 : q2 ≠ q6 := apart_new hq6 kq2
  have nq3_q6 : q3 ≠ q6 := apart_new hq6 kq3
  have nq4_q6 : q4 ≠ q6 := apart_new hq6 kq4
  have nq5_q6 : q5 ≠ q6 := apart_new hq6 kq5
  have n0_q6 : q0 ≠ q6 := apart_new hq6 h0
  replace h0 := grow_K hq6 h0 9
  replace kq1 := grow_K hq6 kq1 9
  replace kq2 := grow_K hq6 kq2 9
  replace kq3 := grow_K hq6 kq3 9
  replace kq4 := grow_K hq6 kq4 9
  replace kq5 := grow_K hq6 kq5 9
  have kq6 : q6 ∈ ((((((L ++ [q1]) ++ [q2]) ++ [q3]) ++ [q4]) ++ [q5]) ++ [q6]) ∧ (va_up (va_up (va_up (va_up (va_up (va_up K q1 3) q2 3) q3 3) q4 3) q5 2) q6 9) q6 = 9 := new_K q6 9
  refine pf_RX4_34 dX4_init_64 rfl rfl rfl h0 ?_
  refine WP_aload_n dX4_init_67 rfl ?_
  refine new_1 dX4_init_68 ok_69 (Nat.le_of_ble_eq_true rfl) (Nat.le_of_ble_eq_true rfl) (fun q7 hq7 => ?_)
  have nq1_q7 : q1 ≠ q7 := apart_new hq7 kq1
  have nq2_q7 : q2 ≠ q7 := apart_new hq7 kq2
  have nq3_q7 : q3 ≠ q7 := apart_new hq7 kq3
  have nq4_q7 : q4 ≠ q7 := apart_new hq7 kq4
  have nq5_q7 : q5 ≠ q7 := apart_new hq7 kq5
  have nq6_q7 : q6 ≠ q7 := apart_new hq7 kq6
  have n0_q7 : q0 ≠ q7 := apart_new hq7 h0
  replace h0 := grow_K hq7 h0 1
  replace kq1 := grow_K hq7 kq1 1
  replace kq2 := grow_K hq7 kq2 1
  replace kq3 := grow_K hq7 kq3 1
  replace kq4 := grow_K hq7 kq4 1
  replace kq5 := grow_K hq7 kq5 1
  replace kq6 := grow_K hq7 kq6 1
  have kq7 : q7 ∈ (((((((L ++ [q1]) ++ [q2]) ++ [q3]) ++ [q4]) ++ [q5]) ++ [q6]) ++ [q7]) ∧ (va_up (va_up (va_up (va_up (va_up (va_up (va_up K q1 3) q2 3) q3 3) q4 3) q5 2) q6 9) q7 1) q7 = 1 := new_K q7 1
  refine WP_dup dX4_init_71 rfl ?_
  refine callINv (na := 0) mX1_init [] dX4_init_72 okc_X1_init rfl rfl rfl ⟨⟨by decide, by decide⟩, by decide +kernel⟩ nk_71 ⟨by decide, by decide⟩ rfl rfl (Nat.le_of_ble_eq_true rfl) (Nat.le_of_ble_eq_true rfl) (Nat.le_of_ble_eq_true rfl) (c_RowInit q7 kq7) (fun S1 h1 => ?_)
  obtain ⟨V1, hV1, rfl⟩ := h1
  have nq1_V1 : q1 ≠ V1 := apart_new hV1 kq1
  have nq2_V1 : q2 ≠ V1 := apart_new hV1 kq2
  have nq3_V1 : q3 ≠ V1 := apart_new hV1 kq3
  have nq4_V1 : q4 ≠ V1 := apart_new hV1 kq4
  have nq5_V1 : q5 ≠ V1 := apart_new hV1 kq5
  have nq6_V1 : q6 ≠ V1 := apart_new hV1 kq6
  have nq7_V1 : q7 ≠ V1 := apart_new hV1 kq7
  have n0_V1 : q0 ≠ V1 := apart_new hV1 h0
  replace h0 := grow_K hV1 h0 6
  replace kq1 := grow_K hV1 kq1 6
  replace kq2 := grow_K hV1 kq2 6
  replace kq3 := grow_K hV1 kq3 6
  replace kq4 := grow_K hV1 kq4 6
  replace kq5 := grow_K hV1 kq5 6
  replace kq6 := grow_K hV1 kq6 6
  replace kq7 := grow_K hV1 kq7 6
  have kV1 : V1 ∈ ((((((((L ++ [q1]) ++ [q2]) ++ [q3]) ++ [q4]) ++ [q5]) ++ [q6]) ++ [q7]) ++ [V1]) ∧ (va_up (va_up (va_up (va_up (va_up (va_up (va_up (va_up K q1 3) q2 3) q3 3) q4 3) q5 2) q6 9) q7 1) V1 6) V1 = 6 := new_K V1 6
  refine pf_RX4_41 dX4_init_75 rfl rfl rfl h0 ?_
  refine WP_aload_n dX4_init_78 rfl ?_
  refine new_1 dX4_init_79 ok_69 (Nat.le_of_ble_eq_true rfl) (Nat.le_of_ble_eq_true rfl) (fun q8 hq8 => ?_)
  have nq1_q8 : q1 ≠ q8 := apart_new hq8 kq1
  have nq2_q8 : q2 ≠ q8 := apart_new hq8 kq2
  have nq3_q8 : q3 ≠ q8 := apart_new hq8 kq3
  have nq4_q8 : q4 ≠ q8 := apart_new hq8 kq4
  have nq5_q8 : q5 ≠ q8 := apart_new hq8 kq5
  have nq6_q8 : q6 ≠ q8 := apart_new hq8 kq6
  have nq7_q8 : q7 ≠ q8 := apart_new hq8 kq7
  have nV1_q8 : V1 ≠ q8 := apart_new hq8 kV1
  have n0_q8 : q0 ≠ q8 := apart_new hq8 h0
  replace h0 := grow_K hq8 h0 1
  replace kq1 := grow_K hq8 kq1 1
  replace kq2 := grow_K hq8 kq2 1
  replace kq3 := grow_K hq8 kq3 1
  replace kq4 := grow_K hq8 kq4 1
  replace kq5 := grow_K hq8 kq5 1
  replace kq6 := grow_K hq8 kq6 1
  replace kq7 := grow_K hq8 kq7 1
  replace kV1 := grow_K hq8 kV1 1
  have kq8 : q8 ∈ (((((((((L ++ [q1]) ++ [q2]) ++ [q3]) ++ [q4]) ++ [q5]) ++ [q6]) ++ [q7]) ++ [V1]) ++ [q8]) ∧ (va_up (va_up (va_up (va_up (va_up (va_up (va_up (va_up (va_up K q1 3) q2 3) q3 3) q4 3) q5 2) q6 9) q7 1) V1 6) q8 1) q8 = 1 := new_K q8 1
  refine WP_dup dX4_init_82 rfl ?_
  refine callINv (na := 0) mX1_init [] dX4_init_83 okc_X1_init rfl rfl rfl ⟨⟨by decide, by decide⟩, by decide +kernel⟩ nk_71 ⟨by decide, by decide⟩ rfl rfl (Nat.le_of_ble_eq_true rfl) (Nat.le_of_ble_eq_true rfl) (Nat.le_of_ble_eq_true rfl) (c_RowInit q8 kq8) (fun S1 h1 => ?_)
  obtain ⟨V2, hV2, rfl⟩ := h1
  have nq1_V2 : q1 ≠ V2 := apart_new hV2 kq1
  have nq2_V2 : q2 ≠ V2 := apart_new hV2 kq2
  have nq3_V2 : q3 ≠ V2 := apart_new hV2 kq3
  have nq4_V2 : q4 ≠ V2 := apart_new hV2 kq4
  have nq5_V2 : q5 ≠ V2 := apart_new hV2 kq5
  have nq6_V2 : q6 ≠ V2 := apart_new hV2 kq6
  have nq7_V2 : q7 ≠ V2 := apart_new hV2 kq7
  have nV1_V2 : V1 ≠ V2 := apart_new hV2 kV1
  have nq8_V2 : q8 ≠ V2 := apart_new hV2 kq8
  have n0_V2 : q0 ≠ V2 := apart_new hV2 h0
  replace h0 := grow_K hV2 h0 6
  replace kq1 := grow_K hV2 kq1 6
  replace kq2 := grow_K hV2 kq2 6
  replace kq3 := grow_K hV2 kq3 6
  replace kq4 := grow_K hV2 kq4 6
  replace kq5 := grow_K hV2 kq5 6
  replace kq6 := grow_K hV2 kq6 6
  replace kq7 := grow_K hV2 kq7 6
  replace kV1 := grow_K hV2 kV1 6
  replace kq8 := grow_K hV2 kq8 6
  have kV2 : V2 ∈ ((((((((((L ++ [q1]) ++ [q2]) ++ [q3]) ++ [q4]) ++ [q5]) ++ [q6]) ++ [q7]) ++ [V1]) ++ [q8]) ++ [V2]) ∧ (va_up (va_up (va_up (va_up (va_up (va_up (va_up (va_up (va_up (va_up K q1 3) q2 3) q3 3) q4 3) q5 2) q6 9) q7 1) V1 6) q8 1) V2 6) V2 = 6 := new_K V2 6
  refine pf_RX4_45 dX4_init_86 rfl rfl rfl h0 ?_
  refine WP_return dX4_init_89 rfl (Nat.le_of_ble_eq_true rfl) (Nat.le_of_ble_eq_true rfl) ?_
  refine ⟨rfl, (fun j => match j with | 0 => q0 | 1 => q1 | 2 => q2 | 3 => q3 | 4 => q4 | 5 => q5 | 6 => q6 | 7 => q7 | 8 => q8 | 9 => V1 | _ => V2), _, _, _, _, _, _, _, _, rfl, rfl, ⟨h0, ⟨?_, ?_, ?_, ?_, ?_, ?_, ?_, ?_⟩, ⟨kq1, kq2, kq3, kq4⟩, kq5, ⟨kq6, ?_⟩, ⟨kq7, kV1, ?_, ?_⟩, ⟨kq8, kV2, ?_, ?_⟩, ⟨nq7_q8, nV1_V2⟩, ⟨nq1_q2, nq1_q3, nq1_q4, nq2_q3, nq2_q4, nq3_q4⟩⟩, ⟨cF_leaf (cF_leaf (cF_leaf (cF_leaf cF_nil))), ⟨?_, ?_, ?_, ?_⟩, ?_⟩, ⟨?_, ?_⟩, fun j hj => absurd hj (Nat.not_lt_zero _), fun j hj => absurd hj (Nat.not_lt_zero _), fun k hk => ?_, by decide, fun k p _ h => by cases h⟩
  all_goals (simp [u2, va_up, rk, cnO, emA, n0_q1, nq1_q2, n0_q2, nq1_q3, nq2_q3, n0_q3, nq1_q4, nq2_q4, nq3_q4, n0_q4, nq1_q5, nq2_q5, nq3_q5, nq4_q5, n0_q5, nq1_q6, nq2_q6, nq3_q6, nq4_q6, nq5_q6, n0_q6, nq1_q7, nq2_q7, nq3_q7, nq4_q7, nq5_q7, nq6_q7, n0_q7, nq1_V1, nq2_V1, nq3_V1, nq4_V1, nq5_V1, nq6_V1, nq7_V1, n0_V1, nq1_q8, nq2_q8, nq3_q8, nq4_q8, nq5_q8, nq6_q8, nq7_q8, nV1_q8, n0_q8, nq1_V2, nq2_V2, nq3_V2, nq4_V2, nq5_V2, nq6_V2, nq7_V2, nV1_V2, nq8_V2, n0_V2, Ne.symm n0_q1, Ne.symm nq1_q2, Ne.symm n0_q2, Ne.symm nq1_q3, Ne.symm nq2_q3, Ne.symm n0_q3, Ne.symm nq1_q4, Ne.symm nq2_q4, Ne.symm nq3_q4, Ne.symm n0_q4, Ne.symm nq1_q5, Ne.symm nq2_q5, Ne.symm nq3_q5, Ne.symm nq4_q5, Ne.symm n0_q5, Ne.symm nq1_q6, Ne.symm nq2_q6, Ne.symm nq3_q6, Ne.symm nq4_q6, Ne.symm nq5_q6, Ne.symm n0_q6, Ne.symm nq1_q7, Ne.symm nq2_q7, Ne.symm nq3_q7, Ne.symm nq4_q7, Ne.symm nq5_q7, Ne.symm nq6_q7, Ne.symm n0_q7, Ne.symm nq1_V1, Ne.symm nq2_V1, Ne.symm nq3_V1, Ne.symm nq4_V1, Ne.symm nq5_V1, Ne.symm nq6_V1, Ne.symm nq7_V1, Ne.symm n0_V1, Ne.symm nq1_q8, Ne.symm nq2_q8, Ne.symm nq3_q8, Ne.symm nq4_q8, Ne.symm nq5_q8, Ne.symm nq6_q8, Ne.symm nq7_q8, Ne.symm nV1_q8, Ne.symm n0_q8, Ne.symm nq1_V2, Ne.symm nq2_V2, Ne.symm nq3_V2, Ne.symm nq4_V2, Ne.symm nq5_V2, Ne.symm nq6_V2, Ne.symm nq7_V2, Ne.symm nV1_V2, Ne.symm nq8_V2, Ne.symm n0_V2] <;> rfl)
end INI
