/-! ===== the law from its first instruction ===== -/
section STA
variable {G : GC} {Q : RS → SS → Prop} {Ln : Nat} {xs : Nat → Int32} {L L' : List Nat} {K K' AN AN' : Nat → Nat} {R0 Rc : Nat → Nat → Option Nat} {Ic AIc Im AIm : Nat → Nat → Int32} {AR : Nat → Nat → Option Nat} {AL : Nat → Nat → Int64} {W : Nat → Nat} {A : AB}
theorem mI_growN (hg : ∀ a ∈ L, a ∈ L' ∧ K' a = K a) (hN : ∀ a ∈ L, AN' a = AN a) (hI : mI W L K AN R0 Im AIm A) : mI W L' K' AN' R0 Im AIm A := by
  obtain ⟨⟨a0, a1, ⟨⟨b1, c1⟩, ⟨b2, c2⟩, ⟨b3, c3⟩, ⟨b4, c4⟩, ⟨b5, c5⟩, ⟨b6, c6⟩, ⟨b7, c7⟩⟩, a3⟩, h⟩ := hI
  exact ⟨⟨gk hg a0, a1, ⟨⟨gk hg b1, (hN _ b1.1).trans c1⟩, ⟨gk hg b2, (hN _ b2.1).trans c2⟩, ⟨gk hg b3, (hN _ b3.1).trans c3⟩, ⟨gk hg b4, (hN _ b4.1).trans c4⟩, ⟨gk hg b5, (hN _ b5.1).trans c5⟩, ⟨gk hg b6, (hN _ b6.1).trans c6⟩, ⟨gk hg b7, (hN _ b7.1).trans c7⟩⟩, a3⟩, h⟩
theorem law_all (hX : scX G Ln xs) (hL : Ln ≤ 2048) (hQ : ∀ S, Q (.inl (some (vi 1))) S) : WP G mL_law Q 0 0 0 [(0, vr (some G.2.2.2.2))] [] (mkS L K AN R0 Rc Ic AIc AR Im AIm AL) := by
  refine new_4 dL_law_0 ok_51 (Nat.le_of_ble_eq_true rfl) (Nat.le_of_ble_eq_true rfl) (fun q0 hq0 => ?_)
  have k0 : q0 ∈ L ++ [q0] ∧ va_up K q0 4 q0 = 4 := new_K q0 4
  refine WP_dup dL_law_3 rfl ?_
  refine callIv (na := 0) mX4_init [] dL_law_4 okc_X4_init rfl rfl rfl ⟨⟨by decide, by decide⟩, by decide +kernel⟩ ok_53 ⟨by decide, by decide⟩ rfl rfl (Nat.le_of_ble_eq_true rfl) (Nat.le_of_ble_eq_true rfl) (Nat.le_of_ble_eq_true rfl) (c_SeqInit q0 k0) (fun S1 h1 => ?_)
  obtain ⟨E, L1, K1, AN1, R1, Rc1, Ic1, AIc1, AR1, rfl, rfl, hC⟩ := h1
  refine WP_astore_n dL_law_7 (by decide) rfl ?_
  refine new_5 dL_law_8 ok_650 (Nat.le_of_ble_eq_true rfl) (Nat.le_of_ble_eq_true rfl) (fun w0 hw0 => ?_)
  have hC2 := cI_grow (L' := L1 ++ [w0]) (K' := va_up K1 w0 5) (AN' := AN1) (R0' := u2 (u2 (u2 (u2 (u2 (u2 (u2 R1 9 w0 none) 10 w0 none) 11 w0 none) 12 w0 none) 13 w0 none) 14 w0 none) 15 w0 none) (fun a ha => grow_K hw0 ⟨ha, rfl⟩ 5) (fun a ha => rfl) (fun a ha j hj => by
    rw [u2_o _ _ _ (by omega), u2_o _ _ _ (by omega), u2_o _ _ _ (by omega), u2_o _ _ _ (by omega), u2_o _ _ _ (by omega), u2_o _ _ _ (by omega), u2_o _ _ _ (by omega)]) hC
  have kw : w0 ∈ L1 ++ [w0] ∧ va_up K1 w0 5 w0 = 5 := new_K w0 5
  refine WP_dup dL_law_11 rfl ?_
  refine callIv (na := 0) mX5_init [] dL_law_12 okc_X5_init rfl rfl rfl ⟨⟨by decide, by decide⟩, by decide +kernel⟩ ok_652 ⟨by decide, by decide⟩ rfl rfl (Nat.le_of_ble_eq_true rfl) (Nat.le_of_ble_eq_true rfl) (Nat.le_of_ble_eq_true rfl) (c_ModInit w0 kw (by simp [u2])) (fun S1 h1 => ?_)
  obtain ⟨W, L2, K2, AN2, R2, Im2, AIm2, rfl, rfl, hI, hfr⟩ := h1
  have hC3 := cI_grow (fun a ha => (hfr a ha).1) (fun a ha => (hfr a ha).2.1) (fun a ha j hj => (hfr a ha).2.2 j hj) hC2
  refine WP_astore_n dL_law_15 (by decide) rfl ?_
  refine WP_iconst (1) dL_law_16 (by decide) ?_
  refine newa_10 1 dL_law_17 rfl (by decide) (Nat.le_of_ble_eq_true rfl) (Nat.le_of_ble_eq_true rfl) (fun O hO => ?_)
  have hg9 : ∀ a ∈ L2, a ∈ L2 ++ [O] ∧ va_up K2 O 10 a = K2 a := fun a ha => grow_K hO ⟨ha, rfl⟩ 10
  have hN9 : ∀ a ∈ L2, va_up AN2 O 1 a = AN2 a := fun a ha => va_up_ne _ _ (show a ≠ O from fun e => hO (e ▸ ha))
  have hC4 := cI_grow (R0' := R2) hg9 hN9 (fun _ _ _ _ => rfl) hC3
  have hI4 := mI_growN hg9 hN9 hI
  have kO : O ∈ L2 ++ [O] ∧ va_up K2 O 10 O = 10 := new_K O 10
  refine WP_astore_n dL_law_19 (by decide) rfl ?_
  refine WP_iconst (0) dL_law_20 (by decide) ?_
  refine WP_istore dL_law_21 (by decide) rfl ?_
  refine WP_lv (lwl G E W O 0) (lwl_of rfl rfl rfl rfl rfl) ?_
  exact law_loop hX hL hQ 512 0 _ _ emA _ (by omega) (by decide) ⟨_, _, _, _, _, _, _, _, _, _, _, rfl, hC4, hI4, kO, va_up_self _ _ _⟩ (Nat.le_of_ble_eq_true rfl) (Nat.le_of_ble_eq_true rfl)
end STA
