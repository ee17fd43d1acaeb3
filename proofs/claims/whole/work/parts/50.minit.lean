/-! ===== the model's constructor ===== -/
section MIN
variable {G : GC} {L : List Nat} {K AN : Nat → Nat} {R0 Rc : Nat → Nat → Option Nat} {Ic AIc Im AIm : Nat → Nat → Int32} {AR : Nat → Nat → Option Nat} {AL : Nat → Nat → Int64}
theorem fg_loop {Q : RS → SS → Prop} (w0 w6 : Nat) (h0 : w0 ∈ L ∧ K w0 = 5) (h6 : w6 ∈ L ∧ K w6 = 7) (h4 : AN w6 = 4) (hr : R0 14 w0 = some w6) (hQ : ∀ f : Nat → Int32, (∀ k, k < 4 → f k = -1) → Q (.inl none) (mkS L K AN R0 Rc Ic AIc AR Im (va_up AIm w6 f) AL)) : ∀ (b k : Nat) (f : Nat → Int32), 4 - k ≤ b → k ≤ 4 → (∀ j, j < k → f j = -1) →
    WP G mX5_init Q 7 364 71 [(0, vr (some w0)), (1, vi (nI k))] [] (mkS L K AN R0 Rc Ic AIc AR Im (va_up AIm w6 f) AL) := by
  have fin : ∀ k (f : Nat → Int32), k = 4 → (∀ j, j < k → f j = -1) → WP G mX5_init Q 7 364 71 [(0, vr (some w0)), (1, vi (nI k))] [] (mkS L K AN R0 Rc Ic AIc AR Im (va_up AIm w6 f) AL) := by
    intro k f hk hf
    subst hk
    refine WP_iload_n dX5_init_71 rfl ?_
    refine WP_iconst (4) dX5_init_72 (by decide) ?_
    refine WP_icmp_ge 89 dX5_init_73 (by decide) (fun h1 => ?_) (fun h1 => ?_)
    · refine WP_return dX5_init_89 rfl (Nat.le_of_ble_eq_true rfl) (Nat.le_of_ble_eq_true rfl) ?_
      exact hQ f hf
    · exact absurd (Int32.le_refl _) h1
  intro b
  induction b with
  | zero => intro k f hb hk hf; exact fin k f (by omega) hf
  | succ b ih =>
    intro k f hb hk hf
    by_cases hk4 : k < 4
    · refine WP_iload_n dX5_init_71 rfl ?_
      refine WP_iconst (4) dX5_init_72 (by decide) ?_
      refine WP_icmp_ge 89 dX5_init_73 (by decide) (fun h1 => ?_) (fun h1 => ?_)
      · exact absurd h1 (nI_ge hk4 (by decide))
      · refine WP_aload_n dX5_init_76 rfl ?_
        refine gf_RX5_33 dX5_init_77 rfl rfl h0 ?_
        refine WP_iload_n dX5_init_80 rfl ?_
        refine WP_iconst (-1) dX5_init_81 (by decide) ?_
        refine ast_7 k 4 dX5_init_82 hr h6 h4 rfl hk4 (by decide) ?_
        rw [va_up_self, up_up]
        refine WP_iinc (nI (k + 1)) dX5_init_83 rfl (nI_1 _) (by decide) rfl ?_
        refine WP_goto 71 dX5_init_86 (by decide) ?_
        refine WP_lv [(0, vr (some w0)), (1, vi (nI (k + 1)))] (List.forall_mem_cons.mpr ⟨rfl, List.forall_mem_cons.mpr ⟨rfl, fun _ h9 => absurd h9 List.not_mem_nil⟩⟩) ?_
        refine ih (k + 1) _ (by omega) (by omega) (fun j hj => ?_)
        by_cases e : j = k
        · rw [e]
          exact pk_us
        · rw [pk_un e]
          exact hf j (by omega)
    · exact fin k f (by omega) hf
theorem c_ModInit (w0 : Nat) (h0 : w0 ∈ L ∧ K w0 = 5) (hz : Im 6 w0 = 0 ∧ Im 7 w0 = 0 ∧ Im 8 w0 = 0 ∧ Im 9 w0 = 0) : MT G mX5_init [vr (some w0)] (mkS L K AN R0 Rc Ic AIc AR Im AIm AL) (rV (fun S' => ∃ W L' K' AN' R0' Im' AIm', W 0 = w0 ∧ S' = mkS L' K' AN' R0' Rc Ic AIc AR Im' AIm' AL ∧ mI W L' K' AN' R0' Im' AIm' emA ∧ ∀ a, a ∈ L → (a ∈ L' ∧ K' a = K a) ∧ AN' a = AN a ∧ ∀ j, j < 9 → R0' j a = R0 j a)) := by
  have hfr : ∀ a, a ∈ L → a ∈ L ∧ K a = K a := fun a h => ⟨h, rfl⟩
  refine MT_of (by decide) rfl (Nat.le_of_ble_eq_true rfl) ?_
  refine WP_aload_n dX5_init_0 rfl ?_
  refine WP_obj dX5_init_1 ok_655 (by decide) (Nat.le_of_ble_eq_true rfl) ?_
  refine WP_aload_n dX5_init_4 rfl ?_
  refine WP_iconst (-1) dX5_init_5 (by decide) ?_
  refine pf_RX5_9 dX5_init_6 rfl rfl h0 ?_
  refine WP_aload_n dX5_init_9 rfl ?_
  refine WP_iconst (-1) dX5_init_10 (by decide) ?_
  refine pf_RX5_13 dX5_init_11 rfl rfl h0 ?_
  refine WP_aload_n dX5_init_14 rfl ?_
  refine WP_bipush (60) dX5_init_15 (by decide) ?_
  refine newa_7 60 dX5_init_17 rfl (by decide) (Nat.le_of_ble_eq_true rfl) (Nat.le_of_ble_eq_true rfl) (fun w1 hw1 => ?_)
  have n0_w1 : w0 ≠ w1 := apart_new hw1 h0
  have mw1 : ∀ a, a ∈ L → a ≠ w1 := fun a h => apart_new hw1 (hfr a h)
  replace hfr := fun a (h : a ∈ L) => grow_K hw1 (hfr a h) 7
  replace h0 := grow_K hw1 h0 7
  have kw1 : w1 ∈ (L ++ [w1]) ∧ (va_up K w1 7) w1 = 7 := new_K w1 7
  refine pf_RX5_16 dX5_init_19 rfl rfl rfl h0 ?_
  refine WP_aload_n dX5_init_22 rfl ?_
  refine WP_bipush (60) dX5_init_23 (by decide) ?_
  refine newa_7 60 dX5_init_25 rfl (by decide) (Nat.le_of_ble_eq_true rfl) (Nat.le_of_ble_eq_true rfl) (fun w2 hw2 => ?_)
  have nw1_w2 : w1 ≠ w2 := apart_new hw2 kw1
  have n0_w2 : w0 ≠ w2 := apart_new hw2 h0
  have mw2 : ∀ a, a ∈ L → a ≠ w2 := fun a h => apart_new hw2 (hfr a h)
  replace hfr := fun a (h : a ∈ L) => grow_K hw2 (hfr a h) 7
  replace h0 := grow_K hw2 h0 7
  replace kw1 := grow_K hw2 kw1 7
  have kw2 : w2 ∈ ((L ++ [w1]) ++ [w2]) ∧ (va_up (va_up K w1 7) w2 7) w2 = 7 := new_K w2 7
  refine pf_RX5_20 dX5_init_27 rfl rfl rfl h0 ?_
  refine WP_aload_n dX5_init_30 rfl ?_
  refine WP_bipush (60) dX5_init_31 (by decide) ?_
  refine newa_7 60 dX5_init_33 rfl (by decide) (Nat.le_of_ble_eq_true rfl) (Nat.le_of_ble_eq_true rfl) (fun w3 hw3 => ?_)
  have nw1_w3 : w1 ≠ w3 := apart_new hw3 kw1
  have nw2_w3 : w2 ≠ w3 := apart_new hw3 kw2
  have n0_w3 : w0 ≠ w3 := apart_new hw3 h0
  have mw3 : ∀ a, a ∈ L → a ≠ w3 := fun a h => apart_new hw3 (hfr a h)
  replace hfr := fun a (h : a ∈ L) => grow_K hw3 (hfr a h) 7
  replace h0 := grow_K hw3 h0 7
  replace kw1 := grow_K hw3 kw1 7
  replace kw2 := grow_K hw3 kw2 7
  have kw3 : w3 ∈ (((L ++ [w1]) ++ [w2]) ++ [w3]) ∧ (va_up (va_up (va_up K w1 7) w2 7) w3 7) w3 = 7 := new_K w3 7
  refine pf_RX5_23 dX5_init_35 rfl rfl rfl h0 ?_
  refine WP_aload_n dX5_init_38 rfl ?_
  refine WP_bipush (60) dX5_init_39 (by decide) ?_
  refine newa_7 60 dX5_init_41 rfl (by decide) (Nat.le_of_ble_eq_true rfl) (Nat.le_of_ble_eq_true rfl) (fun w4 hw4 => ?_)
  have nw1_w4 : w1 ≠ w4 := apart_new hw4 kw1
  have nw2_w4 : w2 ≠ w4 := apart_new hw4 kw2
  have nw3_w4 : w3 ≠ w4 := apart_new hw4 kw3
  have n0_w4 : w0 ≠ w4 := apart_new hw4 h0
  have mw4 : ∀ a, a ∈ L → a ≠ w4 := fun a h => apart_new hw4 (hfr a h)
  replace hfr := fun a (h : a ∈ L) => grow_K hw4 (hfr a h) 7
  replace h0 := grow_K hw4 h0 7
  replace kw1 := grow_K hw4 kw1 7
  replace kw2 := grow_K hw4 kw2 7
  replace kw3 := grow_K hw4 kw3 7
  have kw4 : w4 ∈ ((((L ++ [w1]) ++ [w2]) ++ [w3]) ++ [w4]) ∧ (va_up (va_up (va_up (va_up K w1 7) w2 7) w3 7) w4 7) w4 = 7 := new_K w4 7
  refine pf_RX5_26 dX5_init_43 rfl rfl rfl h0 ?_
  refine WP_aload_n dX5_init_46 rfl ?_
  refine WP_bipush (60) dX5_init_47 (by decide) ?_
  refine newa_8 60 dX5_init_49 rfl (by decide) (Nat.le_of_ble_eq_true rfl) (Nat.le_of_ble_eq_true rfl) (fun w5 hw5 => ?_)
  have nw1_w5 : w1 ≠ w5 := apart_new hw5 kw1
  have nw2_w5 : w2 ≠ w5 := apart_new hw5 kw2
  have nw3_w5 : w3 ≠ w5 := apart_new hw5 kw3
  have nw4_w5 : w4 ≠ w5 := apart_new hw5 kw4
  have n0_w5 : w0 ≠ w5 := apart_new hw5 h0
  have mw5 : ∀ a, a ∈ L → a ≠ w5 := fun a h => apart_new hw5 (hfr a h)
  replace hfr := fun a (h : a ∈ L) => grow_K hw5 (hfr a h) 8
  replace h0 := grow_K hw5 h0 8
  replace kw1 := grow_K hw5 kw1 8
  replace kw2 := grow_K hw5 kw2 8
  replace kw3 := grow_K hw5 kw3 8
  replace kw4 := grow_K hw5 kw4 8
  have kw5 : w5 ∈ (((((L ++ [w1]) ++ [w2]) ++ [w3]) ++ [w4]) ++ [w5]) ∧ (va_up (va_up (va_up (va_up (va_up K w1 7) w2 7) w3 7) w4 7) w5 8) w5 = 8 := new_K w5 8
  refine pf_RX5_29 dX5_init_51 rfl rfl rfl h0 ?_
  refine WP_aload_n dX5_init_54 rfl ?_
  refine WP_iconst (4) dX5_init_55 (by decide) ?_
  refine newa_7 4 dX5_init_56 rfl (by decide) (Nat.le_of_ble_eq_true rfl) (Nat.le_of_ble_eq_true rfl) (fun w6 hw6 => ?_)
  have nw1_w6 : w1 ≠ w6 := apart_new hw6 kw1
  have nw2_w6 : w2 ≠ w6 := apart_new hw6 kw2
  have nw3_w6 : w3 ≠ w6 := apart_new hw6 kw3
  have nw4_w6 : w4 ≠ w6 := apart_new hw6 kw4
  have nw5_w6 : w5 ≠ w6 := apart_new hw6 kw5
  have n0_w6 : w0 ≠ w6 := apart_new hw6 h0
  have mw6 : ∀ a, a ∈ L → a ≠ w6 := fun a h => apart_new hw6 (hfr a h)
  replace hfr := fun a (h : a ∈ L) => grow_K hw6 (hfr a h) 7
  replace h0 := grow_K hw6 h0 7
  replace kw1 := grow_K hw6 kw1 7
  replace kw2 := grow_K hw6 kw2 7
  replace kw3 := grow_K hw6 kw3 7
  replace kw4 := grow_K hw6 kw4 7
  replace kw5 := grow_K hw6 kw5 7
  have kw6 : w6 ∈ ((((((L ++ [w1]) ++ [w2]) ++ [w3]) ++ [w4]) ++ [w5]) ++ [w6]) ∧ (va_up (va_up (va_up (va_up (va_up (va_up K w1 7) w2 7) w3 7) w4 7) w5 8) w6 7) w6 = 7 := new_K w6 7
  refine pf_RX5_33 dX5_init_58 rfl rfl rfl h0 ?_
  refine WP_aload_n dX5_init_61 rfl ?_
  refine WP_bipush (60) dX5_init_62 (by decide) ?_
  refine newa_7 60 dX5_init_64 rfl (by decide) (Nat.le_of_ble_eq_true rfl) (Nat.le_of_ble_eq_true rfl) (fun w7 hw7 => ?_)
  have nw1_w7 : w1 ≠ w7 := apart_new hw7 kw1
  have nw2_w7 : w2 ≠ w7 := apart_new hw7 kw2
  have nw3_w7 : w3 ≠ w7 := apart_new hw7 kw3
  have nw4_w7 : w4 ≠ w7 := apart_new hw7 kw4
  have nw5_w7 : w5 ≠ w7 := apart_new hw7 kw5
  have nw6_w7 : w6 ≠ w7 := apart_new hw7 kw6
  have n0_w7 : w0 ≠ w7 := apart_new hw7 h0
  have mw7 : ∀ a, a ∈ L → a ≠ w7 := fun a h => apart_new hw7 (hfr a h)
  replace hfr := fun a (h : a ∈ L) => grow_K hw7 (hfr a h) 7
  replace h0 := grow_K hw7 h0 7
  replace kw1 := grow_K hw7 kw1 7
  replace kw2 := grow_K hw7 kw2 7
  replace kw3 := grow_K hw7 kw3 7
  replace kw4 := grow_K hw7 kw4 7
  replace kw5 := grow_K hw7 kw5 7
  replace kw6 := grow_K hw7 kw6 7
  have kw7 : w7 ∈ (((((((L ++ [w1]) ++ [w2]) ++ [w3]) ++ [w4]) ++ [w5]) ++ [w6]) ++ [w7]) ∧ (va_up (va_up (va_up (va_up (va_up (va_up (va_up K w1 7) w2 7) w3 7) w4 7) w5 8) w6 7) w7 7) w7 = 7 := new_K w7 7
  refine pf_RX5_36 dX5_init_66 rfl rfl rfl h0 ?_
  refine WP_iconst (0) dX5_init_69 (by decide) ?_
  refine WP_istore_n dX5_init_70 (by decide) rfl ?_
  have e6 : (va_up (va_up (va_up (va_up (va_up (va_up (va_up AIm w1 (fun _ => 0)) w2 (fun _ => 0)) w3 (fun _ => 0)) w4 (fun _ => 0)) w5 (fun _ => 0)) w6 (fun _ => 0)) w7 (fun _ => 0)) = va_up (va_up (va_up (va_up (va_up (va_up (va_up (va_up AIm w1 (fun _ => 0)) w2 (fun _ => 0)) w3 (fun _ => 0)) w4 (fun _ => 0)) w5 (fun _ => 0)) w6 (fun _ => 0)) w7 (fun _ => 0)) w6 ((va_up (va_up (va_up (va_up (va_up (va_up (va_up AIm w1 (fun _ => 0)) w2 (fun _ => 0)) w3 (fun _ => 0)) w4 (fun _ => 0)) w5 (fun _ => 0)) w6 (fun _ => 0)) w7 (fun _ => 0)) w6) := (up_id _ _).symm
  rw [e6]
  refine WP_lv [(0, vr (some w0)), (1, vi (nI 0))] (List.forall_mem_cons.mpr ⟨rfl, List.forall_mem_cons.mpr ⟨rfl, fun _ h9 => absurd h9 List.not_mem_nil⟩⟩) ?_
  refine fg_loop w0 w6 h0 kw6 (by simp [va_up, n0_w1, nw1_w2, n0_w2, nw1_w3, nw2_w3, n0_w3, nw1_w4, nw2_w4, nw3_w4, n0_w4, nw1_w5, nw2_w5, nw3_w5, nw4_w5, n0_w5, nw1_w6, nw2_w6, nw3_w6, nw4_w6, nw5_w6, n0_w6, nw1_w7, nw2_w7, nw3_w7, nw4_w7, nw5_w7, nw6_w7, n0_w7, Ne.symm n0_w1, Ne.symm nw1_w2, Ne.symm n0_w2, Ne.symm nw1_w3, Ne.symm nw2_w3, Ne.symm n0_w3, Ne.symm nw1_w4, Ne.symm nw2_w4, Ne.symm nw3_w4, Ne.symm n0_w4, Ne.symm nw1_w5, Ne.symm nw2_w5, Ne.symm nw3_w5, Ne.symm nw4_w5, Ne.symm n0_w5, Ne.symm nw1_w6, Ne.symm nw2_w6, Ne.symm nw3_w6, Ne.symm nw4_w6, Ne.symm nw5_w6, Ne.symm n0_w6, Ne.symm nw1_w7, Ne.symm nw2_w7, Ne.symm nw3_w7, Ne.symm nw4_w7, Ne.symm nw5_w7, Ne.symm nw6_w7, Ne.symm n0_w7]) (by simp [u2, n0_w1, nw1_w2, n0_w2, nw1_w3, nw2_w3, n0_w3, nw1_w4, nw2_w4, nw3_w4, n0_w4, nw1_w5, nw2_w5, nw3_w5, nw4_w5, n0_w5, nw1_w6, nw2_w6, nw3_w6, nw4_w6, nw5_w6, n0_w6, nw1_w7, nw2_w7, nw3_w7, nw4_w7, nw5_w7, nw6_w7, n0_w7, Ne.symm n0_w1, Ne.symm nw1_w2, Ne.symm n0_w2, Ne.symm nw1_w3, Ne.symm nw2_w3, Ne.symm n0_w3, Ne.symm nw1_w4, Ne.symm nw2_w4, Ne.symm nw3_w4, Ne.symm n0_w4, Ne.symm nw1_w5, Ne.symm nw2_w5, Ne.symm nw3_w5, Ne.symm nw4_w5, Ne.symm n0_w5, Ne.symm nw1_w6, Ne.symm nw2_w6, Ne.symm nw3_w6, Ne.symm nw4_w6, Ne.symm nw5_w6, Ne.symm n0_w6, Ne.symm nw1_w7, Ne.symm nw2_w7, Ne.symm nw3_w7, Ne.symm nw4_w7, Ne.symm nw5_w7, Ne.symm nw6_w7, Ne.symm n0_w7]) (fun f hf => ?_) 4 0 _ (by decide) (by decide) (fun j hj => absurd hj (Nat.not_lt_zero _))
  refine ⟨rfl, (fun j => match j with | 0 => w0 | 1 => w1 | 2 => w2 | 3 => w3 | 4 => w4 | 5 => w5 | 6 => w6 | _ => w7), _, _, _, _, _, _, rfl, rfl, ⟨⟨h0, ⟨?_, ?_, ?_, ?_, ?_, ?_, ?_⟩, ⟨⟨kw1, ?_⟩, ⟨kw2, ?_⟩, ⟨kw3, ?_⟩, ⟨kw4, ?_⟩, ⟨kw5, ?_⟩, ⟨kw6, ?_⟩, ⟨kw7, ?_⟩⟩, ?_⟩, ⟨?_, ?_⟩, mF_leaf (mF_leaf ⟨fun t h => absurd h List.not_mem_nil, List.nodup_nil⟩), ?_, fun x hx => ?_, ⟨fun x hx => ?_, fun i hi _ => ?_⟩, fun k hk => ?_⟩, fun a ha => ⟨hfr a ha, ?_, fun j hj => ?_⟩⟩
  case refine_15 =>
    intro i j h1 h2 h3 h4 h5
    rcases (show i = 1 ∨ i = 2 ∨ i = 3 ∨ i = 4 ∨ i = 5 ∨ i = 6 ∨ i = 7 by omega) with rfl | rfl | rfl | rfl | rfl | rfl | rfl <;> rcases (show j = 1 ∨ j = 2 ∨ j = 3 ∨ j = 4 ∨ j = 5 ∨ j = 6 ∨ j = 7 by omega) with rfl | rfl | rfl | rfl | rfl | rfl | rfl <;> first | exact absurd rfl h5 | (show _ ≠ _; assumption) | (exact Ne.symm (by assumption))
  case refine_19 =>
    rcases hx with h | h <;> cases h
  case refine_20 =>
    rcases hx with h | h <;> cases h
  case refine_22 =>
    show va_up _ w6 f w6 k = -1
    rw [va_up_self]
    exact hf k hk
  case refine_23 => simp [va_up, mw1 a ha, mw2 a ha, mw3 a ha, mw4 a ha, mw5 a ha, mw6 a ha, mw7 a ha]
  case refine_24 => simp [u2, show j ≠ 9 by omega, show j ≠ 10 by omega, show j ≠ 11 by omega, show j ≠ 12 by omega, show j ≠ 13 by omega, show j ≠ 14 by omega, show j ≠ 15 by omega]
  all_goals (simp [u2, va_up, rk, cmO, emA, ix, hz, n0_w1, nw1_w2, n0_w2, nw1_w3, nw2_w3, n0_w3, nw1_w4, nw2_w4, nw3_w4, n0_w4, nw1_w5, nw2_w5, nw3_w5, nw4_w5, n0_w5, nw1_w6, nw2_w6, nw3_w6, nw4_w6, nw5_w6, n0_w6, nw1_w7, nw2_w7, nw3_w7, nw4_w7, nw5_w7, nw6_w7, n0_w7, Ne.symm n0_w1, Ne.symm nw1_w2, Ne.symm n0_w2, Ne.symm nw1_w3, Ne.symm nw2_w3, Ne.symm n0_w3, Ne.symm nw1_w4, Ne.symm nw2_w4, Ne.symm nw3_w4, Ne.symm n0_w4, Ne.symm nw1_w5, Ne.symm nw2_w5, Ne.symm nw3_w5, Ne.symm nw4_w5, Ne.symm n0_w5, Ne.symm nw1_w6, Ne.symm nw2_w6, Ne.symm nw3_w6, Ne.symm nw4_w6, Ne.symm nw5_w6, Ne.symm n0_w6, Ne.symm nw1_w7, Ne.symm nw2_w7, Ne.symm nw3_w7, Ne.symm nw4_w7, Ne.symm nw5_w7, Ne.symm nw6_w7, Ne.symm n0_w7] <;> rfl)
end MIN
