/-! ===== constructors ===== -/
theorem new_K {L : List Nat} {K : Nat → Nat} (q k : Nat) : q ∈ L ++ [q] ∧ va_up K q k q = k := ⟨by simp, va_up_self _ _ _⟩
section INI
variable {G : GC} {L : List Nat} {K AN : Nat → Nat} {R0 Rc : Nat → Nat → Option Nat} {Ic AIc Im AIm : Nat → Nat → Int32} {AR : Nat → Nat → Option Nat} {AL : Nat → Nat → Int64}
theorem c_TreeInit (q : Nat) : MT G mX3_init [vr (some q)] (mkS L K AN R0 Rc Ic AIc AR Im AIm AL) (rV (fun S' => S' = mkS L K AN R0 Rc Ic AIc AR Im AIm AL)) := by
  refine MT_of (by decide) rfl (Nat.le_of_ble_eq_true rfl) ?_
  refine WP_aload_n dX3_init_0 rfl ?_
  refine WP_obj dX3_init_1 ok_64 (by decide) (Nat.le_of_ble_eq_true rfl) ?_
  refine WP_return dX3_init_4 rfl (Nat.le_of_ble_eq_true rfl) (Nat.le_of_ble_eq_true rfl) ?_
  exact ⟨rfl, rfl⟩
theorem c_SplInit (q : Nat) : MT G mX2_init [vr (some q)] (mkS L K AN R0 Rc Ic AIc AR Im AIm AL) (rV (fun S' => S' = mkS L K AN R0 Rc Ic AIc AR Im AIm AL)) := by
  refine MT_of (by decide) rfl (Nat.le_of_ble_eq_true rfl) ?_
  refine WP_aload_n dX2_init_0 rfl ?_
  refine WP_obj dX2_init_1 ok_76 (by decide) (Nat.le_of_ble_eq_true rfl) ?_
  refine WP_return dX2_init_4 rfl (Nat.le_of_ble_eq_true rfl) (Nat.le_of_ble_eq_true rfl) ?_
  exact ⟨rfl, rfl⟩
theorem c_RowInit (q : Nat) (hq : q ∈ L ∧ K q = 1) : MT G mX1_init [vr (some q)] (mkS L K AN R0 Rc Ic AIc AR Im AIm AL) (rV (fun S' => ∃ V, V ∉ L ∧ S' = mkS (L ++ [V]) (va_up K V 6) (va_up AN V 60) (u2 R0 0 q (some V)) Rc Ic (va_up AIc V (fun _ => 0)) AR Im AIm AL)) := by
  refine MT_of (by decide) rfl (Nat.le_of_ble_eq_true rfl) ?_
  refine WP_aload_n dX1_init_0 rfl ?_
  refine WP_obj dX1_init_1 ok_101 (by decide) (Nat.le_of_ble_eq_true rfl) ?_
  refine WP_aload_n dX1_init_4 rfl ?_
  refine WP_bipush (60) dX1_init_5 (by decide) ?_
  refine newa_6 60 dX1_init_7 rfl (by decide) (Nat.le_of_ble_eq_true rfl) (Nat.le_of_ble_eq_true rfl) (fun V hV => ?_)
  have hq2 := grow_K hV hq 6
  have hVK : V ∈ L ++ [V] ∧ va_up K V 6 V = 6 := new_K V 6
  refine pf_RX1_9 dX1_init_9 rfl rfl rfl hq2 ?_
  refine WP_return dX1_init_12 rfl (Nat.le_of_ble_eq_true rfl) (Nat.le_of_ble_eq_true rfl) ?_
  exact ⟨rfl, V, hV, rfl⟩
end INI
