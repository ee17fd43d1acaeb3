/-! ===== SplaySequence$Row ===== -/
section ROW
variable {G : GC} {L : List Nat} {K AN : Nat → Nat} {R0 Rc : Nat → Nat → Option Nat} {Ic AIc Im AIm : Nat → Nat → Int32} {AR : Nat → Nat → Option Nat} {AL : Nat → Nat → Int64}
/-- a row object and its array -/
def rwS (L : List Nat) (K AN : Nat → Nat) (R0 : Nat → Nat → Option Nat) (w V : Nat) : Prop := (w ∈ L ∧ K w = 1) ∧ (V ∈ L ∧ K V = 6) ∧ R0 0 w = some V ∧ AN V = 60
theorem up_up {α : Type} (f : Nat → α) (a : Nat) (x y : α) : va_up (va_up f a x) a y = va_up f a y := by
  funext j
  by_cases h : j = a <;> simp [va_up, h]
theorem up_id {α : Type} (f : Nat → α) (a : Nat) : va_up f a (f a) = f := by
  funext j
  by_cases h : j = a <;> simp [va_up, h]
theorem c_valueAt (w V k n : Nat) (hw : rwS L K AN R0 w V) (hn : Ic 2 w = nI n) (h60 : n ≤ 60) (hk : k < n) :
    MT G mX1_valueAt [vr (some w), vi (nI k)] (mkS L K AN R0 Rc Ic AIc AR Im AIm AL) (rI (fun x S' => x = AIc V k ∧ S' = mkS L K AN R0 Rc Ic AIc AR Im AIm AL)) := by
  obtain ⟨h1, h2, hV, hN⟩ := hw
  have h1 : isK (mkS L K AN R0 Rc Ic AIc AR Im AIm AL) 1 w := h1
  have h2 : isK (mkS L K AN R0 Rc Ic AIc AR Im AIm AL) 6 V := h2
  refine MT_of (by decide) rfl (Nat.le_of_ble_eq_true rfl) ?_
  refine WP_iload_n dX1_valueAt_0 rfl ?_
  refine WP_if_lt 21 dX1_valueAt_1 (by decide) (fun hb => ?_) (fun hb => ?_)
  · exact absurd hb (nI_pos (by omega))
  · refine WP_iload_n dX1_valueAt_4 rfl ?_
    refine WP_aload_n dX1_valueAt_5 rfl ?_
    refine gf_RX1_15 dX1_valueAt_6 rfl rfl h1 ?_
    rw [hn]
    refine WP_icmp_ge 21 dX1_valueAt_9 (by decide) (fun hb2 => ?_) (fun hb2 => ?_)
    · exact absurd hb2 (nI_ge hk (by omega))
    · refine WP_aload_n dX1_valueAt_12 rfl ?_
      refine gf_RX1_9 dX1_valueAt_13 rfl rfl h1 ?_
      rw [hV]
      refine WP_iload_n dX1_valueAt_16 rfl ?_
      refine ald_6 k 60 dX1_valueAt_17 rfl h2 hN rfl (by omega) (by decide) ?_
      refine WP_goto 22 dX1_valueAt_18 (by decide) ?_
      refine WP_ireturn dX1_valueAt_22 rfl rfl (Nat.le_of_ble_eq_true rfl) (Nat.le_of_ble_eq_true rfl) ?_
      exact ⟨_, rfl, rfl, rfl⟩
theorem c_replace (w V k n : Nat) (v : Int32) (hw : rwS L K AN R0 w V) (hn : Ic 2 w = nI n) (h60 : n ≤ 60) (hk : k < n) :
    MT G mX1_replace [vr (some w), vi (nI k), vi v] (mkS L K AN R0 Rc Ic AIc AR Im AIm AL) (rV (fun S' => S' = mkS L K AN R0 Rc Ic (va_up AIc V (upd (AIc V) k v)) AR Im AIm AL)) := by
  obtain ⟨h1, h2, hV, hN⟩ := hw
  have h1 : isK (mkS L K AN R0 Rc Ic AIc AR Im AIm AL) 1 w := h1
  have h2 : isK (mkS L K AN R0 Rc Ic AIc AR Im AIm AL) 6 V := h2
  refine MT_of (by decide) rfl (Nat.le_of_ble_eq_true rfl) ?_
  refine WP_iload_n dX1_replace_0 rfl ?_
  refine WP_if_lt 19 dX1_replace_1 (by decide) (fun hb => ?_) (fun hb => ?_)
  · exact absurd hb (nI_pos (by omega))
  · refine WP_iload_n dX1_replace_4 rfl ?_
    refine WP_aload_n dX1_replace_5 rfl ?_
    refine gf_RX1_15 dX1_replace_6 rfl rfl h1 ?_
    rw [hn]
    refine WP_icmp_ge 19 dX1_replace_9 (by decide) (fun hb2 => ?_) (fun hb2 => ?_)
    · exact absurd hb2 (nI_ge hk (by omega))
    · refine WP_aload_n dX1_replace_12 rfl ?_
      refine gf_RX1_9 dX1_replace_13 rfl rfl h1 ?_
      rw [hV]
      refine WP_iload_n dX1_replace_16 rfl ?_
      refine WP_iload_n dX1_replace_17 rfl ?_
      refine ast_6 k 60 dX1_replace_18 rfl h2 hN rfl (by omega) (by decide) ?_
      refine WP_return dX1_replace_19 rfl (Nat.le_of_ble_eq_true rfl) (Nat.le_of_ble_eq_true rfl) ?_
      exact ⟨rfl, rfl⟩
theorem c_open (w V k n : Nat) (v : Int32) (hw : rwS L K AN R0 w V) (hn : Ic 2 w = nI n) (h60 : n < 60) (hk : k ≤ n) :
    MT G mX1_open [vr (some w), vi (nI k), vi v] (mkS L K AN R0 Rc Ic AIc AR Im AIm AL) (rV (fun S' => S' = mkS L K AN R0 Rc (u2 Ic 2 w (nI (n + 1))) (va_up AIc V (upd (va_cpy (AIc V) (AIc V) k (k + 1) (n - k)) k v)) AR Im AIm AL)) := by
  obtain ⟨h1, h2, hV, hN⟩ := hw
  have h1 : isK (mkS L K AN R0 Rc Ic AIc AR Im AIm AL) 1 w := h1
  have h2 : isK (mkS L K AN R0 Rc Ic AIc AR Im AIm AL) 6 V := h2
  refine MT_of (by decide) rfl (Nat.le_of_ble_eq_true rfl) ?_
  refine WP_iload_n dX1_open_0 rfl ?_
  refine WP_if_lt 24 dX1_open_1 (by decide) (fun hb => ?_) (fun hb => ?_)
  · exact absurd hb (nI_pos (by omega))
  · refine WP_iload_n dX1_open_4 rfl ?_
    refine WP_aload_n dX1_open_5 rfl ?_
    refine gf_RX1_15 dX1_open_6 rfl rfl h1 ?_
    rw [hn]
    refine WP_icmp_gt 24 dX1_open_9 (by decide) (fun hb2 => ?_) (fun hb2 => ?_)
    · exact absurd hb2 (nI_nlt hk (by omega))
    · refine WP_aload_n dX1_open_12 rfl ?_
      refine gf_RX1_15 dX1_open_13 rfl rfl h1 ?_
      rw [hn]
      refine WP_aload_n dX1_open_16 rfl ?_
      refine gf_RX1_9 dX1_open_17 rfl rfl h1 ?_
      rw [hV]
      refine alen_6 60 dX1_open_20 rfl h2 hN ?_
      refine WP_icmp_lt 25 dX1_open_21 (by decide) (fun hb3 => ?_) (fun hb3 => ?_)
      · refine WP_aload_n dX1_open_25 rfl ?_
        refine gf_RX1_9 dX1_open_26 rfl rfl h1 ?_
        rw [hV]
        refine WP_iload_n dX1_open_29 rfl ?_
        refine WP_aload_n dX1_open_30 rfl ?_
        refine gf_RX1_9 dX1_open_31 rfl rfl h1 ?_
        rw [hV]
        refine WP_iload_n dX1_open_34 rfl ?_
        refine WP_iconst (1) dX1_open_35 (by decide) ?_
        refine WP_iadd dX1_open_36 ?_
        rw [nI_1]
        refine WP_aload_n dX1_open_37 rfl ?_
        refine gf_RX1_15 dX1_open_38 rfl rfl h1 ?_
        rw [hn]
        refine WP_iload_n dX1_open_41 rfl ?_
        refine WP_isub dX1_open_42 ?_
        rw [pk_sub hk]
        refine WP_copy k (k + 1) (n - k) 60 60 dX1_open_43 ok_281 rfl rfl h2 h2 hN hN rfl rfl rfl (by omega) (by omega) (by decide) (by decide) (by decide) (Nat.le_of_ble_eq_true rfl) ?_
        refine WP_aload_n dX1_open_46 rfl ?_
        refine gf_RX1_9 dX1_open_47 rfl rfl h1 ?_
        rw [hV]
        refine WP_iload_n dX1_open_50 rfl ?_
        refine WP_iload_n dX1_open_51 rfl ?_
        refine ast_6 k 60 dX1_open_52 rfl h2 hN rfl (by omega) (by decide) ?_
        refine WP_aload_n dX1_open_53 rfl ?_
        refine WP_dup dX1_open_54 rfl ?_
        refine gf_RX1_15 dX1_open_55 rfl rfl h1 ?_
        rw [hn]
        refine WP_iconst (1) dX1_open_58 (by decide) ?_
        refine WP_iadd dX1_open_59 ?_
        rw [nI_1]
        refine pf_RX1_15 dX1_open_60 rfl rfl h1 ?_
        refine WP_return dX1_open_63 rfl (Nat.le_of_ble_eq_true rfl) (Nat.le_of_ble_eq_true rfl) ?_
        refine ⟨rfl, ?_⟩
        rw [va_up_self, up_up]
      · exact absurd (show nI n < nI 60 from nI_lt h60 (by decide)) hb3
theorem c_close (w V k n : Nat) (hw : rwS L K AN R0 w V) (hn : Ic 2 w = nI n) (h60 : n ≤ 60) (hk : k < n) :
    MT G mX1_close [vr (some w), vi (nI k)] (mkS L K AN R0 Rc Ic AIc AR Im AIm AL) (rV (fun S' => S' = mkS L K AN R0 Rc (u2 Ic 2 w (nI (n - 1))) (va_up AIc V (va_cpy (AIc V) (AIc V) (k + 1) k (n - k - 1))) AR Im AIm AL)) := by
  obtain ⟨h1, h2, hV, hN⟩ := hw
  have h1 : isK (mkS L K AN R0 Rc Ic AIc AR Im AIm AL) 1 w := h1
  have h2 : isK (mkS L K AN R0 Rc Ic AIc AR Im AIm AL) 6 V := h2
  refine MT_of (by decide) rfl (Nat.le_of_ble_eq_true rfl) ?_
  refine WP_iload_n dX1_close_0 rfl ?_
  refine WP_if_lt 45 dX1_close_1 (by decide) (fun hb => ?_) (fun hb => ?_)
  · exact absurd hb (nI_pos (by omega))
  · refine WP_iload_n dX1_close_4 rfl ?_
    refine WP_aload_n dX1_close_5 rfl ?_
    refine gf_RX1_15 dX1_close_6 rfl rfl h1 ?_
    rw [hn]
    refine WP_icmp_ge 45 dX1_close_9 (by decide) (fun hb2 => ?_) (fun hb2 => ?_)
    · exact absurd hb2 (nI_ge hk (by omega))
    · refine WP_aload_n dX1_close_12 rfl ?_
      refine gf_RX1_9 dX1_close_13 rfl rfl h1 ?_
      rw [hV]
      refine WP_iload_n dX1_close_16 rfl ?_
      refine WP_iconst (1) dX1_close_17 (by decide) ?_
      refine WP_iadd dX1_close_18 ?_
      rw [nI_1]
      refine WP_aload_n dX1_close_19 rfl ?_
      refine gf_RX1_9 dX1_close_20 rfl rfl h1 ?_
      rw [hV]
      refine WP_iload_n dX1_close_23 rfl ?_
      refine WP_aload_n dX1_close_24 rfl ?_
      refine gf_RX1_15 dX1_close_25 rfl rfl h1 ?_
      rw [hn]
      refine WP_iload_n dX1_close_28 rfl ?_
      refine WP_isub dX1_close_29 ?_
      rw [pk_sub (by omega)]
      refine WP_iconst (1) dX1_close_30 (by decide) ?_
      refine WP_isub dX1_close_31 ?_
      rw [show (1 : Int32) = nI 1 from rfl, pk_sub (by omega)]
      refine WP_copy (k + 1) k (n - k - 1) 60 60 dX1_close_32 ok_281 rfl rfl h2 h2 hN hN rfl rfl rfl (by omega) (by omega) (by decide) (by decide) (by decide) (Nat.le_of_ble_eq_true rfl) ?_
      refine WP_aload_n dX1_close_35 rfl ?_
      refine WP_dup dX1_close_36 rfl ?_
      refine gf_RX1_15 dX1_close_37 rfl rfl h1 ?_
      rw [hn]
      refine WP_iconst (1) dX1_close_40 (by decide) ?_
      refine WP_isub dX1_close_41 ?_
      rw [show (1 : Int32) = nI 1 from rfl, pk_sub (by omega)]
      refine pf_RX1_15 dX1_close_42 rfl rfl h1 ?_
      refine WP_return dX1_close_45 rfl (Nat.le_of_ble_eq_true rfl) (Nat.le_of_ble_eq_true rfl) ?_
      exact ⟨rfl, rfl⟩
theorem c_hasRange (w f t n : Nat) (hw : (w ∈ L ∧ K w = 1)) (hn : Ic 2 w = nI n) (h60 : n ≤ 60) (hft : f ≤ t) (htn : t ≤ n) :
    MT G mX1_hasRange [vr (some w), vi (nI f), vi (nI t)] (mkS L K AN R0 Rc Ic AIc AR Im AIm AL) (rI (fun x S' => x = 1 ∧ S' = mkS L K AN R0 Rc Ic AIc AR Im AIm AL)) := by
  have h1 : isK (mkS L K AN R0 Rc Ic AIc AR Im AIm AL) 1 w := hw
  refine MT_of (by decide) rfl (Nat.le_of_ble_eq_true rfl) ?_
  refine WP_iload_n dX1_hasRange_0 rfl ?_
  refine WP_if_lt 21 dX1_hasRange_1 (by decide) (fun hb => ?_) (fun hb => ?_)
  · exact absurd hb (nI_pos (by omega))
  · refine WP_iload_n dX1_hasRange_4 rfl ?_
    refine WP_iload_n dX1_hasRange_5 rfl ?_
    refine WP_icmp_gt 21 dX1_hasRange_6 (by decide) (fun hb2 => ?_) (fun hb2 => ?_)
    · exact absurd hb2 (nI_nlt hft (by omega))
    · refine WP_iload_n dX1_hasRange_9 rfl ?_
      refine WP_aload_n dX1_hasRange_10 rfl ?_
      refine gf_RX1_15 dX1_hasRange_11 rfl rfl h1 ?_
      rw [hn]
      refine WP_icmp_gt 21 dX1_hasRange_14 (by decide) (fun hb3 => ?_) (fun hb3 => ?_)
      · exact absurd hb3 (nI_nlt htn (by omega))
      · refine WP_iconst (1) dX1_hasRange_17 (by decide) ?_
        refine WP_goto 22 dX1_hasRange_18 (by decide) ?_
        refine WP_ireturn dX1_hasRange_22 rfl rfl (Nat.le_of_ble_eq_true rfl) (Nat.le_of_ble_eq_true rfl) ?_
        exact ⟨_, rfl, rfl, rfl⟩
def revF (f t : Nat) (g : Nat → Int32) : Nat → Int32 := fun j => if f ≤ j ∧ j < t then g (f + t - 1 - j) else g j
/-- turned round but for what lies between lo and hi -/
def revP (f t s : Nat) (g : Nat → Int32) : Nat → Int32 := fun j => if (f ≤ j ∧ j < f + s) ∨ (t - s ≤ j ∧ j < t) then g (f + t - 1 - j) else g j
theorem turn_row {Q : RS → SS → Prop} (w V f t : Nat) (g : Nat → Int32) (hw : rwS L K AN R0 w V) (h60 : t ≤ 60) (hft : f < t) :
    ∀ (b s : Nat), t - f - 2 * s ≤ b → 2 * s ≤ t - f → Q (.inl none) (mkS L K AN R0 Rc Ic (va_up AIc V (revF f t g)) AR Im AIm AL) →
    ∀ lv, lkp lv 0 = some (vr (some w)) → lkp lv 3 = some (vi (nI (f + s))) → lkp lv 4 = some (vi (nI (t - s) - 1)) →
    WP G mX1_turnRound Q 0 0 17 lv [] (mkS L K AN R0 Rc Ic (va_up AIc V (revP f t s g)) AR Im AIm AL) := by
  obtain ⟨h1, h2, hV, hN⟩ := hw
  intro b
  induction b with
  | zero =>
    intro s hb hs hQ lv l0 l3 l4
    rw [show nI (t - s) - 1 = nI (t - s - 1) from by rw [show (1 : Int32) = nI 1 from rfl, pk_sub (by omega)]] at l4
    refine WP_iload_n dX1_turnRound_17 l3 ?_
    refine WP_iload dX1_turnRound_18 l4 ?_
    refine WP_icmp_ge 62 dX1_turnRound_20 (by decide) (fun hb1 => ?_) (fun hb1 => ?_)
    · refine WP_return dX1_turnRound_62 rfl (Nat.le_of_ble_eq_true rfl) (Nat.le_of_ble_eq_true rfl) ?_
      have e : revP f t s g = revF f t g := by
        funext j
        unfold revP revF
        by_cases hj : f ≤ j ∧ j < t
        · rw [if_pos hj, if_pos (by omega)]
        · rw [if_neg hj, if_neg (by omega)]
      rw [e]
      exact hQ
    · exact absurd (nI_le (by omega) (by omega)) hb1
  | succ b ih =>
    intro s hb hs hQ lv l0 l3 l4
    rw [show nI (t - s) - 1 = nI (t - s - 1) from by rw [show (1 : Int32) = nI 1 from rfl, pk_sub (by omega)]] at l4
    have h1 : isK (mkS L K AN R0 Rc Ic (va_up AIc V (revP f t s g)) AR Im AIm AL) 1 w := h1
    have h2 : isK (mkS L K AN R0 Rc Ic (va_up AIc V (revP f t s g)) AR Im AIm AL) 6 V := h2
    refine WP_iload_n dX1_turnRound_17 l3 ?_
    refine WP_iload dX1_turnRound_18 l4 ?_
    refine WP_icmp_ge 62 dX1_turnRound_20 (by decide) (fun hb1 => ?_) (fun hb1 => ?_)
    · refine WP_return dX1_turnRound_62 rfl (Nat.le_of_ble_eq_true rfl) (Nat.le_of_ble_eq_true rfl) ?_
      have hh : t - s - 1 ≤ f + s := (nI_leI (by omega) (by omega)).mp hb1
      have e : revP f t s g = revF f t g := by
        funext j
        unfold revP revF
        by_cases hj : f ≤ j ∧ j < t
        · rw [if_pos hj]
          by_cases hj2 : (f ≤ j ∧ j < f + s) ∨ (t - s ≤ j ∧ j < t)
          · rw [if_pos hj2]
          · rw [if_neg hj2, show f + t - 1 - j = j by omega]
        · rw [if_neg hj, if_neg (by omega)]
      rw [e]
      exact hQ
    · have hh : f + s < t - s - 1 := by
        by_cases e : t - s - 1 ≤ f + s
        · exact absurd (nI_le e (by omega)) hb1
        · omega
      refine WP_aload_n dX1_turnRound_23 l0 ?_
      refine gf_RX1_9 dX1_turnRound_24 rfl rfl h1 ?_
      rw [hV]
      refine WP_iload_n dX1_turnRound_27 l3 ?_
      refine ald_6 (f + s) 60 dX1_turnRound_28 rfl h2 hN rfl (by omega) (by decide) ?_
      rw [va_up_self]
      refine WP_istore dX1_turnRound_29 (by decide) rfl ?_
      have k0 := lkp_keep (i := 5) (v := vi (revP f t s g (f + s))) l0 (by decide) rfl rfl
      have k3 := lkp_keep (i := 5) (v := vi (revP f t s g (f + s))) l3 (by decide) rfl rfl
      have k4 := lkp_keep (i := 5) (v := vi (revP f t s g (f + s))) l4 (by decide) rfl rfl
      refine WP_aload_n dX1_turnRound_31 k0 ?_
      refine gf_RX1_9 dX1_turnRound_32 rfl rfl h1 ?_
      rw [hV]
      refine WP_iload_n dX1_turnRound_35 k3 ?_
      refine WP_aload_n dX1_turnRound_36 k0 ?_
      refine gf_RX1_9 dX1_turnRound_37 rfl rfl h1 ?_
      rw [hV]
      refine WP_iload dX1_turnRound_40 k4 ?_
      refine ald_6 (t - s - 1) 60 dX1_turnRound_42 rfl h2 hN rfl (by omega) (by decide) ?_
      rw [va_up_self]
      refine ast_6 (f + s) 60 dX1_turnRound_43 rfl h2 hN rfl (by omega) (by decide) ?_
      refine WP_aload_n dX1_turnRound_44 k0 ?_
      refine gf_RX1_9 dX1_turnRound_45 rfl rfl h1 ?_
      rw [hV]
      refine WP_iload dX1_turnRound_48 k4 ?_
      refine WP_iload dX1_turnRound_50 rfl ?_
      refine ast_6 (t - s - 1) 60 dX1_turnRound_52 rfl h2 hN rfl (by omega) (by decide) ?_
      rw [va_up_self, va_up_self, up_up, up_up]
      refine WP_iinc (nI (f + (s + 1))) dX1_turnRound_53 k3 (nI_1 _) (by decide) rfl ?_
      have j0 := lkp_keep (i := 3) (v := vi (nI (f + (s + 1)))) k0 (by decide) rfl rfl
      have j4 := lkp_keep (i := 3) (v := vi (nI (f + (s + 1)))) k4 (by decide) rfl rfl
      refine WP_iinc (nI (t - (s + 1)) - 1) dX1_turnRound_56 j4 (by rw [nI_m1 (by omega), show (1 : Int32) = nI 1 from rfl, pk_sub (by omega), show t - s - 1 - 1 = t - (s + 1) - 1 by omega]) (by decide) rfl ?_
      refine WP_goto 17 dX1_turnRound_59 (by decide) ?_
      have e : upd (upd (revP f t s g) (f + s) (revP f t s g (t - s - 1))) (t - s - 1) (revP f t s g (f + s)) = revP f t (s + 1) g := by
        have e1 : revP f t s g (t - s - 1) = g (t - s - 1) := by unfold revP; rw [if_neg (by omega)]
        have e2 : revP f t s g (f + s) = g (f + s) := by unfold revP; rw [if_neg (by omega)]
        funext j
        rw [e1, e2]
        unfold upd revP
        by_cases hj : j = t - s - 1
        · rw [if_pos hj, if_pos (by omega), show f + t - 1 - j = f + s by omega]
        · rw [if_neg hj]
          by_cases hj2 : j = f + s
          · rw [if_pos hj2, if_pos (by omega), show f + t - 1 - j = t - s - 1 by omega]
          · rw [if_neg hj2]
            by_cases hj3 : (f ≤ j ∧ j < f + s) ∨ (t - s ≤ j ∧ j < t)
            · rw [if_pos hj3, if_pos (by omega)]
            · rw [if_neg hj3, if_neg (by omega)]
      rw [e]
      exact ih (s + 1) (by omega) (by omega) hQ _ (lkp_keep j0 (by decide) rfl rfl) (lkp_keep (lkp_set _ _ _) (by decide) rfl rfl) (lkp_set _ _ _)
theorem c_turnRow (w V f t n : Nat) (hw : rwS L K AN R0 w V) (hn : Ic 2 w = nI n) (h60 : n ≤ 60) (hft : f ≤ t) (htn : t ≤ n) :
    MT G mX1_turnRound [vr (some w), vi (nI f), vi (nI t)] (mkS L K AN R0 Rc Ic AIc AR Im AIm AL) (rV (fun S' => S' = mkS L K AN R0 Rc Ic (va_up AIc V (revF f t (AIc V))) AR Im AIm AL)) := by
  have h1 : isK (mkS L K AN R0 Rc Ic AIc AR Im AIm AL) 1 w := hw.1
  refine MT_of (by decide) rfl (Nat.le_of_ble_eq_true rfl) ?_
  refine WP_aload_n dX1_turnRound_0 rfl ?_
  refine WP_iload_n dX1_turnRound_1 rfl ?_
  refine WP_iload_n dX1_turnRound_2 rfl ?_
  refine callVi mX1_hasRange [_, _] dX1_turnRound_3 okc_X1_hasRange ok_370 ⟨by decide, by decide⟩ rfl rfl h1 rfl (Nat.le_of_ble_eq_true rfl) (Nat.le_of_ble_eq_true rfl) (Nat.le_of_ble_eq_true rfl) (c_hasRange w f t n hw.1 hn h60 hft htn) (fun x1 S1 h3 => ?_)
  obtain ⟨rfl, rfl⟩ := h3
  refine WP_if_ne 10 dX1_turnRound_6 (by decide) (fun hb => ?_) (fun hb => ?_)
  · refine WP_iload_n dX1_turnRound_10 rfl ?_
    refine WP_istore_n dX1_turnRound_11 (by decide) rfl ?_
    refine WP_iload_n dX1_turnRound_12 rfl ?_
    refine WP_iconst (1) dX1_turnRound_13 (by decide) ?_
    refine WP_isub dX1_turnRound_14 ?_
    by_cases he : f = t
    · subst he
      refine WP_istore dX1_turnRound_15 (by decide) rfl ?_
      refine WP_iload_n dX1_turnRound_17 rfl ?_
      refine WP_iload dX1_turnRound_18 rfl ?_
      refine WP_icmp_ge 62 dX1_turnRound_20 (by decide) (fun hb1 => ?_) (fun hb1 => ?_)
      · refine WP_return dX1_turnRound_62 rfl (Nat.le_of_ble_eq_true rfl) (Nat.le_of_ble_eq_true rfl) ?_
        refine ⟨rfl, ?_⟩
        rw [show revF f f (AIc V) = AIc V from by funext j; unfold revF; rw [if_neg (by omega)], up_id]
      · refine absurd ?_ hb1
        have : f = 0 ∨ 0 < f := by omega
        rcases this with rfl | h9
        · decide
        · rw [show (1 : Int32) = nI 1 from rfl, pk_sub (by omega)]
          exact nI_le (by omega) (by omega)
    · refine WP_istore dX1_turnRound_15 (by decide) rfl ?_
      have e : AIc = va_up AIc V (revP f t 0 (AIc V)) := by
        rw [show revP f t 0 (AIc V) = AIc V from by funext j; unfold revP; rw [if_neg (by omega)], up_id]
      have hk := turn_row (G := G) (Q := rV (fun S' => S' = mkS L K AN R0 Rc Ic (va_up AIc V (revF f t (AIc V))) AR Im AIm AL)) (AIc := AIc) (Rc := Rc) (Ic := Ic) (AR := AR) (Im := Im) (AIm := AIm) (AL := AL) w V f t (AIc V) hw (by omega) (by omega) (t - f) 0 (by omega) (by omega) ⟨rfl, rfl⟩
      rw [← e] at hk
      exact hk _ rfl rfl rfl
  · exact absurd (show ¬ ((1 : Int32) = 0) by decide) (fun h => h hb)
def addF (f t : Nat) (d : Int32) (g : Nat → Int32) : Nat → Int32 := fun j => if f ≤ j ∧ j < t then g j + d else g j
theorem add_row {Q : RS → SS → Prop} (w V f t : Nat) (d : Int32) (g : Nat → Int32) (hw : rwS L K AN R0 w V) (h60 : t ≤ 60) :
    ∀ (b k : Nat), t - k ≤ b → f ≤ k → k ≤ t → Q (.inl none) (mkS L K AN R0 Rc Ic (va_up AIc V (addF f t d g)) AR Im AIm AL) →
    WP G mX1_addToAll Q 0 0 13 [(0, vr (some w)), (2, vi (nI t)), (3, vi d), (4, vi (nI k))] [] (mkS L K AN R0 Rc Ic (va_up AIc V (addF f k d g)) AR Im AIm AL) := by
  obtain ⟨h1, h2, hV, hN⟩ := hw
  intro b
  induction b with
  | zero =>
    intro k hb hf hk hQ
    obtain rfl : k = t := by omega
    refine WP_iload dX1_addToAll_13 rfl ?_
    refine WP_iload_n dX1_addToAll_15 rfl ?_
    refine WP_icmp_ge 36 dX1_addToAll_16 (by decide) (fun hb1 => ?_) (fun hb1 => ?_)
    · refine WP_return dX1_addToAll_36 rfl (Nat.le_of_ble_eq_true rfl) (Nat.le_of_ble_eq_true rfl) ?_
      exact hQ
    · exact absurd (nI_le (Nat.le_refl _) (by omega)) hb1
  | succ b ih =>
    intro k hb hf hk hQ
    have h1 : isK (mkS L K AN R0 Rc Ic (va_up AIc V (addF f k d g)) AR Im AIm AL) 1 w := h1
    have h2 : isK (mkS L K AN R0 Rc Ic (va_up AIc V (addF f k d g)) AR Im AIm AL) 6 V := h2
    refine WP_iload dX1_addToAll_13 rfl ?_
    refine WP_iload_n dX1_addToAll_15 rfl ?_
    refine WP_icmp_ge 36 dX1_addToAll_16 (by decide) (fun hb1 => ?_) (fun hb1 => ?_)
    · obtain rfl : k = t := by
        have := (nI_leI (by omega) (by omega)).mp hb1
        omega
      refine WP_return dX1_addToAll_36 rfl (Nat.le_of_ble_eq_true rfl) (Nat.le_of_ble_eq_true rfl) ?_
      exact hQ
    · have hlt : k < t := by
        by_cases e : t ≤ k
        · exact absurd (nI_le e (by omega)) hb1
        · omega
      refine WP_aload_n dX1_addToAll_19 rfl ?_
      refine gf_RX1_9 dX1_addToAll_20 rfl rfl h1 ?_
      rw [hV]
      refine WP_iload dX1_addToAll_23 rfl ?_
      refine WP_dup2 dX1_addToAll_25 rfl rfl ?_
      refine ald_6 k 60 dX1_addToAll_26 rfl h2 hN rfl (by omega) (by decide) ?_
      rw [va_up_self]
      refine WP_iload_n dX1_addToAll_27 rfl ?_
      refine WP_iadd dX1_addToAll_28 ?_
      refine ast_6 k 60 dX1_addToAll_29 rfl h2 hN rfl (by omega) (by decide) ?_
      rw [va_up_self, up_up]
      refine WP_iinc (nI (k + 1)) dX1_addToAll_30 rfl (nI_1 _) (by decide) rfl ?_
      refine WP_goto 13 dX1_addToAll_33 (by decide) ?_
      refine WP_lv [(0, vr (some w)), (2, vi (nI t)), (3, vi d), (4, vi (nI (k + 1)))] (List.forall_mem_cons.mpr ⟨rfl, List.forall_mem_cons.mpr ⟨rfl, List.forall_mem_cons.mpr ⟨rfl, List.forall_mem_cons.mpr ⟨rfl, fun _ h9 => absurd h9 List.not_mem_nil⟩⟩⟩⟩) ?_
      have e : upd (addF f k d g) k (addF f k d g k + d) = addF f (k + 1) d g := by
        funext j
        unfold upd addF
        by_cases hj : j = k
        · rw [if_pos hj, hj, if_neg (show ¬ (f ≤ k ∧ k < k) by omega), if_pos (show f ≤ k ∧ k < k + 1 by omega)]
        · rw [if_neg hj]
          by_cases hj2 : f ≤ j ∧ j < k
          · rw [if_pos hj2, if_pos (by omega)]
          · rw [if_neg hj2, if_neg (by omega)]
      rw [e]
      exact ih (k + 1) (by omega) (by omega) (by omega) hQ
theorem c_addRow (w V f t n : Nat) (d : Int32) (hw : rwS L K AN R0 w V) (hn : Ic 2 w = nI n) (h60 : n ≤ 60) (hft : f ≤ t) (htn : t ≤ n) :
    MT G mX1_addToAll [vr (some w), vi (nI f), vi (nI t), vi d] (mkS L K AN R0 Rc Ic AIc AR Im AIm AL) (rV (fun S' => S' = mkS L K AN R0 Rc Ic (va_up AIc V (addF f t d (AIc V))) AR Im AIm AL)) := by
  have h1 : isK (mkS L K AN R0 Rc Ic AIc AR Im AIm AL) 1 w := hw.1
  refine MT_of (by decide) rfl (Nat.le_of_ble_eq_true rfl) ?_
  refine WP_aload_n dX1_addToAll_0 rfl ?_
  refine WP_iload_n dX1_addToAll_1 rfl ?_
  refine WP_iload_n dX1_addToAll_2 rfl ?_
  refine callVi mX1_hasRange [_, _] dX1_addToAll_3 okc_X1_hasRange ok_370 ⟨by decide, by decide⟩ rfl rfl h1 rfl (Nat.le_of_ble_eq_true rfl) (Nat.le_of_ble_eq_true rfl) (Nat.le_of_ble_eq_true rfl) (c_hasRange w f t n hw.1 hn h60 hft htn) (fun x1 S1 h3 => ?_)
  obtain ⟨rfl, rfl⟩ := h3
  refine WP_if_ne 10 dX1_addToAll_6 (by decide) (fun hb => ?_) (fun hb => ?_)
  · refine WP_iload_n dX1_addToAll_10 rfl ?_
    refine WP_istore dX1_addToAll_11 (by decide) rfl ?_
    refine WP_lv [(0, vr (some w)), (2, vi (nI t)), (3, vi d), (4, vi (nI f))] (List.forall_mem_cons.mpr ⟨rfl, List.forall_mem_cons.mpr ⟨rfl, List.forall_mem_cons.mpr ⟨rfl, List.forall_mem_cons.mpr ⟨rfl, fun _ h9 => absurd h9 List.not_mem_nil⟩⟩⟩⟩) ?_
    have e : AIc = va_up AIc V (addF f f d (AIc V)) := by
      rw [show addF f f d (AIc V) = AIc V from by funext j; unfold addF; rw [if_neg (by omega)], up_id]
    have hk := add_row (G := G) (Q := rV (fun S' => S' = mkS L K AN R0 Rc Ic (va_up AIc V (addF f t d (AIc V))) AR Im AIm AL)) (AIc := AIc) (Rc := Rc) (Ic := Ic) (AR := AR) (Im := Im) (AIm := AIm) (AL := AL) w V f t d (AIc V) hw (by omega) (t - f) f (Nat.le_refl _) (Nat.le_refl _) hft ⟨rfl, rfl⟩
    rw [← e] at hk
    exact hk
  · exact absurd (show ¬ ((1 : Int32) = 0) by decide) (fun h => h hb)
def sumF (g : Nat → Int32) (f : Nat) : Nat → Int32
  | 0 => 0
  | n + 1 => sumF g f n + g (f + n)
theorem sum_row {Q : RS → SS → Prop} (w V f t : Nat) (hw : rwS L K AN R0 w V) (h60 : t ≤ 60) :
    ∀ (b m : Nat), t - (f + m) ≤ b → f + m ≤ t → Q (.inl (some (vi (sumF (AIc V) f (t - f))))) (mkS L K AN R0 Rc Ic AIc AR Im AIm AL) →
    WP G mX1_total Q 0 0 16 [(0, vr (some w)), (2, vi (nI t)), (3, vi (sumF (AIc V) f m)), (4, vi (nI (f + m)))] [] (mkS L K AN R0 Rc Ic AIc AR Im AIm AL) := by
  obtain ⟨h1, h2, hV, hN⟩ := hw
  have h1 : isK (mkS L K AN R0 Rc Ic AIc AR Im AIm AL) 1 w := h1
  have h2 : isK (mkS L K AN R0 Rc Ic AIc AR Im AIm AL) 6 V := h2
  intro b
  induction b with
  | zero =>
    intro m hb hk hQ
    rw [show t - f = m by omega] at hQ
    refine WP_iload dX1_total_16 rfl ?_
    refine WP_iload_n dX1_total_18 rfl ?_
    refine WP_icmp_ge 38 dX1_total_19 (by decide) (fun hb1 => ?_) (fun hb1 => ?_)
    · refine WP_iload_n dX1_total_38 rfl ?_
      refine WP_ireturn dX1_total_39 rfl rfl (Nat.le_of_ble_eq_true rfl) (Nat.le_of_ble_eq_true rfl) ?_
      exact hQ
    · exact absurd (nI_le (by omega) (by omega)) hb1
  | succ b ih =>
    intro m hb hk hQ
    refine WP_iload dX1_total_16 rfl ?_
    refine WP_iload_n dX1_total_18 rfl ?_
    refine WP_icmp_ge 38 dX1_total_19 (by decide) (fun hb1 => ?_) (fun hb1 => ?_)
    · have := (nI_leI (by omega) (by omega)).mp hb1
      rw [show t - f = m by omega] at hQ
      refine WP_iload_n dX1_total_38 rfl ?_
      refine WP_ireturn dX1_total_39 rfl rfl (Nat.le_of_ble_eq_true rfl) (Nat.le_of_ble_eq_true rfl) ?_
      exact hQ
    · have hlt : f + m < t := by
        by_cases e : t ≤ f + m
        · exact absurd (nI_le e (by omega)) hb1
        · omega
      refine WP_iload_n dX1_total_22 rfl ?_
      refine WP_aload_n dX1_total_23 rfl ?_
      refine gf_RX1_9 dX1_total_24 rfl rfl h1 ?_
      rw [hV]
      refine WP_iload dX1_total_27 rfl ?_
      refine ald_6 (f + m) 60 dX1_total_29 rfl h2 hN rfl (by omega) (by decide) ?_
      refine WP_iadd dX1_total_30 ?_
      refine WP_istore_n dX1_total_31 (by decide) rfl ?_
      refine WP_iinc (nI (f + (m + 1))) dX1_total_32 rfl (nI_1 _) (by decide) rfl ?_
      refine WP_goto 16 dX1_total_35 (by decide) ?_
      refine WP_lv [(0, vr (some w)), (2, vi (nI t)), (3, vi (sumF (AIc V) f (m + 1))), (4, vi (nI (f + (m + 1))))] (List.forall_mem_cons.mpr ⟨rfl, List.forall_mem_cons.mpr ⟨rfl, List.forall_mem_cons.mpr ⟨rfl, List.forall_mem_cons.mpr ⟨rfl, fun _ h9 => absurd h9 List.not_mem_nil⟩⟩⟩⟩) ?_
      exact ih (m + 1) (by omega) (by omega) hQ
theorem c_totalRow (w V f t n : Nat) (hw : rwS L K AN R0 w V) (hn : Ic 2 w = nI n) (h60 : n ≤ 60) (hft : f ≤ t) (htn : t ≤ n) :
    MT G mX1_total [vr (some w), vi (nI f), vi (nI t)] (mkS L K AN R0 Rc Ic AIc AR Im AIm AL) (rI (fun x S' => x = sumF (AIc V) f (t - f) ∧ S' = mkS L K AN R0 Rc Ic AIc AR Im AIm AL)) := by
  have h1 : isK (mkS L K AN R0 Rc Ic AIc AR Im AIm AL) 1 w := hw.1
  refine MT_of (by decide) rfl (Nat.le_of_ble_eq_true rfl) ?_
  refine WP_aload_n dX1_total_0 rfl ?_
  refine WP_iload_n dX1_total_1 rfl ?_
  refine WP_iload_n dX1_total_2 rfl ?_
  refine callVi mX1_hasRange [_, _] dX1_total_3 okc_X1_hasRange ok_370 ⟨by decide, by decide⟩ rfl rfl h1 rfl (Nat.le_of_ble_eq_true rfl) (Nat.le_of_ble_eq_true rfl) (Nat.le_of_ble_eq_true rfl) (c_hasRange w f t n hw.1 hn h60 hft htn) (fun x1 S1 h3 => ?_)
  obtain ⟨rfl, rfl⟩ := h3
  refine WP_if_ne 11 dX1_total_6 (by decide) (fun hb => ?_) (fun hb => ?_)
  · refine WP_iconst (0) dX1_total_11 (by decide) ?_
    refine WP_istore_n dX1_total_12 (by decide) rfl ?_
    refine WP_iload_n dX1_total_13 rfl ?_
    refine WP_istore dX1_total_14 (by decide) rfl ?_
    refine WP_lv [(0, vr (some w)), (2, vi (nI t)), (3, vi (sumF (AIc V) f 0)), (4, vi (nI (f + 0)))] (List.forall_mem_cons.mpr ⟨rfl, List.forall_mem_cons.mpr ⟨rfl, List.forall_mem_cons.mpr ⟨rfl, List.forall_mem_cons.mpr ⟨rfl, fun _ h9 => absurd h9 List.not_mem_nil⟩⟩⟩⟩) ?_
    exact sum_row w V f t hw (by omega) (t - f) 0 (by omega) (by omega) ⟨_, rfl, rfl, rfl⟩
  · exact absurd (show ¬ ((1 : Int32) = 0) by decide) (fun h => h hb)
theorem c_moveOut (w V w2 V2 f t n : Nat) (hw : rwS L K AN R0 w V) (hw2 : rwS L K AN R0 w2 V2) (hVV : V ≠ V2) (hww : w ≠ w2) (hn : Ic 2 w = nI n) (h60 : n ≤ 60) (hft : f ≤ t) (htn : t ≤ n) :
    MT G mX1_moveOut [vr (some w), vi (nI f), vi (nI t), vr (some w2)] (mkS L K AN R0 Rc Ic AIc AR Im AIm AL) (rV (fun S' => S' = mkS L K AN R0 Rc (u2 (u2 Ic 2 w2 (nI (t - f))) 2 w (nI (n - (t - f)))) (va_up (va_up AIc V2 (va_cpy (AIc V) (AIc V2) f 0 (t - f))) V (va_cpy (AIc V) (AIc V) t f (n - t))) AR Im AIm AL)) := by
  have h1 : isK (mkS L K AN R0 Rc Ic AIc AR Im AIm AL) 1 w := hw.1
  have h2 : isK (mkS L K AN R0 Rc Ic AIc AR Im AIm AL) 6 V := hw.2.1
  have hV := hw.2.2.1
  have hN := hw.2.2.2
  have g1 : isK (mkS L K AN R0 Rc Ic AIc AR Im AIm AL) 1 w2 := hw2.1
  have g2 : isK (mkS L K AN R0 Rc Ic AIc AR Im AIm AL) 6 V2 := hw2.2.1
  have gV := hw2.2.2.1
  have gN := hw2.2.2.2
  refine MT_of (by decide) rfl (Nat.le_of_ble_eq_true rfl) ?_
  refine WP_aload_n dX1_moveOut_0 rfl ?_
  refine WP_iload_n dX1_moveOut_1 rfl ?_
  refine WP_iload_n dX1_moveOut_2 rfl ?_
  refine callVi mX1_hasRange [_, _] dX1_moveOut_3 okc_X1_hasRange ok_370 ⟨by decide, by decide⟩ rfl rfl h1 rfl (Nat.le_of_ble_eq_true rfl) (Nat.le_of_ble_eq_true rfl) (Nat.le_of_ble_eq_true rfl) (c_hasRange w f t n hw.1 hn h60 hft htn) (fun x1 S1 h3 => ?_)
  obtain ⟨rfl, rfl⟩ := h3
  refine WP_if_ne 10 dX1_moveOut_6 (by decide) (fun hb => ?_) (fun hb => ?_)
  · refine WP_aload_n dX1_moveOut_10 rfl ?_
    refine gf_RX1_9 dX1_moveOut_11 rfl rfl h1 ?_
    rw [hV]
    refine WP_iload_n dX1_moveOut_14 rfl ?_
    refine WP_aload_n dX1_moveOut_15 rfl ?_
    refine gf_RX1_9 dX1_moveOut_16 rfl rfl g1 ?_
    rw [gV]
    refine WP_iconst (0) dX1_moveOut_19 (by decide) ?_
    refine WP_iload_n dX1_moveOut_20 rfl ?_
    refine WP_iload_n dX1_moveOut_21 rfl ?_
    refine WP_isub dX1_moveOut_22 ?_
    rw [pk_sub hft]
    refine WP_copy f 0 (t - f) 60 60 dX1_moveOut_23 ok_281 rfl rfl h2 g2 hN gN rfl rfl rfl (by omega) (by omega) (by decide) (by decide) (by decide) (Nat.le_of_ble_eq_true rfl) ?_
    refine WP_aload_n dX1_moveOut_26 rfl ?_
    refine gf_RX1_9 dX1_moveOut_27 rfl rfl h1 ?_
    rw [hV]
    refine WP_iload_n dX1_moveOut_30 rfl ?_
    refine WP_aload_n dX1_moveOut_31 rfl ?_
    refine gf_RX1_9 dX1_moveOut_32 rfl rfl h1 ?_
    rw [hV]
    refine WP_iload_n dX1_moveOut_35 rfl ?_
    refine WP_aload_n dX1_moveOut_36 rfl ?_
    refine gf_RX1_15 dX1_moveOut_37 rfl rfl h1 ?_
    rw [hn]
    refine WP_iload_n dX1_moveOut_40 rfl ?_
    refine WP_isub dX1_moveOut_41 ?_
    rw [pk_sub htn]
    refine WP_copy t f (n - t) 60 60 dX1_moveOut_42 ok_281 rfl rfl h2 h2 hN hN rfl rfl rfl (by omega) (by omega) (by decide) (by decide) (by decide) (Nat.le_of_ble_eq_true rfl) ?_
    refine WP_aload_n dX1_moveOut_45 rfl ?_
    refine WP_iload_n dX1_moveOut_46 rfl ?_
    refine WP_iload_n dX1_moveOut_47 rfl ?_
    refine WP_isub dX1_moveOut_48 ?_
    rw [pk_sub hft]
    refine pf_RX1_15 dX1_moveOut_49 rfl rfl g1 ?_
    refine WP_aload_n dX1_moveOut_52 rfl ?_
    refine WP_dup dX1_moveOut_53 rfl ?_
    refine gf_RX1_15 dX1_moveOut_54 rfl rfl h1 ?_
    rw [u2_na _ _ _ _ hww, hn]
    refine WP_iload_n dX1_moveOut_57 rfl ?_
    refine WP_iload_n dX1_moveOut_58 rfl ?_
    refine WP_isub dX1_moveOut_59 ?_
    rw [pk_sub hft]
    refine WP_isub dX1_moveOut_60 ?_
    rw [pk_sub (by omega)]
    refine pf_RX1_15 dX1_moveOut_61 rfl rfl h1 ?_
    refine WP_return dX1_moveOut_64 rfl (Nat.le_of_ble_eq_true rfl) (Nat.le_of_ble_eq_true rfl) ?_
    refine ⟨rfl, ?_⟩
    rw [va_up_ne _ _ hVV]
  · exact absurd (show ¬ ((1 : Int32) = 0) by decide) (fun h => h hb)
theorem c_moveIn (w V w2 V2 k n m : Nat) (hw : rwS L K AN R0 w V) (hw2 : rwS L K AN R0 w2 V2) (hVV : V ≠ V2) (hww : w ≠ w2) (hn : Ic 2 w = nI n) (hm : Ic 2 w2 = nI m) (h60 : n + m ≤ 60) (hk : k ≤ n) :
    MT G mX1_moveIn [vr (some w), vi (nI k), vr (some w2)] (mkS L K AN R0 Rc Ic AIc AR Im AIm AL) (rV (fun S' => S' = mkS L K AN R0 Rc (u2 (u2 Ic 2 w (nI (n + m))) 2 w2 0) (va_up AIc V (va_cpy (AIc V2) (va_cpy (AIc V) (AIc V) k (k + m) (n - k)) 0 k m)) AR Im AIm AL)) := by
  have h1 : isK (mkS L K AN R0 Rc Ic AIc AR Im AIm AL) 1 w := hw.1
  have h2 : isK (mkS L K AN R0 Rc Ic AIc AR Im AIm AL) 6 V := hw.2.1
  have hV := hw.2.2.1
  have hN := hw.2.2.2
  have g1 : isK (mkS L K AN R0 Rc Ic AIc AR Im AIm AL) 1 w2 := hw2.1
  have g2 : isK (mkS L K AN R0 Rc Ic AIc AR Im AIm AL) 6 V2 := hw2.2.1
  have gV := hw2.2.2.1
  have gN := hw2.2.2.2
  refine MT_of (by decide) rfl (Nat.le_of_ble_eq_true rfl) ?_
  refine WP_iload_n dX1_moveIn_0 rfl ?_
  refine WP_if_lt 29 dX1_moveIn_1 (by decide) (fun hb => ?_) (fun hb => ?_)
  · exact absurd hb (nI_pos (by omega))
  · refine WP_iload_n dX1_moveIn_4 rfl ?_
    refine WP_aload_n dX1_moveIn_5 rfl ?_
    refine gf_RX1_15 dX1_moveIn_6 rfl rfl h1 ?_
    rw [hn]
    refine WP_icmp_gt 29 dX1_moveIn_9 (by decide) (fun hb2 => ?_) (fun hb2 => ?_)
    · exact absurd hb2 (nI_nlt hk (by omega))
    · refine WP_aload_n dX1_moveIn_12 rfl ?_
      refine gf_RX1_15 dX1_moveIn_13 rfl rfl g1 ?_
      rw [hm]
      refine WP_aload_n dX1_moveIn_16 rfl ?_
      refine gf_RX1_9 dX1_moveIn_17 rfl rfl h1 ?_
      rw [hV]
      refine alen_6 60 dX1_moveIn_20 rfl h2 hN ?_
      refine WP_aload_n dX1_moveIn_21 rfl ?_
      refine gf_RX1_15 dX1_moveIn_22 rfl rfl h1 ?_
      rw [hn]
      refine WP_isub dX1_moveIn_25 ?_
      rw [pk_sub (by omega)]
      refine WP_icmp_le 30 dX1_moveIn_26 (by decide) (fun hb3 => ?_) (fun hb3 => ?_)
      · refine WP_aload_n dX1_moveIn_30 rfl ?_
        refine gf_RX1_9 dX1_moveIn_31 rfl rfl h1 ?_
        rw [hV]
        refine WP_iload_n dX1_moveIn_34 rfl ?_
        refine WP_aload_n dX1_moveIn_35 rfl ?_
        refine gf_RX1_9 dX1_moveIn_36 rfl rfl h1 ?_
        rw [hV]
        refine WP_iload_n dX1_moveIn_39 rfl ?_
        refine WP_aload_n dX1_moveIn_40 rfl ?_
        refine gf_RX1_15 dX1_moveIn_41 rfl rfl g1 ?_
        rw [hm]
        refine WP_iadd dX1_moveIn_44 ?_
        refine WP_aload_n dX1_moveIn_45 rfl ?_
        refine gf_RX1_15 dX1_moveIn_46 rfl rfl h1 ?_
        rw [nI_add, hn]
        refine WP_iload_n dX1_moveIn_49 rfl ?_
        refine WP_isub dX1_moveIn_50 ?_
        rw [pk_sub hk]
        refine WP_copy k (k + m) (n - k) 60 60 dX1_moveIn_51 ok_281 rfl rfl h2 h2 hN hN rfl rfl rfl (by omega) (by omega) (by decide) (by decide) (by decide) (Nat.le_of_ble_eq_true rfl) ?_
        refine WP_aload_n dX1_moveIn_54 rfl ?_
        refine gf_RX1_9 dX1_moveIn_55 rfl rfl g1 ?_
        rw [gV]
        refine WP_iconst (0) dX1_moveIn_58 (by decide) ?_
        refine WP_aload_n dX1_moveIn_59 rfl ?_
        refine gf_RX1_9 dX1_moveIn_60 rfl rfl h1 ?_
        rw [hV]
        refine WP_iload_n dX1_moveIn_63 rfl ?_
        refine WP_aload_n dX1_moveIn_64 rfl ?_
        refine gf_RX1_15 dX1_moveIn_65 rfl rfl g1 ?_
        rw [hm]
        refine WP_copy 0 k m 60 60 dX1_moveIn_68 ok_281 rfl rfl g2 h2 gN hN rfl rfl rfl (by omega) (by omega) (by decide) (by decide) (by decide) (Nat.le_of_ble_eq_true rfl) ?_
        refine WP_aload_n dX1_moveIn_71 rfl ?_
        refine WP_dup dX1_moveIn_72 rfl ?_
        refine gf_RX1_15 dX1_moveIn_73 rfl rfl h1 ?_
        rw [hn]
        refine WP_aload_n dX1_moveIn_76 rfl ?_
        refine gf_RX1_15 dX1_moveIn_77 rfl rfl g1 ?_
        rw [hm]
        refine WP_iadd dX1_moveIn_80 ?_
        rw [nI_add]
        refine pf_RX1_15 dX1_moveIn_81 rfl rfl h1 ?_
        refine WP_aload_n dX1_moveIn_84 rfl ?_
        refine WP_iconst (0) dX1_moveIn_85 (by decide) ?_
        refine pf_RX1_15 dX1_moveIn_86 rfl rfl g1 ?_
        refine WP_return dX1_moveIn_89 rfl (Nat.le_of_ble_eq_true rfl) (Nat.le_of_ble_eq_true rfl) ?_
        refine ⟨rfl, ?_⟩
        rw [va_up_self, up_up, va_up_ne _ _ (Ne.symm hVV)]
      · exact absurd (nI_le (by omega) (by omega)) hb3
end ROW
