/-! ===== SplaySequence: checks and helpers ===== -/
theorem neg_not {n : Nat} {x : Int32} (h : x < 0) : ¬ inP n x := by
  rintro ⟨h1, -⟩
  have h2 := Int32.lt_iff_toInt_lt.mp h
  have h3 : (0 : Int32).toInt = 0 := rfl
  omega
theorem inP_le {n : Nat} {x : Int32} (h0 : ¬ x < 0) (hn : n + 1 < 2 ^ 31) : x ≤ nI n ↔ inP (n + 1) x := by
  obtain ⟨j, hj, rfl⟩ := nI_of h0
  rw [nI_leI hj (by omega)]
  unfold inP
  rw [nI_toInt hj]
  omega
theorem inP_lt {n : Nat} {x : Int32} (h0 : ¬ x < 0) (hn : n < 2 ^ 31) : x < nI n ↔ inP n x := by
  obtain ⟨j, hj, rfl⟩ := nI_of h0
  rw [nI_ltI hj (by omega)]
  unfold inP
  rw [nI_toInt hj]
  omega
theorem tsz_spl1 (t : Tr) (k : Nat) : tsz (splT t k).1 = min k (tsz t) := by
  rw [← io_len, (splT_io t k).1, List.length_take, io_len]
theorem tsz_spl2 (t : Tr) (k : Nat) : tsz (splT t k).2 = tsz t - k := by
  rw [← io_len, (splT_io t k).2, List.length_drop, io_len]
theorem tsz_join (l r : Tr) : tsz (joinT l r) = tsz l + tsz r := by
  rw [← io_len, joinT_io, List.length_append, io_len, io_len]
/-- before, in and behind a range; what it costs -/
def rgT (t : Tr) (f u : Nat) : Tr × Tr × Tr := if f < u then ((splT (splT t u).1 f).1, (splT (splT t u).1 f).2, (splT t u).2) else (t, .leaf, .leaf)
def rgN (n : Cn) (t : Tr) (f u : Nat) : Cn := if f < u then addC (addC n (splC t u)) (splC (splT t u).1 f) else n
def jn3 (x : Tr × Tr × Tr) : Tr := joinT (joinT x.1 x.2.1) x.2.2
def jn3N (n : Cn) (x : Tr × Tr × Tr) : Cn := addC (addC n (joinC x.1 x.2.1)) (joinC (joinT x.1 x.2.1) x.2.2)
theorem rgT_io (t : Tr) (f u : Nat) (hfu : f < u) : io (rgT t f u).1 = (io t).take f ∧ io (rgT t f u).2.1 = ((io t).take u).drop f ∧ io (rgT t f u).2.2 = (io t).drop u := by
  unfold rgT
  rw [if_pos hfu]
  refine ⟨?_, ?_, (splT_io t u).2⟩
  · rw [(splT_io _ f).1, (splT_io t u).1, List.take_take, Nat.min_eq_left (Nat.le_of_lt hfu)]
  · rw [(splT_io _ f).2, (splT_io t u).1]
theorem rgT_sz (t : Tr) (f u : Nat) (hu : u ≤ tsz t) (hfu : f ≤ u) : tsz (rgT t f u).1 + tsz (rgT t f u).2.1 + tsz (rgT t f u).2.2 = tsz t ∧ tsz (rgT t f u).2.1 = u - f := by
  by_cases h : f < u
  · unfold rgT
    rw [if_pos h]
    simp only [tsz_spl1, tsz_spl2]
    omega
  · unfold rgT
    rw [if_neg h]
    show tsz t + 0 + 0 = tsz t ∧ 0 = u - f
    omega
theorem jn3_sz (x : Tr × Tr × Tr) : tsz (jn3 x) = tsz x.1 + tsz x.2.1 + tsz x.2.2 := by
  unfold jn3
  rw [tsz_join, tsz_join]
theorem jn3_io (x : Tr × Tr × Tr) : io (jn3 x) = io x.1 ++ io x.2.1 ++ io x.2.2 := by
  unfold jn3
  rw [joinT_io, joinT_io]
/-- the position of the root of a subtree, in the whole tree; -1 if there is none -/
def posP (fs : List Fr) (u : Tr) : Int32 := match u with
  | .leaf => -1
  | .inner _ _ _ l _ => nI ((bef fs).length + tsz l)
def lftF (a j : Nat) (g : Nat → Option Nat) : Nat → Option Nat := fun k => if k < j ∧ g k = some a then none else g k
section HL2
variable {G : GC} {L : List Nat} {K AN : Nat → Nat} {R0 Rc : Nat → Nat → Option Nat} {Ic AIc Im AIm : Nat → Nat → Int32} {AR : Nat → Nat → Option Nat} {AL : Nat → Nat → Int64} {E : Nat → Nat} {t c m r : Tr} {n : Cn}
theorem cW_T {x : T4} (hW : cW E L K Rc Ic x n) : cT L K Rc Ic x.1 ∧ cT L K Rc Ic x.2.1 ∧ cT L K Rc Ic x.2.2.1 ∧ cT L K Rc Ic x.2.2.2 :=
  ⟨hW.1.1 _ (by simp), hW.1.1 _ (by simp), hW.1.1 _ (by simp), hW.1.1 _ (by simp)⟩
theorem c_checkGap (x : Int32) (hK : cK E L K AN R0) (hW : cW E L K Rc Ic (t, c, m, r) n) (hs : tsz t ≤ 60) :
    MT G mX4_checkGap [vr (some (E 0)), vi x] (mkS L K AN R0 Rc Ic AIc AR Im AIm AL) (rT (rV (fun S' => inP (tsz t + 1) x ∧ S' = mkS L K AN R0 Rc Ic AIc AR Im AIm AL)) (fun ex S' => (ex = xO ∧ ¬ inP (tsz t + 1) x) ∧ S' = mkS L K AN R0 Rc Ic AIc AR Im AIm AL)) := by
  obtain ⟨h0, ⟨e1, -⟩, ⟨k1, -⟩, -⟩ := hK
  have h0 : isK (mkS L K AN R0 Rc Ic AIc AR Im AIm AL) 4 (E 0) := h0
  have k1 : isK (mkS L K AN R0 Rc Ic AIc AR Im AIm AL) 3 (E 1) := k1
  have hT := (cW_T hW).1
  have hr := hW.2.1.1
  refine MT_of (by decide) rfl (Nat.le_of_ble_eq_true rfl) ?_
  refine WP_iload_n dX4_checkGap_0 rfl ?_
  refine WP_if_lt 15 dX4_checkGap_1 (by decide) (fun hb => ?_) (fun hb => ?_)
  · refine WP_throw "java/lang/IndexOutOfBoundsException" "no such position" 223 225 227 rfl rfl (by decide +kernel) ok_157 ok_19 sr_225 sx_225 tw_O to_O cst_O dX4_checkGap_15 dX4_checkGap_18 dX4_checkGap_19 dX4_checkGap_21 dX4_checkGap_24 (by decide) (Nat.le_of_ble_eq_true rfl) (Nat.le_of_ble_eq_true rfl) (Nat.le_of_ble_eq_true rfl) ?_
    exact Or.inr ⟨_, rfl, ⟨rfl, neg_not hb⟩, rfl⟩
  · refine WP_iload_n dX4_checkGap_4 rfl ?_
    refine WP_aload_n dX4_checkGap_5 rfl ?_
    refine gf_RX4_10 dX4_checkGap_6 rfl rfl h0 ?_
    rw [e1]
    refine callVi mX3_count [] dX4_checkGap_9 okc_X3_count ok_134 ⟨by decide, by decide⟩ rfl rfl k1 rfl (Nat.le_of_ble_eq_true rfl) (Nat.le_of_ble_eq_true rfl) (Nat.le_of_ble_eq_true rfl) (c_count (E 1) t k1 hr hT) (fun x1 S1 h1 => ?_)
    obtain ⟨rfl, rfl⟩ := h1
    refine WP_icmp_le 25 dX4_checkGap_12 (by decide) (fun hb2 => ?_) (fun hb2 => ?_)
    · refine WP_return dX4_checkGap_25 rfl (Nat.le_of_ble_eq_true rfl) (Nat.le_of_ble_eq_true rfl) ?_
      exact Or.inl ⟨rfl, (inP_le hb (by omega)).mp hb2, rfl⟩
    · refine WP_throw "java/lang/IndexOutOfBoundsException" "no such position" 223 225 227 rfl rfl (by decide +kernel) ok_157 ok_19 sr_225 sx_225 tw_O to_O cst_O dX4_checkGap_15 dX4_checkGap_18 dX4_checkGap_19 dX4_checkGap_21 dX4_checkGap_24 (by decide) (Nat.le_of_ble_eq_true rfl) (Nat.le_of_ble_eq_true rfl) (Nat.le_of_ble_eq_true rfl) ?_
      exact Or.inr ⟨_, rfl, ⟨rfl, fun h => hb2 ((inP_le hb (by omega)).mpr h)⟩, rfl⟩
theorem c_checkRange (x y : Int32) (hK : cK E L K AN R0) (hW : cW E L K Rc Ic (t, c, m, r) n) (hs : tsz t ≤ 60) :
    MT G mX4_checkRange [vr (some (E 0)), vi x, vi y] (mkS L K AN R0 Rc Ic AIc AR Im AIm AL) (rT (rV (fun S' => inR (tsz t) x y ∧ S' = mkS L K AN R0 Rc Ic AIc AR Im AIm AL)) (fun ex S' => (ex = xO ∧ ¬ inR (tsz t) x y) ∧ S' = mkS L K AN R0 Rc Ic AIc AR Im AIm AL)) := by
  obtain ⟨h0, ⟨e1, -⟩, ⟨k1, -⟩, -⟩ := hK
  have h0 : isK (mkS L K AN R0 Rc Ic AIc AR Im AIm AL) 4 (E 0) := h0
  have k1 : isK (mkS L K AN R0 Rc Ic AIc AR Im AIm AL) 3 (E 1) := k1
  have hT := (cW_T hW).1
  have hr := hW.2.1.1
  have z0 : (0 : Int32).toInt = 0 := rfl
  have zn : (nI (tsz t)).toInt = (tsz t : Int) := nI_toInt (by omega)
  refine MT_of (by decide) rfl (Nat.le_of_ble_eq_true rfl) ?_
  refine WP_iload_n dX4_checkRange_0 rfl ?_
  refine WP_if_lt 20 dX4_checkRange_1 (by decide) (fun hb => ?_) (fun hb => ?_)
  · refine WP_throw "java/lang/IndexOutOfBoundsException" "no such range" 223 228 227 rfl rfl (by decide +kernel) ok_157 ok_19 sr_228 sx_228 tw_O to_O cst_O dX4_checkRange_20 dX4_checkRange_23 dX4_checkRange_24 dX4_checkRange_26 dX4_checkRange_29 (by decide) (Nat.le_of_ble_eq_true rfl) (Nat.le_of_ble_eq_true rfl) (Nat.le_of_ble_eq_true rfl) ?_
    refine Or.inr ⟨_, rfl, ⟨rfl, fun h => ?_⟩, rfl⟩
    have := Int32.lt_iff_toInt_lt.mp hb
    have := h.1
    omega
  · refine WP_iload_n dX4_checkRange_4 rfl ?_
    refine WP_iload_n dX4_checkRange_5 rfl ?_
    refine WP_icmp_gt 20 dX4_checkRange_6 (by decide) (fun hb2 => ?_) (fun hb2 => ?_)
    · refine WP_throw "java/lang/IndexOutOfBoundsException" "no such range" 223 228 227 rfl rfl (by decide +kernel) ok_157 ok_19 sr_228 sx_228 tw_O to_O cst_O dX4_checkRange_20 dX4_checkRange_23 dX4_checkRange_24 dX4_checkRange_26 dX4_checkRange_29 (by decide) (Nat.le_of_ble_eq_true rfl) (Nat.le_of_ble_eq_true rfl) (Nat.le_of_ble_eq_true rfl) ?_
      refine Or.inr ⟨_, rfl, ⟨rfl, fun h => ?_⟩, rfl⟩
      have := Int32.lt_iff_toInt_lt.mp hb2
      have := h.2.1
      omega
    · refine WP_iload_n dX4_checkRange_9 rfl ?_
      refine WP_aload_n dX4_checkRange_10 rfl ?_
      refine gf_RX4_10 dX4_checkRange_11 rfl rfl h0 ?_
      rw [e1]
      refine callVi mX3_count [] dX4_checkRange_14 okc_X3_count ok_134 ⟨by decide, by decide⟩ rfl rfl k1 rfl (Nat.le_of_ble_eq_true rfl) (Nat.le_of_ble_eq_true rfl) (Nat.le_of_ble_eq_true rfl) (c_count (E 1) t k1 hr hT) (fun x1 S1 h1 => ?_)
      obtain ⟨rfl, rfl⟩ := h1
      have a1 : 0 ≤ x.toInt := by
        rw [Int32.lt_iff_toInt_lt] at hb
        omega
      have a2 : x.toInt ≤ y.toInt := by
        rw [Int32.lt_iff_toInt_lt] at hb2
        omega
      refine WP_icmp_le 30 dX4_checkRange_17 (by decide) (fun hb3 => ?_) (fun hb3 => ?_)
      · refine WP_return dX4_checkRange_30 rfl (Nat.le_of_ble_eq_true rfl) (Nat.le_of_ble_eq_true rfl) ?_
        refine Or.inl ⟨rfl, ⟨a1, a2, ?_⟩, rfl⟩
        have := Int32.le_iff_toInt_le.mp hb3
        omega
      · refine WP_throw "java/lang/IndexOutOfBoundsException" "no such range" 223 228 227 rfl rfl (by decide +kernel) ok_157 ok_19 sr_228 sx_228 tw_O to_O cst_O dX4_checkRange_20 dX4_checkRange_23 dX4_checkRange_24 dX4_checkRange_26 dX4_checkRange_29 (by decide) (Nat.le_of_ble_eq_true rfl) (Nat.le_of_ble_eq_true rfl) (Nat.le_of_ble_eq_true rfl) ?_
        refine Or.inr ⟨_, rfl, ⟨rfl, fun h => hb3 ?_⟩, rfl⟩
        rw [Int32.le_iff_toInt_le, zn]
        exact h.2.2
theorem c_checkFinger (x : Int32) (hK : cK E L K AN R0) :
    MT G mX4_checkFinger [vr (some (E 0)), vi x] (mkS L K AN R0 Rc Ic AIc AR Im AIm AL) (rT (rV (fun S' => inP 4 x ∧ S' = mkS L K AN R0 Rc Ic AIc AR Im AIm AL)) (fun ex S' => (ex = xO ∧ ¬ inP 4 x) ∧ S' = mkS L K AN R0 Rc Ic AIc AR Im AIm AL)) := by
  obtain ⟨h0, ⟨-, -, -, -, -, e6, -⟩, -, -, ⟨k6, n6⟩, -⟩ := hK
  have h0 : isK (mkS L K AN R0 Rc Ic AIc AR Im AIm AL) 4 (E 0) := h0
  have k6 : isK (mkS L K AN R0 Rc Ic AIc AR Im AIm AL) 9 (E 6) := k6
  refine MT_of (by decide) rfl (Nat.le_of_ble_eq_true rfl) ?_
  refine WP_iload_n dX4_checkFinger_0 rfl ?_
  refine WP_if_lt 13 dX4_checkFinger_1 (by decide) (fun hb => ?_) (fun hb => ?_)
  · refine WP_throw "java/lang/IndexOutOfBoundsException" "no such finger" 223 230 227 rfl rfl (by decide +kernel) ok_157 ok_19 sr_230 sx_230 tw_O to_O cst_O dX4_checkFinger_13 dX4_checkFinger_16 dX4_checkFinger_17 dX4_checkFinger_19 dX4_checkFinger_22 (by decide) (Nat.le_of_ble_eq_true rfl) (Nat.le_of_ble_eq_true rfl) (Nat.le_of_ble_eq_true rfl) ?_
    exact Or.inr ⟨_, rfl, ⟨rfl, neg_not hb⟩, rfl⟩
  · refine WP_iload_n dX4_checkFinger_4 rfl ?_
    refine WP_aload_n dX4_checkFinger_5 rfl ?_
    refine gf_RX4_34 dX4_checkFinger_6 rfl rfl h0 ?_
    rw [e6]
    refine alen_9 4 dX4_checkFinger_9 rfl k6 n6 ?_
    refine WP_icmp_lt 23 dX4_checkFinger_10 (by decide) (fun hb2 => ?_) (fun hb2 => ?_)
    · refine WP_return dX4_checkFinger_23 rfl (Nat.le_of_ble_eq_true rfl) (Nat.le_of_ble_eq_true rfl) ?_
      exact Or.inl ⟨rfl, (inP_lt hb (by decide)).mp hb2, rfl⟩
    · refine WP_throw "java/lang/IndexOutOfBoundsException" "no such finger" 223 230 227 rfl rfl (by decide +kernel) ok_157 ok_19 sr_230 sx_230 tw_O to_O cst_O dX4_checkFinger_13 dX4_checkFinger_16 dX4_checkFinger_17 dX4_checkFinger_19 dX4_checkFinger_22 (by decide) (Nat.le_of_ble_eq_true rfl) (Nat.le_of_ble_eq_true rfl) (Nat.le_of_ble_eq_true rfl) ?_
      exact Or.inr ⟨_, rfl, ⟨rfl, fun h => hb2 ((inP_lt hb (by decide)).mpr h)⟩, rfl⟩
theorem c_checkAmount (x : Int32) :
    MT G mX4_checkAmount [vi x] (mkS L K AN R0 Rc Ic AIc AR Im AIm AL) (rT (rV (fun S' => okv x ∧ S' = mkS L K AN R0 Rc Ic AIc AR Im AIm AL)) (fun ex S' => (ex = xA ∧ ¬ okv x) ∧ S' = mkS L K AN R0 Rc Ic AIc AR Im AIm AL)) := by
  refine MT_of (by decide) rfl (Nat.le_of_ble_eq_true rfl) ?_
  refine WP_iload_n dX4_checkAmount_0 rfl ?_
  refine WP_sipush (-1000) dX4_checkAmount_1 (by decide) ?_
  refine WP_icmp_lt 14 dX4_checkAmount_4 (by decide) (fun hb => ?_) (fun hb => ?_)
  · refine WP_throw "java/lang/IllegalArgumentException" "a value or an amount is out of range" 148 232 152 rfl rfl (by decide +kernel) ok_303 ok_21 sr_232 sx_232 tw_A to_A cst_A dX4_checkAmount_14 dX4_checkAmount_17 dX4_checkAmount_18 dX4_checkAmount_20 dX4_checkAmount_23 (by decide) (Nat.le_of_ble_eq_true rfl) (Nat.le_of_ble_eq_true rfl) (Nat.le_of_ble_eq_true rfl) ?_
    exact Or.inr ⟨_, rfl, ⟨rfl, fun h => Int32.not_le.mpr hb h.1⟩, rfl⟩
  · refine WP_iload_n dX4_checkAmount_7 rfl ?_
    refine WP_sipush (1000) dX4_checkAmount_8 (by decide) ?_
    refine WP_icmp_le 24 dX4_checkAmount_11 (by decide) (fun hb2 => ?_) (fun hb2 => ?_)
    · refine WP_return dX4_checkAmount_24 rfl (Nat.le_of_ble_eq_true rfl) (Nat.le_of_ble_eq_true rfl) ?_
      exact Or.inl ⟨rfl, ⟨Int32.not_lt.mp hb, hb2⟩, rfl⟩
    · refine WP_throw "java/lang/IllegalArgumentException" "a value or an amount is out of range" 148 232 152 rfl rfl (by decide +kernel) ok_303 ok_21 sr_232 sx_232 tw_A to_A cst_A dX4_checkAmount_14 dX4_checkAmount_17 dX4_checkAmount_18 dX4_checkAmount_20 dX4_checkAmount_23 (by decide) (Nat.le_of_ble_eq_true rfl) (Nat.le_of_ble_eq_true rfl) (Nat.le_of_ble_eq_true rfl) ?_
      exact Or.inr ⟨_, rfl, ⟨rfl, fun h => hb2 h.2⟩, rfl⟩
/-- the address of the node at a position -/
theorem c_nodeAt (x : Int32) (hK : cK E L K AN R0) (hW : cW E L K Rc Ic (t, c, m, r) n) (hs : tsz t ≤ 60) :
    MT G mX4_nodeAt [vr (some (E 0)), vi x] (mkS L K AN R0 Rc Ic AIc AR Im AIm AL) (rT (rN (fun a S' => (∃ k, k < tsz t ∧ x = nI k ∧ rk kA (zat t k []).1 = some a) ∧ S' = mkS L K AN R0 Rc Ic AIc AR Im AIm AL)) (fun ex S' => (ex = xO ∧ ¬ inP (tsz t) x) ∧ S' = mkS L K AN R0 Rc Ic AIc AR Im AIm AL)) := by
  obtain ⟨h0, ⟨e1, -⟩, ⟨k1, -⟩, -⟩ := hK
  have h0 : isK (mkS L K AN R0 Rc Ic AIc AR Im AIm AL) 4 (E 0) := h0
  have k1 : isK (mkS L K AN R0 Rc Ic AIc AR Im AIm AL) 3 (E 1) := k1
  have hT := (cW_T hW).1
  have hr := hW.2.1.1
  refine MT_of (by decide) rfl (Nat.le_of_ble_eq_true rfl) ?_
  refine WP_aload_n dX4_nodeAt_0 rfl ?_
  refine gf_RX4_10 dX4_nodeAt_1 rfl rfl h0 ?_
  refine WP_iload_n dX4_nodeAt_4 rfl ?_
  rw [e1]
  refine callVr mX3_find [_] dX4_nodeAt_5 okc_X3_find ok_153 ⟨by decide, by decide⟩ rfl rfl k1 rfl (Nat.le_of_ble_eq_true rfl) (Nat.le_of_ble_eq_true rfl) (Nat.le_of_ble_eq_true rfl) (c_find (E 1) t x k1 hr hT) (fun o1 S1 h1 => ?_)
  obtain ⟨rfl, rfl⟩ := h1
  refine WP_astore_n dX4_nodeAt_8 (by decide) rfl ?_
  refine WP_aload_n dX4_nodeAt_9 rfl ?_
  by_cases hx : inP (tsz t) x
  · obtain ⟨k, hk, rfl⟩ := inP_of hx (by omega)
    obtain ⟨fs, a, i, v, l, r', z1, z2, -⟩ := at_zip hk
    have hf : fnd t (nI k) = some a := by
      rw [fnd_nI t k [] (by omega) (by omega), if_pos hk, z1]
      rfl
    rw [hf]
    refine WP_ifnonnull 23 dX4_nodeAt_10 (by decide) (fun p9 hb => ?_) (fun hb => ?_)
    · cases hb
      refine WP_aload_n dX4_nodeAt_23 rfl ?_
      refine WP_areturn dX4_nodeAt_24 rfl (Nat.le_of_ble_eq_true rfl) (Nat.le_of_ble_eq_true rfl) ?_
      exact Or.inl ⟨_, rfl, ⟨k, hk, rfl, by rw [z1]; rfl⟩, rfl⟩
    · cases hb
  · have hf : fnd t x = none := by
      rcases inP_not hx (by omega) with h | ⟨k, h1, h2, rfl⟩
      · exact fnd_neg t h (by omega)
      · rw [fnd_nI t k [] (by omega) (by omega), if_neg (by omega)]
    rw [hf]
    refine WP_ifnonnull 23 dX4_nodeAt_10 (by decide) (fun p9 hb => ?_) (fun hb => ?_)
    · cases hb
    · refine WP_throw "java/lang/IndexOutOfBoundsException" "no such position" 223 225 227 rfl rfl (by decide +kernel) ok_157 ok_19 sr_225 sx_225 tw_O to_O cst_O dX4_nodeAt_13 dX4_nodeAt_16 dX4_nodeAt_17 dX4_nodeAt_19 dX4_nodeAt_22 (by decide) (Nat.le_of_ble_eq_true rfl) (Nat.le_of_ble_eq_true rfl) (Nat.le_of_ble_eq_true rfl) ?_
      exact Or.inr ⟨_, rfl, ⟨rfl, hx⟩, rfl⟩
theorem c_posOr (fs : List Fr) (u : Tr) (hn : (kl kA (plug fs u)).Nodup) (hc : cT L K Rc Ic (plug fs u)) :
    MT G mX4_positionOrNone [vr (rk kA u)] (mkS L K AN R0 Rc Ic AIc AR Im AIm AL) (rI (fun x S' => x = posP fs u ∧ S' = mkS L K AN R0 Rc Ic AIc AR Im AIm AL)) := by
  cases u with
  | leaf =>
    refine MT_of (by decide) rfl (Nat.le_of_ble_eq_true rfl) ?_
    refine WP_aload_n dX4_positionOrNone_0 rfl ?_
    refine WP_ifnonnull 8 dX4_positionOrNone_1 (by decide) (fun p9 hb => ?_) (fun hb => ?_)
    · cases hb
    · refine WP_iconst (-1) dX4_positionOrNone_4 (by decide) ?_
      refine WP_goto 12 dX4_positionOrNone_5 (by decide) ?_
      refine WP_ireturn dX4_positionOrNone_12 rfl rfl (Nat.le_of_ble_eq_true rfl) (Nat.le_of_ble_eq_true rfl) ?_
      exact ⟨_, rfl, rfl, rfl⟩
  | inner a i v l r =>
    have ka : isK (mkS L K AN R0 Rc Ic AIc AR Im AIm AL) 0 a := (cz hc).1
    refine MT_of (by decide) rfl (Nat.le_of_ble_eq_true rfl) ?_
    refine WP_aload_n dX4_positionOrNone_0 rfl ?_
    refine WP_ifnonnull 8 dX4_positionOrNone_1 (by decide) (fun p9 hb => ?_) (fun hb => ?_)
    · cases hb
      refine WP_aload_n dX4_positionOrNone_8 rfl ?_
      refine callVi mX0_position [] dX4_positionOrNone_9 okc_X0_position ok_486 ⟨by decide, by decide⟩ rfl rfl ka rfl (Nat.le_of_ble_eq_true rfl) (Nat.le_of_ble_eq_true rfl) (Nat.le_of_ble_eq_true rfl) (c_position a i v l r fs hn hc) (fun x1 S1 h1 => ?_)
      obtain ⟨rfl, rfl⟩ := h1
      refine WP_ireturn dX4_positionOrNone_12 rfl rfl (Nat.le_of_ble_eq_true rfl) (Nat.le_of_ble_eq_true rfl) ?_
      exact ⟨_, rfl, rfl, rfl⟩
    · cases hb
theorem lift_loop {Q : RS → SS → Prop} (a : Nat) (g : Nat → Option Nat) (hK : cK E L K AN R0) : ∀ (b j : Nat), 4 - j ≤ b → j ≤ 4 → Q (.inl none) (mkS L K AN R0 Rc Ic AIc (va_up AR (E 6) (lftF a 4 g)) Im AIm AL) →
    WP G mX4_liftFingersFrom Q 0 0 2 [(0, vr (some (E 0))), (1, vr (some a)), (2, vi (nI j))] [] (mkS L K AN R0 Rc Ic AIc (va_up AR (E 6) (lftF a j g)) Im AIm AL) := by
  obtain ⟨h0, ⟨-, -, -, -, -, e6, -⟩, -, -, ⟨k6, n6⟩, -⟩ := hK
  intro b
  induction b with
  | zero =>
    intro j hb hj hQ
    obtain rfl : j = 4 := by omega
    have h0 : isK (mkS L K AN R0 Rc Ic AIc (va_up AR (E 6) (lftF a 4 g)) Im AIm AL) 4 (E 0) := h0
    have k6 : isK (mkS L K AN R0 Rc Ic AIc (va_up AR (E 6) (lftF a 4 g)) Im AIm AL) 9 (E 6) := k6
    refine WP_iload_n dX4_liftFingersFrom_2 rfl ?_
    refine WP_aload_n dX4_liftFingersFrom_3 rfl ?_
    refine gf_RX4_34 dX4_liftFingersFrom_4 rfl rfl h0 ?_
    rw [e6]
    refine alen_9 4 dX4_liftFingersFrom_7 rfl k6 n6 ?_
    refine WP_icmp_ge 34 dX4_liftFingersFrom_8 (by decide) (fun h1 => ?_) (fun h1 => ?_)
    · refine WP_return dX4_liftFingersFrom_34 rfl (Nat.le_of_ble_eq_true rfl) (Nat.le_of_ble_eq_true rfl) ?_
      exact hQ
    · exact absurd (nI_le (Nat.le_refl 4) (by decide)) h1
  | succ b ih =>
    intro j hb hj hQ
    have h0 : isK (mkS L K AN R0 Rc Ic AIc (va_up AR (E 6) (lftF a j g)) Im AIm AL) 4 (E 0) := h0
    have k6 : isK (mkS L K AN R0 Rc Ic AIc (va_up AR (E 6) (lftF a j g)) Im AIm AL) 9 (E 6) := k6
    refine WP_iload_n dX4_liftFingersFrom_2 rfl ?_
    refine WP_aload_n dX4_liftFingersFrom_3 rfl ?_
    refine gf_RX4_34 dX4_liftFingersFrom_4 rfl rfl h0 ?_
    rw [e6]
    refine alen_9 4 dX4_liftFingersFrom_7 rfl k6 n6 ?_
    refine WP_icmp_ge 34 dX4_liftFingersFrom_8 (by decide) (fun h1 => ?_) (fun h1 => ?_)
    · obtain rfl : j = 4 := by
        have := (nI_leI (by decide) (by omega)).mp h1
        omega
      refine WP_return dX4_liftFingersFrom_34 rfl (Nat.le_of_ble_eq_true rfl) (Nat.le_of_ble_eq_true rfl) ?_
      exact hQ
    · have hj4 : j < 4 := by
        by_cases e : 4 ≤ j
        · exact absurd (nI_le e (by omega)) h1
        · omega
      have hlj : lftF a j g j = g j := by
        unfold lftF
        rw [if_neg (by omega)]
      refine WP_aload_n dX4_liftFingersFrom_11 rfl ?_
      refine gf_RX4_34 dX4_liftFingersFrom_12 rfl rfl h0 ?_
      rw [e6]
      refine WP_iload_n dX4_liftFingersFrom_15 rfl ?_
      refine ald_9 j 4 dX4_liftFingersFrom_16 rfl k6 n6 rfl hj4 (by decide) ?_
      refine WP_aload_n dX4_liftFingersFrom_17 rfl ?_
      rw [va_up_self, hlj]
      refine WP_acmp_ne 28 dX4_liftFingersFrom_18 (by decide) (fun h2 => ?_) (fun h2 => ?_)
      · have e : lftF a (j + 1) g = lftF a j g := by
          funext q
          unfold lftF
          by_cases hq : q < j ∧ g q = some a
          · rw [if_pos hq, if_pos ⟨by omega, hq.2⟩]
          · rw [if_neg hq, if_neg]
            rintro ⟨q1, q2⟩
            have : ¬ q < j := fun q3 => hq ⟨q3, q2⟩
            obtain rfl : q = j := by omega
            exact h2 q2
        refine WP_iinc (nI (j + 1)) dX4_liftFingersFrom_28 rfl (nI_1 _) (by decide) rfl ?_
        refine WP_goto 2 dX4_liftFingersFrom_31 (by decide) ?_
        refine WP_lv [(0, vr (some (E 0))), (1, vr (some a)), (2, vi (nI (j + 1)))] (List.forall_mem_cons.mpr ⟨rfl, List.forall_mem_cons.mpr ⟨rfl, List.forall_mem_cons.mpr ⟨rfl, fun _ h9 => absurd h9 List.not_mem_nil⟩⟩⟩) ?_
        rw [← e]
        exact ih (j + 1) (by omega) (by omega) hQ
      · have e : va_up (lftF a j g) j none = lftF a (j + 1) g := by
          funext q
          by_cases hq : q = j
          · rw [hq, va_up_self]
            unfold lftF
            rw [if_pos ⟨by omega, h2⟩]
          · rw [va_up_ne _ _ hq]
            unfold lftF
            by_cases hq2 : q < j ∧ g q = some a
            · rw [if_pos hq2, if_pos ⟨by omega, hq2.2⟩]
            · rw [if_neg hq2, if_neg]
              rintro ⟨q1, q2⟩
              exact hq2 ⟨by omega, q2⟩
        refine WP_aload_n dX4_liftFingersFrom_21 rfl ?_
        refine gf_RX4_34 dX4_liftFingersFrom_22 rfl rfl h0 ?_
        rw [e6]
        refine WP_iload_n dX4_liftFingersFrom_25 rfl ?_
        refine WP_null dX4_liftFingersFrom_26 ?_
        refine ast_9 j 4 dX4_liftFingersFrom_27 rfl k6 n6 rfl hj4 (by decide) (fun _ h => by cases h) ?_
        rw [va_up_self, e, up_up]
        refine WP_iinc (nI (j + 1)) dX4_liftFingersFrom_28 rfl (nI_1 _) (by decide) rfl ?_
        refine WP_goto 2 dX4_liftFingersFrom_31 (by decide) ?_
        refine WP_lv [(0, vr (some (E 0))), (1, vr (some a)), (2, vi (nI (j + 1)))] (List.forall_mem_cons.mpr ⟨rfl, List.forall_mem_cons.mpr ⟨rfl, List.forall_mem_cons.mpr ⟨rfl, fun _ h9 => absurd h9 List.not_mem_nil⟩⟩⟩) ?_
        exact ih (j + 1) (by omega) (by omega) hQ
theorem c_lift (a : Nat) (hK : cK E L K AN R0) :
    MT G mX4_liftFingersFrom [vr (some (E 0)), vr (some a)] (mkS L K AN R0 Rc Ic AIc AR Im AIm AL) (rV (fun S' => S' = mkS L K AN R0 Rc Ic AIc (va_up AR (E 6) (lftF a 4 (AR (E 6)))) Im AIm AL)) := by
  refine MT_of (by decide) rfl (Nat.le_of_ble_eq_true rfl) ?_
  refine WP_iconst (0) dX4_liftFingersFrom_0 (by decide) ?_
  refine WP_istore_n dX4_liftFingersFrom_1 (by decide) rfl ?_
  refine WP_lv [(0, vr (some (E 0))), (1, vr (some a)), (2, vi (nI 0))] (List.forall_mem_cons.mpr ⟨rfl, List.forall_mem_cons.mpr ⟨rfl, List.forall_mem_cons.mpr ⟨rfl, fun _ h9 => absurd h9 List.not_mem_nil⟩⟩⟩) ?_
  have e : AR = va_up AR (E 6) (lftF a 0 (AR (E 6))) := by
    rw [show lftF a 0 (AR (E 6)) = AR (E 6) from funext fun q => if_neg (fun h => Nat.not_lt_zero _ h.1), up_id]
  have key := lift_loop (G := G) (Rc := Rc) (Ic := Ic) (AIc := AIc) (Im := Im) (AIm := AIm) (AL := AL) (AR := AR) (Q := rV (fun S' => S' = mkS L K AN R0 Rc Ic AIc (va_up AR (E 6) (lftF a 4 (AR (E 6)))) Im AIm AL)) a (AR (E 6)) hK 4 0 (by omega) (by omega) ⟨rfl, rfl⟩
  rw [← e] at key
  exact key
theorem w_takeRange (f u : Nat) (hK : cK E L K AN R0) (hW : cW E L K Rc Ic (t, c, .leaf, .leaf) n) (hs : tsz t ≤ 60) (hfu : f ≤ u) (hu : u ≤ tsz t) :
    MT G mX4_takeRange [vr (some (E 0)), vi (nI f), vi (nI u)] (mkS L K AN R0 Rc Ic AIc AR Im AIm AL) (rV (pW E L K AN R0 AIc AR Im AIm AL (Ic 2) ((rgT t f u).1, c, (rgT t f u).2.1, (rgT t f u).2.2) (rgN n t f u))) := by
  have h0 : isK (mkS L K AN R0 Rc Ic AIc AR Im AIm AL) 4 (E 0) := hK.1
  have k5 : isK (mkS L K AN R0 Rc Ic AIc AR Im AIm AL) 2 (E 5) := hK.2.2.2.1
  obtain ⟨e1, e2, e3, e4, e5, e6, e7, e8⟩ := hK.2.1
  refine MT_of (by decide) rfl (Nat.le_of_ble_eq_true rfl) ?_
  refine WP_iload_n dX4_takeRange_0 rfl ?_
  refine WP_iload_n dX4_takeRange_1 rfl ?_
  refine WP_icmp_ge 37 dX4_takeRange_2 (by decide) (fun hb => ?_) (fun hb => ?_)
  · have hfu' : ¬ f < u := by
      have := (nI_leI (by omega) (by omega)).mp hb
      omega
    refine WP_return dX4_takeRange_37 rfl (Nat.le_of_ble_eq_true rfl) (Nat.le_of_ble_eq_true rfl) ?_
    unfold rgT rgN
    rw [if_neg hfu', if_neg hfu']
    exact ⟨rfl, _, _, rfl, hW, rfl⟩
  · have hfu' : f < u := by
      by_cases e : u ≤ f
      · exact absurd (nI_le e (by omega)) hb
      · omega
    refine WP_aload_n dX4_takeRange_5 rfl ?_
    refine gf_RX4_28 dX4_takeRange_6 rfl rfl h0 ?_
    refine WP_aload_n dX4_takeRange_9 rfl ?_
    refine gf_RX4_10 dX4_takeRange_10 rfl rfl h0 ?_
    refine WP_iload_n dX4_takeRange_13 rfl ?_
    refine WP_aload_n dX4_takeRange_14 rfl ?_
    refine gf_RX4_22 dX4_takeRange_15 rfl rfl h0 ?_
    rw [e5, e1, e4]
    refine callVv mX2_split [_, _, _] dX4_takeRange_18 okc_X2_split ok_342 ⟨by decide, by decide⟩ rfl rfl k5 rfl (Nat.le_of_ble_eq_true rfl) (Nat.le_of_ble_eq_true rfl) (Nat.le_of_ble_eq_true rfl) (w_split4 hK hW hs (by omega)) (fun S1 h1 => ?_)
    obtain ⟨R1, I1, rfl, W1, i1⟩ := h1
    have h0 : isK (mkS L K AN R0 R1 I1 AIc AR Im AIm AL) 4 (E 0) := hK.1
    have k5 : isK (mkS L K AN R0 R1 I1 AIc AR Im AIm AL) 2 (E 5) := hK.2.2.2.1
    refine WP_aload_n dX4_takeRange_21 rfl ?_
    refine gf_RX4_28 dX4_takeRange_22 rfl rfl h0 ?_
    refine WP_aload_n dX4_takeRange_25 rfl ?_
    refine gf_RX4_10 dX4_takeRange_26 rfl rfl h0 ?_
    refine WP_iload_n dX4_takeRange_29 rfl ?_
    refine WP_aload_n dX4_takeRange_30 rfl ?_
    refine gf_RX4_19 dX4_takeRange_31 rfl rfl h0 ?_
    rw [e5, e1, e3]
    have hs1 : tsz (splT t u).1 ≤ 60 := by
      rw [tsz_spl1]
      omega
    refine callVv mX2_split [_, _, _] dX4_takeRange_34 okc_X2_split ok_342 ⟨by decide, by decide⟩ rfl rfl k5 rfl (Nat.le_of_ble_eq_true rfl) (Nat.le_of_ble_eq_true rfl) (Nat.le_of_ble_eq_true rfl) (w_split3 hK W1 hs1 (by omega)) (fun S1 h1 => ?_)
    obtain ⟨R2, I2, rfl, W2, i2⟩ := h1
    refine WP_return dX4_takeRange_37 rfl (Nat.le_of_ble_eq_true rfl) (Nat.le_of_ble_eq_true rfl) ?_
    unfold rgT rgN
    rw [if_pos hfu', if_pos hfu']
    exact ⟨rfl, _, _, rfl, W2, i2.trans i1⟩
theorem w_putBack (hK : cK E L K AN R0) (hW : cW E L K Rc Ic (t, c, m, r) n) (hs : tsz t + tsz m ≤ 60) :
    MT G mX4_putRangeBack [vr (some (E 0))] (mkS L K AN R0 Rc Ic AIc AR Im AIm AL) (rV (pW E L K AN R0 AIc AR Im AIm AL (Ic 2) (jn3 (t, m, r), c, .leaf, .leaf) (jn3N n (t, m, r)))) := by
  have h0 : isK (mkS L K AN R0 Rc Ic AIc AR Im AIm AL) 4 (E 0) := hK.1
  have k5 : isK (mkS L K AN R0 Rc Ic AIc AR Im AIm AL) 2 (E 5) := hK.2.2.2.1
  obtain ⟨e1, e2, e3, e4, e5, e6, e7, e8⟩ := hK.2.1
  refine MT_of (by decide) rfl (Nat.le_of_ble_eq_true rfl) ?_
  refine WP_aload_n dX4_putRangeBack_0 rfl ?_
  refine gf_RX4_28 dX4_putRangeBack_1 rfl rfl h0 ?_
  refine WP_aload_n dX4_putRangeBack_4 rfl ?_
  refine gf_RX4_10 dX4_putRangeBack_5 rfl rfl h0 ?_
  refine WP_aload_n dX4_putRangeBack_8 rfl ?_
  refine gf_RX4_19 dX4_putRangeBack_9 rfl rfl h0 ?_
  rw [e5, e1, e3]
  refine callVv mX2_join [_, _] dX4_putRangeBack_12 okc_X2_join ok_260 ⟨by decide, by decide⟩ rfl rfl k5 rfl (Nat.le_of_ble_eq_true rfl) (Nat.le_of_ble_eq_true rfl) (Nat.le_of_ble_eq_true rfl) (w_join3 hK hW (by omega)) (fun S1 h1 => ?_)
  obtain ⟨R1, I1, rfl, W1, i1⟩ := h1
  have h0 : isK (mkS L K AN R0 R1 I1 AIc AR Im AIm AL) 4 (E 0) := hK.1
  have k5 : isK (mkS L K AN R0 R1 I1 AIc AR Im AIm AL) 2 (E 5) := hK.2.2.2.1
  refine WP_aload_n dX4_putRangeBack_15 rfl ?_
  refine gf_RX4_28 dX4_putRangeBack_16 rfl rfl h0 ?_
  refine WP_aload_n dX4_putRangeBack_19 rfl ?_
  refine gf_RX4_10 dX4_putRangeBack_20 rfl rfl h0 ?_
  refine WP_aload_n dX4_putRangeBack_23 rfl ?_
  refine gf_RX4_22 dX4_putRangeBack_24 rfl rfl h0 ?_
  rw [e5, e1, e4]
  refine callVv mX2_join [_, _] dX4_putRangeBack_27 okc_X2_join ok_260 ⟨by decide, by decide⟩ rfl rfl k5 rfl (Nat.le_of_ble_eq_true rfl) (Nat.le_of_ble_eq_true rfl) (Nat.le_of_ble_eq_true rfl) (w_join4 hK W1 (by rw [tsz_join]; exact hs)) (fun S1 h1 => ?_)
  obtain ⟨R2, I2, rfl, W2, i2⟩ := h1
  refine WP_return dX4_putRangeBack_30 rfl (Nat.le_of_ble_eq_true rfl) (Nat.le_of_ble_eq_true rfl) ?_
  exact ⟨rfl, _, _, rfl, W2, i2.trans i1⟩
end HL2
