/-! ===== SplaySequence$Node ===== -/
section NODE
variable {G : GC} {L : List Nat} {K AN : Nat → Nat} {R0 Rc : Nat → Nat → Option Nat} {Ic AIc Im AIm : Nat → Nat → Int32} {AR : Nat → Nat → Option Nat} {AL : Nat → Nat → Int64}
abbrev mkS (L : List Nat) (K AN : Nat → Nat) (R0 Rc : Nat → Nat → Option Nat) (Ic AIc : Nat → Nat → Int32) (AR : Nat → Nat → Option Nat) (Im AIm : Nat → Nat → Int32) (AL : Nat → Nat → Int64) : SS := ((L, K, AN, R0), (Rc, Ic, AIc, AR), (Im, AIm), AL)
def cntO (f : Nat → Int32) (o : Option Nat) : Int32 := match o with
  | none => 0
  | some a => f a
theorem c_countOf (o : Option Nat) (hk : ∀ a, o = some a → isK (mkS L K AN R0 Rc Ic AIc AR Im AIm AL) 0 a) : MT G mX0_countOf [vr o] (mkS L K AN R0 Rc Ic AIc AR Im AIm AL) (rI (fun x S' => x = cntO (Ic 0) o ∧ S' = mkS L K AN R0 Rc Ic AIc AR Im AIm AL)) := by
  refine MT_of (by decide) rfl (Nat.le_of_ble_eq_true rfl) ?_
  refine WP_aload_n dX0_countOf_0 rfl ?_
  refine WP_ifnonnull 8 dX0_countOf_1 (by decide) (fun a h => ?_) (fun h => ?_)
  · have hk0 := hk a h
    refine WP_aload_n dX0_countOf_8 rfl ?_
    refine gf_RX0_7 dX0_countOf_9 rfl h hk0 ?_
    refine WP_ireturn dX0_countOf_12 rfl rfl (Nat.le_of_ble_eq_true rfl) (Nat.le_of_ble_eq_true rfl) ?_
    exact ⟨_, rfl, by rw [h]; rfl, rfl⟩
  · refine WP_iconst (0) dX0_countOf_4 (by decide) ?_
    refine WP_goto 12 dX0_countOf_5 (by decide) ?_
    refine WP_ireturn dX0_countOf_12 rfl rfl (Nat.le_of_ble_eq_true rfl) (Nat.le_of_ble_eq_true rfl) ?_
    exact ⟨_, rfl, by rw [h]; rfl, rfl⟩
theorem c_isLeftChild (a : Nat) (hk : isK (mkS L K AN R0 Rc Ic AIc AR Im AIm AL) 0 a) (hp : ∀ p, Rc 2 a = some p → isK (mkS L K AN R0 Rc Ic AIc AR Im AIm AL) 0 p) : MT G mX0_isLeftChild [vr (some a)] (mkS L K AN R0 Rc Ic AIc AR Im AIm AL) (rI (fun x S' => x = (match Rc 2 a with | none => 0 | some p => if Rc 0 p = some a then 1 else 0) ∧ S' = mkS L K AN R0 Rc Ic AIc AR Im AIm AL)) := by
  refine MT_of (by decide) rfl (Nat.le_of_ble_eq_true rfl) ?_
  refine WP_aload_n dX0_isLeftChild_0 rfl ?_
  refine gf_RX0_16 dX0_isLeftChild_1 rfl rfl (by assumption) ?_
  refine WP_ifnull 22 dX0_isLeftChild_4 (by decide) (fun h => ?_) (fun p h => ?_)
  · refine WP_iconst (0) dX0_isLeftChild_22 (by decide) ?_
    refine WP_ireturn dX0_isLeftChild_23 rfl rfl (Nat.le_of_ble_eq_true rfl) (Nat.le_of_ble_eq_true rfl) ?_
    exact ⟨_, rfl, by rw [h], rfl⟩
  · have hk1 := hp p h
    refine WP_aload_n dX0_isLeftChild_7 rfl ?_
    refine gf_RX0_16 dX0_isLeftChild_8 rfl rfl (by assumption) ?_
    refine gf_RX0_20 dX0_isLeftChild_11 rfl h hk1 ?_
    refine WP_aload_n dX0_isLeftChild_14 rfl ?_
    refine WP_acmp_ne 22 dX0_isLeftChild_15 (by decide) (fun h2 => ?_) (fun h2 => ?_)
    · refine WP_iconst (0) dX0_isLeftChild_22 (by decide) ?_
      refine WP_ireturn dX0_isLeftChild_23 rfl rfl (Nat.le_of_ble_eq_true rfl) (Nat.le_of_ble_eq_true rfl) ?_
      refine ⟨_, rfl, ?_, rfl⟩
      rw [h]
      exact (if_neg h2).symm
    · refine WP_iconst (1) dX0_isLeftChild_18 (by decide) ?_
      refine WP_goto 23 dX0_isLeftChild_19 (by decide) ?_
      refine WP_ireturn dX0_isLeftChild_23 rfl rfl (Nat.le_of_ble_eq_true rfl) (Nat.le_of_ble_eq_true rfl) ?_
      refine ⟨_, rfl, ?_, rfl⟩
      rw [h]
      exact (if_pos h2).symm
/-- the links behind takeLeft (j = 0), takeRight (j = 1) -/
def tkR (j : Nat) (Rc : Nat → Nat → Option Nat) (a : Nat) (o : Option Nat) : Nat → Nat → Option Nat := match o with
  | none => u2 Rc j a none
  | some b => u2 (u2 Rc j a (some b)) 2 b (some a)
theorem tkR_nf (j f : Nat) (Rc : Nat → Nat → Option Nat) (a b : Nat) (o : Option Nat) (h1 : f ≠ j) (h2 : f ≠ 2) : tkR j Rc a o f b = Rc f b := by
  cases o <;> simp [tkR, u2, h1, h2]
theorem c_takeLeft (a : Nat) (o : Option Nat) (hk : isK (mkS L K AN R0 Rc Ic AIc AR Im AIm AL) 0 a) (ho : ∀ b, o = some b → isK (mkS L K AN R0 Rc Ic AIc AR Im AIm AL) 0 b) (hr : ∀ b, Rc 1 a = some b → isK (mkS L K AN R0 Rc Ic AIc AR Im AIm AL) 0 b) :
    MT G mX0_takeLeft [vr (some a), vr o] (mkS L K AN R0 Rc Ic AIc AR Im AIm AL) (rV (fun S' => S' = mkS L K AN R0 (tkR 0 Rc a o) (u2 Ic 0 a (1 + cntO (Ic 0) o + cntO (Ic 0) (Rc 1 a))) AIc AR Im AIm AL)) := by
  refine MT_of (by decide) rfl (Nat.le_of_ble_eq_true rfl) ?_
  refine WP_aload_n dX0_takeLeft_0 rfl ?_
  refine WP_aload_n dX0_takeLeft_1 rfl ?_
  refine pf_RX0_20 dX0_takeLeft_2 rfl rfl (by assumption) ?_
  refine WP_aload_n dX0_takeLeft_5 rfl ?_
  refine WP_ifnull 14 dX0_takeLeft_6 (by decide) (fun h => ?_) (fun b h => ?_)
  · subst h
    refine WP_aload_n dX0_takeLeft_14 rfl ?_
    refine WP_iconst (1) dX0_takeLeft_15 (by decide) ?_
    refine WP_aload_n dX0_takeLeft_16 rfl ?_
    refine gf_RX0_20 dX0_takeLeft_17 rfl rfl (by assumption) ?_
    simp (config := { decide := true }) only [u2_eq, u2_nf]
    refine callSi mX0_countOf [_] dX0_takeLeft_20 okc_X0_countOf ok_245 ⟨by decide, by decide⟩ rfl rfl (Nat.le_of_ble_eq_true rfl) (Nat.le_of_ble_eq_true rfl) (Nat.le_of_ble_eq_true rfl) (c_countOf none (fun b h => ho b h)) rfl (fun x1 S1 h1 => ?_)
    obtain ⟨rfl, rfl⟩ := h1
    refine WP_iadd dX0_takeLeft_23 ?_
    refine WP_aload_n dX0_takeLeft_24 rfl ?_
    refine gf_RX0_27 dX0_takeLeft_25 rfl rfl (by assumption) ?_
    simp (config := { decide := true }) only [u2_eq, u2_nf]
    refine callSi mX0_countOf [_] dX0_takeLeft_28 okc_X0_countOf ok_245 ⟨by decide, by decide⟩ rfl rfl (Nat.le_of_ble_eq_true rfl) (Nat.le_of_ble_eq_true rfl) (Nat.le_of_ble_eq_true rfl) (c_countOf (Rc 1 a) (fun b h => hr b h)) rfl (fun x1 S1 h1 => ?_)
    obtain ⟨rfl, rfl⟩ := h1
    refine WP_iadd dX0_takeLeft_31 ?_
    refine pf_RX0_7 dX0_takeLeft_32 rfl rfl (by assumption) ?_
    refine WP_return dX0_takeLeft_35 rfl (Nat.le_of_ble_eq_true rfl) (Nat.le_of_ble_eq_true rfl) ?_
    exact ⟨rfl, rfl⟩
  · subst h
    have hb := ho b rfl
    refine WP_aload_n dX0_takeLeft_9 rfl ?_
    refine WP_aload_n dX0_takeLeft_10 rfl ?_
    refine pf_RX0_16 dX0_takeLeft_11 rfl rfl (by assumption) ?_
    refine WP_aload_n dX0_takeLeft_14 rfl ?_
    refine WP_iconst (1) dX0_takeLeft_15 (by decide) ?_
    refine WP_aload_n dX0_takeLeft_16 rfl ?_
    refine gf_RX0_20 dX0_takeLeft_17 rfl rfl (by assumption) ?_
    simp (config := { decide := true }) only [u2_eq, u2_nf]
    refine callSi mX0_countOf [_] dX0_takeLeft_20 okc_X0_countOf ok_245 ⟨by decide, by decide⟩ rfl rfl (Nat.le_of_ble_eq_true rfl) (Nat.le_of_ble_eq_true rfl) (Nat.le_of_ble_eq_true rfl) (c_countOf (some b) (fun b h => ho b h)) rfl (fun x1 S1 h1 => ?_)
    obtain ⟨rfl, rfl⟩ := h1
    refine WP_iadd dX0_takeLeft_23 ?_
    refine WP_aload_n dX0_takeLeft_24 rfl ?_
    refine gf_RX0_27 dX0_takeLeft_25 rfl rfl (by assumption) ?_
    simp (config := { decide := true }) only [u2_eq, u2_nf]
    refine callSi mX0_countOf [_] dX0_takeLeft_28 okc_X0_countOf ok_245 ⟨by decide, by decide⟩ rfl rfl (Nat.le_of_ble_eq_true rfl) (Nat.le_of_ble_eq_true rfl) (Nat.le_of_ble_eq_true rfl) (c_countOf (Rc 1 a) (fun b h => hr b h)) rfl (fun x1 S1 h1 => ?_)
    obtain ⟨rfl, rfl⟩ := h1
    refine WP_iadd dX0_takeLeft_31 ?_
    refine pf_RX0_7 dX0_takeLeft_32 rfl rfl (by assumption) ?_
    refine WP_return dX0_takeLeft_35 rfl (Nat.le_of_ble_eq_true rfl) (Nat.le_of_ble_eq_true rfl) ?_
    exact ⟨rfl, rfl⟩
theorem c_takeRight (a : Nat) (o : Option Nat) (hk : isK (mkS L K AN R0 Rc Ic AIc AR Im AIm AL) 0 a) (ho : ∀ b, o = some b → isK (mkS L K AN R0 Rc Ic AIc AR Im AIm AL) 0 b) (hr : ∀ b, Rc 0 a = some b → isK (mkS L K AN R0 Rc Ic AIc AR Im AIm AL) 0 b) :
    MT G mX0_takeRight [vr (some a), vr o] (mkS L K AN R0 Rc Ic AIc AR Im AIm AL) (rV (fun S' => S' = mkS L K AN R0 (tkR 1 Rc a o) (u2 Ic 0 a (1 + cntO (Ic 0) (Rc 0 a) + cntO (Ic 0) o)) AIc AR Im AIm AL)) := by
  refine MT_of (by decide) rfl (Nat.le_of_ble_eq_true rfl) ?_
  refine WP_aload_n dX0_takeRight_0 rfl ?_
  refine WP_aload_n dX0_takeRight_1 rfl ?_
  refine pf_RX0_27 dX0_takeRight_2 rfl rfl (by assumption) ?_
  refine WP_aload_n dX0_takeRight_5 rfl ?_
  refine WP_ifnull 14 dX0_takeRight_6 (by decide) (fun h => ?_) (fun b h => ?_)
  · subst h
    refine WP_aload_n dX0_takeRight_14 rfl ?_
    refine WP_iconst (1) dX0_takeRight_15 (by decide) ?_
    refine WP_aload_n dX0_takeRight_16 rfl ?_
    refine gf_RX0_20 dX0_takeRight_17 rfl rfl (by assumption) ?_
    simp (config := { decide := true }) only [u2_eq, u2_nf]
    refine callSi mX0_countOf [_] dX0_takeRight_20 okc_X0_countOf ok_245 ⟨by decide, by decide⟩ rfl rfl (Nat.le_of_ble_eq_true rfl) (Nat.le_of_ble_eq_true rfl) (Nat.le_of_ble_eq_true rfl) (c_countOf (Rc 0 a) (fun b h => hr b h)) rfl (fun x1 S1 h1 => ?_)
    obtain ⟨rfl, rfl⟩ := h1
    refine WP_iadd dX0_takeRight_23 ?_
    refine WP_aload_n dX0_takeRight_24 rfl ?_
    refine gf_RX0_27 dX0_takeRight_25 rfl rfl (by assumption) ?_
    simp (config := { decide := true }) only [u2_eq, u2_nf]
    refine callSi mX0_countOf [_] dX0_takeRight_28 okc_X0_countOf ok_245 ⟨by decide, by decide⟩ rfl rfl (Nat.le_of_ble_eq_true rfl) (Nat.le_of_ble_eq_true rfl) (Nat.le_of_ble_eq_true rfl) (c_countOf none (fun b h => ho b h)) rfl (fun x1 S1 h1 => ?_)
    obtain ⟨rfl, rfl⟩ := h1
    refine WP_iadd dX0_takeRight_31 ?_
    refine pf_RX0_7 dX0_takeRight_32 rfl rfl (by assumption) ?_
    refine WP_return dX0_takeRight_35 rfl (Nat.le_of_ble_eq_true rfl) (Nat.le_of_ble_eq_true rfl) ?_
    exact ⟨rfl, rfl⟩
  · subst h
    have hb := ho b rfl
    refine WP_aload_n dX0_takeRight_9 rfl ?_
    refine WP_aload_n dX0_takeRight_10 rfl ?_
    refine pf_RX0_16 dX0_takeRight_11 rfl rfl (by assumption) ?_
    refine WP_aload_n dX0_takeRight_14 rfl ?_
    refine WP_iconst (1) dX0_takeRight_15 (by decide) ?_
    refine WP_aload_n dX0_takeRight_16 rfl ?_
    refine gf_RX0_20 dX0_takeRight_17 rfl rfl (by assumption) ?_
    simp (config := { decide := true }) only [u2_eq, u2_nf]
    refine callSi mX0_countOf [_] dX0_takeRight_20 okc_X0_countOf ok_245 ⟨by decide, by decide⟩ rfl rfl (Nat.le_of_ble_eq_true rfl) (Nat.le_of_ble_eq_true rfl) (Nat.le_of_ble_eq_true rfl) (c_countOf (Rc 0 a) (fun b h => hr b h)) rfl (fun x1 S1 h1 => ?_)
    obtain ⟨rfl, rfl⟩ := h1
    refine WP_iadd dX0_takeRight_23 ?_
    refine WP_aload_n dX0_takeRight_24 rfl ?_
    refine gf_RX0_27 dX0_takeRight_25 rfl rfl (by assumption) ?_
    simp (config := { decide := true }) only [u2_eq, u2_nf]
    refine callSi mX0_countOf [_] dX0_takeRight_28 okc_X0_countOf ok_245 ⟨by decide, by decide⟩ rfl rfl (Nat.le_of_ble_eq_true rfl) (Nat.le_of_ble_eq_true rfl) (Nat.le_of_ble_eq_true rfl) (c_countOf (some b) (fun b h => ho b h)) rfl (fun x1 S1 h1 => ?_)
    obtain ⟨rfl, rfl⟩ := h1
    refine WP_iadd dX0_takeRight_31 ?_
    refine pf_RX0_7 dX0_takeRight_32 rfl rfl (by assumption) ?_
    refine WP_return dX0_takeRight_35 rfl (Nat.le_of_ble_eq_true rfl) (Nat.le_of_ble_eq_true rfl) ?_
    exact ⟨rfl, rfl⟩
/-- the links behind dropLeft (j = 0), dropRight (j = 1) -/
def drR (j : Nat) (Rc : Nat → Nat → Option Nat) (a : Nat) : Nat → Nat → Option Nat := match Rc j a with
  | none => u2 Rc j a none
  | some b => u2 (u2 Rc 2 b none) j a none
theorem c_dropLeft (a : Nat) (hk : isK (mkS L K AN R0 Rc Ic AIc AR Im AIm AL) 0 a) (ho : ∀ b, Rc 0 a = some b → isK (mkS L K AN R0 Rc Ic AIc AR Im AIm AL) 0 b) (hr : ∀ b, Rc 1 a = some b → isK (mkS L K AN R0 Rc Ic AIc AR Im AIm AL) 0 b) :
    MT G mX0_dropLeft [vr (some a)] (mkS L K AN R0 Rc Ic AIc AR Im AIm AL) (rR (fun x S' => x = Rc 0 a ∧ S' = mkS L K AN R0 (drR 0 Rc a) (u2 Ic 0 a (1 + 0 + cntO (Ic 0) (Rc 1 a))) AIc AR Im AIm AL)) := by
  refine MT_of (by decide) rfl (Nat.le_of_ble_eq_true rfl) ?_
  refine WP_aload_n dX0_dropLeft_0 rfl ?_
  refine gf_RX0_20 dX0_dropLeft_1 rfl rfl (by assumption) ?_
  refine WP_astore_n dX0_dropLeft_4 (by decide) rfl ?_
  refine WP_aload_n dX0_dropLeft_5 rfl ?_
  refine WP_ifnull 14 dX0_dropLeft_6 (by decide) (fun h => ?_) (fun b h => ?_)
  · refine WP_aload_n dX0_dropLeft_14 rfl ?_
    refine WP_null dX0_dropLeft_15 ?_
    refine callVv mX0_takeLeft [_] dX0_dropLeft_16 okc_X0_takeLeft ok_254 ⟨by decide, by decide⟩ rfl rfl (by assumption) rfl (Nat.le_of_ble_eq_true rfl) (Nat.le_of_ble_eq_true rfl) (Nat.le_of_ble_eq_true rfl) (c_takeLeft a none hk (fun b h => by cases h) hr) (fun S1 h1 => ?_)
    subst h1
    refine WP_aload_n dX0_dropLeft_19 rfl ?_
    refine WP_areturn dX0_dropLeft_20 rfl (Nat.le_of_ble_eq_true rfl) (Nat.le_of_ble_eq_true rfl) ?_
    exact ⟨_, rfl, rfl, by simp only [drR, h]; rfl⟩
  · have hb := ho b h
    refine WP_aload_n dX0_dropLeft_9 rfl ?_
    refine WP_null dX0_dropLeft_10 ?_
    refine pf_RX0_16 dX0_dropLeft_11 rfl h hb ?_
    refine WP_aload_n dX0_dropLeft_14 rfl ?_
    refine WP_null dX0_dropLeft_15 ?_
    refine callVv mX0_takeLeft [_] dX0_dropLeft_16 okc_X0_takeLeft ok_254 ⟨by decide, by decide⟩ rfl rfl (by assumption) rfl (Nat.le_of_ble_eq_true rfl) (Nat.le_of_ble_eq_true rfl) (Nat.le_of_ble_eq_true rfl) (c_takeLeft a none hk (fun b h => by cases h) (fun b h => hr b (by simpa [u2] using h))) (fun S1 h1 => ?_)
    subst h1
    refine WP_aload_n dX0_dropLeft_19 rfl ?_
    refine WP_areturn dX0_dropLeft_20 rfl (Nat.le_of_ble_eq_true rfl) (Nat.le_of_ble_eq_true rfl) ?_
    refine ⟨_, rfl, rfl, ?_⟩
    simp (config := { decide := true }) only [u2_eq, u2_nf]
    simp only [drR, h]
    rfl
theorem c_dropRight (a : Nat) (hk : isK (mkS L K AN R0 Rc Ic AIc AR Im AIm AL) 0 a) (ho : ∀ b, Rc 1 a = some b → isK (mkS L K AN R0 Rc Ic AIc AR Im AIm AL) 0 b) (hr : ∀ b, Rc 0 a = some b → isK (mkS L K AN R0 Rc Ic AIc AR Im AIm AL) 0 b) :
    MT G mX0_dropRight [vr (some a)] (mkS L K AN R0 Rc Ic AIc AR Im AIm AL) (rR (fun x S' => x = Rc 1 a ∧ S' = mkS L K AN R0 (drR 1 Rc a) (u2 Ic 0 a (1 + cntO (Ic 0) (Rc 0 a) + 0)) AIc AR Im AIm AL)) := by
  refine MT_of (by decide) rfl (Nat.le_of_ble_eq_true rfl) ?_
  refine WP_aload_n dX0_dropRight_0 rfl ?_
  refine gf_RX0_27 dX0_dropRight_1 rfl rfl (by assumption) ?_
  refine WP_astore_n dX0_dropRight_4 (by decide) rfl ?_
  refine WP_aload_n dX0_dropRight_5 rfl ?_
  refine WP_ifnull 14 dX0_dropRight_6 (by decide) (fun h => ?_) (fun b h => ?_)
  · refine WP_aload_n dX0_dropRight_14 rfl ?_
    refine WP_null dX0_dropRight_15 ?_
    refine callVv mX0_takeRight [_] dX0_dropRight_16 okc_X0_takeRight ok_259 ⟨by decide, by decide⟩ rfl rfl (by assumption) rfl (Nat.le_of_ble_eq_true rfl) (Nat.le_of_ble_eq_true rfl) (Nat.le_of_ble_eq_true rfl) (c_takeRight a none hk (fun b h => by cases h) hr) (fun S1 h1 => ?_)
    subst h1
    refine WP_aload_n dX0_dropRight_19 rfl ?_
    refine WP_areturn dX0_dropRight_20 rfl (Nat.le_of_ble_eq_true rfl) (Nat.le_of_ble_eq_true rfl) ?_
    exact ⟨_, rfl, rfl, by simp only [drR, h]; rfl⟩
  · have hb := ho b h
    refine WP_aload_n dX0_dropRight_9 rfl ?_
    refine WP_null dX0_dropRight_10 ?_
    refine pf_RX0_16 dX0_dropRight_11 rfl h hb ?_
    refine WP_aload_n dX0_dropRight_14 rfl ?_
    refine WP_null dX0_dropRight_15 ?_
    refine callVv mX0_takeRight [_] dX0_dropRight_16 okc_X0_takeRight ok_259 ⟨by decide, by decide⟩ rfl rfl (by assumption) rfl (Nat.le_of_ble_eq_true rfl) (Nat.le_of_ble_eq_true rfl) (Nat.le_of_ble_eq_true rfl) (c_takeRight a none hk (fun b h => by cases h) (fun b h => hr b (by simpa [u2] using h))) (fun S1 h1 => ?_)
    subst h1
    refine WP_aload_n dX0_dropRight_19 rfl ?_
    refine WP_areturn dX0_dropRight_20 rfl (Nat.le_of_ble_eq_true rfl) (Nat.le_of_ble_eq_true rfl) ?_
    refine ⟨_, rfl, rfl, ?_⟩
    simp (config := { decide := true }) only [u2_eq, u2_nf]
    simp only [drR, h]
    rfl
theorem c_swapSides (a : Nat) (hk : isK (mkS L K AN R0 Rc Ic AIc AR Im AIm AL) 0 a) :
    MT G mX0_swapSides [vr (some a)] (mkS L K AN R0 Rc Ic AIc AR Im AIm AL) (rV (fun S' => S' = mkS L K AN R0 (u2 (u2 Rc 0 a (Rc 1 a)) 1 a (Rc 0 a)) Ic AIc AR Im AIm AL)) := by
  refine MT_of (by decide) rfl (Nat.le_of_ble_eq_true rfl) ?_
  refine WP_aload_n dX0_swapSides_0 rfl ?_
  refine gf_RX0_20 dX0_swapSides_1 rfl rfl (by assumption) ?_
  refine WP_astore_n dX0_swapSides_4 (by decide) rfl ?_
  refine WP_aload_n dX0_swapSides_5 rfl ?_
  refine WP_aload_n dX0_swapSides_6 rfl ?_
  refine gf_RX0_27 dX0_swapSides_7 rfl rfl (by assumption) ?_
  refine pf_RX0_20 dX0_swapSides_10 rfl rfl (by assumption) ?_
  refine WP_aload_n dX0_swapSides_13 rfl ?_
  refine WP_aload_n dX0_swapSides_14 rfl ?_
  refine pf_RX0_27 dX0_swapSides_15 rfl rfl (by assumption) ?_
  refine WP_return dX0_swapSides_18 rfl (Nat.le_of_ble_eq_true rfl) (Nat.le_of_ble_eq_true rfl) ?_
  exact ⟨rfl, rfl⟩
theorem c_NodeInit (a : Nat) (v : Int32) (hk : isK (mkS L K AN R0 Rc Ic AIc AR Im AIm AL) 0 a) :
    MT G mX0_init [vr (some a), vi v] (mkS L K AN R0 Rc Ic AIc AR Im AIm AL) (rV (fun S' => S' = mkS L K AN R0 Rc (u2 (u2 Ic 0 a 1) 1 a v) AIc AR Im AIm AL)) := by
  refine MT_of (by decide) rfl (Nat.le_of_ble_eq_true rfl) ?_
  refine WP_aload_n dX0_init_0 rfl ?_
  refine WP_obj dX0_init_1 ok_511 (by decide) (Nat.le_of_ble_eq_true rfl) ?_
  refine WP_aload_n dX0_init_4 rfl ?_
  refine WP_iconst (1) dX0_init_5 (by decide) ?_
  refine pf_RX0_7 dX0_init_6 rfl rfl (by assumption) ?_
  refine WP_aload_n dX0_init_9 rfl ?_
  refine WP_iload_n dX0_init_10 rfl ?_
  refine pf_RX0_13 dX0_init_11 rfl rfl (by assumption) ?_
  refine WP_return dX0_init_14 rfl (Nat.le_of_ble_eq_true rfl) (Nat.le_of_ble_eq_true rfl) ?_
  exact ⟨rfl, rfl⟩
end NODE
