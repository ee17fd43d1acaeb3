/-! ===== SplaySequence: what each call does ===== -/
def cI (E : Nat → Nat) (L : List Nat) (K AN : Nat → Nat) (R0 Rc : Nat → Nat → Option Nat) (Ic AIc : Nat → Nat → Int32) (AR : Nat → Nat → Option Nat) (A : AB) : Prop :=
  cK E L K AN R0 ∧ cW E L K Rc Ic (A.1, A.2.1, .leaf, .leaf) A.2.2.2 ∧ (Ic 2 (E 7) = nI (tsz A.1) ∧ Ic 2 (E 8) = nI (tsz A.2.1)) ∧ rowV (AIc (E 9)) (vls A.1) ∧ rowV (AIc (E 10)) (vls A.2.1) ∧ (∀ k, k < 4 → AR (E 6) k = (A.2.2.1 k).map (·.1)) ∧ AI A
def cJ (E : Nat → Nat) (L : List Nat) (K AN : Nat → Nat) (R0 : Nat → Nat → Option Nat) (Im AIm : Nat → Nat → Int32) (AL : Nat → Nat → Int64) : AB → SS → Prop := fun A' S' =>
  ∃ L' K' Rc' Ic' AIc' AR', S' = mkS L' K' AN R0 Rc' Ic' AIc' AR' Im AIm AL ∧ (∀ a ∈ L, a ∈ L' ∧ K' a = K a) ∧ cI E L' K' AN R0 Rc' Ic' AIc' AR' A'
def cR (exs : List String) (I : AB → SS → Prop) (z : Rz) : RS → SS → Prop := fun r S' => I z.2.2 S' ∧ ((z.1 = 0 ∧ r = .inl (some (vi z.2.1))) ∨ ∃ ex, exs[z.1 - 1]? = some ex ∧ z.1 ≠ 0 ∧ r = .inr ex)
section CLS
variable {G : GC} {L : List Nat} {K AN : Nat → Nat} {R0 Rc : Nat → Nat → Option Nat} {Ic AIc Im AIm : Nat → Nat → Int32} {AR : Nat → Nat → Option Nat} {AL : Nat → Nat → Int64} {E : Nat → Nat} {t c : Tr} {fg : Nat → Option (Nat × Nat)} {n : Cn}
theorem cJ_id {A : AB} (hI : cI E L K AN R0 Rc Ic AIc AR A) : cJ E L K AN R0 Im AIm AL A (mkS L K AN R0 Rc Ic AIc AR Im AIm AL) := ⟨L, K, Rc, Ic, AIc, AR, rfl, fun _ h => ⟨h, rfl⟩, hI⟩
theorem cR_thr {exs : List String} {ex : String} {A : AB} {j : Nat} {v : Int32} (h : exs[j]? = some ex) (hI : cI E L K AN R0 Rc Ic AIc AR A) : cR exs (cJ E L K AN R0 Im AIm AL) (j + 1, v, A) (.inr ex) (mkS L K AN R0 Rc Ic AIc AR Im AIm AL) :=
  ⟨cJ_id hI, Or.inr ⟨ex, h, Nat.succ_ne_zero j, rfl⟩⟩
theorem cR_ok {exs : List String} {A A' : AB} {v : Int32} {Rc' : Nat → Nat → Option Nat} {Ic' AIc' : Nat → Nat → Int32} {AR' : Nat → Nat → Option Nat} (hI : cI E L K AN R0 Rc' Ic' AIc' AR' A') : cR exs (cJ E L K AN R0 Im AIm AL) (0, v, A') (.inl (some (vi v))) (mkS L K AN R0 Rc' Ic' AIc' AR' Im AIm AL) :=
  ⟨⟨L, K, Rc', Ic', AIc', AR', rfl, fun _ h => ⟨h, rfl⟩, hI⟩, Or.inl ⟨rfl, rfl⟩⟩
theorem cI_up {t' : Tr} {n' : Cn} {R2 : Nat → Nat → Option Nat} {I2 : Nat → Nat → Int32} (hI : cI E L K AN R0 Rc Ic AIc AR (t, c, fg, n)) (hio : io t' = io t) (W : cW E L K R2 I2 (t', c, .leaf, .leaf) n') (i2 : I2 2 = Ic 2) : cI E L K AN R0 R2 I2 AIc AR (t', c, fg, n') := by
  obtain ⟨hK, hW, ⟨hl1, hl2⟩, hv1, hv2, hfg, hA1, hA2⟩ := hI
  refine ⟨hK, W, ⟨?_, ?_⟩, ?_, hv2, hfg, ?_, fun k p h1 h2 => ?_⟩
  · rw [i2, hl1]
    exact congrArg nI (io_tsz hio).symm
  · rw [i2, hl2]
  · show rowV _ (vls t')
    rw [vls_io hio]
    exact hv1
  · show tsz t' + tsz c ≤ 60
    rw [io_tsz hio]
    exact hA1
  · show p ∈ ids t' ∨ _
    rw [ids_io hio]
    exact hA2 k p h1 h2
theorem cW_same {x : T4} {Rc' : Nat → Nat → Option Nat} {Ic' : Nat → Nat → Int32} (hW : cW E L K Rc Ic x n) (e0 : Rc' 0 = Rc 0) (e1 : Rc' 1 = Rc 1) (e2 : Rc' 2 = Rc 2) (e3 : Rc' 3 = Rc 3) (hi : ∀ j, j ≠ 2 → Ic' j = Ic j) : cW E L K Rc' Ic' x n := by
  obtain ⟨hF, hr, hn⟩ := hW
  refine ⟨cF_same hF e0 e1 e2 (hi 0 (by decide)) (hi 1 (by decide)), by rw [e3]; exact hr, ?_⟩
  rw [← hn]
  simp [cnO, hi 3 (by decide), hi 4 (by decide), hi 5 (by decide), hi 6 (by decide)]
theorem pI_n {k : Nat} (h : k < 2 ^ 31) : pI (nI k) = k := pI_nI h
theorem up_io {k : Nat} (hk : k < tsz t) : io (upT t k) = io t := upT_io t k hk
theorem k_get (x : Int32) (hI : cI E L K AN R0 Rc Ic AIc AR (t, c, fg, n)) :
    MT G mX4_get [vr (some (E 0)), vi x] (mkS L K AN R0 Rc Ic AIc AR Im AIm AL) (cR [xO] (cJ E L K AN R0 Im AIm AL) (aGet (t, c, fg, n) x)) := by
  have hI9 := hI
  obtain ⟨hK, hW, ⟨hl1, hl2⟩, hv1, hv2, hfg, hA1, hA2⟩ := hI9
  have hW : cW E L K Rc Ic (t, c, .leaf, .leaf) n := hW
  have hl1 : Ic 2 (E 7) = nI (tsz t) := hl1
  have hl2 : Ic 2 (E 8) = nI (tsz c) := hl2
  have hv1 : rowV (AIc (E 9)) (vls t) := hv1
  have hv2 : rowV (AIc (E 10)) (vls c) := hv2
  have hfg : ∀ k, k < 4 → AR (E 6) k = (fg k).map (·.1) := hfg
  have hs : tsz t + tsz c ≤ 60 := hA1
  have hA2 : ∀ k p, k < 4 → fg k = some p → p ∈ ids t ∨ p ∈ ids c := hA2
  have h0 := hK.1
  obtain ⟨k1, k2, k3, k4⟩ := hK.2.2.1
  have k5 := hK.2.2.2.1
  obtain ⟨k6, n6⟩ := hK.2.2.2.2.1
  have k7 := hK.2.2.2.2.2.1
  have k8 := hK.2.2.2.2.2.2.1
  obtain ⟨d78, d910⟩ := hK.2.2.2.2.2.2.2.1
  obtain ⟨e1, e2, e3, e4, e5, e6, e7, e8⟩ := hK.2.1
  refine MT_of (by decide) rfl (Nat.le_of_ble_eq_true rfl) ?_
  refine WP_aload_n dX4_get_0 rfl ?_
  refine WP_iload_n dX4_get_1 rfl ?_
  refine callVtr mX4_nodeAt [_] dX4_get_2 okc_X4_nodeAt ok_417 ⟨by decide, by decide⟩ rfl rfl h0 rfl (Nat.le_of_ble_eq_true rfl) (Nat.le_of_ble_eq_true rfl) (Nat.le_of_ble_eq_true rfl) (c_nodeAt x hK hW (by omega)) rfl (fun E9 S9 ht => ?_) (fun a S1 h1 => ?_)
  · obtain ⟨⟨rfl, hx⟩, rfl⟩ := ht
    unfold aGet
    rw [if_neg hx]
    exact cR_thr rfl hI
  · obtain ⟨⟨k, hk, rfl, ha⟩, rfl⟩ := h1
    obtain ⟨i, v, l, r, u1, u2', u3, u4, u5⟩ := upT_at hk ha
    have ez : aGet (t, c, fg, n) (nI k) = (0, v, (upT t k, c, fg, addC (begC n) (upC t k))) := by
      unfold aGet
      rw [if_pos (inP_nI hk (by omega)), pI_n (by omega), u4]
    rw [ez]
    refine WP_astore_n dX4_get_5 (by decide) rfl ?_
    refine WP_aload_n dX4_get_6 rfl ?_
    refine gf_RX4_28 dX4_get_7 rfl rfl h0 ?_
    rw [e5]
    refine callVv mX2_beginCall [] dX4_get_10 okc_X2_beginCall ok_330 ⟨by decide, by decide⟩ rfl rfl k5 rfl (Nat.le_of_ble_eq_true rfl) (Nat.le_of_ble_eq_true rfl) (Nat.le_of_ble_eq_true rfl) (w_begin hK hW) (fun S1 h1 => ?_)
    obtain ⟨R1, I1, rfl, W1, i1⟩ := h1
    refine WP_aload_n dX4_get_13 rfl ?_
    refine gf_RX4_28 dX4_get_14 rfl rfl h0 ?_
    refine WP_aload_n dX4_get_17 rfl ?_
    refine gf_RX4_10 dX4_get_18 rfl rfl h0 ?_
    refine WP_aload_n dX4_get_21 rfl ?_
    rw [e5, e1]
    refine callVv mX2_splay [_, _] dX4_get_22 okc_X2_splay ok_422 ⟨by decide, by decide⟩ rfl rfl k5 rfl (Nat.le_of_ble_eq_true rfl) (Nat.le_of_ble_eq_true rfl) (Nat.le_of_ble_eq_true rfl) (w_splay hK W1 hk (by omega) ha) (fun S1 h1 => ?_)
    obtain ⟨R2, I2, rfl, W2, i2⟩ := h1
    have hc := (cW_T W2).1
    rw [u1] at hc
    obtain ⟨ka, -, -, -, -, kv⟩ := cz (fs := []) hc
    refine WP_aload_n dX4_get_25 rfl ?_
    refine gf_RX4_118 dX4_get_26 rfl rfl ka ?_
    rw [kv]
    refine WP_ireturn dX4_get_29 rfl rfl (Nat.le_of_ble_eq_true rfl) (Nat.le_of_ble_eq_true rfl) ?_
    exact cR_ok (A := (t, c, fg, n)) (cI_up hI (up_io hk) W2 (i2.trans i1))
theorem vls_split {a i k : Nat} {v w : Int32} {l r : Tr} (e : io l ++ (a, i, v) :: io r = io t) (hl : (io l).length = k) : vls t = vls l ++ v :: vls r ∧ (vls l).length = k ∧ vls (nd a i w l r) = vls l ++ w :: vls r ∧ ids (nd a i w l r) = ids t := by
  unfold vls ids
  rw [← e]
  refine ⟨by simp, by simp [hl], by simp [io], by simp [io]⟩
theorem k_set (x w : Int32) (hI : cI E L K AN R0 Rc Ic AIc AR (t, c, fg, n)) :
    MT G mX4_set [vr (some (E 0)), vi x, vi w] (mkS L K AN R0 Rc Ic AIc AR Im AIm AL) (cR [xO, xA] (cJ E L K AN R0 Im AIm AL) (aSet (t, c, fg, n) x w)) := by
  have hI9 := hI
  obtain ⟨hK, hW, ⟨hl1, hl2⟩, hv1, hv2, hfg, hA1, hA2⟩ := hI9
  have hW : cW E L K Rc Ic (t, c, .leaf, .leaf) n := hW
  have hl1 : Ic 2 (E 7) = nI (tsz t) := hl1
  have hl2 : Ic 2 (E 8) = nI (tsz c) := hl2
  have hv1 : rowV (AIc (E 9)) (vls t) := hv1
  have hv2 : rowV (AIc (E 10)) (vls c) := hv2
  have hfg : ∀ k, k < 4 → AR (E 6) k = (fg k).map (·.1) := hfg
  have hs : tsz t + tsz c ≤ 60 := hA1
  have hA2 : ∀ k p, k < 4 → fg k = some p → p ∈ ids t ∨ p ∈ ids c := hA2
  have h0 := hK.1
  obtain ⟨k1, k2, k3, k4⟩ := hK.2.2.1
  have k5 := hK.2.2.2.1
  obtain ⟨k6, n6⟩ := hK.2.2.2.2.1
  have k7 := hK.2.2.2.2.2.1
  have k8 := hK.2.2.2.2.2.2.1
  obtain ⟨d78, d910⟩ := hK.2.2.2.2.2.2.2.1
  obtain ⟨e1, e2, e3, e4, e5, e6, e7, e8⟩ := hK.2.1
  refine MT_of (by decide) rfl (Nat.le_of_ble_eq_true rfl) ?_
  refine WP_aload_n dX4_set_0 rfl ?_
  refine WP_iload_n dX4_set_1 rfl ?_
  refine callVtr mX4_nodeAt [_] dX4_set_2 okc_X4_nodeAt ok_417 ⟨by decide, by decide⟩ rfl rfl h0 rfl (Nat.le_of_ble_eq_true rfl) (Nat.le_of_ble_eq_true rfl) (Nat.le_of_ble_eq_true rfl) (c_nodeAt x hK hW (by omega)) rfl (fun E9 S9 ht => ?_) (fun a S1 h1 => ?_)
  · obtain ⟨⟨rfl, hx⟩, rfl⟩ := ht
    unfold aSet
    rw [if_neg hx]
    exact cR_thr rfl hI
  · obtain ⟨⟨k, hk, rfl, ha⟩, rfl⟩ := h1
    obtain ⟨i, v, l, r, u1, u2', u3, u4, u5⟩ := upT_at hk ha
    refine WP_astore_n dX4_set_5 (by decide) rfl ?_
    refine WP_iload_n dX4_set_6 rfl ?_
    refine callSuv mX4_checkAmount [_] dX4_set_7 okc_X4_checkAmount ok_295 ⟨by decide, by decide⟩ rfl rfl (Nat.le_of_ble_eq_true rfl) (Nat.le_of_ble_eq_true rfl) (Nat.le_of_ble_eq_true rfl) (c_checkAmount w) rfl rfl (fun E9 S9 ht => ?_) (fun S1 h1 => ?_)
    · obtain ⟨⟨rfl, hx⟩, rfl⟩ := ht
      unfold aSet
      rw [if_pos (inP_nI hk (by omega)), if_neg hx]
      exact cR_thr rfl hI
    · obtain ⟨hw, rfl⟩ := h1
      have ez : aSet (t, c, fg, n) (nI k) w = (0, v, (nd a i w l r, c, fg, addC (begC n) (upC t k))) := by
        unfold aSet
        rw [if_pos (inP_nI hk (by omega)), if_pos hw, pI_n (by omega), u4, u1]
        rfl
      rw [ez]
      refine WP_aload_n dX4_set_10 rfl ?_
      refine gf_RX4_28 dX4_set_11 rfl rfl h0 ?_
      rw [e5]
      refine callVv mX2_beginCall [] dX4_set_14 okc_X2_beginCall ok_330 ⟨by decide, by decide⟩ rfl rfl k5 rfl (Nat.le_of_ble_eq_true rfl) (Nat.le_of_ble_eq_true rfl) (Nat.le_of_ble_eq_true rfl) (w_begin hK hW) (fun S1 h1 => ?_)
      obtain ⟨R1, I1, rfl, W1, i1⟩ := h1
      refine WP_aload_n dX4_set_17 rfl ?_
      refine gf_RX4_28 dX4_set_18 rfl rfl h0 ?_
      refine WP_aload_n dX4_set_21 rfl ?_
      refine gf_RX4_10 dX4_set_22 rfl rfl h0 ?_
      refine WP_aload_n dX4_set_25 rfl ?_
      rw [e5, e1]
      refine callVv mX2_splay [_, _] dX4_set_26 okc_X2_splay ok_422 ⟨by decide, by decide⟩ rfl rfl k5 rfl (Nat.le_of_ble_eq_true rfl) (Nat.le_of_ble_eq_true rfl) (Nat.le_of_ble_eq_true rfl) (w_splay hK W1 hk (by omega) ha) (fun S1 h1 => ?_)
      obtain ⟨R2, I2, rfl, W2, i2⟩ := h1
      have hc := (cW_T W2).1
      rw [u1] at hc W2
      obtain ⟨ka, -, -, -, -, kv⟩ := cz (fs := []) hc
      refine WP_aload_n dX4_set_29 rfl ?_
      refine gf_RX4_118 dX4_set_30 rfl rfl ka ?_
      rw [kv]
      refine WP_istore dX4_set_33 (by decide) rfl ?_
      refine WP_aload_n dX4_set_35 rfl ?_
      refine WP_iload_n dX4_set_36 rfl ?_
      refine pf_RX4_118 dX4_set_37 rfl rfl ka ?_
      refine WP_aload_n dX4_set_40 rfl ?_
      refine gf_RX4_41 dX4_set_41 rfl rfl h0 ?_
      rw [e7]
      obtain ⟨q1, q2, q3, q4⟩ := vls_split (w := w) u2' u3
      have hn7 : u2 I2 1 a w 2 (E 7) = nI (tsz t) := by rw [u2_o _ _ _ (by decide), i2, i1, hl1]
      refine WP_iload_n dX4_set_44 rfl ?_
      refine WP_iload_n dX4_set_45 rfl ?_
      refine callVv mX1_replace [_, _] dX4_set_46 okc_X1_replace ok_459 ⟨by decide, by decide⟩ rfl rfl k7.1 rfl (Nat.le_of_ble_eq_true rfl) (Nat.le_of_ble_eq_true rfl) (Nat.le_of_ble_eq_true rfl) (c_replace (E 7) (E 9) k (tsz t) w k7 hn7 (by omega) hk) (fun S1 h1 => ?_)
      subst h1
      refine WP_iload dX4_set_49 rfl ?_
      refine WP_ireturn dX4_set_51 rfl rfl (Nat.le_of_ble_eq_true rfl) (Nat.le_of_ble_eq_true rfl) ?_
      refine cR_ok (A := (t, c, fg, n)) ⟨hK, ⟨cF_setV (fs := []) W2.1 (u2_o _ _ _ (by decide)) (u2_s _ _ _ _), W2.2.1, ?_⟩, ⟨?_, ?_⟩, ?_, ?_, hfg, ?_, ?_⟩
      · rw [← W2.2.2]
        simp [cnO, u2]
      · show u2 I2 1 a w 2 (E 7) = nI (tsz (nd a i w l r))
        rw [hn7, ← ids_len, ← ids_len, q4]
      · show u2 I2 1 a w 2 (E 8) = nI (tsz c)
        rw [u2_o _ _ _ (by decide), i2, i1, hl2]
      · show rowV _ (vls (nd a i w l r))
        rw [q3, va_up_self, ← q2]
        have hv1 : rowV (AIc (E 9)) (vls t) := hv1
        rw [q1] at hv1
        exact rowV_set hv1
      · rw [va_up_ne _ _ (Ne.symm hK.2.2.2.2.2.2.2.1.2)]
        exact hv2
      · show tsz (nd a i w l r) + tsz c ≤ 60
        rw [← ids_len, q4, ids_len]
        exact hs
      · intro q p h1 h2
        show p ∈ ids (nd a i w l r) ∨ _
        rw [q4]
        exact hA2 q p h1 h2
end CLS
