/-! ===== SplaySequence: what each call does ===== -/
def cI (E : Nat → Nat) (L : List Nat) (K AN : Nat → Nat) (R0 Rc : Nat → Nat → Option Nat) (Ic AIc : Nat → Nat → Int32) (AR : Nat → Nat → Option Nat) (A : AB) : Prop :=
  cK E L K AN R0 ∧ cW E L K Rc Ic (A.1, A.2.1, .leaf, .leaf) A.2.2.2 ∧ (Ic 2 (E 7) = nI (tsz A.1) ∧ Ic 2 (E 8) = nI (tsz A.2.1)) ∧ rowV (AIc (E 9)) (vls A.1) ∧ rowV (AIc (E 10)) (vls A.2.1) ∧ (∀ k, k < 4 → AR (E 6) k = (A.2.2.1 k).map (·.1)) ∧ AI A
def cJ (E : Nat → Nat) (L : List Nat) (K AN : Nat → Nat) (R0 : Nat → Nat → Option Nat) (Im AIm : Nat → Nat → Int32) (AL : Nat → Nat → Int64) : AB → SS → Prop := fun A' S' =>
  ∃ L' K' Rc' Ic' AIc' AR', S' = mkS L' K' AN R0 Rc' Ic' AIc' AR' Im AIm AL ∧ (∀ a ∈ L, a ∈ L' ∧ K' a = K a) ∧ cI E L' K' AN R0 Rc' Ic' AIc' AR' A'
def cR (exs : List String) (I : AB → SS → Prop) (z : Rz) : RS → SS → Prop := fun r S' => I z.2.2 S' ∧ ((z.1 = 0 ∧ r = .inl (some (vi z.2.1))) ∨ ∃ ex, exs[z.1 - 1]? = some ex ∧ z.1 ≠ 0 ∧ r = .inr ex)
section CLS
variable {G : GC} {L : List Nat} {K AN : Nat → Nat} {R0 Rc : Nat → Nat → Option Nat} {Ic AIc Im AIm : Nat → Nat → Int32} {AR : Nat → Nat → Option Nat} {AL : Nat → Nat → Int64} {E : Nat → Nat} {t c : Tr} {fg : Nat → Option (Nat × Nat)} {n : Cn}
theorem cJ_id {A : AB} (hI : cI E L K AN R0 Rc Ic AIc AR A) : cJ E L K AN R0 Im AIm AL A (mkS L K AN R0 Rc Ic AIc AR Im AIm AL) := ⟨L, K, Rc, Ic, AIc, AR, rfl, fun _ h => ⟨h, rfl⟩, hI⟩
theorem cR_thr {exs : List String} {ex : String} {A : AB} {j : Nat} {v : Int32} (h : exs[j]? = some ex) (hI : cI E L K AN R0 Rc Ic AIc AR A) : cR exs (cJ E L K AN R0 Im AIm AL) (j + 1, v, A) (.inr ex) (mkS L K AN R0 Rc Ic AIc AR Im AIm AL) :=
  ⟨cJ_id hI, Or.inr ⟨ex, h, Nat.succ_ne_zero j, rfl⟩⟩
theorem cR_ok {exs : List String} {A A' : AB} {v : Int32} {Rc' : Nat → Nat → Option Nat} {Ic' AIc' : Nat → Nat → Int32} {AR' : Nat → Nat → Option Nat} (hI : cI E L K AN R0 Rc' Ic' AIc' AR' A') : cR exs (cJ E L K AN R0 Im AIm AL) (0, v, A') (.inl (some (vi v))) (mkS L K AN R0 Rc' Ic' AIc' AR' Im AIm AL) :=
  ⟨⟨L, K, Rc', Ic', AIc', AR', rfl, fun _ h => ⟨h, rfl⟩, hI⟩, Or.inl ⟨rfl, rfl⟩⟩
theorem cI_up {t' : Tr} {n' : Cn} {R2 : Nat → Nat → Option Nat} {I2 : Nat → Nat → Int32} (hI : cI E L K AN R0 Rc Ic AIc AR (t, c, fg, n)) (hio : io t' = io t) (W : cW E L K R2 I2 (t', c, .leaf, .leaf) n') (i2 : I2 2 = Ic 2) : cI E L K AN R0 R2 I2 AIc AR (t', c, fg, n') := by
  obtain ⟨hK, hW, ⟨hl1, hl2⟩, hv1, hv2, hfg, hA1, hA2⟩ := hI
  refine ⟨hK, W, ⟨?_, ?_⟩, ?_, hv2, hfg, ?_, fun k p h1 h2 => ?_⟩
  · rw [i2, hl1]
    exact congrArg nI (io_tsz hio).symm
  · rw [i2, hl2]
  · show rowV _ (vls t')
    rw [vls_io hio]
    exact hv1
  · show tsz t' + tsz c ≤ 60
    rw [io_tsz hio]
    exact hA1
  · show p ∈ ids t' ∨ _
    rw [ids_io hio]
    exact hA2 k p h1 h2
theorem cW_same {x : T4} {Rc' : Nat → Nat → Option Nat} {Ic' : Nat → Nat → Int32} (hW : cW E L K Rc Ic x n) (e0 : Rc' 0 = Rc 0) (e1 : Rc' 1 = Rc 1) (e2 : Rc' 2 = Rc 2) (e3 : Rc' 3 = Rc 3) (hi : ∀ j, j ≠ 2 → Ic' j = Ic j) : cW E L K Rc' Ic' x n := by
  obtain ⟨hF, hr, hn⟩ := hW
  refine ⟨cF_same hF e0 e1 e2 (hi 0 (by decide)) (hi 1 (by decide)), by rw [e3]; exact hr, ?_⟩
  rw [← hn]
  simp [cnO, hi 3 (by decide), hi 4 (by decide), hi 5 (by decide), hi 6 (by decide)]
theorem pI_n {k : Nat} (h : k < 2 ^ 31) : pI (nI k) = k := pI_nI h
theorem up_io {k : Nat} (hk : k < tsz t) : io (upT t k) = io t := upT_io t k hk
theorem k_get (x : Int32) (hI : cI E L K AN R0 Rc Ic AIc AR (t, c, fg, n)) :
    MT G mX4_get [vr (some (E 0)), vi x] (mkS L K AN R0 Rc Ic AIc AR Im AIm AL) (cR [xO] (cJ E L K AN R0 Im AIm AL) (aGet (t, c, fg, n) x)) := by
  have hI9 := hI
  obtain ⟨hK, hW, ⟨hl1, hl2⟩, hv1, hv2, hfg, hA1, hA2⟩ := hI9
  have hW : cW E L K Rc Ic (t, c, .leaf, .leaf) n := hW
  have hl1 : Ic 2 (E 7) = nI (tsz t) := hl1
  have hl2 : Ic 2 (E 8) = nI (tsz c) := hl2
  have hv1 : rowV (AIc (E 9)) (vls t) := hv1
  have hv2 : rowV (AIc (E 10)) (vls c) := hv2
  have hfg : ∀ k, k < 4 → AR (E 6) k = (fg k).map (·.1) := hfg
  have hs : tsz t + tsz c ≤ 60 := hA1
  have hA2 : ∀ k p, k < 4 → fg k = some p → p ∈ ids t ∨ p ∈ ids c := hA2
  have h0 := hK.1
  obtain ⟨k1, k2, k3, k4⟩ := hK.2.2.1
  have k5 := hK.2.2.2.1
  obtain ⟨k6, n6⟩ := hK.2.2.2.2.1
  have k7 := hK.2.2.2.2.2.1
  have k8 := hK.2.2.2.2.2.2.1
  obtain ⟨d78, d910⟩ := hK.2.2.2.2.2.2.2.1
  obtain ⟨e1, e2, e3, e4, e5, e6, e7, e8⟩ := hK.2.1
  refine MT_of (by decide) rfl (Nat.le_of_ble_eq_true rfl) ?_
  refine WP_aload_n dX4_get_0 rfl ?_
  refine WP_iload_n dX4_get_1 rfl ?_
  refine callVtr mX4_nodeAt [_] dX4_get_2 okc_X4_nodeAt ok_149 ⟨by decide, by decide⟩ rfl rfl h0 rfl (Nat.le_of_ble_eq_true rfl) (Nat.le_of_ble_eq_true rfl) (Nat.le_of_ble_eq_true rfl) (c_nodeAt x hK hW (by omega)) rfl (fun E9 S9 ht => ?_) (fun a S1 h1 => ?_)
  · obtain ⟨⟨rfl, hx⟩, rfl⟩ := ht
    unfold aGet
    rw [if_neg hx]
    exact cR_thr rfl hI
  · obtain ⟨⟨k, hk, rfl, ha⟩, rfl⟩ := h1
    obtain ⟨i, v, l, r, u1, u2', u3, u4, u5⟩ := upT_at hk ha
    have ez : aGet (t, c, fg, n) (nI k) = (0, v, (upT t k, c, fg, addC (begC n) (upC t k))) := by
      unfold aGet
      rw [if_pos (inP_nI hk (by omega)), pI_n (by omega), u4]
    rw [ez]
    refine WP_astore_n dX4_get_5 (by decide) rfl ?_
    refine WP_aload_n dX4_get_6 rfl ?_
    refine gf_RX4_28 dX4_get_7 rfl rfl h0 ?_
    rw [e5]
    refine callVv mX2_beginCall [] dX4_get_10 okc_X2_beginCall ok_225 ⟨by decide, by decide⟩ rfl rfl k5 rfl (Nat.le_of_ble_eq_true rfl) (Nat.le_of_ble_eq_true rfl) (Nat.le_of_ble_eq_true rfl) (w_begin hK hW) (fun S1 h1 => ?_)
    obtain ⟨R1, I1, rfl, W1, i1⟩ := h1
    refine WP_aload_n dX4_get_13 rfl ?_
    refine gf_RX4_28 dX4_get_14 rfl rfl h0 ?_
    refine WP_aload_n dX4_get_17 rfl ?_
    refine gf_RX4_10 dX4_get_18 rfl rfl h0 ?_
    refine WP_aload_n dX4_get_21 rfl ?_
    rw [e5, e1]
    refine callVv mX2_splay [_, _] dX4_get_22 okc_X2_splay ok_229 ⟨by decide, by decide⟩ rfl rfl k5 rfl (Nat.le_of_ble_eq_true rfl) (Nat.le_of_ble_eq_true rfl) (Nat.le_of_ble_eq_true rfl) (w_splay hK W1 hk (by omega) ha) (fun S1 h1 => ?_)
    obtain ⟨R2, I2, rfl, W2, i2⟩ := h1
    have hc := (cW_T W2).1
    rw [u1] at hc
    obtain ⟨ka, -, -, -, -, kv⟩ := cz (fs := []) hc
    refine WP_aload_n dX4_get_25 rfl ?_
    refine gf_RX4_118 dX4_get_26 rfl rfl ka ?_
    rw [kv]
    refine WP_ireturn dX4_get_29 rfl rfl (Nat.le_of_ble_eq_true rfl) (Nat.le_of_ble_eq_true rfl) ?_
    exact cR_ok (A := (t, c, fg, n)) (cI_up hI (up_io hk) W2 (i2.trans i1))
theorem vls_split {a i k : Nat} {v w : Int32} {l r : Tr} (e : io l ++ (a, i, v) :: io r = io t) (hl : (io l).length = k) : vls t = vls l ++ v :: vls r ∧ (vls l).length = k ∧ vls (nd a i w l r) = vls l ++ w :: vls r ∧ ids (nd a i w l r) = ids t := by
  unfold vls ids
  rw [← e]
  refine ⟨by simp, by simp [hl], by simp [io], by simp [io]⟩
theorem k_set (x w : Int32) (hI : cI E L K AN R0 Rc Ic AIc AR (t, c, fg, n)) :
    MT G mX4_set [vr (some (E 0)), vi x, vi w] (mkS L K AN R0 Rc Ic AIc AR Im AIm AL) (cR [xO, xA] (cJ E L K AN R0 Im AIm AL) (aSet (t, c, fg, n) x w)) := by
  have hI9 := hI
  obtain ⟨hK, hW, ⟨hl1, hl2⟩, hv1, hv2, hfg, hA1, hA2⟩ := hI9
  have hW : cW E L K Rc Ic (t, c, .leaf, .leaf) n := hW
  have hl1 : Ic 2 (E 7) = nI (tsz t) := hl1
  have hl2 : Ic 2 (E 8) = nI (tsz c) := hl2
  have hv1 : rowV (AIc (E 9)) (vls t) := hv1
  have hv2 : rowV (AIc (E 10)) (vls c) := hv2
  have hfg : ∀ k, k < 4 → AR (E 6) k = (fg k).map (·.1) := hfg
  have hs : tsz t + tsz c ≤ 60 := hA1
  have hA2 : ∀ k p, k < 4 → fg k = some p → p ∈ ids t ∨ p ∈ ids c := hA2
  have h0 := hK.1
  obtain ⟨k1, k2, k3, k4⟩ := hK.2.2.1
  have k5 := hK.2.2.2.1
  obtain ⟨k6, n6⟩ := hK.2.2.2.2.1
  have k7 := hK.2.2.2.2.2.1
  have k8 := hK.2.2.2.2.2.2.1
  obtain ⟨d78, d910⟩ := hK.2.2.2.2.2.2.2.1
  obtain ⟨e1, e2, e3, e4, e5, e6, e7, e8⟩ := hK.2.1
  refine MT_of (by decide) rfl (Nat.le_of_ble_eq_true rfl) ?_
  refine WP_aload_n dX4_set_0 rfl ?_
  refine WP_iload_n dX4_set_1 rfl ?_
  refine callVtr mX4_nodeAt [_] dX4_set_2 okc_X4_nodeAt ok_149 ⟨by decide, by decide⟩ rfl rfl h0 rfl (Nat.le_of_ble_eq_true rfl) (Nat.le_of_ble_eq_true rfl) (Nat.le_of_ble_eq_true rfl) (c_nodeAt x hK hW (by omega)) rfl (fun E9 S9 ht => ?_) (fun a S1 h1 => ?_)
  · obtain ⟨⟨rfl, hx⟩, rfl⟩ := ht
    unfold aSet
    rw [if_neg hx]
    exact cR_thr rfl hI
  · obtain ⟨⟨k, hk, rfl, ha⟩, rfl⟩ := h1
    obtain ⟨i, v, l, r, u1, u2', u3, u4, u5⟩ := upT_at hk ha
    refine WP_astore_n dX4_set_5 (by decide) rfl ?_
    refine WP_iload_n dX4_set_6 rfl ?_
    refine callSuv mX4_checkAmount [_] dX4_set_7 okc_X4_checkAmount ok_300 ⟨by decide, by decide⟩ rfl rfl (Nat.le_of_ble_eq_true rfl) (Nat.le_of_ble_eq_true rfl) (Nat.le_of_ble_eq_true rfl) (c_checkAmount w) rfl rfl (fun E9 S9 ht => ?_) (fun S1 h1 => ?_)
    · obtain ⟨⟨rfl, hx⟩, rfl⟩ := ht
      unfold aSet
      rw [if_pos (inP_nI hk (by omega)), if_neg hx]
      exact cR_thr rfl hI
    · obtain ⟨hw, rfl⟩ := h1
      have ez : aSet (t, c, fg, n) (nI k) w = (0, v, (nd a i w l r, c, fg, addC (begC n) (upC t k))) := by
        unfold aSet
        rw [if_pos (inP_nI hk (by omega)), if_pos hw, pI_n (by omega), u4, u1]
        rfl
      rw [ez]
      refine WP_aload_n dX4_set_10 rfl ?_
      refine gf_RX4_28 dX4_set_11 rfl rfl h0 ?_
      rw [e5]
      refine callVv mX2_beginCall [] dX4_set_14 okc_X2_beginCall ok_225 ⟨by decide, by decide⟩ rfl rfl k5 rfl (Nat.le_of_ble_eq_true rfl) (Nat.le_of_ble_eq_true rfl) (Nat.le_of_ble_eq_true rfl) (w_begin hK hW) (fun S1 h1 => ?_)
      obtain ⟨R1, I1, rfl, W1, i1⟩ := h1
      refine WP_aload_n dX4_set_17 rfl ?_
      refine gf_RX4_28 dX4_set_18 rfl rfl h0 ?_
      refine WP_aload_n dX4_set_21 rfl ?_
      refine gf_RX4_10 dX4_set_22 rfl rfl h0 ?_
      refine WP_aload_n dX4_set_25 rfl ?_
      rw [e5, e1]
      refine callVv mX2_splay [_, _] dX4_set_26 okc_X2_splay ok_229 ⟨by decide, by decide⟩ rfl rfl k5 rfl (Nat.le_of_ble_eq_true rfl) (Nat.le_of_ble_eq_true rfl) (Nat.le_of_ble_eq_true rfl) (w_splay hK W1 hk (by omega) ha) (fun S1 h1 => ?_)
      obtain ⟨R2, I2, rfl, W2, i2⟩ := h1
      have hc := (cW_T W2).1
      rw [u1] at hc W2
      obtain ⟨ka, -, -, -, -, kv⟩ := cz (fs := []) hc
      refine WP_aload_n dX4_set_29 rfl ?_
      refine gf_RX4_118 dX4_set_30 rfl rfl ka ?_
      rw [kv]
      refine WP_istore dX4_set_33 (by decide) rfl ?_
      refine WP_aload_n dX4_set_35 rfl ?_
      refine WP_iload_n dX4_set_36 rfl ?_
      refine pf_RX4_118 dX4_set_37 rfl rfl ka ?_
      refine WP_aload_n dX4_set_40 rfl ?_
      refine gf_RX4_41 dX4_set_41 rfl rfl h0 ?_
      rw [e7]
      obtain ⟨q1, q2, q3, q4⟩ := vls_split (w := w) u2' u3
      have hn7 : u2 I2 1 a w 2 (E 7) = nI (tsz t) := by rw [u2_o _ _ _ (by decide), i2, i1, hl1]
      refine WP_iload_n dX4_set_44 rfl ?_
      refine WP_iload_n dX4_set_45 rfl ?_
      refine callVv mX1_replace [_, _] dX4_set_46 okc_X1_replace ok_319 ⟨by decide, by decide⟩ rfl rfl k7.1 rfl (Nat.le_of_ble_eq_true rfl) (Nat.le_of_ble_eq_true rfl) (Nat.le_of_ble_eq_true rfl) (c_replace (E 7) (E 9) k (tsz t) w k7 hn7 (by omega) hk) (fun S1 h1 => ?_)
      subst h1
      refine WP_iload dX4_set_49 rfl ?_
      refine WP_ireturn dX4_set_51 rfl rfl (Nat.le_of_ble_eq_true rfl) (Nat.le_of_ble_eq_true rfl) ?_
      refine cR_ok (A := (t, c, fg, n)) ⟨hK, ⟨cF_setV (fs := []) W2.1 (u2_o _ _ _ (by decide)) (u2_s _ _ _ _), W2.2.1, ?_⟩, ⟨?_, ?_⟩, ?_, ?_, hfg, ?_, ?_⟩
      · rw [← W2.2.2]
        simp [cnO, u2]
      · show u2 I2 1 a w 2 (E 7) = nI (tsz (nd a i w l r))
        rw [hn7, ← ids_len, ← ids_len, q4]
      · show u2 I2 1 a w 2 (E 8) = nI (tsz c)
        rw [u2_o _ _ _ (by decide), i2, i1, hl2]
      · show rowV _ (vls (nd a i w l r))
        rw [q3, va_up_self, ← q2]
        have hv1 : rowV (AIc (E 9)) (vls t) := hv1
        rw [q1] at hv1
        exact rowV_set hv1
      · rw [va_up_ne _ _ (Ne.symm hK.2.2.2.2.2.2.2.1.2)]
        exact hv2
      · show tsz (nd a i w l r) + tsz c ≤ 60
        rw [← ids_len, q4, ids_len]
        exact hs
      · intro q p h1 h2
        show p ∈ ids (nd a i w l r) ∨ _
        rw [q4]
        exact hA2 q p h1 h2
theorem rk_mir (ky : Nat → Nat → Nat) (t : Tr) : rk ky (mir t) = rk ky t := by cases t <;> rfl
theorem rk_rai (ky : Nat → Nat → Nat) (d : Int32) (t : Tr) : rk ky (rai d t) = rk ky t := by cases t <;> rfl
theorem rg_io {f u : Nat} (hfu : f ≤ u) (hu : u ≤ tsz t) : io (rgT t f u).1 ++ io (rgT t f u).2.1 ++ io (rgT t f u).2.2 = io t := by
  by_cases h : f < u
  · obtain ⟨h1, h2, h3⟩ := rgT_io t f u h
    rw [h1, h2, h3, ← List.take_append_drop u (io t)]
    congr 1
    · rw [List.take_append_drop]
      have : (io t).take f = ((io t).take u).take f := by rw [List.take_take, Nat.min_eq_left hfu]
      rw [this, List.take_append_drop]
    · rw [List.take_append_drop]
  · unfold rgT
    rw [if_neg h]
    simp [io]
theorem rg_l {f u : Nat} (h : f < u) (hu : u ≤ tsz t) : tsz (rgT t f u).1 = f := by
  rw [← io_len, (rgT_io t f u h).1, List.length_take, io_len]
  omega
theorem vls3 (l m r : Tr) : vls (jn3 (l, m, r)) = vls l ++ vls m ++ vls r := by
  unfold vls
  rw [jn3_io]
  simp
theorem ids3 (l m r : Tr) : ids (jn3 (l, m, r)) = ids l ++ ids m ++ ids r := by
  unfold ids
  rw [jn3_io]
  simp
theorem vls_rg {f u : Nat} (hfu : f ≤ u) (hu : u ≤ tsz t) : vls t = vls (rgT t f u).1 ++ vls (rgT t f u).2.1 ++ vls (rgT t f u).2.2 := by
  unfold vls
  rw [← rg_io hfu hu]
  simp
theorem ids_rg {f u : Nat} (hfu : f ≤ u) (hu : u ≤ tsz t) : ids t = ids (rgT t f u).1 ++ ids (rgT t f u).2.1 ++ ids (rgT t f u).2.2 := by
  unfold ids
  rw [← rg_io hfu hu]
  simp
theorem rev_rows {g : Nat → Int32} {f u : Nat} (hfu : f ≤ u) (hu : u ≤ tsz t) (h : rowV g (vls t)) : rowV (revF f u g) (vls (jn3 ((rgT t f u).1, mir (rgT t f u).2.1, (rgT t f u).2.2))) := by
  have hm : vls (mir (rgT t f u).2.1) = (vls (rgT t f u).2.1).reverse := by
    unfold vls
    rw [io_mir, List.map_reverse]
  rw [vls3, hm]
  rw [vls_rg hfu hu] at h
  by_cases h2 : f < u
  · have := rowV_rev h
    rw [vls_len, vls_len, rg_l h2 hu, (rgT_sz t f u hu hfu).2, show f + (u - f) = u by omega] at this
    exact this
  · obtain rfl : f = u := by omega
    have e : revF f f g = g := by
      funext j
      unfold revF
      rw [if_neg (by omega)]
    rw [e]
    unfold rgT at h ⊢
    rw [if_neg h2] at h ⊢
    simpa [vls, io] using h
theorem add_rows {g : Nat → Int32} {f u : Nat} (d : Int32) (hfu : f ≤ u) (hu : u ≤ tsz t) (h : rowV g (vls t)) : rowV (addF f u d g) (vls (jn3 ((rgT t f u).1, rai d (rgT t f u).2.1, (rgT t f u).2.2))) := by
  have hm : vls (rai d (rgT t f u).2.1) = (vls (rgT t f u).2.1).map (· + d) := by
    unfold vls
    rw [io_rai, List.map_map, List.map_map]
    rfl
  rw [vls3, hm]
  rw [vls_rg hfu hu] at h
  by_cases h2 : f < u
  · have := rowV_add d h
    rw [vls_len, vls_len, rg_l h2 hu, (rgT_sz t f u hu hfu).2, show f + (u - f) = u by omega] at this
    exact this
  · obtain rfl : f = u := by omega
    have e : addF f f d g = g := by
      funext j
      unfold addF
      rw [if_neg (by omega)]
    rw [e]
    unfold rgT at h ⊢
    rw [if_neg h2] at h ⊢
    simpa [vls, io] using h
theorem cI_rg {f u : Nat} {m' : Tr} {n' : Cn} {R2 : Nat → Nat → Option Nat} {I2 AIc' : Nat → Nat → Int32} (hI : cI E L K AN R0 Rc Ic AIc AR (t, c, fg, n)) (hfu : f ≤ u) (hu : u ≤ tsz t) (hm : ∀ p, p ∈ ids m' ↔ p ∈ ids (rgT t f u).2.1) (hz : tsz m' = tsz (rgT t f u).2.1)
    (W : cW E L K R2 I2 (jn3 ((rgT t f u).1, m', (rgT t f u).2.2), c, .leaf, .leaf) n') (i2 : I2 2 = Ic 2) (hr : rowV (AIc' (E 9)) (vls (jn3 ((rgT t f u).1, m', (rgT t f u).2.2)))) (h10 : AIc' (E 10) = AIc (E 10)) :
    cI E L K AN R0 R2 I2 AIc' AR (jn3 ((rgT t f u).1, m', (rgT t f u).2.2), c, fg, n') := by
  obtain ⟨hK, hW, ⟨hl1, hl2⟩, hv1, hv2, hfg, hA1, hA2⟩ := hI
  have hsz : tsz (jn3 ((rgT t f u).1, m', (rgT t f u).2.2)) = tsz t := by
    rw [jn3_sz]
    show tsz (rgT t f u).1 + tsz m' + tsz (rgT t f u).2.2 = _
    rw [hz, (rgT_sz t f u hu hfu).1]
  refine ⟨hK, W, ⟨?_, ?_⟩, hr, ?_, hfg, ?_, fun k p h1 h2 => ?_⟩
  · rw [i2, hl1]
    exact congrArg nI hsz.symm
  · rw [i2, hl2]
  · rw [h10]
    exact hv2
  · show tsz (jn3 _) + tsz c ≤ 60
    rw [hsz]
    exact hA1
  · have h3 : p ∈ ids t ∨ p ∈ ids c := hA2 k p h1 h2
    show p ∈ ids (jn3 _) ∨ p ∈ ids c
    rw [ids3]
    rw [ids_rg hfu hu] at h3
    simp only [List.mem_append, hm] at h3 ⊢
    exact h3
theorem cF_mid {a b m r : Tr} : List.Perm [a, b, m, r] [m, a, b, r] := List.perm_middle (l₁ := [a, b])
theorem k_reverse (x y : Int32) (hI : cI E L K AN R0 Rc Ic AIc AR (t, c, fg, n)) :
    MT G mX4_reverse [vr (some (E 0)), vi x, vi y] (mkS L K AN R0 Rc Ic AIc AR Im AIm AL) (cR [xO] (cJ E L K AN R0 Im AIm AL) (aRev (t, c, fg, n) x y)) := by
  have hI9 := hI
  obtain ⟨hK, hW, ⟨hl1, hl2⟩, hv1, hv2, hfg, hA1, hA2⟩ := hI9
  have hW : cW E L K Rc Ic (t, c, .leaf, .leaf) n := hW
  have hl1 : Ic 2 (E 7) = nI (tsz t) := hl1
  have hl2 : Ic 2 (E 8) = nI (tsz c) := hl2
  have hv1 : rowV (AIc (E 9)) (vls t) := hv1
  have hv2 : rowV (AIc (E 10)) (vls c) := hv2
  have hfg : ∀ k, k < 4 → AR (E 6) k = (fg k).map (·.1) := hfg
  have hs : tsz t + tsz c ≤ 60 := hA1
  have hA2 : ∀ k p, k < 4 → fg k = some p → p ∈ ids t ∨ p ∈ ids c := hA2
  have h0 := hK.1
  obtain ⟨k1, k2, k3, k4⟩ := hK.2.2.1
  have k5 := hK.2.2.2.1
  obtain ⟨k6, n6⟩ := hK.2.2.2.2.1
  have k7 := hK.2.2.2.2.2.1
  have k8 := hK.2.2.2.2.2.2.1
  obtain ⟨d78, d910⟩ := hK.2.2.2.2.2.2.2.1
  obtain ⟨e1, e2, e3, e4, e5, e6, e7, e8⟩ := hK.2.1
  refine MT_of (by decide) rfl (Nat.le_of_ble_eq_true rfl) ?_
  refine WP_aload_n dX4_reverse_0 rfl ?_
  refine WP_iload_n dX4_reverse_1 rfl ?_
  refine WP_iload_n dX4_reverse_2 rfl ?_
  refine callVtv mX4_checkRange [_, _] dX4_reverse_3 okc_X4_checkRange ok_333 ⟨by decide, by decide⟩ rfl rfl h0 rfl (Nat.le_of_ble_eq_true rfl) (Nat.le_of_ble_eq_true rfl) (Nat.le_of_ble_eq_true rfl) (c_checkRange x y hK hW (by omega)) rfl (fun E9 S9 ht => ?_) (fun S1 h1 => ?_)
  · obtain ⟨⟨rfl, hx⟩, rfl⟩ := ht
    unfold aRev
    rw [if_neg hx]
    exact cR_thr rfl hI
  · obtain ⟨hr, rfl⟩ := h1
    obtain ⟨f, u, hfu, hu, rfl, rfl⟩ := inR_of hr (by omega)
    have z1 := rgT_sz t f u hu hfu
    have ez : aRev (t, c, fg, n) (nI f) (nI u) = (0, nI u - nI f, (jn3 ((rgT t f u).1, mir (rgT t f u).2.1, (rgT t f u).2.2), c, fg, jn3N (rgN (begC n) t f u) ((rgT t f u).1, mir (rgT t f u).2.1, (rgT t f u).2.2))) := by
      unfold aRev rgA
      rw [if_pos hr, pI_n (by omega), pI_n (by omega)]
    rw [ez]
    refine WP_aload_n dX4_reverse_6 rfl ?_
    refine gf_RX4_28 dX4_reverse_7 rfl rfl h0 ?_
    rw [e5]
    refine callVv mX2_beginCall [] dX4_reverse_10 okc_X2_beginCall ok_225 ⟨by decide, by decide⟩ rfl rfl k5 rfl (Nat.le_of_ble_eq_true rfl) (Nat.le_of_ble_eq_true rfl) (Nat.le_of_ble_eq_true rfl) (w_begin hK hW) (fun S1 h1 => ?_)
    obtain ⟨R1, I1, rfl, W1, i1⟩ := h1
    refine WP_aload_n dX4_reverse_13 rfl ?_
    refine WP_iload_n dX4_reverse_14 rfl ?_
    refine WP_iload_n dX4_reverse_15 rfl ?_
    refine callVv mX4_takeRange [_, _] dX4_reverse_16 okc_X4_takeRange ok_338 ⟨by decide, by decide⟩ rfl rfl h0 rfl (Nat.le_of_ble_eq_true rfl) (Nat.le_of_ble_eq_true rfl) (Nat.le_of_ble_eq_true rfl) (w_takeRange f u hK W1 (by omega) hfu hu) (fun S1 h1 => ?_)
    obtain ⟨R2, I2, rfl, W2, i2⟩ := h1
    refine WP_aload_n dX4_reverse_19 rfl ?_
    refine gf_RX4_19 dX4_reverse_20 rfl rfl h0 ?_
    rw [e3]
    refine callVv mX3_turnRound [] dX4_reverse_23 okc_X3_turnRound ok_348 ⟨by decide, by decide⟩ rfl rfl k3 rfl (Nat.le_of_ble_eq_true rfl) (Nat.le_of_ble_eq_true rfl) (Nat.le_of_ble_eq_true rfl) (c_turnRound (E 3) (rgT t f u).2.1 [(rgT t f u).1, c, (rgT t f u).2.2] k3 W2.2.1.2.2.1 (by omega) (cF_perm cF_mid W2.1)) (fun S1 h1 => ?_)
    obtain ⟨R3, rfl, F3, r3⟩ := h1
    have W3 : cW E L K R3 I2 ((rgT t f u).1, c, mir (rgT t f u).2.1, (rgT t f u).2.2) (rgN (begC n) t f u) := ⟨cF_perm cF_mid.symm F3, by rw [r3]; exact ⟨W2.2.1.1, W2.2.1.2.1, W2.2.1.2.2.1.trans (rk_mir kA _).symm, W2.2.1.2.2.2⟩, W2.2.2⟩
    refine WP_aload_n dX4_reverse_26 rfl ?_
    refine callVv mX4_putRangeBack [] dX4_reverse_27 okc_X4_putRangeBack ok_362 ⟨by decide, by decide⟩ rfl rfl h0 rfl (Nat.le_of_ble_eq_true rfl) (Nat.le_of_ble_eq_true rfl) (Nat.le_of_ble_eq_true rfl) (w_putBack hK W3 (by rw [tsz_mir]; omega)) (fun S1 h1 => ?_)
    obtain ⟨R4, I4, rfl, W4, i4⟩ := h1
    refine WP_aload_n dX4_reverse_30 rfl ?_
    refine gf_RX4_41 dX4_reverse_31 rfl rfl h0 ?_
    refine WP_iload_n dX4_reverse_34 rfl ?_
    refine WP_iload_n dX4_reverse_35 rfl ?_
    rw [e7]
    have i9 : I4 2 = Ic 2 := i4.trans (i2.trans i1)
    refine callVv mX1_turnRound [_, _] dX4_reverse_36 okc_X1_turnRound ok_366 ⟨by decide, by decide⟩ rfl rfl k7.1 rfl (Nat.le_of_ble_eq_true rfl) (Nat.le_of_ble_eq_true rfl) (Nat.le_of_ble_eq_true rfl) (c_turnRow (E 7) (E 9) f u (tsz t) k7 (by rw [i9, hl1]) (by omega) hfu hu) (fun S1 h1 => ?_)
    subst h1
    refine WP_iload_n dX4_reverse_39 rfl ?_
    refine WP_iload_n dX4_reverse_40 rfl ?_
    refine WP_isub dX4_reverse_41 ?_
    refine WP_ireturn dX4_reverse_42 rfl rfl (Nat.le_of_ble_eq_true rfl) (Nat.le_of_ble_eq_true rfl) ?_
    refine cR_ok (A := (t, c, fg, n)) (cI_rg hI hfu hu (fun p => ?_) (tsz_mir _) W4 i9 ?_ (va_up_ne _ _ (Ne.symm d910)))
    · unfold ids
      rw [io_mir, List.map_reverse, List.mem_reverse]
    · rw [va_up_self]
      exact rev_rows hfu hu hv1
theorem k_raise (x y d : Int32) (hI : cI E L K AN R0 Rc Ic AIc AR (t, c, fg, n)) :
    MT G mX4_raise [vr (some (E 0)), vi x, vi y, vi d] (mkS L K AN R0 Rc Ic AIc AR Im AIm AL) (cR [xO, xA] (cJ E L K AN R0 Im AIm AL) (aRai (t, c, fg, n) x y d)) := by
  have hI9 := hI
  obtain ⟨hK, hW, ⟨hl1, hl2⟩, hv1, hv2, hfg, hA1, hA2⟩ := hI9
  have hW : cW E L K Rc Ic (t, c, .leaf, .leaf) n := hW
  have hl1 : Ic 2 (E 7) = nI (tsz t) := hl1
  have hl2 : Ic 2 (E 8) = nI (tsz c) := hl2
  have hv1 : rowV (AIc (E 9)) (vls t) := hv1
  have hv2 : rowV (AIc (E 10)) (vls c) := hv2
  have hfg : ∀ k, k < 4 → AR (E 6) k = (fg k).map (·.1) := hfg
  have hs : tsz t + tsz c ≤ 60 := hA1
  have hA2 : ∀ k p, k < 4 → fg k = some p → p ∈ ids t ∨ p ∈ ids c := hA2
  have h0 := hK.1
  obtain ⟨k1, k2, k3, k4⟩ := hK.2.2.1
  have k5 := hK.2.2.2.1
  obtain ⟨k6, n6⟩ := hK.2.2.2.2.1
  have k7 := hK.2.2.2.2.2.1
  have k8 := hK.2.2.2.2.2.2.1
  obtain ⟨d78, d910⟩ := hK.2.2.2.2.2.2.2.1
  obtain ⟨e1, e2, e3, e4, e5, e6, e7, e8⟩ := hK.2.1
  refine MT_of (by decide) rfl (Nat.le_of_ble_eq_true rfl) ?_
  refine WP_aload_n dX4_raise_0 rfl ?_
  refine WP_iload_n dX4_raise_1 rfl ?_
  refine WP_iload_n dX4_raise_2 rfl ?_
  refine callVtv mX4_checkRange [_, _] dX4_raise_3 okc_X4_checkRange ok_333 ⟨by decide, by decide⟩ rfl rfl h0 rfl (Nat.le_of_ble_eq_true rfl) (Nat.le_of_ble_eq_true rfl) (Nat.le_of_ble_eq_true rfl) (c_checkRange x y hK hW (by omega)) rfl (fun E9 S9 ht => ?_) (fun S1 h1 => ?_)
  · obtain ⟨⟨rfl, hx⟩, rfl⟩ := ht
    unfold aRai
    rw [if_neg hx]
    exact cR_thr rfl hI
  · obtain ⟨hr, rfl⟩ := h1
    refine WP_iload_n dX4_raise_6 rfl ?_
    refine callSuv mX4_checkAmount [_] dX4_raise_7 okc_X4_checkAmount ok_300 ⟨by decide, by decide⟩ rfl rfl (Nat.le_of_ble_eq_true rfl) (Nat.le_of_ble_eq_true rfl) (Nat.le_of_ble_eq_true rfl) (c_checkAmount d) rfl rfl (fun E9 S9 ht => ?_) (fun S1 h1 => ?_)
    · obtain ⟨⟨rfl, hx⟩, rfl⟩ := ht
      unfold aRai
      rw [if_pos hr, if_neg hx]
      exact cR_thr rfl hI
    · obtain ⟨hw, rfl⟩ := h1
      obtain ⟨f, u, hfu, hu, rfl, rfl⟩ := inR_of hr (by omega)
      have z1 := rgT_sz t f u hu hfu
      have ez : aRai (t, c, fg, n) (nI f) (nI u) d = (0, nI u - nI f, (jn3 ((rgT t f u).1, rai d (rgT t f u).2.1, (rgT t f u).2.2), c, fg, jn3N (rgN (begC n) t f u) ((rgT t f u).1, rai d (rgT t f u).2.1, (rgT t f u).2.2))) := by
        unfold aRai rgA
        rw [if_pos hr, if_pos hw, pI_n (by omega), pI_n (by omega)]
      rw [ez]
      refine WP_aload_n dX4_raise_10 rfl ?_
      refine gf_RX4_28 dX4_raise_11 rfl rfl h0 ?_
      rw [e5]
      refine callVv mX2_beginCall [] dX4_raise_14 okc_X2_beginCall ok_225 ⟨by decide, by decide⟩ rfl rfl k5 rfl (Nat.le_of_ble_eq_true rfl) (Nat.le_of_ble_eq_true rfl) (Nat.le_of_ble_eq_true rfl) (w_begin hK hW) (fun S1 h1 => ?_)
      obtain ⟨R1, I1, rfl, W1, i1⟩ := h1
      refine WP_aload_n dX4_raise_17 rfl ?_
      refine WP_iload_n dX4_raise_18 rfl ?_
      refine WP_iload_n dX4_raise_19 rfl ?_
      refine callVv mX4_takeRange [_, _] dX4_raise_20 okc_X4_takeRange ok_338 ⟨by decide, by decide⟩ rfl rfl h0 rfl (Nat.le_of_ble_eq_true rfl) (Nat.le_of_ble_eq_true rfl) (Nat.le_of_ble_eq_true rfl) (w_takeRange f u hK W1 (by omega) hfu hu) (fun S1 h1 => ?_)
      obtain ⟨R2, I2, rfl, W2, i2⟩ := h1
      refine WP_aload_n dX4_raise_23 rfl ?_
      refine gf_RX4_19 dX4_raise_24 rfl rfl h0 ?_
      refine WP_iload_n dX4_raise_27 rfl ?_
      rw [e3]
      refine callVv mX3_addToAll [_] dX4_raise_28 okc_X3_addToAll ok_381 ⟨by decide, by decide⟩ rfl rfl k3 rfl (Nat.le_of_ble_eq_true rfl) (Nat.le_of_ble_eq_true rfl) (Nat.le_of_ble_eq_true rfl) (c_addToAll (E 3) d (rgT t f u).2.1 [(rgT t f u).1, c, (rgT t f u).2.2] k3 W2.2.1.2.2.1 (by omega) (cF_perm cF_mid W2.1)) (fun S1 h1 => ?_)
      obtain ⟨I3, rfl, F3, r3⟩ := h1
      have W3 : cW E L K R2 I3 ((rgT t f u).1, c, rai d (rgT t f u).2.1, (rgT t f u).2.2) (rgN (begC n) t f u) := by
        refine ⟨cF_perm cF_mid.symm F3, ⟨W2.2.1.1, W2.2.1.2.1, W2.2.1.2.2.1.trans (rk_rai kA _ _).symm, W2.2.1.2.2.2⟩, ?_⟩
        rw [← W2.2.2]
        simp [cnO, r3]
      refine WP_aload_n dX4_raise_31 rfl ?_
      refine callVv mX4_putRangeBack [] dX4_raise_32 okc_X4_putRangeBack ok_362 ⟨by decide, by decide⟩ rfl rfl h0 rfl (Nat.le_of_ble_eq_true rfl) (Nat.le_of_ble_eq_true rfl) (Nat.le_of_ble_eq_true rfl) (w_putBack hK W3 (by rw [tsz_rai]; omega)) (fun S1 h1 => ?_)
      obtain ⟨R4, I4, rfl, W4, i4⟩ := h1
      refine WP_aload_n dX4_raise_35 rfl ?_
      refine gf_RX4_41 dX4_raise_36 rfl rfl h0 ?_
      refine WP_iload_n dX4_raise_39 rfl ?_
      refine WP_iload_n dX4_raise_40 rfl ?_
      refine WP_iload_n dX4_raise_41 rfl ?_
      rw [e7]
      have i9 : I4 2 = Ic 2 := i4.trans ((r3 2 (by decide)).trans (i2.trans i1))
      refine callVv mX1_addToAll [_, _, _] dX4_raise_42 okc_X1_addToAll ok_385 ⟨by decide, by decide⟩ rfl rfl k7.1 rfl (Nat.le_of_ble_eq_true rfl) (Nat.le_of_ble_eq_true rfl) (Nat.le_of_ble_eq_true rfl) (c_addRow (E 7) (E 9) f u (tsz t) d k7 (by rw [i9, hl1]) (by omega) hfu hu) (fun S1 h1 => ?_)
      subst h1
      refine WP_iload_n dX4_raise_45 rfl ?_
      refine WP_iload_n dX4_raise_46 rfl ?_
      refine WP_isub dX4_raise_47 ?_
      refine WP_ireturn dX4_raise_48 rfl rfl (Nat.le_of_ble_eq_true rfl) (Nat.le_of_ble_eq_true rfl) ?_
      refine cR_ok (A := (t, c, fg, n)) (cI_rg hI hfu hu (fun p => ?_) (tsz_rai _ _) W4 i9 ?_ (va_up_ne _ _ (Ne.symm d910)))
      · unfold ids
        rw [io_rai, List.map_map]
        rfl
      · rw [va_up_self]
        exact add_rows d hfu hu hv1
theorem same_rows {g : Nat → Int32} {f u : Nat} (hfu : f ≤ u) (hu : u ≤ tsz t) (h : rowV g (vls t)) : rowV g (vls (jn3 (rgT t f u))) := by
  rw [show vls (jn3 (rgT t f u)) = vls t from (vls3 _ _ _).trans (vls_rg hfu hu).symm]
  exact h
theorem cW_nd {x : T4} (hW : cW E L K Rc Ic x n) : (kl kA x.1).Nodup ∧ (kl kA x.2.1).Nodup ∧ (kl kA x.2.2.1).Nodup :=
  ⟨nodup_hd hW.1, nodup_hd (cF_perm (List.Perm.swap _ _ _) hW.1), nodup_hd (cF_perm cF_mid hW.1)⟩
theorem k_sum (x y : Int32) (hI : cI E L K AN R0 Rc Ic AIc AR (t, c, fg, n)) :
    MT G mX4_sum [vr (some (E 0)), vi x, vi y] (mkS L K AN R0 Rc Ic AIc AR Im AIm AL) (cR [xO] (cJ E L K AN R0 Im AIm AL) (aSum (t, c, fg, n) x y)) := by
  have hI9 := hI
  obtain ⟨hK, hW, ⟨hl1, hl2⟩, hv1, hv2, hfg, hA1, hA2⟩ := hI9
  have hW : cW E L K Rc Ic (t, c, .leaf, .leaf) n := hW
  have hl1 : Ic 2 (E 7) = nI (tsz t) := hl1
  have hl2 : Ic 2 (E 8) = nI (tsz c) := hl2
  have hv1 : rowV (AIc (E 9)) (vls t) := hv1
  have hv2 : rowV (AIc (E 10)) (vls c) := hv2
  have hfg : ∀ k, k < 4 → AR (E 6) k = (fg k).map (·.1) := hfg
  have hs : tsz t + tsz c ≤ 60 := hA1
  have hA2 : ∀ k p, k < 4 → fg k = some p → p ∈ ids t ∨ p ∈ ids c := hA2
  have h0 := hK.1
  obtain ⟨k1, k2, k3, k4⟩ := hK.2.2.1
  have k5 := hK.2.2.2.1
  obtain ⟨k6, n6⟩ := hK.2.2.2.2.1
  have k7 := hK.2.2.2.2.2.1
  have k8 := hK.2.2.2.2.2.2.1
  obtain ⟨d78, d910⟩ := hK.2.2.2.2.2.2.2.1
  obtain ⟨e1, e2, e3, e4, e5, e6, e7, e8⟩ := hK.2.1
  refine MT_of (by decide) rfl (Nat.le_of_ble_eq_true rfl) ?_
  refine WP_aload_n dX4_sum_0 rfl ?_
  refine WP_iload_n dX4_sum_1 rfl ?_
  refine WP_iload_n dX4_sum_2 rfl ?_
  refine callVtv mX4_checkRange [_, _] dX4_sum_3 okc_X4_checkRange ok_333 ⟨by decide, by decide⟩ rfl rfl h0 rfl (Nat.le_of_ble_eq_true rfl) (Nat.le_of_ble_eq_true rfl) (Nat.le_of_ble_eq_true rfl) (c_checkRange x y hK hW (by omega)) rfl (fun E9 S9 ht => ?_) (fun S1 h1 => ?_)
  · obtain ⟨⟨rfl, hx⟩, rfl⟩ := ht
    unfold aSum
    rw [if_neg hx]
    exact cR_thr rfl hI
  · obtain ⟨hr, rfl⟩ := h1
    obtain ⟨f, u, hfu, hu, rfl, rfl⟩ := inR_of hr (by omega)
    have z1 := rgT_sz t f u hu hfu
    have ez : aSum (t, c, fg, n) (nI f) (nI u) = (0, smT (rgT t f u).2.1, (jn3 (rgT t f u), c, fg, jn3N (rgN (begC n) t f u) (rgT t f u))) := by
      unfold aSum rgA
      rw [if_pos hr, pI_n (by omega), pI_n (by omega)]
      rfl
    rw [ez]
    refine WP_aload_n dX4_sum_6 rfl ?_
    refine gf_RX4_28 dX4_sum_7 rfl rfl h0 ?_
    rw [e5]
    refine callVv mX2_beginCall [] dX4_sum_10 okc_X2_beginCall ok_225 ⟨by decide, by decide⟩ rfl rfl k5 rfl (Nat.le_of_ble_eq_true rfl) (Nat.le_of_ble_eq_true rfl) (Nat.le_of_ble_eq_true rfl) (w_begin hK hW) (fun S1 h1 => ?_)
    obtain ⟨R1, I1, rfl, W1, i1⟩ := h1
    refine WP_aload_n dX4_sum_13 rfl ?_
    refine WP_iload_n dX4_sum_14 rfl ?_
    refine WP_iload_n dX4_sum_15 rfl ?_
    refine callVv mX4_takeRange [_, _] dX4_sum_16 okc_X4_takeRange ok_338 ⟨by decide, by decide⟩ rfl rfl h0 rfl (Nat.le_of_ble_eq_true rfl) (Nat.le_of_ble_eq_true rfl) (Nat.le_of_ble_eq_true rfl) (w_takeRange f u hK W1 (by omega) hfu hu) (fun S1 h1 => ?_)
    obtain ⟨R2, I2, rfl, W2, i2⟩ := h1
    refine WP_aload_n dX4_sum_19 rfl ?_
    refine gf_RX4_19 dX4_sum_20 rfl rfl h0 ?_
    rw [e3]
    refine callVi mX3_total [] dX4_sum_23 okc_X3_total ok_396 ⟨by decide, by decide⟩ rfl rfl k3 rfl (Nat.le_of_ble_eq_true rfl) (Nat.le_of_ble_eq_true rfl) (Nat.le_of_ble_eq_true rfl) (c_total (E 3) (rgT t f u).2.1 k3 W2.2.1.2.2.1 (by omega) (cW_nd W2).2.2 (cW_T W2).2.2.1) (fun x1 S1 h1 => ?_)
    obtain ⟨rfl, rfl⟩ := h1
    refine WP_istore_n dX4_sum_26 (by decide) rfl ?_
    refine WP_aload_n dX4_sum_27 rfl ?_
    refine callVv mX4_putRangeBack [] dX4_sum_28 okc_X4_putRangeBack ok_362 ⟨by decide, by decide⟩ rfl rfl h0 rfl (Nat.le_of_ble_eq_true rfl) (Nat.le_of_ble_eq_true rfl) (Nat.le_of_ble_eq_true rfl) (w_putBack hK W2 (by omega)) (fun S1 h1 => ?_)
    obtain ⟨R4, I4, rfl, W4, i4⟩ := h1
    refine WP_iload_n dX4_sum_31 rfl ?_
    refine WP_ireturn dX4_sum_32 rfl rfl (Nat.le_of_ble_eq_true rfl) (Nat.le_of_ble_eq_true rfl) ?_
    exact cR_ok (A := (t, c, fg, n)) (cI_rg hI hfu hu (fun p => Iff.rfl) rfl W4 (i4.trans (i2.trans i1)) (same_rows hfu hu hv1) rfl)
theorem k_least (x y : Int32) (hI : cI E L K AN R0 Rc Ic AIc AR (t, c, fg, n)) :
    MT G mX4_least [vr (some (E 0)), vi x, vi y] (mkS L K AN R0 Rc Ic AIc AR Im AIm AL) (cR [xO, xA] (cJ E L K AN R0 Im AIm AL) (aLow (t, c, fg, n) x y)) := by
  have hI9 := hI
  obtain ⟨hK, hW, ⟨hl1, hl2⟩, hv1, hv2, hfg, hA1, hA2⟩ := hI9
  have hW : cW E L K Rc Ic (t, c, .leaf, .leaf) n := hW
  have hl1 : Ic 2 (E 7) = nI (tsz t) := hl1
  have hl2 : Ic 2 (E 8) = nI (tsz c) := hl2
  have hv1 : rowV (AIc (E 9)) (vls t) := hv1
  have hv2 : rowV (AIc (E 10)) (vls c) := hv2
  have hfg : ∀ k, k < 4 → AR (E 6) k = (fg k).map (·.1) := hfg
  have hs : tsz t + tsz c ≤ 60 := hA1
  have hA2 : ∀ k p, k < 4 → fg k = some p → p ∈ ids t ∨ p ∈ ids c := hA2
  have h0 := hK.1
  obtain ⟨k1, k2, k3, k4⟩ := hK.2.2.1
  have k5 := hK.2.2.2.1
  obtain ⟨k6, n6⟩ := hK.2.2.2.2.1
  have k7 := hK.2.2.2.2.2.1
  have k8 := hK.2.2.2.2.2.2.1
  obtain ⟨d78, d910⟩ := hK.2.2.2.2.2.2.2.1
  obtain ⟨e1, e2, e3, e4, e5, e6, e7, e8⟩ := hK.2.1
  refine MT_of (by decide) rfl (Nat.le_of_ble_eq_true rfl) ?_
  refine WP_aload_n dX4_least_0 rfl ?_
  refine WP_iload_n dX4_least_1 rfl ?_
  refine WP_iload_n dX4_least_2 rfl ?_
  refine callVtv mX4_checkRange [_, _] dX4_least_3 okc_X4_checkRange ok_333 ⟨by decide, by decide⟩ rfl rfl h0 rfl (Nat.le_of_ble_eq_true rfl) (Nat.le_of_ble_eq_true rfl) (Nat.le_of_ble_eq_true rfl) (c_checkRange x y hK hW (by omega)) rfl (fun E9 S9 ht => ?_) (fun S1 h1 => ?_)
  · obtain ⟨⟨rfl, hx⟩, rfl⟩ := ht
    unfold aLow
    rw [if_neg hx]
    exact cR_thr rfl hI
  · obtain ⟨hr, rfl⟩ := h1
    refine WP_iload_n dX4_least_6 rfl ?_
    refine WP_iload_n dX4_least_7 rfl ?_
    refine WP_icmp_ne 21 dX4_least_8 (by decide) (fun hxy => ?_) (fun hxy => ?_)
    · obtain ⟨f, u, hfu, hu, rfl, rfl⟩ := inR_of hr (by omega)
      have z1 := rgT_sz t f u hu hfu
      have ez : aLow (t, c, fg, n) (nI f) (nI u) = (0, lowT (rgT t f u).2.1, (jn3 (rgT t f u), c, fg, jn3N (rgN (begC n) t f u) (rgT t f u))) := by
        unfold aLow rgA
        rw [if_pos hr, if_neg hxy, pI_n (by omega), pI_n (by omega)]
        rfl
      rw [ez]
      have hne : f ≠ u := fun e => hxy (by rw [e])
      refine WP_aload_n dX4_least_21 rfl ?_
      refine gf_RX4_28 dX4_least_22 rfl rfl h0 ?_
      rw [e5]
      refine callVv mX2_beginCall [] dX4_least_25 okc_X2_beginCall ok_225 ⟨by decide, by decide⟩ rfl rfl k5 rfl (Nat.le_of_ble_eq_true rfl) (Nat.le_of_ble_eq_true rfl) (Nat.le_of_ble_eq_true rfl) (w_begin hK hW) (fun S1 h1 => ?_)
      obtain ⟨R1, I1, rfl, W1, i1⟩ := h1
      refine WP_aload_n dX4_least_28 rfl ?_
      refine WP_iload_n dX4_least_29 rfl ?_
      refine WP_iload_n dX4_least_30 rfl ?_
      refine callVv mX4_takeRange [_, _] dX4_least_31 okc_X4_takeRange ok_338 ⟨by decide, by decide⟩ rfl rfl h0 rfl (Nat.le_of_ble_eq_true rfl) (Nat.le_of_ble_eq_true rfl) (Nat.le_of_ble_eq_true rfl) (w_takeRange f u hK W1 (by omega) hfu hu) (fun S1 h1 => ?_)
      obtain ⟨R2, I2, rfl, W2, i2⟩ := h1
      refine WP_aload_n dX4_least_34 rfl ?_
      refine gf_RX4_19 dX4_least_35 rfl rfl h0 ?_
      rw [e3]
      have hlow : MT G mX3_lowest [vr (some (E 3))] (mkS L K AN R0 R2 I2 AIc AR Im AIm AL) (rI (fun x S' => x = lowT (rgT t f u).2.1 ∧ S' = mkS L K AN R0 R2 I2 AIc AR Im AIm AL)) := by
        have hc := (cW_T W2).2.2.1
        have hn := (cW_nd W2).2.2
        have hr3 := W2.2.1.2.2.1
        have hz : tsz (rgT t f u).2.1 ≤ 60 := by omega
        have h9 : tsz (rgT t f u).2.1 ≠ 0 := by omega
        revert hc hn hr3 hz h9
        show cT L K R2 I2 (rgT t f u).2.1 → (kl kA (rgT t f u).2.1).Nodup → R2 3 (E 3) = rk kA (rgT t f u).2.1 → _
        cases (rgT t f u).2.1 with
        | leaf => exact fun _ _ _ _ h => absurd rfl h
        | inner a i v l r => exact fun hc hn hr3 hz _ => c_lowest (E 3) a i v l r k3 hr3 hz hn hc
      refine callVi mX3_lowest [] dX4_least_38 okc_X3_lowest ok_408 ⟨by decide, by decide⟩ rfl rfl k3 rfl (Nat.le_of_ble_eq_true rfl) (Nat.le_of_ble_eq_true rfl) (Nat.le_of_ble_eq_true rfl) (hlow) (fun x1 S1 h1 => ?_)
      obtain ⟨rfl, rfl⟩ := h1
      refine WP_istore_n dX4_least_41 (by decide) rfl ?_
      refine WP_aload_n dX4_least_42 rfl ?_
      refine callVv mX4_putRangeBack [] dX4_least_43 okc_X4_putRangeBack ok_362 ⟨by decide, by decide⟩ rfl rfl h0 rfl (Nat.le_of_ble_eq_true rfl) (Nat.le_of_ble_eq_true rfl) (Nat.le_of_ble_eq_true rfl) (w_putBack hK W2 (by omega)) (fun S1 h1 => ?_)
      obtain ⟨R4, I4, rfl, W4, i4⟩ := h1
      refine WP_iload_n dX4_least_46 rfl ?_
      refine WP_ireturn dX4_least_47 rfl rfl (Nat.le_of_ble_eq_true rfl) (Nat.le_of_ble_eq_true rfl) ?_
      exact cR_ok (A := (t, c, fg, n)) (cI_rg hI hfu hu (fun p => Iff.rfl) rfl W4 (i4.trans (i2.trans i1)) (same_rows hfu hu hv1) rfl)
    · refine WP_throw "java/lang/IllegalArgumentException" "an empty range has no least value" 148 150 152 rfl rfl (by decide +kernel) ok_303 ok_21 sr_150 sx_150 tw_A to_A cst_A dX4_least_11 dX4_least_14 dX4_least_15 dX4_least_17 dX4_least_20 (by decide) (Nat.le_of_ble_eq_true rfl) (Nat.le_of_ble_eq_true rfl) (Nat.le_of_ble_eq_true rfl) ?_
      unfold aLow
      rw [if_pos hr, if_pos hxy]
      exact cR_thr rfl hI
end CLS
