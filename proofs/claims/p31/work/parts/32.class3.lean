/-! ===== SplaySequence: what each call does (3): fingers ===== -/
section CL3
variable {G : GC} {L : List Nat} {K AN : Nat → Nat} {R0 Rc : Nat → Nat → Option Nat} {Ic AIc Im AIm : Nat → Nat → Int32} {AR : Nat → Nat → Option Nat} {AL : Nat → Nat → Int64} {E : Nat → Nat} {t c : Tr} {fg : Nat → Option (Nat × Nat)} {n : Cn}
theorem zat_io {k : Nat} (hk : k < tsz t) : rk kA (zat t k []).1 = ((io t)[k]?).map (·.1) := by
  obtain ⟨fs, a, i, v, l, r, z1, -, -, -, -, -, z2⟩ := at_zip hk
  rw [z1, z2]
  rfl
theorem k_point (f x : Int32) (hI : cI E L K AN R0 Rc Ic AIc AR (t, c, fg, n)) :
    MT G mX4_point [vr (some (E 0)), vi f, vi x] (mkS L K AN R0 Rc Ic AIc AR Im AIm AL) (cR [xO] (cJ E L K AN R0 Im AIm AL) (aPoi (t, c, fg, n) f x)) := by
  have hI9 := hI
  obtain ⟨hK, hW, ⟨hl1, hl2⟩, hv1, hv2, hfg, hA1, hA2⟩ := hI9
  have hW : cW E L K Rc Ic (t, c, .leaf, .leaf) n := hW
  have hl1 : Ic 2 (E 7) = nI (tsz t) := hl1
  have hl2 : Ic 2 (E 8) = nI (tsz c) := hl2
  have hv1 : rowV (AIc (E 9)) (vls t) := hv1
  have hv2 : rowV (AIc (E 10)) (vls c) := hv2
  have hfg : ∀ k, k < 4 → AR (E 6) k = (fg k).map (·.1) := hfg
  have hs : tsz t + tsz c ≤ 60 := hA1
  have hA2 : ∀ k p, k < 4 → fg k = some p → p ∈ ids t ∨ p ∈ ids c := hA2
  have h0 := hK.1
  obtain ⟨k1, k2, k3, k4⟩ := hK.2.2.1
  have k5 := hK.2.2.2.1
  obtain ⟨k6, n6⟩ := hK.2.2.2.2.1
  have k7 := hK.2.2.2.2.2.1
  have k8 := hK.2.2.2.2.2.2.1
  obtain ⟨d78, d910⟩ := hK.2.2.2.2.2.2.2.1
  obtain ⟨e1, e2, e3, e4, e5, e6, e7, e8⟩ := hK.2.1
  refine MT_of (by decide) rfl (Nat.le_of_ble_eq_true rfl) ?_
  refine WP_aload_n dX4_point_0 rfl ?_
  refine WP_iload_n dX4_point_1 rfl ?_
  refine callVtv mX4_checkFinger [_] dX4_point_2 okc_X4_checkFinger ok_466 ⟨by decide, by decide⟩ rfl rfl h0 rfl (Nat.le_of_ble_eq_true rfl) (Nat.le_of_ble_eq_true rfl) (Nat.le_of_ble_eq_true rfl) (c_checkFinger f hK) rfl (fun E9 S9 ht => ?_) (fun S1 h1 => ?_)
  · obtain ⟨⟨rfl, hx⟩, rfl⟩ := ht
    unfold aPoi
    rw [if_neg (fun h => hx h.1)]
    exact cR_thr rfl hI
  · obtain ⟨hf, rfl⟩ := h1
    refine WP_aload_n dX4_point_5 rfl ?_
    refine WP_iload_n dX4_point_6 rfl ?_
    refine callVtr mX4_nodeAt [_] dX4_point_7 okc_X4_nodeAt ok_149 ⟨by decide, by decide⟩ rfl rfl h0 rfl (Nat.le_of_ble_eq_true rfl) (Nat.le_of_ble_eq_true rfl) (Nat.le_of_ble_eq_true rfl) (c_nodeAt x hK hW (by omega)) rfl (fun E9 S9 ht => ?_) (fun a S1 h1 => ?_)
    · obtain ⟨⟨rfl, hx⟩, rfl⟩ := ht
      unfold aPoi
      rw [if_neg (fun h => hx h.2)]
      exact cR_thr rfl hI
    · obtain ⟨⟨k, hk, rfl, ha⟩, rfl⟩ := h1
      obtain ⟨j, hj, rfl⟩ := inP_of hf (by decide)
      obtain ⟨i, v, l, r, u1, u2', u3, u4, u5⟩ := upT_at hk ha
      have ez : aPoi (t, c, fg, n) (nI j) (nI k) = (0, v, (upT t k, c, va_up fg j (some (a, i)), addC (begC n) (upC t k))) := by
        unfold aPoi
        rw [if_pos ⟨hf, inP_nI hk (by omega)⟩, pI_n (by omega), pI_n (by omega), u4, u5]
      rw [ez]
      refine WP_astore_n dX4_point_10 (by decide) rfl ?_
      refine WP_aload_n dX4_point_11 rfl ?_
      refine gf_RX4_28 dX4_point_12 rfl rfl h0 ?_
      rw [e5]
      refine callVv mX2_beginCall [] dX4_point_15 okc_X2_beginCall ok_225 ⟨by decide, by decide⟩ rfl rfl k5 rfl (Nat.le_of_ble_eq_true rfl) (Nat.le_of_ble_eq_true rfl) (Nat.le_of_ble_eq_true rfl) (w_begin hK hW) (fun S1 h1 => ?_)
      obtain ⟨R1, I1, rfl, W1, i1⟩ := h1
      refine WP_aload_n dX4_point_18 rfl ?_
      refine gf_RX4_28 dX4_point_19 rfl rfl h0 ?_
      refine WP_aload_n dX4_point_22 rfl ?_
      refine gf_RX4_10 dX4_point_23 rfl rfl h0 ?_
      refine WP_aload_n dX4_point_26 rfl ?_
      rw [e5, e1]
      refine callVv mX2_splay [_, _] dX4_point_27 okc_X2_splay ok_229 ⟨by decide, by decide⟩ rfl rfl k5 rfl (Nat.le_of_ble_eq_true rfl) (Nat.le_of_ble_eq_true rfl) (Nat.le_of_ble_eq_true rfl) (w_splay hK W1 hk (by omega) ha) (fun S1 h1 => ?_)
      obtain ⟨R2, I2, rfl, W2, i2⟩ := h1
      have hc := (cW_T W2).1
      rw [u1] at hc
      obtain ⟨ka, -, -, -, -, kv⟩ := cz (fs := []) hc
      refine WP_aload_n dX4_point_30 rfl ?_
      refine gf_RX4_34 dX4_point_31 rfl rfl h0 ?_
      rw [e6]
      refine WP_iload_n dX4_point_34 rfl ?_
      refine WP_aload_n dX4_point_35 rfl ?_
      refine ast_9 j 4 dX4_point_36 rfl k6 n6 rfl hj (by decide) (fun y hy => by cases hy; exact ka) ?_
      refine WP_aload_n dX4_point_37 rfl ?_
      refine gf_RX4_118 dX4_point_38 rfl rfl ka ?_
      rw [kv]
      refine WP_ireturn dX4_point_41 rfl rfl (Nat.le_of_ble_eq_true rfl) (Nat.le_of_ble_eq_true rfl) ?_
      have hC := cI_up hI (up_io hk) W2 (i2.trans i1)
      obtain ⟨-, q1, q2, q3, q4, q5, q6, q7⟩ := hC
      refine cR_ok (A := (t, c, fg, n)) ⟨hK, q1, q2, q3, q4, fun q hq => ?_, q6, fun q p h1 h2 => ?_⟩
      · rw [va_up_self]
        show va_up (AR (E 6)) j (some a) q = (va_up fg j (some (a, i)) q).map (·.1)
        by_cases e : q = j
        · rw [e, va_up_self, va_up_self]
          rfl
        · rw [va_up_ne _ _ e, va_up_ne _ _ e]
          exact hfg q hq
      · have h2 : va_up fg j (some (a, i)) q = some p := h2
        by_cases e : q = j
        · rw [e, va_up_self] at h2
          cases h2
          refine Or.inl (List.mem_map.mpr ⟨(a, i, v), ?_, rfl⟩)
          show (a, i, v) ∈ io (upT t k)
          rw [up_io hk, ← u2']
          simp
        · rw [va_up_ne _ _ e] at h2
          exact q7 q p h1 h2
theorem w_holds {m r : Tr} (p : Nat × Nat) (hK : cK E L K AN R0) (hW : cW E L K Rc Ic (t, c, m, r) n) (hp : p ∈ ids t ∨ p ∈ ids c) :
    MT G mX3_holds [vr (some (E 1)), vr (some p.1)] (mkS L K AN R0 Rc Ic AIc AR Im AIm AL) (rI (fun x S' => x = (if p ∈ ids t then 1 else 0) ∧ S' = mkS L K AN R0 Rc Ic AIc AR Im AIm AL)) := by
  have hr1 : Rc 3 (E 1) = rk kA t := hW.2.1.1
  by_cases h : p ∈ ids t
  · obtain ⟨fs, v, l, r, z1, -⟩ := pos_at (t := t) (cW_nd hW).1 h
    have hc : cT L K Rc Ic t := (cW_T hW).1
    rw [z1] at hc
    refine (c_holds (E 1) p.1 p.2 v l r fs hK.2.2.1.1 hc).imp (fun _ S' h1 => ?_)
    obtain ⟨x, h1, rfl, rfl⟩ := h1
    refine ⟨_, h1, ?_, rfl⟩
    rw [if_pos h, if_pos (by rw [hr1, ← z1])]
  · have h2 : p ∈ ids c := hp.resolve_left h
    obtain ⟨fs, v, l, r, z1, -⟩ := pos_at (t := c) (cW_nd hW).2.1 h2
    have hc : cT L K Rc Ic c := (cW_T hW).2.1
    rw [z1] at hc
    refine (c_holds (E 1) p.1 p.2 v l r fs hK.2.2.1.1 hc).imp (fun _ S' h1 => ?_)
    obtain ⟨x, h1, rfl, rfl⟩ := h1
    refine ⟨_, h1, ?_, rfl⟩
    rw [if_neg h, if_neg]
    rw [hr1, ← z1]
    intro e
    have hnc : c ≠ .leaf := by
      rintro rfl
      cases h2
    have hnd : (kl kA t ++ (kl kA c ++ (kl kA m ++ (kl kA _ ++ [])))).Nodup := hW.1.2
    cases c with
    | leaf => exact hnc rfl
    | inner a' i' v' l' r' =>
      have m1 : a' ∈ kl kA t := rk_mem kA (t := t) (show rk kA t = some a' from e.symm)
      have m2 : a' ∈ kl kA (nd a' i' v' l' r') := rk_mem kA rfl
      exact (List.nodup_append.mp hnd).2.2 a' m1 a' (List.mem_append_left _ m2) rfl
theorem k_follow (f : Int32) (hI : cI E L K AN R0 Rc Ic AIc AR (t, c, fg, n)) :
    MT G mX4_follow [vr (some (E 0)), vi f] (mkS L K AN R0 Rc Ic AIc AR Im AIm AL) (cR [xO] (cJ E L K AN R0 Im AIm AL) (aFol (t, c, fg, n) f)) := by
  have hI9 := hI
  obtain ⟨hK, hW, ⟨hl1, hl2⟩, hv1, hv2, hfg, hA1, hA2⟩ := hI9
  have hW : cW E L K Rc Ic (t, c, .leaf, .leaf) n := hW
  have hl1 : Ic 2 (E 7) = nI (tsz t) := hl1
  have hl2 : Ic 2 (E 8) = nI (tsz c) := hl2
  have hv1 : rowV (AIc (E 9)) (vls t) := hv1
  have hv2 : rowV (AIc (E 10)) (vls c) := hv2
  have hfg : ∀ k, k < 4 → AR (E 6) k = (fg k).map (·.1) := hfg
  have hs : tsz t + tsz c ≤ 60 := hA1
  have hA2 : ∀ k p, k < 4 → fg k = some p → p ∈ ids t ∨ p ∈ ids c := hA2
  have h0 := hK.1
  obtain ⟨k1, k2, k3, k4⟩ := hK.2.2.1
  have k5 := hK.2.2.2.1
  obtain ⟨k6, n6⟩ := hK.2.2.2.2.1
  have k7 := hK.2.2.2.2.2.1
  have k8 := hK.2.2.2.2.2.2.1
  obtain ⟨d78, d910⟩ := hK.2.2.2.2.2.2.2.1
  obtain ⟨e1, e2, e3, e4, e5, e6, e7, e8⟩ := hK.2.1
  refine MT_of (by decide) rfl (Nat.le_of_ble_eq_true rfl) ?_
  refine WP_aload_n dX4_follow_0 rfl ?_
  refine WP_iload_n dX4_follow_1 rfl ?_
  refine callVtv mX4_checkFinger [_] dX4_follow_2 okc_X4_checkFinger ok_466 ⟨by decide, by decide⟩ rfl rfl h0 rfl (Nat.le_of_ble_eq_true rfl) (Nat.le_of_ble_eq_true rfl) (Nat.le_of_ble_eq_true rfl) (c_checkFinger f hK) rfl (fun E9 S9 ht => ?_) (fun S1 h1 => ?_)
  · obtain ⟨⟨rfl, hx⟩, rfl⟩ := ht
    unfold aFol
    rw [if_neg hx]
    exact cR_thr rfl hI
  · obtain ⟨hf, rfl⟩ := h1
    obtain ⟨j, hj, rfl⟩ := inP_of hf (by decide)
    refine WP_aload_n dX4_follow_5 rfl ?_
    refine gf_RX4_34 dX4_follow_6 rfl rfl h0 ?_
    rw [e6]
    refine WP_iload_n dX4_follow_9 rfl ?_
    refine ald_9 j 4 dX4_follow_10 rfl k6 n6 rfl hj (by decide) ?_
    refine WP_astore_n dX4_follow_11 (by decide) rfl ?_
    refine WP_aload_n dX4_follow_12 rfl ?_
    refine gf_RX4_28 dX4_follow_13 rfl rfl h0 ?_
    rw [hfg j hj, e5]
    refine callVv mX2_beginCall [] dX4_follow_16 okc_X2_beginCall ok_225 ⟨by decide, by decide⟩ rfl rfl k5 rfl (Nat.le_of_ble_eq_true rfl) (Nat.le_of_ble_eq_true rfl) (Nat.le_of_ble_eq_true rfl) (w_begin hK hW) (fun S1 h1 => ?_)
    obtain ⟨R1, I1, rfl, W1, i1⟩ := h1
    refine WP_aload_n dX4_follow_19 rfl ?_
    cases hg : fg j with
    | none =>
      have ez : aFol (t, c, fg, n) (nI j) = (0, -1, (t, c, fg, begC n)) := by
        unfold aFol
        rw [if_pos hf, pI_n (by omega)]
        show (match fg j with | none => _ | some p => _) = _
        rw [hg]
      rw [ez]
      refine WP_ifnull 34 dX4_follow_20 (by decide) (fun h1 => ?_) (fun p9 h1 => ?_)
      · refine WP_iconst (-1) dX4_follow_34 (by decide) ?_
        refine WP_ireturn dX4_follow_35 rfl rfl (Nat.le_of_ble_eq_true rfl) (Nat.le_of_ble_eq_true rfl) ?_
        exact cR_ok (A := (t, c, fg, n)) (cI_up hI rfl W1 i1)
      · cases h1
    | some p =>
      have hp := hA2 j p hj hg
      refine WP_ifnull 34 dX4_follow_20 (by decide) (fun h1 => ?_) (fun p9 h1 => ?_)
      · cases h1
      · have h1 : some p.1 = some p9 := h1
        cases h1
        refine WP_aload_n dX4_follow_23 rfl ?_
        refine gf_RX4_10 dX4_follow_24 rfl rfl h0 ?_
        refine WP_aload_n dX4_follow_27 rfl ?_
        rw [e1]
        refine callVi mX3_holds [_] dX4_follow_28 okc_X3_holds ok_478 ⟨by decide, by decide⟩ rfl rfl k1 rfl (Nat.le_of_ble_eq_true rfl) (Nat.le_of_ble_eq_true rfl) (Nat.le_of_ble_eq_true rfl) (w_holds p hK W1 hp) (fun x1 S1 h1 => ?_)
        obtain ⟨rfl, rfl⟩ := h1
        by_cases hin : p ∈ ids t
        · rw [if_pos hin]
          obtain ⟨fs, v, l, r, z1, z2, z3, z4, z5⟩ := pos_at (t := t) (cW_nd W1).1 hin
          have ez : aFol (t, c, fg, n) (nI j) = (0, nI (posA t p), (upT t (posA t p), c, fg, addC (begC n) (upC t (posA t p)))) := by
            unfold aFol
            rw [if_pos hf, pI_n (by omega)]
            show (match fg j with | none => _ | some p => _) = _
            rw [hg]
            exact if_pos hin
          rw [ez]
          refine WP_if_ne 36 dX4_follow_31 (by decide) (fun h2 => ?_) (fun h2 => ?_)
          · refine WP_aload_n dX4_follow_36 rfl ?_
            refine gf_RX4_28 dX4_follow_37 rfl rfl h0 ?_
            refine WP_aload_n dX4_follow_40 rfl ?_
            refine gf_RX4_10 dX4_follow_41 rfl rfl h0 ?_
            refine WP_aload_n dX4_follow_44 rfl ?_
            rw [e5, e1]
            refine callVv mX2_splay [_, _] dX4_follow_45 okc_X2_splay ok_229 ⟨by decide, by decide⟩ rfl rfl k5 rfl (Nat.le_of_ble_eq_true rfl) (Nat.le_of_ble_eq_true rfl) (Nat.le_of_ble_eq_true rfl) (w_splay hK W1 z3 (by omega) z4) (fun S1 h1 => ?_)
            obtain ⟨R2, I2, rfl, W2, i2⟩ := h1
            obtain ⟨i, v', l', r', u1, u2', u3, u4, u5⟩ := upT_at z3 z4
            have hc := (cW_T W2).1
            have hnd := (cW_nd W2).1
            rw [u1] at hc hnd
            have ka := (cz (fs := []) hc).1
            refine WP_aload_n dX4_follow_48 rfl ?_
            refine callVi mX0_position [] dX4_follow_49 okc_X0_position ok_486 ⟨by decide, by decide⟩ rfl rfl ka rfl (Nat.le_of_ble_eq_true rfl) (Nat.le_of_ble_eq_true rfl) (Nat.le_of_ble_eq_true rfl) (c_position p.1 i v' l' r' [] hnd hc) (fun x1 S1 h1 => ?_)
            obtain ⟨rfl, rfl⟩ := h1
            refine WP_ireturn dX4_follow_52 rfl rfl (Nat.le_of_ble_eq_true rfl) (Nat.le_of_ble_eq_true rfl) ?_
            have ep : (bef []).length + tsz l' = posA t p := by
              rw [← u3, io_len]
              exact Nat.zero_add _
            rw [ep]
            exact cR_ok (A := (t, c, fg, n)) (cI_up hI (up_io z3) W2 (i2.trans i1))
          · exact absurd h2 (by decide)
        · rw [if_neg hin]
          have ez : aFol (t, c, fg, n) (nI j) = (0, -1, (t, c, fg, begC n)) := by
            unfold aFol
            rw [if_pos hf, pI_n (by omega)]
            show (match fg j with | none => _ | some p => _) = _
            rw [hg]
            exact if_neg hin
          rw [ez]
          refine WP_if_ne 36 dX4_follow_31 (by decide) (fun h2 => ?_) (fun h2 => ?_)
          · exact absurd rfl h2
          · refine WP_iconst (-1) dX4_follow_34 (by decide) ?_
            refine WP_ireturn dX4_follow_35 rfl rfl (Nat.le_of_ble_eq_true rfl) (Nat.le_of_ble_eq_true rfl) ?_
            exact cR_ok (A := (t, c, fg, n)) (cI_up hI rfl W1 i1)
theorem i64_add {k : Nat} (hk : k < 2 ^ 31) (b : Int32) : ((nI k).toInt64 + b.toInt64).toInt = (k : Int) + b.toInt := by
  have h1 := Int32.le_toInt b
  have h2 := Int32.toInt_lt b
  rw [Int64.toInt_add, Int32.toInt_toInt64, Int32.toInt_toInt64, nI_toInt hk]
  exact Int.bmod_eq_of_le (by omega) (by omega)
theorem i64_to {x : Int64} {q : Nat} (h : x.toInt = (q : Int)) (hq : q < 2 ^ 31) : x.toInt32 = nI q := by
  apply Int32.toInt_inj.mp
  rw [Int64.toInt_toInt32, h, nI_toInt hq]
  exact Int.bmod_eq_of_le (by omega) (by omega)
theorem i32_neg {k : Nat} (hk : k < 2 ^ 31) : (-(nI k)).toInt = -(k : Int) := by
  rw [Int32.toInt_neg, nI_toInt hk]
  exact Int.bmod_eq_of_le (by omega) (by omega)
theorem i32_sub {k m : Nat} (hk : k < 2 ^ 31) (hm : m < 2 ^ 31) : (nI m - nI k).toInt = (m : Int) - (k : Int) := by
  rw [Int32.toInt_sub, nI_toInt hk, nI_toInt hm]
  exact Int.bmod_eq_of_le (by omega) (by omega)
theorem i32_add {k q : Nat} {b : Int32} (hk : k < 2 ^ 31) (hq : q < 2 ^ 31) (h : (k : Int) + b.toInt = (q : Int)) : nI k + b = nI q := by
  apply Int32.toInt_inj.mp
  rw [Int32.toInt_add, nI_toInt hk, nI_toInt hq, h]
  exact Int.bmod_eq_of_le (by omega) (by omega)
theorem k_move (f b : Int32) (hI : cI E L K AN R0 Rc Ic AIc AR (t, c, fg, n)) :
    MT G mX4_move [vr (some (E 0)), vi f, vi b] (mkS L K AN R0 Rc Ic AIc AR Im AIm AL) (cR [xO, xS] (cJ E L K AN R0 Im AIm AL) (aMov (t, c, fg, n) f b)) := by
  have hI9 := hI
  obtain ⟨hK, hW, ⟨hl1, hl2⟩, hv1, hv2, hfg, hA1, hA2⟩ := hI9
  have hW : cW E L K Rc Ic (t, c, .leaf, .leaf) n := hW
  have hl1 : Ic 2 (E 7) = nI (tsz t) := hl1
  have hl2 : Ic 2 (E 8) = nI (tsz c) := hl2
  have hv1 : rowV (AIc (E 9)) (vls t) := hv1
  have hv2 : rowV (AIc (E 10)) (vls c) := hv2
  have hfg : ∀ k, k < 4 → AR (E 6) k = (fg k).map (·.1) := hfg
  have hs : tsz t + tsz c ≤ 60 := hA1
  have hA2 : ∀ k p, k < 4 → fg k = some p → p ∈ ids t ∨ p ∈ ids c := hA2
  have h0 := hK.1
  obtain ⟨k1, k2, k3, k4⟩ := hK.2.2.1
  have k5 := hK.2.2.2.1
  obtain ⟨k6, n6⟩ := hK.2.2.2.2.1
  have k7 := hK.2.2.2.2.2.1
  have k8 := hK.2.2.2.2.2.2.1
  obtain ⟨d78, d910⟩ := hK.2.2.2.2.2.2.2.1
  obtain ⟨e1, e2, e3, e4, e5, e6, e7, e8⟩ := hK.2.1
  refine MT_of (by decide) rfl (Nat.le_of_ble_eq_true rfl) ?_
  refine WP_aload_n dX4_move_0 rfl ?_
  refine WP_iload_n dX4_move_1 rfl ?_
  refine callVtv mX4_checkFinger [_] dX4_move_2 okc_X4_checkFinger ok_466 ⟨by decide, by decide⟩ rfl rfl h0 rfl (Nat.le_of_ble_eq_true rfl) (Nat.le_of_ble_eq_true rfl) (Nat.le_of_ble_eq_true rfl) (c_checkFinger f hK) rfl (fun E9 S9 ht => ?_) (fun S1 h1 => ?_)
  · obtain ⟨⟨rfl, hx⟩, rfl⟩ := ht
    unfold aMov
    rw [if_neg hx]
    exact cR_thr rfl hI
  · obtain ⟨hf, rfl⟩ := h1
    obtain ⟨j, hj, rfl⟩ := inP_of hf (by decide)
    refine WP_aload_n dX4_move_5 rfl ?_
    refine gf_RX4_34 dX4_move_6 rfl rfl h0 ?_
    rw [e6]
    refine WP_iload_n dX4_move_9 rfl ?_
    refine ald_9 j 4 dX4_move_10 rfl k6 n6 rfl hj (by decide) ?_
    refine WP_astore_n dX4_move_11 (by decide) rfl ?_
    refine WP_aload_n dX4_move_12 rfl ?_
    rw [hfg j hj]
    cases hg : fg j with
    | none =>
      have ez : aMov (t, c, fg, n) (nI j) b = (2, 0, (t, c, fg, n)) := by
        unfold aMov
        rw [if_pos hf, pI_n (by omega)]
        show (match fg j with | none => _ | some p => _) = _
        rw [hg]
      rw [ez]
      refine WP_ifnull 27 dX4_move_13 (by decide) (fun h1 => ?_) (fun p9 h1 => ?_)
      · refine WP_throw "java/lang/IllegalStateException" "the finger is not on a node of the sequence" 59 176 63 rfl rfl (by decide +kernel) ok_423 ok_23 sr_176 sx_176 tw_S to_S cst_S dX4_move_27 dX4_move_30 dX4_move_31 dX4_move_33 dX4_move_36 (by decide) (Nat.le_of_ble_eq_true rfl) (Nat.le_of_ble_eq_true rfl) (Nat.le_of_ble_eq_true rfl) ?_
        exact cR_thr rfl hI
      · cases h1
    | some p =>
      have hp := hA2 j p hj hg
      refine WP_ifnull 27 dX4_move_13 (by decide) (fun h1 => ?_) (fun p9 h1 => ?_)
      · cases h1
      · have h1 : some p.1 = some p9 := h1
        cases h1
        refine WP_aload_n dX4_move_16 rfl ?_
        refine gf_RX4_10 dX4_move_17 rfl rfl h0 ?_
        refine WP_aload_n dX4_move_20 rfl ?_
        rw [e1]
        refine callVi mX3_holds [_] dX4_move_21 okc_X3_holds ok_478 ⟨by decide, by decide⟩ rfl rfl k1 rfl (Nat.le_of_ble_eq_true rfl) (Nat.le_of_ble_eq_true rfl) (Nat.le_of_ble_eq_true rfl) (w_holds p hK hW hp) (fun x1 S1 h1 => ?_)
        obtain ⟨rfl, rfl⟩ := h1
        have ez2 : ¬ (p ∈ ids t ∧ 0 ≤ (posA t p : Int) + b.toInt ∧ (posA t p : Int) + b.toInt < tsz t) → aMov (t, c, fg, n) (nI j) b = (2, 0, (t, c, fg, n)) := by
          intro h
          unfold aMov
          rw [if_pos hf, pI_n (by omega)]
          show (match fg j with | none => _ | some p => _) = _
          rw [hg]
          exact if_neg h
        by_cases hin : p ∈ ids t
        · rw [if_pos hin]
          obtain ⟨fs, v, l, r, z1, z2, z3, z4, z5⟩ := pos_at (t := t) (cW_nd hW).1 hin
          have hc : cT L K Rc Ic t := (cW_T hW).1
          have hnd : (kl kA t).Nodup := (cW_nd hW).1
          rw [z1] at hc hnd
          have kp := (cz hc).1
          refine WP_if_ne 37 dX4_move_24 (by decide) (fun h2 => ?_) (fun h2 => ?_)
          · refine WP_aload_n dX4_move_37 rfl ?_
            refine callVi mX0_position [] dX4_move_38 okc_X0_position ok_486 ⟨by decide, by decide⟩ rfl rfl kp rfl (Nat.le_of_ble_eq_true rfl) (Nat.le_of_ble_eq_true rfl) (Nat.le_of_ble_eq_true rfl) (c_position p.1 p.2 v l r fs hnd hc) (fun x1 S1 h1 => ?_)
            obtain ⟨rfl, rfl⟩ := h1
            rw [z2]
            have hb1 := i32_neg (k := posA t p) (by omega)
            have hb2 := i32_sub (k := posA t p) (m := tsz t) (by omega) (by omega)
            refine WP_istore dX4_move_41 (by decide) rfl ?_
            refine WP_iload_n dX4_move_43 rfl ?_
            refine WP_iload dX4_move_44 rfl ?_
            refine WP_ineg dX4_move_46 ?_
            refine WP_icmp_lt 64 dX4_move_47 (by decide) (fun h3 => ?_) (fun h3 => ?_)
            · rw [ez2 (fun h => by
                have h4 := Int32.lt_iff_toInt_lt.mp h3
                omega)]
              refine WP_throw "java/lang/IllegalStateException" "there is no such new position" 59 178 63 rfl rfl (by decide +kernel) ok_423 ok_23 sr_178 sx_178 tw_S to_S cst_S dX4_move_64 dX4_move_67 dX4_move_68 dX4_move_70 dX4_move_73 (by decide) (Nat.le_of_ble_eq_true rfl) (Nat.le_of_ble_eq_true rfl) (Nat.le_of_ble_eq_true rfl) ?_
              exact cR_thr rfl hI
            · have h3 : 0 ≤ (posA t p : Int) + b.toInt := by
                have h4 : ¬ _ := fun h => h3 (Int32.lt_iff_toInt_lt.mpr h)
                omega
              refine WP_iload_n dX4_move_50 rfl ?_
              refine WP_aload_n dX4_move_51 rfl ?_
              refine gf_RX4_10 dX4_move_52 rfl rfl h0 ?_
              rw [e1]
              refine callVi mX3_count [] dX4_move_55 okc_X3_count ok_134 ⟨by decide, by decide⟩ rfl rfl k1 rfl (Nat.le_of_ble_eq_true rfl) (Nat.le_of_ble_eq_true rfl) (Nat.le_of_ble_eq_true rfl) (c_count (E 1) t k1 hW.2.1.1 (cW_T hW).1) (fun x1 S1 h1 => ?_)
              obtain ⟨rfl, rfl⟩ := h1
              refine WP_iload dX4_move_58 rfl ?_
              refine WP_isub dX4_move_60 ?_
              refine WP_icmp_lt 74 dX4_move_61 (by decide) (fun h4 => ?_) (fun h4 => ?_)
              · have h4 := Int32.lt_iff_toInt_lt.mp h4
                have h6 : (posA t p : Int) + b.toInt < tsz t := by omega
                obtain ⟨q, hq⟩ : ∃ q : Nat, (posA t p : Int) + b.toInt = (q : Int) := ⟨((posA t p : Int) + b.toInt).toNat, by omega⟩
                have hqt : q < tsz t := by omega
                have ez : aMov (t, c, fg, n) (nI j) b = (0, nI q, (upT (upT t (posA t p)) q, c, va_up fg j (some (idAt t q)), addC (addC (begC n) (upC t (posA t p))) (upC (upT t (posA t p)) q))) := by
                  unfold aMov
                  rw [if_pos hf, pI_n (by omega)]
                  show (match fg j with | none => _ | some p => _) = _
                  rw [hg]
                  show (if p ∈ ids t ∧ 0 ≤ (posA t p : Int) + b.toInt ∧ (posA t p : Int) + b.toInt < tsz t then _ else _) = _
                  rw [if_pos ⟨hin, h3, h6⟩, hq, Int.toNat_natCast]
                rw [ez]
                refine WP_iload dX4_move_74 rfl ?_
                refine WP_iload_n dX4_move_76 rfl ?_
                refine WP_iadd dX4_move_77 ?_
                rw [i32_add (by omega) (by omega) hq]
                refine WP_istore dX4_move_78 (by decide) rfl ?_
                refine WP_aload_n dX4_move_80 rfl ?_
                refine WP_iload dX4_move_81 rfl ?_
                refine callVtr mX4_nodeAt [_] dX4_move_83 okc_X4_nodeAt ok_149 ⟨by decide, by decide⟩ rfl rfl h0 rfl (Nat.le_of_ble_eq_true rfl) (Nat.le_of_ble_eq_true rfl) (Nat.le_of_ble_eq_true rfl) (c_nodeAt (nI q) hK hW (by omega)) rfl (fun E9 S9 ht => ?_) (fun a S1 h1 => ?_)
                · exact absurd (inP_nI hqt (by omega)) ht.1.2
                · obtain ⟨⟨k, hk, hqk, ha⟩, rfl⟩ := h1
                  obtain rfl : q = k := (nI_eq (by omega) (by omega)).mp hqk
                  refine WP_astore dX4_move_86 (by decide) rfl ?_
                  refine WP_aload_n dX4_move_88 rfl ?_
                  refine gf_RX4_28 dX4_move_89 rfl rfl h0 ?_
                  rw [e5]
                  refine callVv mX2_beginCall [] dX4_move_92 okc_X2_beginCall ok_225 ⟨by decide, by decide⟩ rfl rfl k5 rfl (Nat.le_of_ble_eq_true rfl) (Nat.le_of_ble_eq_true rfl) (Nat.le_of_ble_eq_true rfl) (w_begin hK hW) (fun S1 h1 => ?_)
                  obtain ⟨R1, I1, rfl, W1, i1⟩ := h1
                  refine WP_aload_n dX4_move_95 rfl ?_
                  refine gf_RX4_28 dX4_move_96 rfl rfl h0 ?_
                  refine WP_aload_n dX4_move_99 rfl ?_
                  refine gf_RX4_10 dX4_move_100 rfl rfl h0 ?_
                  refine WP_aload_n dX4_move_103 rfl ?_
                  rw [e5, e1]
                  refine callVv mX2_splay [_, _] dX4_move_104 okc_X2_splay ok_229 ⟨by decide, by decide⟩ rfl rfl k5 rfl (Nat.le_of_ble_eq_true rfl) (Nat.le_of_ble_eq_true rfl) (Nat.le_of_ble_eq_true rfl) (w_splay hK W1 z3 (by omega) z4) (fun S1 h1 => ?_)
                  obtain ⟨R2, I2, rfl, W2, i2⟩ := h1
                  have hio := up_io z3
                  have hsz : tsz (upT t (posA t p)) = tsz t := io_tsz hio
                  have hk2 : q < tsz (upT t (posA t p)) := by omega
                  have ha2 : rk kA (zat (upT t (posA t p)) q []).1 = some a := by
                    rw [zat_io hk2, hio, ← zat_io hk, ha]
                  refine WP_aload_n dX4_move_107 rfl ?_
                  refine gf_RX4_28 dX4_move_108 rfl rfl h0 ?_
                  refine WP_aload_n dX4_move_111 rfl ?_
                  refine gf_RX4_10 dX4_move_112 rfl rfl h0 ?_
                  refine WP_aload dX4_move_115 rfl ?_
                  rw [e5, e1]
                  refine callVv mX2_splay [_, _] dX4_move_117 okc_X2_splay ok_229 ⟨by decide, by decide⟩ rfl rfl k5 rfl (Nat.le_of_ble_eq_true rfl) (Nat.le_of_ble_eq_true rfl) (Nat.le_of_ble_eq_true rfl) (w_splay hK W2 hk2 (by omega) ha2) (fun S1 h1 => ?_)
                  obtain ⟨R3, I3, rfl, W3, i3⟩ := h1
                  obtain ⟨i, v', l', r', u1, u2', u3, u4, u5⟩ := upT_at hk2 ha2
                  have hc3 := (cW_T W3).1
                  rw [u1] at hc3
                  have ka := (cz (fs := []) hc3).1
                  have hid : idAt t q = (a, i) := by
                    rw [← u5]
                    unfold idAt
                    rw [ids_io hio]
                  refine WP_aload_n dX4_move_120 rfl ?_
                  refine gf_RX4_34 dX4_move_121 rfl rfl h0 ?_
                  rw [e6]
                  refine WP_iload_n dX4_move_124 rfl ?_
                  refine WP_aload dX4_move_125 rfl ?_
                  refine ast_9 j 4 dX4_move_127 rfl k6 n6 rfl hj (by decide) (fun y hy => by cases hy; exact ka) ?_
                  refine WP_iload dX4_move_128 rfl ?_
                  refine WP_ireturn dX4_move_130 rfl rfl (Nat.le_of_ble_eq_true rfl) (Nat.le_of_ble_eq_true rfl) ?_
                  have hC := cI_up hI ((up_io hk2).trans hio) W3 (i3.trans (i2.trans i1))
                  obtain ⟨-, q1, q2, q3, q4, q5, q6, q7⟩ := hC
                  rw [hid]
                  refine cR_ok (A := (t, c, fg, n)) ⟨hK, q1, q2, q3, q4, fun q hq => ?_, q6, fun q p h1 h2 => ?_⟩
                  · rw [va_up_self]
                    show va_up (AR (E 6)) j (some a) q = (va_up fg j (some (a, i)) q).map (·.1)
                    by_cases e : q = j
                    · rw [e, va_up_self, va_up_self]
                      rfl
                    · rw [va_up_ne _ _ e, va_up_ne _ _ e]
                      exact hfg q hq
                  · have h2 : va_up fg j (some (a, i)) q = some p := h2
                    by_cases e : q = j
                    · rw [e, va_up_self] at h2
                      cases h2
                      refine Or.inl (List.mem_map.mpr ⟨(a, i, v'), ?_, rfl⟩)
                      show (a, i, v') ∈ io (upT (upT t _) _)
                      rw [up_io hk2, ← u2']
                      simp
                    · rw [va_up_ne _ _ e] at h2
                      exact q7 q p h1 h2
              · rw [ez2 (fun h => by
                  have h6 : ¬ _ := fun h => h4 (Int32.lt_iff_toInt_lt.mpr h)
                  omega)]
                refine WP_throw "java/lang/IllegalStateException" "there is no such new position" 59 178 63 rfl rfl (by decide +kernel) ok_423 ok_23 sr_178 sx_178 tw_S to_S cst_S dX4_move_64 dX4_move_67 dX4_move_68 dX4_move_70 dX4_move_73 (by decide) (Nat.le_of_ble_eq_true rfl) (Nat.le_of_ble_eq_true rfl) (Nat.le_of_ble_eq_true rfl) ?_
                exact cR_thr rfl hI
          · exact absurd h2 (by decide)
        · rw [if_neg hin, ez2 (fun h => hin h.1)]
          refine WP_if_ne 37 dX4_move_24 (by decide) (fun h2 => ?_) (fun h2 => ?_)
          · exact absurd rfl h2
          · refine WP_throw "java/lang/IllegalStateException" "the finger is not on a node of the sequence" 59 176 63 rfl rfl (by decide +kernel) ok_423 ok_23 sr_176 sx_176 tw_S to_S cst_S dX4_move_27 dX4_move_30 dX4_move_31 dX4_move_33 dX4_move_36 (by decide) (Nat.le_of_ble_eq_true rfl) (Nat.le_of_ble_eq_true rfl) (Nat.le_of_ble_eq_true rfl) ?_
            exact cR_thr rfl hI
end CL3
