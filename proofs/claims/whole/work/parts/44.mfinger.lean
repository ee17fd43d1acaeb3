/-! ===== the model: fingers ===== -/
theorem okl_155 : okw (.constantLong RX5 155 (-1)) := ⟨List.mem_of_getElem? (i := 876) (by decide +kernel), by decide +kernel⟩
theorem WP_ldc2 {G : GC} {M : MD} {Q : RS → SS → Prop} {k n pc : Nat} {lv : List (Nat × VV)} {st : List VV} {S : SS} {idx : Nat} (v : Int64) (dg : decode M.2.1 pc = .ok (.ldc2_w idx, 3)) (hk : okw (.constantLong M.1.cls idx v)) (kk : WP G M Q k n (pc + 3) lv (vl v :: st) S) : WP G M Q k n pc lv st S := fun p e s m args below meth c H locs ls C hh hS hl =>
  lv_ldc2 C.1 C.2.1 C.2.2.2.2.2.1 (cx_ok (args := args) C hk) dg (kk p e s m args below meth c H locs ls C hh hS hl)
section MFI
variable {G : GC} {L : List Nat} {K AN : Nat → Nat} {R0 Rc : Nat → Nat → Option Nat} {Ic AIc Im AIm I1 A1 : Nat → Nat → Int32} {AR : Nat → Nat → Option Nat} {AL : Nat → Nat → Int64} {W : Nat → Nat} {t c m : Tr} {fg fg' : Nat → Option (Nat × Nat)} {n : Cn} {F : List Tr}
theorem mI_fing {f : Nat → Int32} (hI : mI W L K AN R0 Im AIm (t, c, fg, n)) (h6 : ∀ k, k < 4 → f k = ix ((fg' k).map (·.2))) : mI W L K AN R0 Im (va_up AIm (W 6) f) (t, c, fg', n) := by
  obtain ⟨hM, h1, hF, hn, hv, hth, hfg⟩ := hI
  have d : ∀ j, j ≠ 6 → 1 ≤ j ∧ j ≤ 7 → va_up AIm (W 6) f (W j) = AIm (W j) := fun j hj hj2 => va_up_ne _ _ (mK_d hM hj hj2 (by decide))
  refine ⟨hM, h1, mF_same (d 2 (by decide) (by decide)) (d 3 (by decide) (by decide)) (d 4 (by decide) (by decide)) hF, hn, ?_, ?_, fun k hk => ?_⟩
  · rw [d 1 (by decide) (by decide)]
    exact hv
  · rw [d 5 (by decide) (by decide)]
    exact hth
  · rw [va_up_self]
    exact h6 k hk
theorem p_point (f x : Int32) (hA : AI (t, c, fg, n)) (hI : mI W L K AN R0 Im AIm (t, c, fg, n)) :
    MT G mX5_point [vr (some (W 0)), vi f, vi x] (mkS L K AN R0 Rc Ic AIc AR Im AIm AL) (mR W L K AN R0 Rc Ic AIc AR AL (aPoi (t, c, fg, n) f x)) := by
  obtain ⟨hM, ⟨ht, hc⟩, hF, hcn, hv, ⟨hth1, hth0⟩, hfg⟩ := id hI
  have ht : Im 1 (W 0) = ix (rk kI t) := ht
  have hc : Im 2 (W 0) = ix (rk kI c) := hc
  have hF : mF W AIm [t, c] := hF
  have hcn : cmO Im W = n := hcn
  have hfg : ∀ k, k < 4 → AIm (W 6) k = ix ((fg k).map (·.2)) := hfg
  have hs : tsz t + tsz c ≤ 60 := hA.1
  have hst : tsz t ≤ 60 := by omega
  have hmt := hF.1 t List.mem_cons_self
  have hnt := mF_hd hF
  obtain ⟨m0, ⟨f1, f2, f3, f4, f5, f6, f7⟩, ⟨⟨q1, n1⟩, ⟨q2, n2⟩, ⟨q3, n3⟩, ⟨q4, n4⟩, ⟨q5, n5⟩, ⟨q6, n6⟩, ⟨q7, n7⟩⟩, hne⟩ := id hM
  have bad : ∀ I1 A1, mS W Im AIm I1 A1 → ¬ (inP 4 f ∧ inP (tsz t) x) → WP G mX5_point (mR W L K AN R0 Rc Ic AIc AR AL (aPoi (t, c, fg, n) f x)) 0 0 20 [] [vr (some (W 0))] (mkS L K AN R0 Rc Ic AIc AR I1 A1 AL) := by
    intro I1 A1 s1 hx
    refine WP_iconst (1) dX5_point_20 (by decide) ?_
    refine callVi mX5_goesWell [_] dX5_point_21 okc_X5_goesWell ok_749 ⟨by decide, by decide⟩ rfl rfl m0 rfl (Nat.le_of_ble_eq_true rfl) (Nat.le_of_ble_eq_true rfl) (Nat.le_of_ble_eq_true rfl) (m_goesWell 1 hM) (fun x1 S1 h1 => ?_)
    obtain ⟨rfl, rfl⟩ := h1
    rw [if_neg (by decide)]
    refine WP_if_ne 29 dX5_point_24 (by decide) (fun hb => absurd hb (by decide)) (fun _ => ?_)
    refine WP_iconst (0) dX5_point_27 (by decide) ?_
    refine WP_ireturn dX5_point_28 rfl rfl (Nat.le_of_ble_eq_true rfl) (Nat.le_of_ble_eq_true rfl) ?_
    have ez : aPoi (t, c, fg, n) f x = (1, 0, (t, c, fg, n)) := by
      unfold aPoi
      rw [if_neg hx]
    rw [ez]
    exact mR_thr hI s1
  refine MT_of (by decide) rfl (Nat.le_of_ble_eq_true rfl) ?_
  refine WP_aload_n dX5_point_0 rfl ?_
  refine WP_iload_n dX5_point_1 rfl ?_
  refine callSi mX5_isFinger [_] dX5_point_2 okc_X5_isFinger ok_849 ⟨by decide, by decide⟩ rfl rfl (Nat.le_of_ble_eq_true rfl) (Nat.le_of_ble_eq_true rfl) (Nat.le_of_ble_eq_true rfl) (m_isFinger f) rfl (fun x1 S1 h1 => ?_)
  obtain ⟨rfl, rfl⟩ := h1
  by_cases hf : inP 4 f
  · rw [if_pos hf]
    refine WP_if_eq 20 dX5_point_5 (by decide) (fun hb => absurd hb (by decide)) (fun _ => ?_)
    refine WP_aload_n dX5_point_8 rfl ?_
    refine WP_iload_n dX5_point_9 rfl ?_
    refine callVi mX5_isPlace [_] dX5_point_10 okc_X5_isPlace ok_781 ⟨by decide, by decide⟩ rfl rfl m0 rfl (Nat.le_of_ble_eq_true rfl) (Nat.le_of_ble_eq_true rfl) (Nat.le_of_ble_eq_true rfl) (m_isPlace x hM ht hmt hnt hst) (fun x1 S1 h1 => ?_)
    obtain ⟨rfl, I1, A1, rfl, s1, -⟩ := h1
    by_cases hx : inP (tsz t) x
    · rw [if_pos hx]
      refine WP_if_eq 20 dX5_point_13 (by decide) (fun hb => absurd hb (by decide)) (fun _ => ?_)
      refine WP_iconst (0) dX5_point_16 (by decide) ?_
      refine WP_goto 21 dX5_point_17 (by decide) ?_
      refine callVi mX5_goesWell [_] dX5_point_21 okc_X5_goesWell ok_749 ⟨by decide, by decide⟩ rfl rfl m0 rfl (Nat.le_of_ble_eq_true rfl) (Nat.le_of_ble_eq_true rfl) (Nat.le_of_ble_eq_true rfl) (m_goesWell 0 hM) (fun x1 S1 h1 => ?_)
      obtain ⟨rfl, rfl⟩ := h1
      rw [if_pos rfl]
      have hI2 := mI_S hI s1 0
      have th : (u2 I1 0 (W 0) 0) 0 (W 0) = 0 := u2_eq _ _ _ _
      generalize u2 I1 0 (W 0) 0 = Im2 at hI2 th ⊢
      obtain ⟨-, ⟨ht2, hc2⟩, hF2, hn2, hv2, -, hfg2⟩ := id hI2
      have ht2 : Im2 1 (W 0) = ix (rk kI t) := ht2
      have hc2 : Im2 2 (W 0) = ix (rk kI c) := hc2
      have hF2 : mF W A1 [t, c] := hF2
      have hn2 : cmO Im2 W = n := hn2
      have hv2 : ∀ x, mB t c x → A1 (W 1) x.2.1 = x.2.2 := hv2
      refine WP_if_ne 29 dX5_point_24 (by decide) (fun _ => ?_) (fun hb => absurd hb (by decide))
      obtain ⟨k, hk, rfl⟩ := inP_of hx (by omega)
      obtain ⟨j, hj, rfl⟩ := inP_of hf (by decide)
      have ez : aPoi (t, c, fg, n) (nI j) (nI k) = (0, vAt t k, (upT t k, c, va_up fg j (some (idAt t k)), addC (begC n) (upC t k))) := by
        unfold aPoi
        rw [if_pos ⟨hf, hx⟩, pI_n (by omega), pI_n (by omega)]
      rw [ez]
      refine WP_aload_n dX5_point_29 rfl ?_
      refine callVv mX5_begins [] dX5_point_30 okc_X5_begins ok_753 ⟨by decide, by decide⟩ rfl rfl m0 rfl (Nat.le_of_ble_eq_true rfl) (Nat.le_of_ble_eq_true rfl) (Nat.le_of_ble_eq_true rfl) (m_begins hM) (fun S1 h1 => ?_)
      obtain ⟨I3, rfl, j3, c3⟩ := h1
      refine WP_aload_n dX5_point_33 rfl ?_
      refine gf_RX5_33 dX5_point_34 rfl rfl m0 ?_
      refine WP_iload_n dX5_point_37 rfl ?_
      refine WP_aload_n dX5_point_38 rfl ?_
      refine WP_iload_n dX5_point_39 rfl ?_
      refine callVi mX5_raiseUp [_] dX5_point_40 okc_X5_raiseUp ok_797 ⟨by decide, by decide⟩ rfl rfl m0 rfl (Nat.le_of_ble_eq_true rfl) (Nat.le_of_ble_eq_true rfl) (Nat.le_of_ble_eq_true rfl) (m_raiseUp k hM (by rw [j3 1 (by decide)]; exact ht2) hF2 hst hk) (fun x1 S1 h1 => ?_)
      obtain ⟨rfl, I4, A4, rfl, F4, X4, c4, h60⟩ := h1
      refine ast_7 j 4 dX5_point_43 f6 q6 n6 rfl hj (by decide) ?_
      refine WP_aload_n dX5_point_44 rfl ?_
      refine gf_RX5_16 dX5_point_45 rfl rfl m0 ?_
      refine WP_aload_n dX5_point_48 rfl ?_
      refine gf_RX5_33 dX5_point_49 rfl rfl m0 ?_
      refine WP_iload_n dX5_point_52 rfl ?_
      refine ald_7 j 4 dX5_point_53 f6 q6 n6 rfl hj (by decide) ?_
      rw [va_up_self, pk_us]
      refine ald_7 ((idAt t k).2) 60 dX5_point_54 f1 q1 n1 rfl h60 (by decide) ?_
      rw [va_up_ne _ _ (mK_d hM (show 1 ≠ 6 by decide) (by decide) (by decide)), show A4 (W 1) (idAt t k).2 = vAt t k from by rw [X4.2.1]; exact hv2 _ (mB_at hk)]
      refine WP_ireturn dX5_point_55 rfl rfl (Nat.le_of_ble_eq_true rfl) (Nat.le_of_ble_eq_true rfl) ?_
      refine ⟨_, _, _, rfl, fun _ => rfl, rfl, mI_fing (fg := fg) (mI_mk hI2 (mB_up hk) F4 ?_ ?_ ?_ X4.2.1 X4.2.2.1 X4.2.2.2) (fun q hq => ?_), ?_⟩
      · rw [X4.1 1 (by decide), u2_eq]
      · rw [X4.1 2 (by decide), u2_o _ _ _ (by decide), j3 2 (by decide)]
        exact hc2
      · rw [c4, c3, hn2]
      · by_cases e : q = j
        · rw [e, pk_us, va_up_self]
          rfl
        · rw [pk_un e, va_up_ne _ _ e, X4.2.2.2]
          exact hfg2 q hq
      · rw [X4.1 0 (by decide), u2_o _ _ _ (by decide), j3 0 (by decide)]
        exact th
    · rw [if_neg hx]
      refine WP_if_eq 20 dX5_point_13 (by decide) (fun _ => ?_) (fun hb => absurd hb (by decide))
      refine WP_lv [] (fun _ h9 => absurd h9 List.not_mem_nil) ?_
      exact bad _ _ s1 (fun h => hx h.2)
  · rw [if_neg hf]
    refine WP_if_eq 20 dX5_point_5 (by decide) (fun _ => ?_) (fun hb => absurd hb (by decide))
    refine WP_lv [] (fun _ h9 => absurd h9 List.not_mem_nil) ?_
    exact bad _ _ mS_refl (fun h => hf h.1)
theorem m_placeP {p : Nat × Nat} (hM : mK W L K AN R0) (hm : mT W AIm t) (hn : (kl kI t).Nodup) (hs : tsz t ≤ 60) (hp : p ∈ ids t) :
    MT G mX5_placeOf [vr (some (W 0)), vi (nI p.2)] (mkS L K AN R0 Rc Ic AIc AR Im AIm AL) (rI (fun x S' => x = nI (posA t p) ∧ pO W L K AN R0 Rc Ic AIc AR Im AIm AL (fun _ _ => True) S')) := by
  obtain ⟨fs, v, l, r, z1, z2, -⟩ := pos_atI hn hp
  rw [← z2]
  exact m_placeOf p.1 p.2 v l r fs hM z1 hm hn hs
theorem pos_io {t t' : Tr} (h : io t' = io t) (p : Nat × Nat) : posA t' p = posA t p := by
  unfold posA
  rw [ids_io h]
theorem p_follow (f : Int32) (hA : AI (t, c, fg, n)) (hI : mI W L K AN R0 Im AIm (t, c, fg, n)) :
    MT G mX5_follow [vr (some (W 0)), vi f] (mkS L K AN R0 Rc Ic AIc AR Im AIm AL) (mR W L K AN R0 Rc Ic AIc AR AL (aFol (t, c, fg, n) f)) := by
  obtain ⟨hM, ⟨ht, hc⟩, hF, hcn, hv, ⟨hth1, hth0⟩, hfg⟩ := id hI
  have ht : Im 1 (W 0) = ix (rk kI t) := ht
  have hc : Im 2 (W 0) = ix (rk kI c) := hc
  have hF : mF W AIm [t, c] := hF
  have hcn : cmO Im W = n := hcn
  have hfg : ∀ k, k < 4 → AIm (W 6) k = ix ((fg k).map (·.2)) := hfg
  have hs : tsz t + tsz c ≤ 60 := hA.1
  have hst : tsz t ≤ 60 := by omega
  have hmt := hF.1 t List.mem_cons_self
  have hnt := mF_hd hF
  obtain ⟨m0, ⟨f1, f2, f3, f4, f5, f6, f7⟩, ⟨⟨q1, n1⟩, ⟨q2, n2⟩, ⟨q3, n3⟩, ⟨q4, n4⟩, ⟨q5, n5⟩, ⟨q6, n6⟩, ⟨q7, n7⟩⟩, hne⟩ := id hM
  refine MT_of (by decide) rfl (Nat.le_of_ble_eq_true rfl) ?_
  refine WP_aload_n dX5_follow_0 rfl ?_
  refine WP_iload_n dX5_follow_1 rfl ?_
  refine callSi mX5_isFinger [_] dX5_follow_2 okc_X5_isFinger ok_849 ⟨by decide, by decide⟩ rfl rfl (Nat.le_of_ble_eq_true rfl) (Nat.le_of_ble_eq_true rfl) (Nat.le_of_ble_eq_true rfl) (m_isFinger f) rfl (fun x1 S1 h1 => ?_)
  obtain ⟨rfl, rfl⟩ := h1
  by_cases hf : inP 4 f
  · rw [if_pos hf]
    refine WP_if_eq 12 dX5_follow_5 (by decide) (fun hb => absurd hb (by decide)) (fun _ => ?_)
    refine WP_iconst (0) dX5_follow_8 (by decide) ?_
    refine WP_goto 13 dX5_follow_9 (by decide) ?_
    refine callVi mX5_goesWell [_] dX5_follow_13 okc_X5_goesWell ok_749 ⟨by decide, by decide⟩ rfl rfl m0 rfl (Nat.le_of_ble_eq_true rfl) (Nat.le_of_ble_eq_true rfl) (Nat.le_of_ble_eq_true rfl) (m_goesWell 0 hM) (fun x1 S1 h1 => ?_)
    obtain ⟨rfl, rfl⟩ := h1
    rw [if_pos rfl]
    have hI2 := mI_S hI mS_refl 0
    have th : (u2 Im 0 (W 0) 0) 0 (W 0) = 0 := u2_eq _ _ _ _
    generalize u2 Im 0 (W 0) 0 = Im2 at hI2 th ⊢
    obtain ⟨-, ⟨ht2, hc2⟩, hF2, hn2, hv2, -, hfg2⟩ := id hI2
    have ht2 : Im2 1 (W 0) = ix (rk kI t) := ht2
    have hc2 : Im2 2 (W 0) = ix (rk kI c) := hc2
    have hn2 : cmO Im2 W = n := hn2
    refine WP_if_ne 21 dX5_follow_16 (by decide) (fun _ => ?_) (fun hb => absurd hb (by decide))
    obtain ⟨j, hj, rfl⟩ := inP_of hf (by decide)
    refine WP_aload_n dX5_follow_21 rfl ?_
    refine callVv mX5_begins [] dX5_follow_22 okc_X5_begins ok_753 ⟨by decide, by decide⟩ rfl rfl m0 rfl (Nat.le_of_ble_eq_true rfl) (Nat.le_of_ble_eq_true rfl) (Nat.le_of_ble_eq_true rfl) (m_begins hM) (fun S1 h1 => ?_)
    obtain ⟨I3, rfl, j3, c3⟩ := h1
    have ht3 : I3 1 (W 0) = ix (rk kI t) := by rw [j3 1 (by decide)]; exact ht2
    have hfin : mI W L K AN R0 I3 AIm (t, c, fg, begC n) := mI_mk hI2 (fun _ => Iff.rfl) hF ht3 (by rw [j3 2 (by decide)]; exact hc2) (by rw [c3, hn2]) rfl rfl rfl
    refine WP_aload_n dX5_follow_25 rfl ?_
    refine WP_aload_n dX5_follow_26 rfl ?_
    refine gf_RX5_33 dX5_follow_27 rfl rfl m0 ?_
    refine WP_iload_n dX5_follow_30 rfl ?_
    refine ald_7 j 4 dX5_follow_31 f6 q6 n6 rfl hj (by decide) ?_
    rw [hfg j hj]
    refine callVi mX5_isInSequence [_] dX5_follow_32 okc_X5_isInSequence ok_856 ⟨by decide, by decide⟩ rfl rfl m0 rfl (Nat.le_of_ble_eq_true rfl) (Nat.le_of_ble_eq_true rfl) (Nat.le_of_ble_eq_true rfl) (m_inSeq (fg j) hM ht3 hF (fun p hp => hA.2 j p hj hp)) (fun x1 S1 h1 => ?_)
    obtain ⟨rfl, rfl⟩ := h1
    cases hg : fg j with
    | none =>
      rw [if_neg (fun ⟨p, h, _⟩ => by cases h)]
      have ez : aFol (t, c, fg, n) (nI j) = (0, -1, (t, c, fg, begC n)) := by
        unfold aFol
        rw [if_pos hf, pI_n (by omega)]
        show (match fg j with | none => _ | some p => _) = _
        rw [hg]
      rw [ez]
      refine WP_if_eq 59 dX5_follow_35 (by decide) (fun _ => ?_) (fun hb => absurd hb (by decide))
      refine WP_iconst (-1) dX5_follow_59 (by decide) ?_
      refine WP_ireturn dX5_follow_60 rfl rfl (Nat.le_of_ble_eq_true rfl) (Nat.le_of_ble_eq_true rfl) ?_
      exact ⟨_, _, _, rfl, fun _ => rfl, rfl, hfin, by rw [j3 0 (by decide)]; exact th⟩
    | some p =>
      by_cases hin : p ∈ ids t
      · rw [if_pos ⟨p, rfl, hin⟩]
        have ez : aFol (t, c, fg, n) (nI j) = (0, nI (posA t p), (upT t (posA t p), c, fg, addC (begC n) (upC t (posA t p)))) := by
          unfold aFol
          rw [if_pos hf, pI_n (by omega)]
          show (match fg j with | none => _ | some p => _) = _
          rw [hg]
          exact if_pos hin
        rw [ez]
        obtain ⟨fs, v, l, r, z1, z2, z3, z4, z5⟩ := pos_atI hnt hin
        refine WP_if_eq 59 dX5_follow_35 (by decide) (fun hb => absurd hb (by decide)) (fun _ => ?_)
        refine WP_aload_n dX5_follow_38 rfl ?_
        refine WP_aload_n dX5_follow_39 rfl ?_
        refine WP_aload_n dX5_follow_40 rfl ?_
        refine WP_aload_n dX5_follow_41 rfl ?_
        refine gf_RX5_33 dX5_follow_42 rfl rfl m0 ?_
        refine WP_iload_n dX5_follow_45 rfl ?_
        refine ald_7 j 4 dX5_follow_46 f6 q6 n6 rfl hj (by decide) ?_
        rw [hfg j hj, hg]
        refine callVi mX5_placeOf [_] dX5_follow_47 okc_X5_placeOf ok_864 ⟨by decide, by decide⟩ rfl rfl m0 rfl (Nat.le_of_ble_eq_true rfl) (Nat.le_of_ble_eq_true rfl) (Nat.le_of_ble_eq_true rfl) (m_placeP (p := p) hM hmt hnt hst hin) (fun x1 S1 h1 => ?_)
        obtain ⟨rfl, I4, A4, rfl, s4, -⟩ := h1
        have X4 := mS_X hM s4
        have F4 := mS_F hM s4 hF

        refine callVi mX5_raiseUp [_] dX5_follow_50 okc_X5_raiseUp ok_797 ⟨by decide, by decide⟩ rfl rfl m0 rfl (Nat.le_of_ble_eq_true rfl) (Nat.le_of_ble_eq_true rfl) (Nat.le_of_ble_eq_true rfl) (m_raiseUp (posA t p) hM (by rw [X4.1 1 (by decide)]; exact ht3) F4 hst z3) (fun x1 S1 h1 => ?_)
        obtain ⟨rfl, I5, A5, rfl, F5, X5, c5, h60⟩ := h1
        rw [z5]
        have hio := upT_io t _ z3
        have hsz : tsz (upT t (posA t p)) = tsz t := io_tsz hio
        refine callVi mX5_placeOf [_] dX5_follow_53 okc_X5_placeOf ok_864 ⟨by decide, by decide⟩ rfl rfl m0 rfl (Nat.le_of_ble_eq_true rfl) (Nat.le_of_ble_eq_true rfl) (Nat.le_of_ble_eq_true rfl) (m_placeP (p := p) (t := upT t (posA t p)) hM (F5.1 _ List.mem_cons_self) (mF_hd F5) (by omega) (by rw [ids_io hio]; exact hin)) (fun x1 S1 h1 => ?_)
        obtain ⟨rfl, I6, A6, rfl, s6, -⟩ := h1
        have X6 := mS_X hM s6
        rw [pos_io hio]
        refine WP_goto 60 dX5_follow_56 (by decide) ?_
        refine WP_ireturn dX5_follow_60 rfl rfl (Nat.le_of_ble_eq_true rfl) (Nat.le_of_ble_eq_true rfl) ?_
        refine ⟨_, _, _, rfl, fun _ => rfl, rfl, mI_mk hI2 (mB_up z3) (mS_F hM s6 F5) ?_ ?_ ?_ ?_ ?_ ?_, ?_⟩
        · rw [X6.1 1 (by decide), X5.1 1 (by decide), u2_eq]
        · rw [X6.1 2 (by decide), X5.1 2 (by decide), u2_o _ _ _ (by decide), X4.1 2 (by decide), j3 2 (by decide)]
          exact hc2
        · rw [mS_c s6, c5, mS_c s4, c3, hn2]
        · exact X6.2.1.trans (X5.2.1.trans X4.2.1)
        · exact X6.2.2.1.trans (X5.2.2.1.trans X4.2.2.1)
        · exact X6.2.2.2.trans (X5.2.2.2.trans X4.2.2.2)
        · rw [X6.1 0 (by decide), X5.1 0 (by decide), u2_o _ _ _ (by decide), X4.1 0 (by decide), j3 0 (by decide)]
          exact th
      · rw [if_neg (fun ⟨p', h, h'⟩ => hin (by cases h; exact h'))]
        have ez : aFol (t, c, fg, n) (nI j) = (0, -1, (t, c, fg, begC n)) := by
          unfold aFol
          rw [if_pos hf, pI_n (by omega)]
          show (match fg j with | none => _ | some p => _) = _
          rw [hg]
          exact if_neg hin
        rw [ez]
        refine WP_if_eq 59 dX5_follow_35 (by decide) (fun _ => ?_) (fun hb => absurd hb (by decide))
        refine WP_iconst (-1) dX5_follow_59 (by decide) ?_
        refine WP_ireturn dX5_follow_60 rfl rfl (Nat.le_of_ble_eq_true rfl) (Nat.le_of_ble_eq_true rfl) ?_
        exact ⟨_, _, _, rfl, fun _ => rfl, rfl, hfin, by rw [j3 0 (by decide)]; exact th⟩
  · rw [if_neg hf]
    refine WP_if_eq 12 dX5_follow_5 (by decide) (fun _ => ?_) (fun hb => absurd hb (by decide))
    refine WP_iconst (1) dX5_follow_12 (by decide) ?_
    refine callVi mX5_goesWell [_] dX5_follow_13 okc_X5_goesWell ok_749 ⟨by decide, by decide⟩ rfl rfl m0 rfl (Nat.le_of_ble_eq_true rfl) (Nat.le_of_ble_eq_true rfl) (Nat.le_of_ble_eq_true rfl) (m_goesWell 1 hM) (fun x1 S1 h1 => ?_)
    obtain ⟨rfl, rfl⟩ := h1
    rw [if_neg (by decide)]
    refine WP_if_ne 21 dX5_follow_16 (by decide) (fun hb => absurd hb (by decide)) (fun _ => ?_)
    refine WP_iconst (0) dX5_follow_19 (by decide) ?_
    refine WP_ireturn dX5_follow_20 rfl rfl (Nat.le_of_ble_eq_true rfl) (Nat.le_of_ble_eq_true rfl) ?_
    have ez : aFol (t, c, fg, n) f = (1, 0, (t, c, fg, n)) := by
      unfold aFol
      rw [if_neg hf]
    rw [ez]
    exact mR_thr hI mS_refl
/-- whether a finger can be moved so far -/
def canM (t : Tr) (o : Option (Nat × Nat)) (b : Int32) : Prop := ∃ p, o = some p ∧ p ∈ ids t ∧ 0 ≤ (posA t p : Int) + b.toInt ∧ (posA t p : Int) + b.toInt < tsz t
theorem m_canMove (j : Nat) (b : Int32) (hA : AI (t, c, fg, n)) (hI : mI W L K AN R0 Im AIm (t, c, fg, n)) (hj : j < 4) [Decidable (canM t (fg j) b)] :
    MT G mX5_canMove [vr (some (W 0)), vi (nI j), vi b] (mkS L K AN R0 Rc Ic AIc AR Im AIm AL) (rI (fun x S' => x = (if canM t (fg j) b then 1 else 0) ∧ pO W L K AN R0 Rc Ic AIc AR Im AIm AL (fun _ _ => True) S')) := by
  obtain ⟨hM, ⟨ht, hc⟩, hF, hcn, hv, ⟨hth1, hth0⟩, hfg⟩ := id hI
  have ht : Im 1 (W 0) = ix (rk kI t) := ht
  have hc : Im 2 (W 0) = ix (rk kI c) := hc
  have hF : mF W AIm [t, c] := hF
  have hcn : cmO Im W = n := hcn
  have hfg : ∀ k, k < 4 → AIm (W 6) k = ix ((fg k).map (·.2)) := hfg
  have hs : tsz t + tsz c ≤ 60 := hA.1
  have hst : tsz t ≤ 60 := by omega
  have hmt := hF.1 t List.mem_cons_self
  have hnt := mF_hd hF
  obtain ⟨m0, ⟨f1, f2, f3, f4, f5, f6, f7⟩, ⟨⟨q1, n1⟩, ⟨q2, n2⟩, ⟨q3, n3⟩, ⟨q4, n4⟩, ⟨q5, n5⟩, ⟨q6, n6⟩, ⟨q7, n7⟩⟩, hne⟩ := id hM
  refine MT_of (by decide) rfl (Nat.le_of_ble_eq_true rfl) ?_
  refine WP_aload_n dX5_canMove_0 rfl ?_
  refine WP_aload_n dX5_canMove_1 rfl ?_
  refine gf_RX5_33 dX5_canMove_2 rfl rfl m0 ?_
  refine WP_iload_n dX5_canMove_5 rfl ?_
  refine ald_7 j 4 dX5_canMove_6 f6 q6 n6 rfl hj (by decide) ?_
  rw [hfg j hj]
  refine callVi mX5_isInSequence [_] dX5_canMove_7 okc_X5_isInSequence ok_856 ⟨by decide, by decide⟩ rfl rfl m0 rfl (Nat.le_of_ble_eq_true rfl) (Nat.le_of_ble_eq_true rfl) (Nat.le_of_ble_eq_true rfl) (m_inSeq (fg j) hM ht hF (fun p hp => hA.2 j p hj hp)) (fun x1 S1 h1 => ?_)
  obtain ⟨rfl, rfl⟩ := h1
  by_cases hin : ∃ p, fg j = some p ∧ p ∈ ids t
  · rw [if_pos hin]
    obtain ⟨p, hg, hp⟩ := hin
    obtain ⟨fs, v, l, r, z1, z2, z3, z4, z5⟩ := pos_atI hnt hp
    refine WP_istore_n dX5_canMove_10 (by decide) rfl ?_
    refine WP_iload_n dX5_canMove_11 rfl ?_
    refine WP_if_eq 32 dX5_canMove_12 (by decide) (fun hb => absurd hb (by decide)) (fun _ => ?_)
    refine WP_aload_n dX5_canMove_15 rfl ?_
    refine WP_aload_n dX5_canMove_16 rfl ?_
    refine gf_RX5_33 dX5_canMove_17 rfl rfl m0 ?_
    refine WP_iload_n dX5_canMove_20 rfl ?_
    refine ald_7 j 4 dX5_canMove_21 f6 q6 n6 rfl hj (by decide) ?_
    rw [hfg j hj, show ix ((fg j).map (fun x => x.2)) = nI p.2 from by rw [hg]; rfl]
    refine callVi mX5_placeOf [_] dX5_canMove_22 okc_X5_placeOf ok_864 ⟨by decide, by decide⟩ rfl rfl m0 rfl (Nat.le_of_ble_eq_true rfl) (Nat.le_of_ble_eq_true rfl) (Nat.le_of_ble_eq_true rfl) (m_placeP (p := p) hM hmt hnt hst hp) (fun x1 S1 h1 => ?_)
    obtain ⟨rfl, I4, A4, rfl, s4, -⟩ := h1
    have X4 := mS_X hM s4
    have F4 := mS_F hM s4 hF
    have hT := i64_add (k := posA t p) (by omega) b
    have h0 : (0 : Int64).toInt = 0 := rfl
    refine WP_i2l dX5_canMove_25 ?_
    refine WP_iload_n dX5_canMove_26 rfl ?_
    refine WP_i2l dX5_canMove_27 ?_
    refine WP_ladd dX5_canMove_28 ?_
    refine WP_goto 35 dX5_canMove_29 (by decide) ?_
    refine WP_lstore dX5_canMove_35 (by decide) rfl ?_
    refine WP_iload_n dX5_canMove_37 rfl ?_
    refine WP_if_eq 63 dX5_canMove_38 (by decide) (fun hb => absurd hb (by decide)) (fun _ => ?_)
    refine WP_lload dX5_canMove_41 rfl ?_
    refine WP_lconst 0 dX5_canMove_43 rfl ?_
    refine WP_lcmp dX5_canMove_44 ?_
    refine WP_if_lt 63 dX5_canMove_45 (by decide) (fun h3 => ?_) (fun h3 => ?_)
    · refine WP_iconst (0) dX5_canMove_63 (by decide) ?_
      refine WP_ireturn dX5_canMove_64 rfl rfl (Nat.le_of_ble_eq_true rfl) (Nat.le_of_ble_eq_true rfl) ?_
      refine ⟨_, rfl, ?_, _, _, rfl, s4, trivial⟩
      rw [if_neg]
      rintro ⟨p', e, -, h5, -⟩
      rw [hg] at e
      cases e
      have h4 := Int64.lt_iff_toInt_lt.mp ((lg_cmp_lt _ _).mp h3)
      omega
    · have h3 : 0 ≤ (posA t p : Int) + b.toInt := by
        have h4 : ¬ _ := fun h => h3 ((lg_cmp_lt _ _).mpr (Int64.lt_iff_toInt_lt.mpr h))
        omega
      refine WP_lload dX5_canMove_48 rfl ?_
      refine WP_aload_n dX5_canMove_50 rfl ?_
      refine callVi mX5_count [] dX5_canMove_51 okc_X5_count ok_726 ⟨by decide, by decide⟩ rfl rfl m0 rfl (Nat.le_of_ble_eq_true rfl) (Nat.le_of_ble_eq_true rfl) (Nat.le_of_ble_eq_true rfl) (m_count hM (by rw [X4.1 1 (by decide)]; exact ht) (F4.1 t List.mem_cons_self) hnt hst) (fun x1 S1 h1 => ?_)
      obtain ⟨rfl, I5, A5, rfl, s5, -⟩ := h1
      have h5 : ((nI (tsz t)).toInt64).toInt = (tsz t : Int) := by rw [Int32.toInt_toInt64, nI_toInt (by omega)]
      refine WP_i2l dX5_canMove_54 ?_
      refine WP_lcmp dX5_canMove_55 ?_
      refine WP_if_ge 63 dX5_canMove_56 (by decide) (fun h4 => ?_) (fun h4 => ?_)
      · refine WP_iconst (0) dX5_canMove_63 (by decide) ?_
        refine WP_ireturn dX5_canMove_64 rfl rfl (Nat.le_of_ble_eq_true rfl) (Nat.le_of_ble_eq_true rfl) ?_
        refine ⟨_, rfl, ?_, _, _, rfl, mS_trans s4 s5, trivial⟩
        rw [if_neg]
        rintro ⟨p', e, -, -, h6⟩
        rw [hg] at e
        cases e
        have h4 := Int64.le_iff_toInt_le.mp ((lg_cmp_ge _ _).mp h4)
        omega
      · refine WP_iconst (1) dX5_canMove_59 (by decide) ?_
        refine WP_goto 64 dX5_canMove_60 (by decide) ?_
        refine WP_ireturn dX5_canMove_64 rfl rfl (Nat.le_of_ble_eq_true rfl) (Nat.le_of_ble_eq_true rfl) ?_
        refine ⟨_, rfl, ?_, _, _, rfl, mS_trans s4 s5, trivial⟩
        rw [if_pos]
        refine ⟨p, hg, hp, h3, ?_⟩
        have h6 : ¬ _ := fun h => h4 ((lg_cmp_ge _ _).mpr (Int64.le_iff_toInt_le.mpr h))
        omega
  · rw [if_neg hin]
    refine WP_istore_n dX5_canMove_10 (by decide) rfl ?_
    refine WP_iload_n dX5_canMove_11 rfl ?_
    refine WP_if_eq 32 dX5_canMove_12 (by decide) (fun _ => ?_) (fun hb => absurd hb (by decide))
    refine WP_ldc2 (-1) dX5_canMove_32 okl_155 ?_
    refine WP_lstore dX5_canMove_35 (by decide) rfl ?_
    refine WP_iload_n dX5_canMove_37 rfl ?_
    refine WP_if_eq 63 dX5_canMove_38 (by decide) (fun _ => ?_) (fun hb => absurd hb (by decide))
    refine WP_iconst (0) dX5_canMove_63 (by decide) ?_
    refine WP_ireturn dX5_canMove_64 rfl rfl (Nat.le_of_ble_eq_true rfl) (Nat.le_of_ble_eq_true rfl) ?_
    refine ⟨_, rfl, ?_, _, _, rfl, mS_refl, trivial⟩
    rw [if_neg (fun ⟨p, h1, h2, _⟩ => hin ⟨p, h1, h2⟩)]
theorem p_move (f b : Int32) (hA : AI (t, c, fg, n)) (hI : mI W L K AN R0 Im AIm (t, c, fg, n)) :
    MT G mX5_move [vr (some (W 0)), vi f, vi b] (mkS L K AN R0 Rc Ic AIc AR Im AIm AL) (mR W L K AN R0 Rc Ic AIc AR AL (aMov (t, c, fg, n) f b)) := by
  obtain ⟨hM, ⟨ht, hc⟩, hF, hcn, hv, ⟨hth1, hth0⟩, hfg⟩ := id hI
  have ht : Im 1 (W 0) = ix (rk kI t) := ht
  have hc : Im 2 (W 0) = ix (rk kI c) := hc
  have hF : mF W AIm [t, c] := hF
  have hcn : cmO Im W = n := hcn
  have hfg : ∀ k, k < 4 → AIm (W 6) k = ix ((fg k).map (·.2)) := hfg
  have hs : tsz t + tsz c ≤ 60 := hA.1
  have hst : tsz t ≤ 60 := by omega
  have hmt := hF.1 t List.mem_cons_self
  have hnt := mF_hd hF
  obtain ⟨m0, ⟨f1, f2, f3, f4, f5, f6, f7⟩, ⟨⟨q1, n1⟩, ⟨q2, n2⟩, ⟨q3, n3⟩, ⟨q4, n4⟩, ⟨q5, n5⟩, ⟨q6, n6⟩, ⟨q7, n7⟩⟩, hne⟩ := id hM
  refine MT_of (by decide) rfl (Nat.le_of_ble_eq_true rfl) ?_
  refine WP_aload_n dX5_move_0 rfl ?_
  refine WP_iload_n dX5_move_1 rfl ?_
  refine callSi mX5_isFinger [_] dX5_move_2 okc_X5_isFinger ok_849 ⟨by decide, by decide⟩ rfl rfl (Nat.le_of_ble_eq_true rfl) (Nat.le_of_ble_eq_true rfl) (Nat.le_of_ble_eq_true rfl) (m_isFinger f) rfl (fun x1 S1 h1 => ?_)
  obtain ⟨rfl, rfl⟩ := h1
  by_cases hf : inP 4 f
  · rw [if_pos hf]
    refine WP_if_ne 12 dX5_move_5 (by decide) (fun _ => ?_) (fun hb => absurd hb (by decide))
    obtain ⟨j, hj, rfl⟩ := inP_of hf (by decide)
    have := Classical.propDecidable (canM t (fg j) b)
    refine WP_aload_n dX5_move_12 rfl ?_
    refine WP_iload_n dX5_move_13 rfl ?_
    refine WP_iload_n dX5_move_14 rfl ?_
    refine callVi mX5_canMove [_, _] dX5_move_15 okc_X5_canMove ok_872 ⟨by decide, by decide⟩ rfl rfl m0 rfl (Nat.le_of_ble_eq_true rfl) (Nat.le_of_ble_eq_true rfl) (Nat.le_of_ble_eq_true rfl) (m_canMove j b hA hI hj) (fun x1 S1 h1 => ?_)
    obtain ⟨rfl, I1, A1, rfl, s1, -⟩ := h1
    by_cases hc9 : canM t (fg j) b
    · rw [if_pos hc9]
      refine WP_if_eq 25 dX5_move_18 (by decide) (fun hb => absurd hb (by decide)) (fun _ => ?_)
      refine WP_iconst (0) dX5_move_21 (by decide) ?_
      refine WP_goto 26 dX5_move_22 (by decide) ?_
      refine callVi mX5_goesWell [_] dX5_move_26 okc_X5_goesWell ok_749 ⟨by decide, by decide⟩ rfl rfl m0 rfl (Nat.le_of_ble_eq_true rfl) (Nat.le_of_ble_eq_true rfl) (Nat.le_of_ble_eq_true rfl) (m_goesWell 0 hM) (fun x1 S1 h1 => ?_)
      obtain ⟨rfl, rfl⟩ := h1
      rw [if_pos rfl]
      have hI2 := mI_S hI s1 0
      have th : (u2 I1 0 (W 0) 0) 0 (W 0) = 0 := u2_eq _ _ _ _
      generalize u2 I1 0 (W 0) 0 = Im2 at hI2 th ⊢
      obtain ⟨-, ⟨ht2, hc2⟩, hF2, hn2, hv2, -, hfg2⟩ := id hI2
      have ht2 : Im2 1 (W 0) = ix (rk kI t) := ht2
      have hc2 : Im2 2 (W 0) = ix (rk kI c) := hc2
      have hF2 : mF W A1 [t, c] := hF2
      have hn2 : cmO Im2 W = n := hn2
      have hfg2 : ∀ k, k < 4 → A1 (W 6) k = ix ((fg k).map (·.2)) := hfg2
      refine WP_if_ne 34 dX5_move_29 (by decide) (fun _ => ?_) (fun hb => absurd hb (by decide))
      obtain ⟨p, hg, hp, h3, h6⟩ := hc9
      obtain ⟨fs, v, l, r, z1, z2, z3, z4, z5⟩ := pos_atI hnt hp
      obtain ⟨q, hq⟩ : ∃ q : Nat, (posA t p : Int) + b.toInt = (q : Int) := ⟨((posA t p : Int) + b.toInt).toNat, by omega⟩
      have hqt : q < tsz t := by omega
      have ez : aMov (t, c, fg, n) (nI j) b = (0, nI q, (upT (upT t (posA t p)) q, c, va_up fg j (some (idAt t q)), addC (addC (begC n) (upC t (posA t p))) (upC (upT t (posA t p)) q))) := by
        unfold aMov
        rw [if_pos hf, pI_n (by omega)]
        show (match fg j with | none => _ | some p => _) = _
        rw [hg]
        show (if p ∈ ids t ∧ 0 ≤ (posA t p : Int) + b.toInt ∧ (posA t p : Int) + b.toInt < tsz t then _ else _) = _
        rw [if_pos ⟨hp, h3, h6⟩, hq, Int.toNat_natCast]
      rw [ez]
      refine WP_aload_n dX5_move_34 rfl ?_
      refine callVv mX5_begins [] dX5_move_35 okc_X5_begins ok_753 ⟨by decide, by decide⟩ rfl rfl m0 rfl (Nat.le_of_ble_eq_true rfl) (Nat.le_of_ble_eq_true rfl) (Nat.le_of_ble_eq_true rfl) (m_begins hM) (fun S1 h1 => ?_)
      obtain ⟨I3, rfl, j3, c3⟩ := h1
      refine WP_aload_n dX5_move_38 rfl ?_
      refine WP_aload_n dX5_move_39 rfl ?_
      refine gf_RX5_33 dX5_move_40 rfl rfl m0 ?_
      refine WP_iload_n dX5_move_43 rfl ?_
      refine ald_7 j 4 dX5_move_44 f6 q6 n6 rfl hj (by decide) ?_
      rw [hfg2 j hj, hg]
      refine callVi mX5_placeOf [_] dX5_move_45 okc_X5_placeOf ok_864 ⟨by decide, by decide⟩ rfl rfl m0 rfl (Nat.le_of_ble_eq_true rfl) (Nat.le_of_ble_eq_true rfl) (Nat.le_of_ble_eq_true rfl) (m_placeP (p := p) hM (hF2.1 t List.mem_cons_self) hnt hst hp) (fun x1 S1 h1 => ?_)
      obtain ⟨rfl, I4, A4, rfl, s4, -⟩ := h1
      have X4 := mS_X hM s4
      have F4 := mS_F hM s4 hF2
      refine WP_istore_n dX5_move_48 (by decide) rfl ?_
      refine WP_aload_n dX5_move_49 rfl ?_
      refine WP_iload_n dX5_move_50 rfl ?_
      refine callVi mX5_raiseUp [_] dX5_move_51 okc_X5_raiseUp ok_797 ⟨by decide, by decide⟩ rfl rfl m0 rfl (Nat.le_of_ble_eq_true rfl) (Nat.le_of_ble_eq_true rfl) (Nat.le_of_ble_eq_true rfl) (m_raiseUp (posA t p) hM (by rw [X4.1 1 (by decide), j3 1 (by decide)]; exact ht2) F4 hst z3) (fun x1 S1 h1 => ?_)
      obtain ⟨rfl, I5, A5, rfl, F5, X5, c5, h60⟩ := h1
      have hio := upT_io t _ z3
      have hsz : tsz (upT t (posA t p)) = tsz t := io_tsz hio
      have hid : idAt (upT t (posA t p)) q = idAt t q := by
        unfold idAt
        rw [ids_io hio]
      refine WP_istore dX5_move_54 (by decide) rfl ?_
      refine WP_aload_n dX5_move_56 rfl ?_
      refine gf_RX5_33 dX5_move_57 rfl rfl m0 ?_
      refine WP_iload_n dX5_move_60 rfl ?_
      refine WP_aload_n dX5_move_61 rfl ?_
      refine WP_iload_n dX5_move_62 rfl ?_
      refine WP_iload_n dX5_move_63 rfl ?_
      refine WP_iadd dX5_move_64 ?_
      rw [i32_add (by omega) (by omega) hq]
      refine callVi mX5_raiseUp [_] dX5_move_65 okc_X5_raiseUp ok_797 ⟨by decide, by decide⟩ rfl rfl m0 rfl (Nat.le_of_ble_eq_true rfl) (Nat.le_of_ble_eq_true rfl) (Nat.le_of_ble_eq_true rfl) (m_raiseUp q hM (t := upT t (posA t p)) (by rw [X5.1 1 (by decide), u2_eq]) F5 (by omega) (by omega)) (fun x1 S1 h1 => ?_)
      obtain ⟨rfl, I6, A6, rfl, F6, X6, c6, h61⟩ := h1
      rw [hid]
      refine ast_7 j 4 dX5_move_68 f6 q6 n6 rfl hj (by decide) ?_
      refine WP_iload_n dX5_move_69 rfl ?_
      refine WP_iload_n dX5_move_70 rfl ?_
      refine WP_iadd dX5_move_71 ?_
      rw [i32_add (by omega) (by omega) hq]
      refine WP_ireturn dX5_move_72 rfl rfl (Nat.le_of_ble_eq_true rfl) (Nat.le_of_ble_eq_true rfl) ?_
      refine ⟨_, _, _, rfl, fun _ => rfl, rfl, mI_fing (fg := fg) (mI_mk hI2 (fun x => (mB_up (by omega) x).trans (mB_up z3 x)) F6 ?_ ?_ ?_ (X6.2.1.trans (X5.2.1.trans X4.2.1)) (X6.2.2.1.trans (X5.2.2.1.trans X4.2.2.1)) (X6.2.2.2.trans (X5.2.2.2.trans X4.2.2.2))) (fun w hw => ?_), ?_⟩
      · rw [X6.1 1 (by decide), u2_eq]
      · rw [X6.1 2 (by decide), u2_o _ _ _ (by decide), X5.1 2 (by decide), u2_o _ _ _ (by decide), X4.1 2 (by decide), j3 2 (by decide)]
        exact hc2
      · rw [c6, c5, mS_c s4, c3, hn2]
      · by_cases e : w = j
        · rw [e, pk_us, va_up_self]
          rfl
        · rw [pk_un e, va_up_ne _ _ e, X6.2.2.2, X5.2.2.2, X4.2.2.2]
          exact hfg2 w hw
      · rw [X6.1 0 (by decide), u2_o _ _ _ (by decide), X5.1 0 (by decide), u2_o _ _ _ (by decide), X4.1 0 (by decide), j3 0 (by decide)]
        exact th
    · rw [if_neg hc9]
      refine WP_if_eq 25 dX5_move_18 (by decide) (fun _ => ?_) (fun hb => absurd hb (by decide))
      refine WP_iconst (2) dX5_move_25 (by decide) ?_
      refine callVi mX5_goesWell [_] dX5_move_26 okc_X5_goesWell ok_749 ⟨by decide, by decide⟩ rfl rfl m0 rfl (Nat.le_of_ble_eq_true rfl) (Nat.le_of_ble_eq_true rfl) (Nat.le_of_ble_eq_true rfl) (m_goesWell 2 hM) (fun x1 S1 h1 => ?_)
      obtain ⟨rfl, rfl⟩ := h1
      rw [if_neg (by decide)]
      refine WP_if_ne 34 dX5_move_29 (by decide) (fun hb => absurd hb (by decide)) (fun _ => ?_)
      refine WP_iconst (0) dX5_move_32 (by decide) ?_
      refine WP_ireturn dX5_move_33 rfl rfl (Nat.le_of_ble_eq_true rfl) (Nat.le_of_ble_eq_true rfl) ?_
      have ez : aMov (t, c, fg, n) (nI j) b = (2, 0, (t, c, fg, n)) := by
        unfold aMov
        rw [if_pos hf, pI_n (by omega)]
        show (match fg j with | none => _ | some p => _) = _
        cases hg : fg j with
        | none => rfl
        | some p => exact if_neg (fun h => hc9 ⟨p, hg, h⟩)
      rw [ez]
      exact mR_thr hI s1
  · rw [if_neg hf]
    refine WP_if_ne 12 dX5_move_5 (by decide) (fun hb => absurd hb (by decide)) (fun _ => ?_)
    refine WP_iconst (1) dX5_move_8 (by decide) ?_
    refine WP_goto 26 dX5_move_9 (by decide) ?_
    refine callVi mX5_goesWell [_] dX5_move_26 okc_X5_goesWell ok_749 ⟨by decide, by decide⟩ rfl rfl m0 rfl (Nat.le_of_ble_eq_true rfl) (Nat.le_of_ble_eq_true rfl) (Nat.le_of_ble_eq_true rfl) (m_goesWell 1 hM) (fun x1 S1 h1 => ?_)
    obtain ⟨rfl, rfl⟩ := h1
    rw [if_neg (by decide)]
    refine WP_if_ne 34 dX5_move_29 (by decide) (fun hb => absurd hb (by decide)) (fun _ => ?_)
    refine WP_iconst (0) dX5_move_32 (by decide) ?_
    refine WP_ireturn dX5_move_33 rfl rfl (Nat.le_of_ble_eq_true rfl) (Nat.le_of_ble_eq_true rfl) ?_
    have ez : aMov (t, c, fg, n) f b = (1, 0, (t, c, fg, n)) := by
      unfold aMov
      rw [if_neg hf]
    rw [ez]
    exact mR_thr hI mS_refl
end MFI
