/-! ===== the model: what each call does (1) ===== -/
def mB (t c : Tr) (x : LB) : Prop := x ∈ io t ∨ x ∈ io c
def mI (W : Nat → Nat) (L : List Nat) (K AN : Nat → Nat) (R0 : Nat → Nat → Option Nat) (Im AIm : Nat → Nat → Int32) (A : AB) : Prop :=
  mK W L K AN R0 ∧ (Im 1 (W 0) = ix (rk kI A.1) ∧ Im 2 (W 0) = ix (rk kI A.2.1)) ∧ mF W AIm [A.1, A.2.1] ∧ cmO Im W = A.2.2.2 ∧ (∀ x, mB A.1 A.2.1 x → AIm (W 1) x.2.1 = x.2.2) ∧
  ((∀ x, mB A.1 A.2.1 x → AIm (W 5) x.2.1 = 1) ∧ ∀ i, i < 60 → (∀ x, mB A.1 A.2.1 x → x.2.1 ≠ i) → AIm (W 5) i = 0) ∧ (∀ k, k < 4 → AIm (W 6) k = ix ((A.2.2.1 k).map (·.2)))
def mR (W : Nat → Nat) (L : List Nat) (K AN : Nat → Nat) (R0 Rc : Nat → Nat → Option Nat) (Ic AIc : Nat → Nat → Int32) (AR : Nat → Nat → Option Nat) (AL : Nat → Nat → Int64) (z : Rz) : RS → SS → Prop := fun r S' =>
  ∃ x I' A', r = .inl (some (vi x)) ∧ (z.1 = 0 → x = z.2.1) ∧ S' = mkS L K AN R0 Rc Ic AIc AR I' A' AL ∧ mI W L K AN R0 I' A' z.2.2 ∧ I' 0 (W 0) = nI z.1
section MPU
variable {G : GC} {L : List Nat} {K AN : Nat → Nat} {R0 Rc : Nat → Nat → Option Nat} {Ic AIc Im AIm I1 A1 : Nat → Nat → Int32} {AR : Nat → Nat → Option Nat} {AL : Nat → Nat → Int64} {W : Nat → Nat} {t c : Tr} {fg : Nat → Option (Nat × Nat)} {n : Cn} {A : AB}
theorem mI_S (hI : mI W L K AN R0 Im AIm A) (s : mS W Im AIm I1 A1) (v : Int32) : mI W L K AN R0 (u2 I1 0 (W 0) v) A1 A := by
  obtain ⟨hM, ⟨ht, hc⟩, hF, hcn, hv, ⟨hth1, hth0⟩, hfg⟩ := hI
  have x := mS_X hM s
  have r1 := x.2.1
  have r5 := x.2.2.1
  have r6 := x.2.2.2
  refine ⟨hM, ⟨?_, ?_⟩, mS_F hM s hF, ?_, by rw [r1]; exact hv, by rw [r5]; exact ⟨hth1, hth0⟩, by rw [r6]; exact hfg⟩
  · rw [u2_o _ _ _ (by decide), s.1 1 (by decide)]
    exact ht
  · rw [u2_o _ _ _ (by decide), s.1 2 (by decide)]
    exact hc
  · rw [← hcn, ← mS_c s]
    simp [cmO, u2]
theorem mR_thr {j : Nat} {v : Int32} (hI : mI W L K AN R0 Im AIm A) (s : mS W Im AIm I1 A1) : mR W L K AN R0 Rc Ic AIc AR AL (j + 1, v, A) (.inl (some (vi 0))) (mkS L K AN R0 Rc Ic AIc AR (u2 I1 0 (W 0) (nI (j + 1))) A1 AL) :=
  ⟨0, _, _, rfl, fun h => absurd h (Nat.succ_ne_zero j), rfl, mI_S hI s _, u2_eq _ _ _ _⟩
/-- the same nodes in other trees -/
theorem mI_mk {t' c' : Tr} {n' : Cn} (hI : mI W L K AN R0 Im AIm (t, c, fg, n)) (hm : ∀ x, mB t' c' x ↔ mB t c x) (hF : mF W A1 [t', c']) (h1 : I1 1 (W 0) = ix (rk kI t')) (h2 : I1 2 (W 0) = ix (rk kI c')) (hn : cmO I1 W = n') (r1 : A1 (W 1) = AIm (W 1)) (r5 : A1 (W 5) = AIm (W 5)) (r6 : A1 (W 6) = AIm (W 6)) : mI W L K AN R0 I1 A1 (t', c', fg, n') := by
  obtain ⟨hM, -, -, -, hv, ⟨hth1, hth0⟩, hfg⟩ := hI
  refine ⟨hM, ⟨h1, h2⟩, hF, hn, fun x hx => ?_, ⟨fun x hx => ?_, fun i hi hx => ?_⟩, by rw [r6]; exact hfg⟩
  · rw [r1]
    exact hv x ((hm x).mp hx)
  · rw [r5]
    exact hth1 x ((hm x).mp hx)
  · rw [r5]
    exact hth0 i hi (fun x h => hx x ((hm x).mpr h))
theorem mB_up {k : Nat} (hk : k < tsz t) (x : LB) : mB (upT t k) c x ↔ mB t c x := by
  unfold mB
  rw [upT_io t k hk]
theorem mB_at {k : Nat} (hk : k < tsz t) : mB t c ((idAt t k).1, (idAt t k).2, vAt t k) := by
  obtain ⟨v, l, r, -, h2, -, h4⟩ := upT_id hk
  refine Or.inl ?_
  rw [← h2, h4]
  simp
theorem p_get (x : Int32) (hA : AI (t, c, fg, n)) (hI : mI W L K AN R0 Im AIm (t, c, fg, n)) :
    MT G mX5_get [vr (some (W 0)), vi x] (mkS L K AN R0 Rc Ic AIc AR Im AIm AL) (mR W L K AN R0 Rc Ic AIc AR AL (aGet (t, c, fg, n) x)) := by
  obtain ⟨hM, ⟨ht, hc⟩, hF, hcn, hv, ⟨hth1, hth0⟩, hfg⟩ := id hI
  have ht : Im 1 (W 0) = ix (rk kI t) := ht
  have hc : Im 2 (W 0) = ix (rk kI c) := hc
  have hF : mF W AIm [t, c] := hF
  have hcn : cmO Im W = n := hcn
  have hfg : ∀ k, k < 4 → AIm (W 6) k = ix ((fg k).map (·.2)) := hfg
  have hs : tsz t + tsz c ≤ 60 := hA.1
  have hst : tsz t ≤ 60 := by omega
  have hmt := hF.1 t List.mem_cons_self
  have hnt := mF_hd hF
  obtain ⟨m0, ⟨f1, f2, f3, f4, f5, f6, f7⟩, ⟨⟨q1, n1⟩, ⟨q2, n2⟩, ⟨q3, n3⟩, ⟨q4, n4⟩, ⟨q5, n5⟩, ⟨q6, n6⟩, ⟨q7, n7⟩⟩, hne⟩ := id hM
  refine MT_of (by decide) rfl (Nat.le_of_ble_eq_true rfl) ?_
  by_cases hx : inP (tsz t) x
  · refine WP_aload_n dX5_get_0 rfl ?_
    refine WP_aload_n dX5_get_1 rfl ?_
    refine WP_iload_n dX5_get_2 rfl ?_
    refine callVi mX5_isPlace [_] dX5_get_3 okc_X5_isPlace ok_781 ⟨by decide, by decide⟩ rfl rfl m0 rfl (Nat.le_of_ble_eq_true rfl) (Nat.le_of_ble_eq_true rfl) (Nat.le_of_ble_eq_true rfl) (m_isPlace x hM ht hmt hnt hst) (fun x1 S1 h1 => ?_)
    obtain ⟨rfl, I1, A1, rfl, s1, -⟩ := h1
    rw [if_pos hx]
    refine WP_if_eq 13 dX5_get_6 (by decide) (fun hb => absurd hb (by decide)) (fun _ => ?_)
    refine WP_iconst (0) dX5_get_9 (by decide) ?_
    refine WP_goto 14 dX5_get_10 (by decide) ?_
    refine callVi mX5_goesWell [_] dX5_get_14 okc_X5_goesWell ok_749 ⟨by decide, by decide⟩ rfl rfl m0 rfl (Nat.le_of_ble_eq_true rfl) (Nat.le_of_ble_eq_true rfl) (Nat.le_of_ble_eq_true rfl) (m_goesWell 0 hM) (fun x1 S1 h1 => ?_)
    obtain ⟨rfl, rfl⟩ := h1
    rw [if_pos rfl]
    have hI2 := mI_S hI s1 0
    have th : (u2 I1 0 (W 0) 0) 0 (W 0) = 0 := u2_eq _ _ _ _
    generalize u2 I1 0 (W 0) 0 = Im2 at hI2 th ⊢
    refine WP_if_ne 22 dX5_get_17 (by decide) (fun _ => ?_) (fun hb => absurd hb (by decide))
    obtain ⟨-, ⟨ht2, hc2⟩, hF2, hn2, hv2, ⟨hi2, hj2⟩, hfg2⟩ := id hI2
    have ht2 : Im2 1 (W 0) = ix (rk kI t) := ht2
    have hc2 : Im2 2 (W 0) = ix (rk kI c) := hc2
    have hF2 : mF W A1 [t, c] := hF2
    have hn2 : cmO Im2 W = n := hn2
    have hfg2 : ∀ k, k < 4 → A1 (W 6) k = ix ((fg k).map (·.2)) := hfg2
    have hv2 : ∀ x, mB t c x → A1 (W 1) x.2.1 = x.2.2 := hv2
    obtain ⟨k, hk, rfl⟩ := inP_of hx (by omega)
    have ez : aGet (t, c, fg, n) (nI k) = (0, vAt t k, (upT t k, c, fg, addC (begC n) (upC t k))) := by
      unfold aGet
      rw [if_pos hx, pI_n (by omega)]
    rw [ez]
    refine WP_aload_n dX5_get_22 rfl ?_
    refine callVv mX5_begins [] dX5_get_23 okc_X5_begins ok_753 ⟨by decide, by decide⟩ rfl rfl m0 rfl (Nat.le_of_ble_eq_true rfl) (Nat.le_of_ble_eq_true rfl) (Nat.le_of_ble_eq_true rfl) (m_begins hM) (fun S1 h1 => ?_)
    obtain ⟨I3, rfl, j3, c3⟩ := h1
    refine WP_aload_n dX5_get_26 rfl ?_
    refine gf_RX5_16 dX5_get_27 rfl rfl m0 ?_
    refine WP_aload_n dX5_get_30 rfl ?_
    refine WP_iload_n dX5_get_31 rfl ?_
    refine callVi mX5_raiseUp [_] dX5_get_32 okc_X5_raiseUp ok_797 ⟨by decide, by decide⟩ rfl rfl m0 rfl (Nat.le_of_ble_eq_true rfl) (Nat.le_of_ble_eq_true rfl) (Nat.le_of_ble_eq_true rfl) (m_raiseUp k hM (by rw [j3 1 (by decide)]; exact ht2) hF2 hst hk) (fun x1 S1 h1 => ?_)
    obtain ⟨rfl, I4, A4, rfl, F4, X4, c4, h60⟩ := h1
    refine ald_7 ((idAt t k).2) 60 dX5_get_35 f1 q1 n1 rfl h60 (by decide) ?_
    rw [show A4 (W 1) (idAt t k).2 = vAt t k from by rw [X4.2.1]; exact hv2 _ (mB_at hk)]
    refine WP_ireturn dX5_get_36 rfl rfl (Nat.le_of_ble_eq_true rfl) (Nat.le_of_ble_eq_true rfl) ?_
    refine ⟨_, _, _, rfl, fun _ => rfl, rfl, mI_mk hI2 (mB_up hk) F4 ?_ ?_ ?_ X4.2.1 X4.2.2.1 X4.2.2.2, ?_⟩
    · rw [X4.1 1 (by decide), u2_eq]
    · rw [X4.1 2 (by decide), u2_o _ _ _ (by decide), j3 2 (by decide)]
      exact hc2
    · rw [c4, c3, hn2]
    · rw [X4.1 0 (by decide), u2_o _ _ _ (by decide), j3 0 (by decide)]
      exact th
  · have ez : aGet (t, c, fg, n) x = (1, 0, (t, c, fg, n)) := by
      unfold aGet
      rw [if_neg hx]
    rw [ez]
    refine WP_aload_n dX5_get_0 rfl ?_
    refine WP_aload_n dX5_get_1 rfl ?_
    refine WP_iload_n dX5_get_2 rfl ?_
    refine callVi mX5_isPlace [_] dX5_get_3 okc_X5_isPlace ok_781 ⟨by decide, by decide⟩ rfl rfl m0 rfl (Nat.le_of_ble_eq_true rfl) (Nat.le_of_ble_eq_true rfl) (Nat.le_of_ble_eq_true rfl) (m_isPlace x hM ht hmt hnt hst) (fun x1 S1 h1 => ?_)
    obtain ⟨rfl, I1, A1, rfl, s1, -⟩ := h1
    rw [if_neg hx]
    refine WP_if_eq 13 dX5_get_6 (by decide) (fun _ => ?_) (fun hb => absurd hb (by decide))
    refine WP_iconst (1) dX5_get_13 (by decide) ?_
    refine callVi mX5_goesWell [_] dX5_get_14 okc_X5_goesWell ok_749 ⟨by decide, by decide⟩ rfl rfl m0 rfl (Nat.le_of_ble_eq_true rfl) (Nat.le_of_ble_eq_true rfl) (Nat.le_of_ble_eq_true rfl) (m_goesWell 1 hM) (fun x1 S1 h1 => ?_)
    obtain ⟨rfl, rfl⟩ := h1
    rw [if_neg (by decide)]
    refine WP_if_ne 22 dX5_get_17 (by decide) (fun hb => absurd hb (by decide)) (fun _ => ?_)
    refine WP_iconst (0) dX5_get_20 (by decide) ?_
    refine WP_ireturn dX5_get_21 rfl rfl (Nat.le_of_ble_eq_true rfl) (Nat.le_of_ble_eq_true rfl) ?_
    exact mR_thr hI s1
end MPU
