/-! ===== the model: remove, height ===== -/
section MRM
variable {G : GC} {L : List Nat} {K AN : Nat → Nat} {R0 Rc : Nat → Nat → Option Nat} {Ic AIc Im AIm I1 A1 : Nat → Nat → Int32} {AR : Nat → Nat → Option Nat} {AL : Nat → Nat → Int64} {W : Nat → Nat} {t c m : Tr} {fg fg' : Nat → Option (Nat × Nat)} {n : Cn} {F : List Tr}
theorem liftm_loop {Q : RS → SS → Prop} (x : Int32) (i : Nat) (g : Nat → Int32) (hM : mK W L K AN R0) (hQ : WP G mX5_remove Q 0 0 133 [(0, vr (some (W 0))), (2, vi (nI i))] [] (mkS L K AN R0 Rc Ic AIc AR Im (va_up AIm (W 6) (lfF i 4 g)) AL)) : ∀ (b k : Nat), 4 - k ≤ b → k ≤ 4 →
    WP G mX5_remove Q 0 0 92 [(0, vr (some (W 0))), (2, vi (nI i)), (5, vi (nI k))] [] (mkS L K AN R0 Rc Ic AIc AR Im (va_up AIm (W 6) (lfF i k g)) AL) := by
  obtain ⟨m0, ⟨f1, f2, f3, f4, f5, f6, f7⟩, ⟨⟨q1, n1⟩, ⟨q2, n2⟩, ⟨q3, n3⟩, ⟨q4, n4⟩, ⟨q5, n5⟩, ⟨q6, n6⟩, ⟨q7, n7⟩⟩, hne⟩ := hM
  have fin : ∀ k, k = 4 → WP G mX5_remove Q 0 0 92 [(0, vr (some (W 0))), (2, vi (nI i)), (5, vi (nI k))] [] (mkS L K AN R0 Rc Ic AIc AR Im (va_up AIm (W 6) (lfF i k g)) AL) := by
    intro k hk
    subst hk
    refine WP_iload dX5_remove_92 rfl ?_
    refine WP_iconst (4) dX5_remove_94 (by decide) ?_
    refine WP_icmp_ge 133 dX5_remove_95 (by decide) (fun h1 => ?_) (fun h1 => ?_)
    · refine WP_lv [(0, vr (some (W 0))), (2, vi (nI i))] (List.forall_mem_cons.mpr ⟨rfl, List.forall_mem_cons.mpr ⟨rfl, fun _ h9 => absurd h9 List.not_mem_nil⟩⟩) ?_
      exact hQ
    · exact absurd (Int32.le_refl _) h1
  intro b
  induction b with
  | zero => intro k hb hk; exact fin k (by omega)
  | succ b ih =>
    intro k hb hk
    by_cases hk4 : k < 4
    · have hst : va_up (va_up AIm (W 6) (lfF i k g)) (W 6) (upd (lfF i k g) k (if g k = nI i then -1 else g k)) = va_up AIm (W 6) (lfF i (k + 1) g) := by rw [up_up, lfF_step]
      refine WP_iload dX5_remove_92 rfl ?_
      refine WP_iconst (4) dX5_remove_94 (by decide) ?_
      refine WP_icmp_ge 133 dX5_remove_95 (by decide) (fun h1 => ?_) (fun h1 => ?_)
      · exact absurd h1 (nI_ge hk4 (by decide))
      · refine WP_aload_n dX5_remove_98 rfl ?_
        refine gf_RX5_33 dX5_remove_99 rfl rfl m0 ?_
        refine WP_iload dX5_remove_102 rfl ?_
        refine WP_aload_n dX5_remove_104 rfl ?_
        refine gf_RX5_33 dX5_remove_105 rfl rfl m0 ?_
        refine WP_iload dX5_remove_108 rfl ?_
        refine ald_7 k 4 dX5_remove_110 f6 q6 n6 rfl hk4 (by decide) ?_
        refine WP_iload_n dX5_remove_111 rfl ?_
        rw [va_up_self, lfF_at]
        refine WP_icmp_ne 119 dX5_remove_112 (by decide) (fun h2 => ?_) (fun h2 => ?_)
        · refine WP_aload_n dX5_remove_119 rfl ?_
          refine gf_RX5_33 dX5_remove_120 rfl rfl m0 ?_
          refine WP_iload dX5_remove_123 rfl ?_
          refine ald_7 k 4 dX5_remove_125 f6 q6 n6 rfl hk4 (by decide) ?_
          refine ast_7 k 4 dX5_remove_126 f6 q6 n6 rfl hk4 (by decide) ?_
          rw [va_up_self, lfF_at]
          rw [if_neg h2] at hst
          rw [hst]
          refine WP_iinc (nI (k + 1)) dX5_remove_127 rfl (nI_1 _) (by decide) rfl ?_
          refine WP_goto 92 dX5_remove_130 (by decide) ?_
          refine WP_lv [(0, vr (some (W 0))), (2, vi (nI i)), (5, vi (nI (k + 1)))] (List.forall_mem_cons.mpr ⟨rfl, List.forall_mem_cons.mpr ⟨rfl, List.forall_mem_cons.mpr ⟨rfl, fun _ h9 => absurd h9 List.not_mem_nil⟩⟩⟩) ?_
          exact ih (k + 1) (by omega) (by omega)
        · refine WP_iconst (-1) dX5_remove_115 (by decide) ?_
          refine WP_goto 126 dX5_remove_116 (by decide) ?_
          refine ast_7 k 4 dX5_remove_126 f6 q6 n6 rfl hk4 (by decide) ?_
          rw [va_up_self]
          rw [if_pos h2] at hst
          rw [hst]
          refine WP_iinc (nI (k + 1)) dX5_remove_127 rfl (nI_1 _) (by decide) rfl ?_
          refine WP_goto 92 dX5_remove_130 (by decide) ?_
          refine WP_lv [(0, vr (some (W 0))), (2, vi (nI i)), (5, vi (nI (k + 1)))] (List.forall_mem_cons.mpr ⟨rfl, List.forall_mem_cons.mpr ⟨rfl, List.forall_mem_cons.mpr ⟨rfl, fun _ h9 => absurd h9 List.not_mem_nil⟩⟩⟩) ?_
          exact ih (k + 1) (by omega) (by omega)
    · exact fin k (by omega)
theorem p_remove (x : Int32) (hA : AI (t, c, fg, n)) (hI : mI W L K AN R0 Im AIm (t, c, fg, n)) :
    MT G mX5_remove [vr (some (W 0)), vi x] (mkS L K AN R0 Rc Ic AIc AR Im AIm AL) (mR W L K AN R0 Rc Ic AIc AR AL (aRem (t, c, fg, n) x)) := by
  obtain ⟨hM, ⟨ht, hc⟩, hF, hcn, hv, ⟨hth1, hth0⟩, hfg⟩ := id hI
  have ht : Im 1 (W 0) = ix (rk kI t) := ht
  have hc : Im 2 (W 0) = ix (rk kI c) := hc
  have hF : mF W AIm [t, c] := hF
  have hcn : cmO Im W = n := hcn
  have hfg : ∀ k, k < 4 → AIm (W 6) k = ix ((fg k).map (·.2)) := hfg
  have hs : tsz t + tsz c ≤ 60 := hA.1
  have hst : tsz t ≤ 60 := by omega
  have hmt := hF.1 t List.mem_cons_self
  have hnt := mF_hd hF
  obtain ⟨m0, ⟨f1, f2, f3, f4, f5, f6, f7⟩, ⟨⟨q1, n1⟩, ⟨q2, n2⟩, ⟨q3, n3⟩, ⟨q4, n4⟩, ⟨q5, n5⟩, ⟨q6, n6⟩, ⟨q7, n7⟩⟩, hne⟩ := id hM
  refine MT_of (by decide) rfl (Nat.le_of_ble_eq_true rfl) ?_
  by_cases hx : inP (tsz t) x
  · refine WP_aload_n dX5_remove_0 rfl ?_
    refine WP_aload_n dX5_remove_1 rfl ?_
    refine WP_iload_n dX5_remove_2 rfl ?_
    refine callVi mX5_isPlace [_] dX5_remove_3 okc_X5_isPlace ok_781 ⟨by decide, by decide⟩ rfl rfl m0 rfl (Nat.le_of_ble_eq_true rfl) (Nat.le_of_ble_eq_true rfl) (Nat.le_of_ble_eq_true rfl) (m_isPlace x hM ht hmt hnt hst) (fun x1 S1 h1 => ?_)
    obtain ⟨rfl, I1, A1, rfl, s1, -⟩ := h1
    rw [if_pos hx]
    refine WP_if_eq 13 dX5_remove_6 (by decide) (fun hb => absurd hb (by decide)) (fun _ => ?_)
    refine WP_iconst (0) dX5_remove_9 (by decide) ?_
    refine WP_goto 14 dX5_remove_10 (by decide) ?_
    refine callVi mX5_goesWell [_] dX5_remove_14 okc_X5_goesWell ok_749 ⟨by decide, by decide⟩ rfl rfl m0 rfl (Nat.le_of_ble_eq_true rfl) (Nat.le_of_ble_eq_true rfl) (Nat.le_of_ble_eq_true rfl) (m_goesWell 0 hM) (fun x1 S1 h1 => ?_)
    obtain ⟨rfl, rfl⟩ := h1
    rw [if_pos rfl]
    have hI2 := mI_S hI s1 0
    have th : (u2 I1 0 (W 0) 0) 0 (W 0) = 0 := u2_eq _ _ _ _
    generalize u2 I1 0 (W 0) 0 = Im2 at hI2 th ⊢
    refine WP_if_ne 22 dX5_remove_17 (by decide) (fun _ => ?_) (fun hb => absurd hb (by decide))
    obtain ⟨-, ⟨ht2, hc2⟩, hF2, hn2, hv2, ⟨hi2, hj2⟩, hfg2⟩ := id hI2
    have ht2 : Im2 1 (W 0) = ix (rk kI t) := ht2
    have hc2 : Im2 2 (W 0) = ix (rk kI c) := hc2
    have hF2 : mF W A1 [t, c] := hF2
    have hn2 : cmO Im2 W = n := hn2
    have hfg2 : ∀ k, k < 4 → A1 (W 6) k = ix ((fg k).map (·.2)) := hfg2
    have hv2 : ∀ x, mB t c x → A1 (W 1) x.2.1 = x.2.2 := hv2
    obtain ⟨k, hk, rfl⟩ := inP_of hx (by omega)
    obtain ⟨v, l, r, u1, u2', u3, u4⟩ := upT_id hk
    have ez : aRem (t, c, fg, n) (nI k) = (0, vAt t k, (joinT l r, c, (fun q => if fg q = some (idAt t k) then none else fg q), addC (addC (begC n) (upC t k)) (joinC l r))) := by
      unfold aRem
      rw [if_pos hx, pI_n (by omega), u1]
      rfl
    rw [ez]
    have hi2 : ∀ x, mB t c x → A1 (W 5) x.2.1 = 1 := hi2
    have hj2 : ∀ i, i < 60 → (∀ x, mB t c x → x.2.1 ≠ i) → A1 (W 5) i = 0 := hj2
    refine WP_aload_n dX5_remove_22 rfl ?_
    refine callVv mX5_begins [] dX5_remove_23 okc_X5_begins ok_753 ⟨by decide, by decide⟩ rfl rfl m0 rfl (Nat.le_of_ble_eq_true rfl) (Nat.le_of_ble_eq_true rfl) (Nat.le_of_ble_eq_true rfl) (m_begins hM) (fun S1 h1 => ?_)
    obtain ⟨I3, rfl, j3, c3⟩ := h1
    refine WP_aload_n dX5_remove_26 rfl ?_
    refine WP_aload_n dX5_remove_27 rfl ?_
    refine gf_RX5_9 dX5_remove_28 rfl rfl m0 ?_
    refine WP_iload_n dX5_remove_31 rfl ?_
    rw [j3 1 (by decide), ht2]
    refine callVi mX5_nodeAt [_, _] dX5_remove_32 okc_X5_nodeAt ok_761 ⟨by decide, by decide⟩ rfl rfl m0 rfl (Nat.le_of_ble_eq_true rfl) (Nat.le_of_ble_eq_true rfl) (Nat.le_of_ble_eq_true rfl) (m_nodeAt k hM (hF2.1 t List.mem_cons_self) hnt hst hk) (fun x1 S1 h1 => ?_)
    obtain ⟨rfl, I4, A4, rfl, s4, -⟩ := h1
    have F4 := mS_F hM s4 hF2
    have X4 := mS_X hM s4
    refine WP_istore_n dX5_remove_35 (by decide) rfl ?_
    refine WP_aload_n dX5_remove_36 rfl ?_
    refine WP_iload_n dX5_remove_37 rfl ?_
    refine callVv mX5_splay [_] dX5_remove_38 okc_X5_splay ok_765 ⟨by decide, by decide⟩ rfl rfl m0 rfl (Nat.le_of_ble_eq_true rfl) (Nat.le_of_ble_eq_true rfl) (Nat.le_of_ble_eq_true rfl) (m_splayAt k hM hk F4) (fun S1 h1 => ?_)
    obtain ⟨I5, A5, rfl, F5, Q5, c5⟩ := h1
    have X5 := mQ_X hM Q5
    rw [u1] at F5
    have hm5 := F5.1 _ List.mem_cons_self
    obtain ⟨y0, y1, y2, y3⟩ := mz (fs := []) hm5
    have hl9 : ∀ j, rk kI l = some j → j < 60 := fun j hj => hm5.2 j (by rw [kl_nd]; exact List.mem_append_left _ (rk_mem kI hj))
    have hr9 : ∀ j, rk kI r = some j → j < 60 := fun j hj => hm5.2 j (by rw [kl_nd]; exact List.mem_append_right _ (List.mem_cons_of_mem _ (rk_mem kI hj)))
    refine WP_aload_n dX5_remove_41 rfl ?_
    refine gf_RX5_20 dX5_remove_42 rfl rfl m0 ?_
    refine WP_iload_n dX5_remove_45 rfl ?_
    refine ald_7 ((idAt t k).2) 60 dX5_remove_46 f2 q2 n2 rfl y0 (by decide) ?_
    rw [y1]
    refine WP_istore_n dX5_remove_47 (by decide) rfl ?_
    refine WP_aload_n dX5_remove_48 rfl ?_
    refine gf_RX5_23 dX5_remove_49 rfl rfl m0 ?_
    refine WP_iload_n dX5_remove_52 rfl ?_
    refine ald_7 ((idAt t k).2) 60 dX5_remove_53 f3 q3 n3 rfl y0 (by decide) ?_
    rw [y2]
    refine WP_istore dX5_remove_54 (by decide) rfl ?_
    refine WP_aload_n dX5_remove_56 rfl ?_
    refine WP_iload_n dX5_remove_57 rfl ?_
    refine WP_iconst (-1) dX5_remove_58 (by decide) ?_
    refine WP_iconst (0) dX5_remove_59 (by decide) ?_
    refine callVv mX5_hang [_, _, _] dX5_remove_60 okc_X5_hang ok_773 ⟨by decide, by decide⟩ rfl rfl m0 rfl (Nat.le_of_ble_eq_true rfl) (Nat.le_of_ble_eq_true rfl) (Nat.le_of_ble_eq_true rfl) (m_hang (rk kI l) none false hM hl9 (fun j hj => by cases hj)) (fun S1 h1 => ?_)
    subst h1
    refine WP_aload_n dX5_remove_63 rfl ?_
    refine WP_iload dX5_remove_64 rfl ?_
    refine WP_iconst (-1) dX5_remove_66 (by decide) ?_
    refine WP_iconst (0) dX5_remove_67 (by decide) ?_
    refine callVv mX5_hang [_, _, _] dX5_remove_68 okc_X5_hang ok_773 ⟨by decide, by decide⟩ rfl rfl m0 rfl (Nat.le_of_ble_eq_true rfl) (Nat.le_of_ble_eq_true rfl) (Nat.le_of_ble_eq_true rfl) (m_hang (rk kI r) none false hM hr9 (fun j hj => by cases hj)) (fun S1 h1 => ?_)
    subst h1
    have d : ∀ j j', j ≠ j' → 1 ≤ j ∧ j ≤ 7 → 1 ≤ j' ∧ j' ≤ 7 → W j ≠ W j' := fun j j' h h1 h2 => mK_d hM h h1 h2
    have F6 : mF W (hgA W false (hgA W false A5 (rk kI l) none) (rk kI r) none) (l :: r :: [c]) := by
      refine rmM F5 ?_ ?_ ?_
      · rw [show W 2 = W (lrW false) from rfl, hgA_s hM, hgA_s hM]
        rfl
      · rw [hgA_o false _ _ _ (d 3 2 (by decide) (by decide) (by decide)) (d 3 4 (by decide) (by decide) (by decide)), hgA_o false _ _ _ (d 3 2 (by decide) (by decide) (by decide)) (d 3 4 (by decide) (by decide) (by decide))]
      · rw [hgA_4 hM, hgA_4 hM]
    have hro : ∀ j, j = 1 ∨ j = 5 ∨ j = 6 → hgA W false (hgA W false A5 (rk kI l) none) (rk kI r) none (W j) = A5 (W j) := by
      intro j hj
      rw [hgA_o false _ _ _ (d j 2 (by omega) (by omega) (by decide)) (d j 4 (by omega) (by omega) (by decide)), hgA_o false _ _ _ (d j 2 (by omega) (by omega) (by decide)) (d j 4 (by omega) (by omega) (by decide))]
    generalize hgA W false (hgA W false A5 (rk kI l) none) (rk kI r) none = A6 at F6 hro ⊢
    refine WP_aload_n dX5_remove_71 rfl ?_
    refine gf_RX5_29 dX5_remove_72 rfl rfl m0 ?_
    refine WP_iload_n dX5_remove_75 rfl ?_
    refine WP_iconst (0) dX5_remove_76 (by decide) ?_
    refine ast_8 ((idAt t k).2) 60 dX5_remove_77 f5 q5 n5 rfl y0 (by decide) ?_
    refine WP_aload_n dX5_remove_78 rfl ?_
    refine WP_aload_n dX5_remove_79 rfl ?_
    refine WP_iload_n dX5_remove_80 rfl ?_
    refine WP_iload dX5_remove_81 rfl ?_
    rw [bz0]
    have F7 : mF W (va_up A6 (W 5) (upd (A6 (W 5)) (idAt t k).2 0)) (l :: r :: [c]) := mF_same (va_up_ne _ _ (d 2 5 (by decide) (by decide) (by decide))) (va_up_ne _ _ (d 3 5 (by decide) (by decide) (by decide))) (va_up_ne _ _ (d 4 5 (by decide) (by decide) (by decide))) F6
    refine callVi mX5_join [_, _] dX5_remove_83 okc_X5_join ok_785 ⟨by decide, by decide⟩ rfl rfl m0 rfl (Nat.le_of_ble_eq_true rfl) (Nat.le_of_ble_eq_true rfl) (Nat.le_of_ble_eq_true rfl) (m_join hM F7) (fun x1 S1 h1 => ?_)
    obtain ⟨rfl, I8, A8, rfl, F8, X8, -, -, c8⟩ := h1
    refine pf_RX5_9 dX5_remove_86 rfl rfl m0 ?_
    refine WP_iconst (0) dX5_remove_89 (by decide) ?_
    refine WP_istore dX5_remove_90 (by decide) rfl ?_
    refine WP_lv [(0, vr (some (W 0))), (2, vi (nI (idAt t k).2)), (5, vi (nI 0))] (List.forall_mem_cons.mpr ⟨rfl, List.forall_mem_cons.mpr ⟨rfl, List.forall_mem_cons.mpr ⟨rfl, fun _ h9 => absurd h9 List.not_mem_nil⟩⟩⟩) ?_
    have e6 : A8 (W 6) = A1 (W 6) := by rw [X8.2.2.2, va_up_ne _ _ (d 6 5 (by decide) (by decide) (by decide)), hro 6 (by decide), X5.2.2.2, X4.2.2.2]
    have e5 : A8 (W 5) = upd (A1 (W 5)) (idAt t k).2 0 := by rw [X8.2.2.1, va_up_self, hro 5 (by decide), X5.2.2.1, X4.2.2.1]
    have e1 : A8 (W 1) = A1 (W 1) := by rw [X8.2.1, va_up_ne _ _ (d 1 5 (by decide) (by decide) (by decide)), hro 1 (by decide), X5.2.1, X4.2.1]
    have key := liftm_loop (G := G) (L := L) (K := K) (AN := AN) (R0 := R0) (Rc := Rc) (Ic := Ic) (AIc := AIc) (AR := AR) (AL := AL) (Im := u2 I8 1 (W 0) (ix (rk kI (joinT l r)))) (AIm := A8) (Q := mR W L K AN R0 Rc Ic AIc AR AL (0, vAt t k, (joinT l r, c, (fun q => if fg q = some (idAt t k) then none else fg q), addC (addC (begC n) (upC t k)) (joinC l r)))) 0 (idAt t k).2 (A8 (W 6)) hM ?_ 4 0 (by decide) (by decide)
    · rw [lfF_0, up_id] at key
      exact key
    · refine WP_aload_n dX5_remove_133 rfl ?_
      refine gf_RX5_16 dX5_remove_134 rfl rfl m0 ?_
      refine WP_iload_n dX5_remove_137 rfl ?_
      refine ald_7 ((idAt t k).2) 60 dX5_remove_138 f1 q1 n1 rfl y0 (by decide) ?_
      rw [va_up_ne _ _ (d 1 6 (by decide) (by decide) (by decide)), e1, show A1 (W 1) (idAt t k).2 = vAt t k from hv2 _ (mB_at hk)]
      refine WP_ireturn dX5_remove_139 rfl rfl (Nat.le_of_ble_eq_true rfl) (Nat.le_of_ble_eq_true rfl) ?_
      have hnd : (kl kI t ++ (kl kI c ++ [])).Nodup := hF2.2
      rw [List.append_nil] at hnd
      have hids : ((ids t ++ ids c).map (·.2)).Nodup := by
        rw [List.map_append, ← kl_eqI, ← kl_eqI]
        exact hnd
      have hidm : idAt t k ∈ ids t := by
        have h1 : ((idAt t k).1, (idAt t k).2, vAt t k) ∈ io t := by
          rw [← u2', u4]
          simp
        exact List.mem_map.mpr ⟨_, h1, rfl⟩
      have hkl : kl kI t = kl kI l ++ (idAt t k).2 :: kl kI r := by
        unfold kl
        rw [← u2']
        simp
      have hin : ∀ z, mB (joinT l r) c z ↔ (mB t c z ∧ z.2.1 ≠ (idAt t k).2) := by
        intro z
        have hnd2 := hnd
        rw [hkl] at hnd2
        obtain ⟨n1', n2', n3'⟩ := List.nodup_append.mp hnd2
        obtain ⟨n4', n5', n6'⟩ := List.nodup_append.mp n1'
        unfold mB
        rw [joinT_io, ← u2']
        constructor
        · rintro (hz | hz)
          · rcases List.mem_append.mp hz with hz | hz
            · exact ⟨Or.inl (List.mem_append_left _ hz), fun e => n6' z.2.1 (List.mem_map.mpr ⟨z, hz, rfl⟩) _ List.mem_cons_self e⟩
            · refine ⟨Or.inl (List.mem_append_right _ (List.mem_cons_of_mem _ hz)), fun e => ?_⟩
              rw [List.nodup_cons] at n5'
              exact n5'.1 (by rw [← e]; exact List.mem_map.mpr ⟨z, hz, rfl⟩)
          · exact ⟨Or.inr hz, fun e => n3' (idAt t k).2 (List.mem_append_right _ List.mem_cons_self) z.2.1 (List.mem_map.mpr ⟨z, hz, rfl⟩) e.symm⟩
        · rintro ⟨hz | hz, hne⟩
          · rcases List.mem_append.mp hz with hz | hz
            · exact Or.inl (List.mem_append_left _ hz)
            · rcases List.mem_cons.mp hz with hz | hz
              · exact absurd (by rw [hz]) hne
              · exact Or.inl (List.mem_append_right _ hz)
          · exact Or.inr hz
      refine ⟨_, _, _, rfl, fun _ => rfl, rfl, ⟨hM, ⟨u2_eq _ _ _ _, ?_⟩, mF_same (va_up_ne _ _ (d 2 6 (by decide) (by decide) (by decide))) (va_up_ne _ _ (d 3 6 (by decide) (by decide) (by decide))) (va_up_ne _ _ (d 4 6 (by decide) (by decide) (by decide))) F8, ?_, fun z hz => ?_, ⟨fun z hz => ?_, fun j hj hz => ?_⟩, fun q hq => ?_⟩, ?_⟩
      · rw [u2_o _ _ _ (by decide), X8.1 2 (by decide), X5.1 2 (by decide), X4.1 2 (by decide), j3 2 (by decide)]
        exact hc2
      · rw [show cmO (u2 I8 1 (W 0) (ix (rk kI (joinT l r)))) W = cmO I8 W from by simp [cmO, u2], c8, c5, mS_c s4, c3, hn2]
      · rw [va_up_ne _ _ (d 1 6 (by decide) (by decide) (by decide)), e1]
        exact hv2 z ((hin z).mp hz).1
      · rw [va_up_ne _ _ (d 5 6 (by decide) (by decide) (by decide)), e5, pk_un ((hin z).mp hz).2]
        exact hi2 z ((hin z).mp hz).1
      · rw [va_up_ne _ _ (d 5 6 (by decide) (by decide) (by decide)), e5]
        by_cases hji : j = (idAt t k).2
        · rw [hji]
          exact pk_us
        · rw [pk_un hji]
          exact hj2 j hj (fun z h e => hz z ((hin z).mpr ⟨h, fun e2 => hji (e.symm.trans e2)⟩) e)
      · rw [va_up_self]
        show lfF (idAt t k).2 4 (A8 (W 6)) q = ix ((if fg q = some (idAt t k) then none else fg q).map (·.2))
        unfold lfF
        rw [e6, hfg2 q hq]
        cases hg : fg q with
        | none =>
          rw [if_neg (fun h => absurd h.2.symm (nI_ne1 y0)), if_neg (fun h => by cases h)]
        | some p =>
          have hp := hA.2 q p hq hg
          by_cases hpe : p = idAt t k
          · rw [hpe, if_pos ⟨hq, rfl⟩, if_pos rfl]
            rfl
          · have hp60 : p.2 < 60 := by
              rcases hp with hp | hp
              · obtain ⟨v, hv9⟩ := in_ids hp
                exact (hF2.1 t (by simp)).2 _ (List.mem_map.mpr ⟨_, hv9, rfl⟩)
              · obtain ⟨v, hv9⟩ := in_ids hp
                exact (hF2.1 c (by simp)).2 _ (List.mem_map.mpr ⟨_, hv9, rfl⟩)
            rw [if_neg, if_neg (fun h => hpe (Option.some.inj h))]
            rintro ⟨-, h⟩
            have h : nI p.2 = nI (idAt t k).2 := h
            have h2 := (nI_eq (by omega) (by omega)).mp h
            exact hpe (nodup_snd2 hids (List.mem_append.mpr hp) (List.mem_append_left _ hidm) h2)
      · rw [u2_o _ _ _ (by decide), X8.1 0 (by decide), X5.1 0 (by decide), X4.1 0 (by decide), j3 0 (by decide)]
        exact th
  · have ez : aRem (t, c, fg, n) x = (1, 0, (t, c, fg, n)) := by
      unfold aRem
      rw [if_neg hx]
    rw [ez]
    refine WP_aload_n dX5_remove_0 rfl ?_
    refine WP_aload_n dX5_remove_1 rfl ?_
    refine WP_iload_n dX5_remove_2 rfl ?_
    refine callVi mX5_isPlace [_] dX5_remove_3 okc_X5_isPlace ok_781 ⟨by decide, by decide⟩ rfl rfl m0 rfl (Nat.le_of_ble_eq_true rfl) (Nat.le_of_ble_eq_true rfl) (Nat.le_of_ble_eq_true rfl) (m_isPlace x hM ht hmt hnt hst) (fun x1 S1 h1 => ?_)
    obtain ⟨rfl, I1, A1, rfl, s1, -⟩ := h1
    rw [if_neg hx]
    refine WP_if_eq 13 dX5_remove_6 (by decide) (fun _ => ?_) (fun hb => absurd hb (by decide))
    refine WP_iconst (1) dX5_remove_13 (by decide) ?_
    refine callVi mX5_goesWell [_] dX5_remove_14 okc_X5_goesWell ok_749 ⟨by decide, by decide⟩ rfl rfl m0 rfl (Nat.le_of_ble_eq_true rfl) (Nat.le_of_ble_eq_true rfl) (Nat.le_of_ble_eq_true rfl) (m_goesWell 1 hM) (fun x1 S1 h1 => ?_)
    obtain ⟨rfl, rfl⟩ := h1
    rw [if_neg (by decide)]
    refine WP_if_ne 22 dX5_remove_17 (by decide) (fun hb => absurd hb (by decide)) (fun _ => ?_)
    refine WP_iconst (0) dX5_remove_20 (by decide) ?_
    refine WP_ireturn dX5_remove_21 rfl rfl (Nat.le_of_ble_eq_true rfl) (Nat.le_of_ble_eq_true rfl) ?_
    exact mR_thr hI s1
/-! the height -/
theorem lvT_spec (t : Tr) : ∀ (fs : List Fr) (x : Nat), x ≤ lvT t fs.length x ∧ (∀ k, k < tsz t → (zat t k fs).2.length + 1 ≤ lvT t fs.length x) ∧ (lvT t fs.length x = x ∨ ∃ k, k < tsz t ∧ lvT t fs.length x = (zat t k fs).2.length + 1) := by
  induction t with
  | leaf => exact fun fs x => ⟨Nat.le_refl _, fun k hk => absurd hk (Nat.not_lt_zero _), Or.inl rfl⟩
  | inner a i v l r ihl ihr =>
    intro fs x
    obtain ⟨l1, l2, l3⟩ := ihl ((true, (a, i, v), r) :: fs) (max x (fs.length + 1))
    obtain ⟨r1, r2, r3⟩ := ihr ((false, (a, i, v), l) :: fs) (lvT l (fs.length + 1) (max x (fs.length + 1)))
    have e : lvT (Std.DTreeMap.Internal.Impl.inner a i v l r) fs.length x = lvT r (fs.length + 1) (lvT l (fs.length + 1) (max x (fs.length + 1))) := rfl
    have l1 : max x (fs.length + 1) ≤ lvT l (fs.length + 1) (max x (fs.length + 1)) := l1
    have r1 : lvT l (fs.length + 1) (max x (fs.length + 1)) ≤ lvT r (fs.length + 1) (lvT l (fs.length + 1) (max x (fs.length + 1))) := r1
    have hsz : tsz (Std.DTreeMap.Internal.Impl.inner a i v l r) = tsz l + 1 + tsz r := rfl
    rw [e, hsz]
    refine ⟨Nat.le_trans (Nat.le_max_left _ _) (Nat.le_trans l1 r1), fun k hk => ?_, ?_⟩
    · rw [show zat (Std.DTreeMap.Internal.Impl.inner a i v l r) k fs = _ from zat_in a i v l r k fs]
      by_cases h1 : k < tsz l
      · rw [if_pos h1]
        exact Nat.le_trans (l2 k h1) r1
      · rw [if_neg h1]
        by_cases h2 : k = tsz l
        · rw [if_pos h2]
          show fs.length + 1 ≤ _
          exact Nat.le_trans (Nat.le_max_right _ _) (Nat.le_trans l1 r1)
        · rw [if_neg h2]
          exact r2 (k - tsz l - 1) (by omega)
    · rcases r3 with r3 | ⟨k, hk, r3⟩
      · have r3 : lvT r (fs.length + 1) (lvT l (fs.length + 1) (max x (fs.length + 1))) = lvT l (fs.length + 1) (max x (fs.length + 1)) := r3
        rw [r3]
        rcases l3 with l3 | ⟨k, hk, l3⟩
        · have l3 : lvT l (fs.length + 1) (max x (fs.length + 1)) = max x (fs.length + 1) := l3
          rw [l3]
          by_cases hm : fs.length + 1 ≤ x
          · exact Or.inl (Nat.max_eq_left hm)
          · refine Or.inr ⟨tsz l, by omega, ?_⟩
            rw [show zat (Std.DTreeMap.Internal.Impl.inner a i v l r) (tsz l) fs = _ from zat_in a i v l r _ fs, if_neg (Nat.lt_irrefl _), if_pos rfl, Nat.max_eq_right (by omega)]
        · refine Or.inr ⟨k, by omega, ?_⟩
          rw [show zat (Std.DTreeMap.Internal.Impl.inner a i v l r) k fs = _ from zat_in a i v l r k fs, if_pos hk]
          exact l3
      · refine Or.inr ⟨tsz l + 1 + k, by omega, ?_⟩
        rw [show zat (Std.DTreeMap.Internal.Impl.inner a i v l r) (tsz l + 1 + k) fs = _ from zat_in a i v l r _ fs, if_neg (by omega), if_neg (by omega), show tsz l + 1 + k - tsz l - 1 = k by omega]
        exact r3
def mxF (g : Nat → Nat) : Nat → Nat
  | 0 => 0
  | k + 1 => if mxF g k < g k then g k else mxF g k
theorem mxF_spec (g : Nat → Nat) : ∀ k, (∀ j, j < k → g j ≤ mxF g k) ∧ (mxF g k = 0 ∨ ∃ j, j < k ∧ mxF g k = g j) := by
  intro k
  induction k with
  | zero => exact ⟨fun j hj => absurd hj (Nat.not_lt_zero _), Or.inl rfl⟩
  | succ k ih =>
    obtain ⟨h1, h2⟩ := ih
    unfold mxF
    by_cases h : mxF g k < g k
    · rw [if_pos h]
      refine ⟨fun j hj => ?_, Or.inr ⟨k, by omega, rfl⟩⟩
      by_cases e : j = k
      · rw [e]
        exact Nat.le_refl _
      · have := h1 j (by omega)
        omega
    · rw [if_neg h]
      refine ⟨fun j hj => ?_, ?_⟩
      · by_cases e : j = k
        · rw [e]
          omega
        · exact h1 j (by omega)
      · rcases h2 with h2 | ⟨j, hj, h2⟩
        · exact Or.inl h2
        · exact Or.inr ⟨j, by omega, h2⟩
theorem mxF_lv (t : Tr) : mxF (fun k => upN t k + 1) (tsz t) = lvT t 0 0 := by
  obtain ⟨l1, l2, l3⟩ := lvT_spec t [] 0
  obtain ⟨m1, m2⟩ := mxF_spec (fun k => upN t k + 1) (tsz t)
  have l2 : ∀ k, k < tsz t → upN t k + 1 ≤ lvT t 0 0 := l2
  have l3 : lvT t 0 0 = 0 ∨ ∃ k, k < tsz t ∧ lvT t 0 0 = upN t k + 1 := l3
  apply Nat.le_antisymm
  · rcases m2 with m2 | ⟨j, hj, m2⟩
    · omega
    · rw [m2]
      exact l2 j hj
  · rcases l3 with l3 | ⟨j, hj, l3⟩
    · omega
    · rw [l3]
      exact m1 j hj
theorem height_m {Q : RS → SS → Prop} (hM : mK W L K AN R0) (hm : mT W AIm t) (hs : tsz t ≤ 60) (hmany : Im 3 (W 0) = nI (tsz t)) (ho : ordR (AIm (W 7)) t)
    (hQ : Q (.inl (some (vi (nI (lvT t 0 0))))) (mkS L K AN R0 Rc Ic AIc AR Im AIm AL)) : ∀ (b k : Nat), tsz t - k ≤ b → k ≤ tsz t →
    WP G mX5_height Q 0 0 17 [(0, vr (some (W 0))), (1, vi (nI (mxF (fun k => upN t k + 1) k))), (2, vi (nI k))] [] (mkS L K AN R0 Rc Ic AIc AR Im AIm AL) := by
  have hM' := hM
  obtain ⟨m0, ⟨f1, f2, f3, f4, f5, f6, f7⟩, ⟨⟨q1, n1⟩, ⟨q2, n2⟩, ⟨q3, n3⟩, ⟨q4, n4⟩, ⟨q5, n5⟩, ⟨q6, n6⟩, ⟨q7, n7⟩⟩, hne⟩ := hM
  have hle : ∀ k, k ≤ tsz t → mxF (fun k => upN t k + 1) k ≤ 60 := by
    intro k hk
    rcases (mxF_spec (fun k => upN t k + 1) k).2 with h | ⟨j, hj, h⟩
    · omega
    · obtain ⟨fs, a, i, v, l, r, z1, z2, z3, z4, z5, z6, z7⟩ := at_zip (t := t) (k := j) (by omega)
      rw [h]
      show upN t j + 1 ≤ 60
      omega
  have fin : ∀ k, k = tsz t → WP G mX5_height Q 0 0 17 [(0, vr (some (W 0))), (1, vi (nI (mxF (fun k => upN t k + 1) k))), (2, vi (nI k))] [] (mkS L K AN R0 Rc Ic AIc AR Im AIm AL) := by
    intro k hk
    subst hk
    refine WP_iload_n dX5_height_17 rfl ?_
    refine WP_aload_n dX5_height_18 rfl ?_
    refine gf_RX5_46 dX5_height_19 rfl rfl m0 ?_
    rw [hmany, mxF_lv]
    refine WP_icmp_ge 55 dX5_height_22 (by decide) (fun h1 => ?_) (fun h1 => ?_)
    · refine WP_iload_n dX5_height_55 rfl ?_
      refine WP_ireturn dX5_height_56 rfl rfl (Nat.le_of_ble_eq_true rfl) (Nat.le_of_ble_eq_true rfl) ?_
      exact hQ
    · exact absurd (Int32.le_refl _) h1
  intro b
  induction b with
  | zero => intro k hb hk; exact fin k (by omega)
  | succ b ih =>
    intro k hb hk
    by_cases hkt : k < tsz t
    · obtain ⟨fs, a, i, v, l, r, z1, z2, z3, z4, z5, z6, z7⟩ := at_zip hkt
      have hm9 := hm
      rw [z2] at hm9
      have hu : upN t k + 1 ≤ 60 := by omega
      have hl := hle k hk
      refine WP_iload_n dX5_height_17 rfl ?_
      refine WP_aload_n dX5_height_18 rfl ?_
      refine gf_RX5_46 dX5_height_19 rfl rfl m0 ?_
      rw [hmany]
      refine WP_icmp_ge 55 dX5_height_22 (by decide) (fun h1 => ?_) (fun h1 => ?_)
      · exact absurd h1 (nI_ge hkt (by omega))
      · refine WP_aload_n dX5_height_25 rfl ?_
        refine WP_aload_n dX5_height_26 rfl ?_
        refine gf_RX5_36 dX5_height_27 rfl rfl m0 ?_
        refine WP_iload_n dX5_height_30 rfl ?_
        refine ald_7 k 60 dX5_height_31 f7 q7 n7 rfl (by omega) (by decide) ?_
        rw [ho k _ z7]
        refine callVi mX5_depthOf [_] dX5_height_32 okc_X5_depthOf ok_920 ⟨by decide, by decide⟩ rfl rfl m0 rfl (Nat.le_of_ble_eq_true rfl) (Nat.le_of_ble_eq_true rfl) (Nat.le_of_ble_eq_true rfl) (m_depthOf a i v l r fs hM' hm9) (fun x1 S1 h1 => ?_)
        obtain ⟨rfl, rfl⟩ := h1
        rw [← z4]
        refine WP_iconst (1) dX5_height_35 (by decide) ?_
        refine WP_iadd dX5_height_36 ?_
        rw [nI_1]
        refine WP_istore_n dX5_height_37 (by decide) rfl ?_
        refine WP_iload_n dX5_height_38 rfl ?_
        refine WP_iload_n dX5_height_39 rfl ?_
        refine WP_icmp_le 47 dX5_height_40 (by decide) (fun h2 => ?_) (fun h2 => ?_)
        · have h2 := (nI_leI (by omega) (by omega)).mp h2
          refine WP_iload_n dX5_height_47 rfl ?_
          refine WP_istore_n dX5_height_48 (by decide) rfl ?_
          refine WP_iinc (nI (k + 1)) dX5_height_49 rfl (nI_1 _) (by decide) rfl ?_
          refine WP_goto 17 dX5_height_52 (by decide) ?_
          have e : mxF (fun k => upN t k + 1) (k + 1) = mxF (fun k => upN t k + 1) k := if_neg (by show ¬ mxF (fun k => upN t k + 1) k < upN t k + 1; omega)
          rw [← e]
          refine WP_lv [(0, vr (some (W 0))), (1, vi (nI (mxF (fun k => upN t k + 1) (k + 1)))), (2, vi (nI (k + 1)))] (List.forall_mem_cons.mpr ⟨rfl, List.forall_mem_cons.mpr ⟨rfl, List.forall_mem_cons.mpr ⟨rfl, fun _ h9 => absurd h9 List.not_mem_nil⟩⟩⟩) ?_
          exact ih (k + 1) (by omega) (by omega)
        · have h2 : ¬ upN t k + 1 ≤ mxF (fun k => upN t k + 1) k := fun h => h2 (nI_le h (by omega))
          refine WP_iload_n dX5_height_43 rfl ?_
          refine WP_goto 48 dX5_height_44 (by decide) ?_
          refine WP_istore_n dX5_height_48 (by decide) rfl ?_
          refine WP_iinc (nI (k + 1)) dX5_height_49 rfl (nI_1 _) (by decide) rfl ?_
          refine WP_goto 17 dX5_height_52 (by decide) ?_
          have e : mxF (fun k => upN t k + 1) (k + 1) = upN t k + 1 := if_pos (by show mxF (fun k => upN t k + 1) k < upN t k + 1; omega)
          rw [← e]
          refine WP_lv [(0, vr (some (W 0))), (1, vi (nI (mxF (fun k => upN t k + 1) (k + 1)))), (2, vi (nI (k + 1)))] (List.forall_mem_cons.mpr ⟨rfl, List.forall_mem_cons.mpr ⟨rfl, List.forall_mem_cons.mpr ⟨rfl, fun _ h9 => absurd h9 List.not_mem_nil⟩⟩⟩) ?_
          exact ih (k + 1) (by omega) (by omega)
    · exact fin k (by omega)
theorem p_height (hA : AI (t, c, fg, n)) (hI : mI W L K AN R0 Im AIm (t, c, fg, n)) : MT G mX5_height [vr (some (W 0))] (mkS L K AN R0 Rc Ic AIc AR Im AIm AL) (mV W L K AN R0 Rc Ic AIc AR AL (nI (lvT t 0 0)) (t, c, fg, n)) := by
  obtain ⟨hM, ⟨ht, hc⟩, hF, hcn, hv, ⟨hth1, hth0⟩, hfg⟩ := id hI
  have ht : Im 1 (W 0) = ix (rk kI t) := ht
  have hc : Im 2 (W 0) = ix (rk kI c) := hc
  have hF : mF W AIm [t, c] := hF
  have hcn : cmO Im W = n := hcn
  have hfg : ∀ k, k < 4 → AIm (W 6) k = ix ((fg k).map (·.2)) := hfg
  have hs : tsz t + tsz c ≤ 60 := hA.1
  have hst : tsz t ≤ 60 := by omega
  have hmt := hF.1 t List.mem_cons_self
  have hnt := mF_hd hF
  obtain ⟨m0, ⟨f1, f2, f3, f4, f5, f6, f7⟩, ⟨⟨q1, n1⟩, ⟨q2, n2⟩, ⟨q3, n3⟩, ⟨q4, n4⟩, ⟨q5, n5⟩, ⟨q6, n6⟩, ⟨q7, n7⟩⟩, hne⟩ := id hM
  refine MT_of (by decide) rfl (Nat.le_of_ble_eq_true rfl) ?_
  refine WP_aload_n dX5_height_0 rfl ?_
  refine WP_iconst (0) dX5_height_1 (by decide) ?_
  refine pf_RX5_39 dX5_height_2 rfl rfl m0 ?_
  refine WP_iconst (0) dX5_height_5 (by decide) ?_
  refine WP_istore_n dX5_height_6 (by decide) rfl ?_
  refine WP_aload_n dX5_height_7 rfl ?_
  refine WP_aload_n dX5_height_8 rfl ?_
  refine gf_RX5_9 dX5_height_9 rfl rfl m0 ?_
  rw [u2_o _ _ _ (show 1 ≠ 0 by decide), ht]
  refine callVv mX5_layOrder [_] dX5_height_12 okc_X5_layOrder ok_734 ⟨by decide, by decide⟩ rfl rfl m0 rfl (Nat.le_of_ble_eq_true rfl) (Nat.le_of_ble_eq_true rfl) (Nat.le_of_ble_eq_true rfl) (m_layOrder hM hmt hnt hst) (fun S1 h1 => ?_)
  obtain ⟨I4, A4, rfl, s4, o4, o5⟩ := h1
  have s5 : mI W L K AN R0 I4 A4 (t, c, fg, n) := mI_S0 hI s4
  refine WP_iconst (0) dX5_height_15 (by decide) ?_
  refine WP_istore_n dX5_height_16 (by decide) rfl ?_
  refine WP_lv [(0, vr (some (W 0))), (1, vi (nI (mxF (fun k => upN t k + 1) 0))), (2, vi (nI 0))] (List.forall_mem_cons.mpr ⟨rfl, List.forall_mem_cons.mpr ⟨rfl, List.forall_mem_cons.mpr ⟨rfl, fun _ h9 => absurd h9 List.not_mem_nil⟩⟩⟩) ?_
  exact height_m hM ((mS_F hM s4 hF).1 t List.mem_cons_self) hst o4 o5 ⟨_, _, rfl, rfl, s5⟩ _ 0 (Nat.le_refl _) (Nat.zero_le _)
end MRM
