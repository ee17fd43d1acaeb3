/-! ===== the model: insert, remove ===== -/
theorem bz1 : vp_nar .boolean 1 = 1 := by decide
theorem bz0 : vp_nar .boolean 0 = 0 := by decide
def lfF (i k : Nat) (g : Nat → Int32) : Nat → Int32 := fun q => if q < k ∧ g q = nI i then -1 else g q
theorem lfF_step (i k : Nat) (g : Nat → Int32) : upd (lfF i k g) k (if g k = nI i then -1 else g k) = lfF i (k + 1) g := by
  funext q
  unfold upd lfF
  by_cases e : q = k
  · rw [if_pos e, e]
    by_cases h : g k = nI i
    · rw [if_pos h, if_pos ⟨by omega, h⟩]
    · rw [if_neg h, if_neg (fun h2 => h h2.2)]
  · rw [if_neg e]
    by_cases h : q < k ∧ g q = nI i
    · rw [if_pos h, if_pos ⟨by omega, h.2⟩]
    · rw [if_neg h, if_neg (fun h2 => h ⟨by omega, h2.2⟩)]
theorem lfF_at (i k : Nat) (g : Nat → Int32) : lfF i k g k = g k := by
  unfold lfF
  rw [if_neg (by omega)]
theorem lfF_0 (i : Nat) (g : Nat → Int32) : lfF i 0 g = g := by
  funext q
  unfold lfF
  rw [if_neg (by omega)]
theorem nodup_snd2 {l : List (Nat × Nat)} (h : (l.map (·.2)).Nodup) {p q : Nat × Nat} (hp : p ∈ l) (hq : q ∈ l) (e : p.2 = q.2) : p = q := by
  induction l with
  | nil => cases hp
  | cons x l ih =>
    rw [List.map_cons, List.nodup_cons] at h
    rcases List.mem_cons.mp hp with e1 | hp2
    · rcases List.mem_cons.mp hq with e2 | hq2
      · rw [e1, e2]
      · exact absurd (List.mem_map.mpr ⟨q, hq2, by rw [← e, e1]⟩) h.1
    · rcases List.mem_cons.mp hq with e2 | hq2
      · exact absurd (List.mem_map.mpr ⟨p, hp2, by rw [e, e2]⟩) h.1
      · exact ih h.2 hp2 hq2
section MIR
variable {G : GC} {L : List Nat} {K AN : Nat → Nat} {R0 Rc : Nat → Nat → Option Nat} {Ic AIc Im AIm I1 A1 : Nat → Nat → Int32} {AR : Nat → Nat → Option Nat} {AL : Nat → Nat → Int64} {W : Nat → Nat} {t c m : Tr} {fg fg' : Nat → Option (Nat × Nat)} {n : Cn} {F : List Tr}
theorem free_loop {Q : RS → SS → Prop} (x v : Int32) (i : Nat) (hM : mK W L K AN R0) (hi : i < 60) (h0 : AIm (W 5) i = 0) (hj : ∀ j, j < i → AIm (W 5) j = 1)
    (kk : WP G mX5_insert Q 0 0 89 [(0, vr (some (W 0))), (1, vi x), (2, vi v), (3, vi (nI i))] [] (mkS L K AN R0 Rc Ic AIc AR Im AIm AL)) : ∀ (b k : Nat), i - k ≤ b → k ≤ i →
    WP G mX5_insert Q 0 0 74 [(0, vr (some (W 0))), (1, vi x), (2, vi v), (3, vi (nI k))] [] (mkS L K AN R0 Rc Ic AIc AR Im AIm AL) := by
  obtain ⟨m0, ⟨f1, f2, f3, f4, f5, f6, f7⟩, ⟨⟨q1, n1⟩, ⟨q2, n2⟩, ⟨q3, n3⟩, ⟨q4, n4⟩, ⟨q5, n5⟩, ⟨q6, n6⟩, ⟨q7, n7⟩⟩, hne⟩ := hM
  have fin : ∀ k, k = i → WP G mX5_insert Q 0 0 74 [(0, vr (some (W 0))), (1, vi x), (2, vi v), (3, vi (nI k))] [] (mkS L K AN R0 Rc Ic AIc AR Im AIm AL) := by
    intro k hk
    subst hk
    refine WP_aload_n dX5_insert_74 rfl ?_
    refine gf_RX5_29 dX5_insert_75 rfl rfl m0 ?_
    refine WP_iload_n dX5_insert_78 rfl ?_
    refine ald_8 k 60 dX5_insert_79 f5 q5 n5 rfl hi (by decide) ?_
    rw [h0]
    refine WP_if_eq 89 dX5_insert_80 (by decide) (fun _ => ?_) (fun hb => absurd hb (by decide))
    refine WP_lv [(0, vr (some (W 0))), (1, vi x), (2, vi v), (3, vi (nI k))] (List.forall_mem_cons.mpr ⟨rfl, List.forall_mem_cons.mpr ⟨rfl, List.forall_mem_cons.mpr ⟨rfl, List.forall_mem_cons.mpr ⟨rfl, fun _ h9 => absurd h9 List.not_mem_nil⟩⟩⟩⟩) ?_
    exact kk
  intro b
  induction b with
  | zero => intro k hb hk; exact fin k (by omega)
  | succ b ih =>
    intro k hb hk
    by_cases hki : k = i
    · exact fin k hki
    · refine WP_aload_n dX5_insert_74 rfl ?_
      refine gf_RX5_29 dX5_insert_75 rfl rfl m0 ?_
      refine WP_iload_n dX5_insert_78 rfl ?_
      refine ald_8 k 60 dX5_insert_79 f5 q5 n5 rfl (by omega) (by decide) ?_
      rw [hj k (by omega)]
      refine WP_if_eq 89 dX5_insert_80 (by decide) (fun hb => absurd hb (by decide)) (fun _ => ?_)
      refine WP_iinc (nI (k + 1)) dX5_insert_83 rfl (nI_1 _) (by decide) rfl ?_
      refine WP_goto 74 dX5_insert_86 (by decide) ?_
      refine WP_lv [(0, vr (some (W 0))), (1, vi x), (2, vi v), (3, vi (nI (k + 1)))] (List.forall_mem_cons.mpr ⟨rfl, List.forall_mem_cons.mpr ⟨rfl, List.forall_mem_cons.mpr ⟨rfl, List.forall_mem_cons.mpr ⟨rfl, fun _ h9 => absurd h9 List.not_mem_nil⟩⟩⟩⟩) ?_
      exact ih (k + 1) (by omega) (by omega)
theorem p_insert (a i : Nat) (x v : Int32) (hA : AI (t, c, fg, n)) (hI : mI W L K AN R0 Im AIm (t, c, fg, n)) (hi60 : tsz t + tsz c < 60 → i < 60 ∧ AIm (W 5) i = 0 ∧ ∀ j, j < i → AIm (W 5) j = 1) :
    MT G mX5_insert [vr (some (W 0)), vi x, vi v] (mkS L K AN R0 Rc Ic AIc AR Im AIm AL) (mR W L K AN R0 Rc Ic AIc AR AL (aIns (a, i) (t, c, fg, n) x v)) := by
  obtain ⟨hM, ⟨ht, hc⟩, hF, hcn, hv, ⟨hth1, hth0⟩, hfg⟩ := id hI
  have ht : Im 1 (W 0) = ix (rk kI t) := ht
  have hc : Im 2 (W 0) = ix (rk kI c) := hc
  have hF : mF W AIm [t, c] := hF
  have hcn : cmO Im W = n := hcn
  have hfg : ∀ k, k < 4 → AIm (W 6) k = ix ((fg k).map (·.2)) := hfg
  have hs : tsz t + tsz c ≤ 60 := hA.1
  have hst : tsz t ≤ 60 := by omega
  have hmt := hF.1 t List.mem_cons_self
  have hnt := mF_hd hF
  obtain ⟨m0, ⟨f1, f2, f3, f4, f5, f6, f7⟩, ⟨⟨q1, n1⟩, ⟨q2, n2⟩, ⟨q3, n3⟩, ⟨q4, n4⟩, ⟨q5, n5⟩, ⟨q6, n6⟩, ⟨q7, n7⟩⟩, hne⟩ := id hM
  have bad : ∀ I1 A1 (q : Nat) (y : Int32) lv, mS W Im AIm I1 A1 → y = nI (q + 1) → q < 60 → aIns (a, i) (t, c, fg, n) x v = (q + 1, 0, (t, c, fg, n)) → WP G mX5_insert (mR W L K AN R0 Rc Ic AIc AR AL (aIns (a, i) (t, c, fg, n) x v)) 0 0 51 lv [vi y, vr (some (W 0))] (mkS L K AN R0 Rc Ic AIc AR I1 A1 AL) := by
    intro I1 A1 q y lv s1 hy hq ez
    subst hy
    refine callVi mX5_goesWell [_] dX5_insert_51 okc_X5_goesWell ok_749 ⟨by decide, by decide⟩ rfl rfl m0 rfl (Nat.le_of_ble_eq_true rfl) (Nat.le_of_ble_eq_true rfl) (Nat.le_of_ble_eq_true rfl) (m_goesWell (nI (q + 1)) hM) (fun x1 S1 h1 => ?_)
    obtain ⟨rfl, rfl⟩ := h1
    rw [if_neg (nI_ne0 (by omega) (by omega))]
    refine WP_if_ne 59 dX5_insert_54 (by decide) (fun hb => absurd hb (by decide)) (fun _ => ?_)
    refine WP_iconst (0) dX5_insert_57 (by decide) ?_
    refine WP_ireturn dX5_insert_58 rfl rfl (Nat.le_of_ble_eq_true rfl) (Nat.le_of_ble_eq_true rfl) ?_
    rw [ez]
    exact mR_thr hI s1
  refine MT_of (by decide) rfl (Nat.le_of_ble_eq_true rfl) ?_
  refine WP_aload_n dX5_insert_0 rfl ?_
  refine WP_iload_n dX5_insert_1 rfl ?_
  refine WP_if_lt 13 dX5_insert_2 (by decide) (fun hb => ?_) (fun hb => ?_)
  · refine WP_iconst (1) dX5_insert_13 (by decide) ?_
    refine WP_goto 51 dX5_insert_14 (by decide) ?_
    exact bad _ _ 0 _ _ mS_refl rfl (by decide) (by
      unfold aIns
      rw [if_neg (neg_not hb)])
  · refine WP_iload_n dX5_insert_5 rfl ?_
    refine WP_aload_n dX5_insert_6 rfl ?_
    refine callVi mX5_count [] dX5_insert_7 okc_X5_count ok_726 ⟨by decide, by decide⟩ rfl rfl m0 rfl (Nat.le_of_ble_eq_true rfl) (Nat.le_of_ble_eq_true rfl) (Nat.le_of_ble_eq_true rfl) (m_count hM ht hmt hnt hst) (fun x1 S1 h1 => ?_)
    obtain ⟨rfl, I1, A1, rfl, s1, -⟩ := h1
    by_cases hx : inP (tsz t + 1) x
    · have hx2 := (inP_le hb (by omega)).mpr hx
      refine WP_icmp_le 17 dX5_insert_10 (by decide) (fun hb2 => ?_) (fun hb2 => ?_)
      · refine WP_iload_n dX5_insert_17 rfl ?_
        refine callSi mX5_isValue [_] dX5_insert_18 okc_X5_isValue ok_746 ⟨by decide, by decide⟩ rfl rfl (Nat.le_of_ble_eq_true rfl) (Nat.le_of_ble_eq_true rfl) (Nat.le_of_ble_eq_true rfl) (m_isValue v) rfl (fun x1 S1 h1 => ?_)
        obtain ⟨rfl, rfl⟩ := h1
        by_cases hd : okv v
        · rw [if_pos hd]
          refine WP_if_ne 28 dX5_insert_21 (by decide) (fun _ => ?_) (fun hb => absurd hb (by decide))
          refine WP_aload_n dX5_insert_28 rfl ?_
          refine callVi mX5_count [] dX5_insert_29 okc_X5_count ok_726 ⟨by decide, by decide⟩ rfl rfl m0 rfl (Nat.le_of_ble_eq_true rfl) (Nat.le_of_ble_eq_true rfl) (Nat.le_of_ble_eq_true rfl) (m_count hM (by rw [s1.1 1 (by decide)]; exact ht) ((mS_F hM s1 hF).1 t List.mem_cons_self) hnt hst) (fun x1 S1 h1 => ?_)
          obtain ⟨rfl, I2, A2, rfl, s2, -⟩ := h1
          have s12 := mS_trans s1 s2
          refine WP_aload_n dX5_insert_32 rfl ?_
          refine WP_aload_n dX5_insert_33 rfl ?_
          refine gf_RX5_13 dX5_insert_34 rfl rfl m0 ?_
          rw [s12.1 2 (by decide), hc]
          refine callVi mX5_sizeOf [_] dX5_insert_37 okc_X5_sizeOf ok_730 ⟨by decide, by decide⟩ rfl rfl m0 rfl (Nat.le_of_ble_eq_true rfl) (Nat.le_of_ble_eq_true rfl) (Nat.le_of_ble_eq_true rfl) (m_sizeOf hM ((mS_F hM s12 hF).1 c (by simp)) (mF_hd (mF_tail hF)) (by omega)) (fun x1 S1 h1 => ?_)
          obtain ⟨rfl, I3, A3, rfl, s3, -⟩ := h1
          have s13 := mS_trans s12 s3
          refine WP_iadd dX5_insert_40 ?_
          refine WP_bipush (60) dX5_insert_41 (by decide) ?_
          rw [nI_add]
          by_cases h60 : tsz t + tsz c < 60
          · obtain ⟨hi, hi0, hi1⟩ := hi60 h60
            refine WP_icmp_ne 50 dX5_insert_43 (by decide) (fun hb3 => ?_) (fun hb3 => ?_)
            · refine WP_iconst (0) dX5_insert_50 (by decide) ?_
              refine callVi mX5_goesWell [_] dX5_insert_51 okc_X5_goesWell ok_749 ⟨by decide, by decide⟩ rfl rfl m0 rfl (Nat.le_of_ble_eq_true rfl) (Nat.le_of_ble_eq_true rfl) (Nat.le_of_ble_eq_true rfl) (m_goesWell 0 hM) (fun x1 S1 h1 => ?_)
              obtain ⟨rfl, rfl⟩ := h1
              rw [if_pos rfl]
              have hI2 := mI_S hI s13 0
              have th : (u2 I3 0 (W 0) 0) 0 (W 0) = 0 := u2_eq _ _ _ _
              generalize u2 I3 0 (W 0) 0 = Im2 at hI2 th ⊢
              obtain ⟨-, ⟨ht2, hc2⟩, hF2, hn2, hv2, ⟨hi2, hj2⟩, hfg2⟩ := id hI2
              have ht2 : Im2 1 (W 0) = ix (rk kI t) := ht2
              have hc2 : Im2 2 (W 0) = ix (rk kI c) := hc2
              have hF2 : mF W A3 [t, c] := hF2
              have hn2 : cmO Im2 W = n := hn2
              have hfg2 : ∀ k, k < 4 → A3 (W 6) k = ix ((fg k).map (·.2)) := hfg2
              have hv2 : ∀ x, mB t c x → A3 (W 1) x.2.1 = x.2.2 := hv2
              have hi2 : ∀ x, mB t c x → A3 (W 5) x.2.1 = 1 := hi2
              have hj2 : ∀ i, i < 60 → (∀ x, mB t c x → x.2.1 ≠ i) → A3 (W 5) i = 0 := hj2
              have X13 := mS_X hM s13
              obtain ⟨k, hk, rfl⟩ := inP_of hx (by omega)
              have ez : aIns (a, i) (t, c, fg, n) (nI k) v = (0, nI (tsz t + 1), (nd a i v (splT t k).1 (splT t k).2, c, fg, addC (begC n) (splC t k))) := by
                unfold aIns
                rw [if_pos hx, if_pos hd, if_pos h60, pI_n (by omega)]
              rw [ez]
              refine WP_if_ne 59 dX5_insert_54 (by decide) (fun _ => ?_) (fun hb => absurd hb (by decide))
              refine WP_aload_n dX5_insert_59 rfl ?_
              refine callVv mX5_begins [] dX5_insert_60 okc_X5_begins ok_753 ⟨by decide, by decide⟩ rfl rfl m0 rfl (Nat.le_of_ble_eq_true rfl) (Nat.le_of_ble_eq_true rfl) (Nat.le_of_ble_eq_true rfl) (m_begins hM) (fun S1 h1 => ?_)
              obtain ⟨I4, rfl, j4, c4⟩ := h1
              refine WP_aload_n dX5_insert_63 rfl ?_
              refine WP_aload_n dX5_insert_64 rfl ?_
              refine gf_RX5_9 dX5_insert_65 rfl rfl m0 ?_
              refine WP_iload_n dX5_insert_68 rfl ?_
              rw [j4 1 (by decide), ht2]
              refine callVv mX5_split [_, _] dX5_insert_69 okc_X5_split ok_757 ⟨by decide, by decide⟩ rfl rfl m0 rfl (Nat.le_of_ble_eq_true rfl) (Nat.le_of_ble_eq_true rfl) (Nat.le_of_ble_eq_true rfl) (m_split k hM hF2 hst (by omega)) (fun S1 h1 => ?_)
              obtain ⟨I5, A5, rfl, F5, X5, c5, g4, g5⟩ := h1
              have r5 : A5 (W 5) = AIm (W 5) := X5.2.2.1.trans X13.2.2.1
              refine WP_iconst (0) dX5_insert_72 (by decide) ?_
              refine WP_istore_n dX5_insert_73 (by decide) rfl ?_
              refine WP_lv [(0, vr (some (W 0))), (1, vi (nI k)), (2, vi v), (3, vi (nI 0))] (List.forall_mem_cons.mpr ⟨rfl, List.forall_mem_cons.mpr ⟨rfl, List.forall_mem_cons.mpr ⟨rfl, List.forall_mem_cons.mpr ⟨rfl, fun _ h9 => absurd h9 List.not_mem_nil⟩⟩⟩⟩) ?_
              refine free_loop (nI k) v i hM hi (by rw [r5]; exact hi0) (fun j hj => by rw [r5]; exact hi1 j hj) ?_ i 0 (by omega) (Nat.zero_le _)
              have hfree : ∀ z, mB t c z → z.2.1 ≠ i := fun z hz e => by
                have h1 := hi2 z hz
                rw [e, X13.2.2.1, hi0] at h1
                exact absurd h1 (by decide)
              refine WP_aload_n dX5_insert_89 rfl ?_
              refine gf_RX5_29 dX5_insert_90 rfl rfl m0 ?_
              refine WP_iload_n dX5_insert_93 rfl ?_
              refine WP_iconst (1) dX5_insert_94 (by decide) ?_
              refine ast_8 i 60 dX5_insert_95 f5 q5 n5 rfl hi (by decide) ?_
              refine WP_aload_n dX5_insert_96 rfl ?_
              refine gf_RX5_16 dX5_insert_97 rfl rfl m0 ?_
              refine WP_iload_n dX5_insert_100 rfl ?_
              refine WP_iload_n dX5_insert_101 rfl ?_
              refine ast_7 i 60 dX5_insert_102 f1 q1 n1 rfl hi (by decide) ?_
              refine WP_aload_n dX5_insert_103 rfl ?_
              refine gf_RX5_26 dX5_insert_104 rfl rfl m0 ?_
              refine WP_iload_n dX5_insert_107 rfl ?_
              refine WP_iconst (-1) dX5_insert_108 (by decide) ?_
              refine ast_7 i 60 dX5_insert_109 f4 q4 n4 rfl hi (by decide) ?_
              refine WP_aload_n dX5_insert_110 rfl ?_
              refine gf_RX5_20 dX5_insert_111 rfl rfl m0 ?_
              refine WP_iload_n dX5_insert_114 rfl ?_
              refine WP_iconst (-1) dX5_insert_115 (by decide) ?_
              refine ast_7 i 60 dX5_insert_116 f2 q2 n2 rfl hi (by decide) ?_
              refine WP_aload_n dX5_insert_117 rfl ?_
              refine gf_RX5_23 dX5_insert_118 rfl rfl m0 ?_
              refine WP_iload_n dX5_insert_121 rfl ?_
              refine WP_iconst (-1) dX5_insert_122 (by decide) ?_
              refine ast_7 i 60 dX5_insert_123 f3 q3 n3 rfl hi (by decide) ?_
              rw [bz1]
              have d : ∀ j j', j ≠ j' → 1 ≤ j ∧ j ≤ 7 → 1 ≤ j' ∧ j' ≤ 7 → W j ≠ W j' := fun j j' h h1 h2 => mK_d hM h h1 h2
              rw [va_up_ne _ _ (d 1 5 (by decide) (by decide) (by decide)), va_up_ne _ _ (d 4 1 (by decide) (by decide) (by decide)), va_up_ne _ _ (d 4 5 (by decide) (by decide) (by decide)), va_up_ne _ _ (d 2 4 (by decide) (by decide) (by decide)), va_up_ne _ _ (d 2 1 (by decide) (by decide) (by decide)), va_up_ne _ _ (d 2 5 (by decide) (by decide) (by decide)), va_up_ne _ _ (d 3 2 (by decide) (by decide) (by decide)), va_up_ne _ _ (d 3 4 (by decide) (by decide) (by decide)), va_up_ne _ _ (d 3 1 (by decide) (by decide) (by decide)), va_up_ne _ _ (d 3 5 (by decide) (by decide) (by decide))]
              have hB : ∃ B, B = va_up (va_up (va_up (va_up (va_up A5 (W 5) (upd (A5 (W 5)) i 1)) (W 1) (upd (A5 (W 1)) i v)) (W 4) (upd (A5 (W 4)) i (-1))) (W 2) (upd (A5 (W 2)) i (-1))) (W 3) (upd (A5 (W 3)) i (-1)) := ⟨_, rfl⟩
              obtain ⟨B, hB⟩ := hB
              rw [← hB]
              have b1 : B (W 1) = upd (A5 (W 1)) i v := by rw [hB, va_up_ne _ _ (d 1 3 (by decide) (by decide) (by decide)), va_up_ne _ _ (d 1 2 (by decide) (by decide) (by decide)), va_up_ne _ _ (d 1 4 (by decide) (by decide) (by decide)), va_up_self]
              have b5 : B (W 5) = upd (A5 (W 5)) i 1 := by rw [hB, va_up_ne _ _ (d 5 3 (by decide) (by decide) (by decide)), va_up_ne _ _ (d 5 2 (by decide) (by decide) (by decide)), va_up_ne _ _ (d 5 4 (by decide) (by decide) (by decide)), va_up_ne _ _ (d 5 1 (by decide) (by decide) (by decide)), va_up_self]
              have b6 : B (W 6) = A5 (W 6) := by rw [hB, va_up_ne _ _ (d 6 3 (by decide) (by decide) (by decide)), va_up_ne _ _ (d 6 2 (by decide) (by decide) (by decide)), va_up_ne _ _ (d 6 4 (by decide) (by decide) (by decide)), va_up_ne _ _ (d 6 1 (by decide) (by decide) (by decide)), va_up_ne _ _ (d 6 5 (by decide) (by decide) (by decide))]
              have b3 : B (W 3) = va_up (A5 (W 3)) i (ix none) := by rw [hB, va_up_self]; rfl
              have b2 : B (W 2) = va_up (A5 (W 2)) i (ix none) := by rw [hB, va_up_ne _ _ (d 2 3 (by decide) (by decide) (by decide)), va_up_self]; rfl
              have b4 : B (W 4) = va_up (A5 (W 4)) i (ix none) := by rw [hB, va_up_ne _ _ (d 4 3 (by decide) (by decide) (by decide)), va_up_ne _ _ (d 4 2 (by decide) (by decide) (by decide)), va_up_self]; rfl
              have eio : io t = io (splT t k).1 ++ io (splT t k).2 := by rw [(splT_io t k).1, (splT_io t k).2, List.take_append_drop]
              have hnk : ∀ u ∈ [(splT t k).1, (splT t k).2, c], i ∉ kl kI u := by
                intro u hu hm
                obtain ⟨z, hz, e⟩ := List.mem_map.mp hm
                have : mB t c z := by
                  unfold mB
                  rw [eio]
                  simp only [List.mem_cons, List.not_mem_nil, or_false] at hu
                  rcases hu with rfl | rfl | rfl
                  · exact Or.inl (List.mem_append_left _ hz)
                  · exact Or.inl (List.mem_append_right _ hz)
                  · exact Or.inr hz
                exact hfree z this e
              have F6 : mF W B (nd a i v .leaf .leaf :: [(splT t k).1, (splT t k).2, c]) := newM F5 hi hnk b2 b3 b4
              have hl1 : ∀ j, rk kI (splT t k).1 = some j → j < 60 := fun j hj => (F6.1 (splT t k).1 (by simp)).2 j (rk_mem kI hj)
              have hl2 : ∀ j, rk kI (splT t k).2 = some j → j < 60 := fun j hj => (F6.1 (splT t k).2 (by simp)).2 j (rk_mem kI hj)
              have hli : ∀ j, some i = some j → j < 60 := fun j hj => by cases hj; exact hi
              refine WP_aload_n dX5_insert_124 rfl ?_
              refine WP_aload_n dX5_insert_125 rfl ?_
              refine gf_RX5_81 dX5_insert_126 rfl rfl m0 ?_
              refine WP_iload_n dX5_insert_129 rfl ?_
              refine WP_iconst (0) dX5_insert_130 (by decide) ?_
              rw [g4]
              refine callVv mX5_hang [_, _, _] dX5_insert_131 okc_X5_hang ok_773 ⟨by decide, by decide⟩ rfl rfl m0 rfl (Nat.le_of_ble_eq_true rfl) (Nat.le_of_ble_eq_true rfl) (Nat.le_of_ble_eq_true rfl) (m_hang (rk kI (splT t k).1) (some i) false hM hl1 hli) (fun S1 h1 => ?_)
              subst h1
              have F7 : mF W (hgA W false B (rk kI (splT t k).1) (some i)) (nd a i v (splT t k).1 .leaf :: [(splT t k).2, c]) :=
                attLM F6 (hgA_s hM false B _ _) (hgA_o false B _ _ (d 3 2 (by decide) (by decide) (by decide)) (d 3 4 (by decide) (by decide) (by decide))) (hgA_4 hM false B _ _)
              refine WP_aload_n dX5_insert_134 rfl ?_
              refine WP_aload_n dX5_insert_135 rfl ?_
              refine gf_RX5_84 dX5_insert_136 rfl rfl m0 ?_
              refine WP_iload_n dX5_insert_139 rfl ?_
              refine WP_iconst (1) dX5_insert_140 (by decide) ?_
              rw [g5]
              refine callVv mX5_hang [_, _, _] dX5_insert_141 okc_X5_hang ok_773 ⟨by decide, by decide⟩ rfl rfl m0 rfl (Nat.le_of_ble_eq_true rfl) (Nat.le_of_ble_eq_true rfl) (Nat.le_of_ble_eq_true rfl) (m_hang (rk kI (splT t k).2) (some i) true hM hl2 hli) (fun S1 h1 => ?_)
              subst h1
              have F8 : mF W (hgA W true (hgA W false B (rk kI (splT t k).1) (some i)) (rk kI (splT t k).2) (some i)) (nd a i v (splT t k).1 (splT t k).2 :: [c]) :=
                attRM F7 (hgA_s hM true _ _ _) (hgA_o true _ _ _ (d 2 3 (by decide) (by decide) (by decide)) (d 2 4 (by decide) (by decide) (by decide))) (hgA_4 hM true _ _ _)
              have hro : ∀ j, j = 1 ∨ j = 5 ∨ j = 6 → hgA W true (hgA W false B (rk kI (splT t k).1) (some i)) (rk kI (splT t k).2) (some i) (W j) = B (W j) := by
                intro j hj
                rw [hgA_o true _ _ _ (d j 3 (by omega) (by omega) (by decide)) (d j 4 (by omega) (by omega) (by decide)), hgA_o false _ _ _ (d j 2 (by omega) (by omega) (by decide)) (d j 4 (by omega) (by omega) (by decide))]
              generalize hgA W true (hgA W false B (rk kI (splT t k).1) (some i)) (rk kI (splT t k).2) (some i) = A8 at F8 hro ⊢
              have z1 := tsz_spl1 t k
              have z2 := tsz_spl2 t k
              have hN : tsz (nd a i v (splT t k).1 (splT t k).2) = tsz t + 1 := by
                show tsz (splT t k).1 + 1 + tsz (splT t k).2 = _
                omega
              refine WP_aload_n dX5_insert_144 rfl ?_
              refine WP_iload_n dX5_insert_145 rfl ?_
              refine pf_RX5_9 dX5_insert_146 rfl rfl m0 ?_
              refine WP_aload_n dX5_insert_149 rfl ?_
              refine callVi mX5_count [] dX5_insert_150 okc_X5_count ok_726 ⟨by decide, by decide⟩ rfl rfl m0 rfl (Nat.le_of_ble_eq_true rfl) (Nat.le_of_ble_eq_true rfl) (Nat.le_of_ble_eq_true rfl) (m_count (t := nd a i v (splT t k).1 (splT t k).2) hM (u2_eq _ _ _ _) (F8.1 _ List.mem_cons_self) (mF_hd F8) (by omega)) (fun x1 S1 h1 => ?_)
              obtain ⟨rfl, I9, A9, rfl, s9, -⟩ := h1
              have X9 := mS_X hM s9
              rw [hN]
              refine WP_ireturn dX5_insert_153 rfl rfl (Nat.le_of_ble_eq_true rfl) (Nat.le_of_ble_eq_true rfl) ?_
              have hin : ∀ z, mB (nd a i v (splT t k).1 (splT t k).2) c z → z = (a, i, v) ∨ mB t c z := by
                intro z hz
                unfold mB
                rw [eio]
                rcases hz with hz | hz
                · rcases List.mem_append.mp (show z ∈ io (splT t k).1 ++ (a, i, v) :: io (splT t k).2 from hz) with hz | hz
                  · exact Or.inr (Or.inl (List.mem_append_left _ hz))
                  · rcases List.mem_cons.mp hz with hz | hz
                    · exact Or.inl hz
                    · exact Or.inr (Or.inl (List.mem_append_right _ hz))
                · exact Or.inr (Or.inr hz)
              have hin2 : ∀ z, mB t c z → mB (nd a i v (splT t k).1 (splT t k).2) c z := by
                intro z hz
                unfold mB at hz
                rw [eio] at hz
                rcases hz with hz | hz
                · refine Or.inl ?_
                  show z ∈ io (splT t k).1 ++ (a, i, v) :: io (splT t k).2
                  rcases List.mem_append.mp hz with hz | hz
                  · exact List.mem_append_left _ hz
                  · exact List.mem_append_right _ (List.mem_cons_of_mem _ hz)
                · exact Or.inr hz
              refine ⟨_, _, _, rfl, fun _ => rfl, rfl, ⟨hM, ⟨?_, ?_⟩, mS_F hM s9 F8, ?_, fun z hz => ?_, ⟨fun z hz => ?_, fun j hj hz => ?_⟩, fun q hq => ?_⟩, ?_⟩
              · rw [s9.1 1 (by decide), u2_eq]
                rfl
              · rw [s9.1 2 (by decide), u2_o _ _ _ (by decide), X5.1 2 (by decide), j4 2 (by decide)]
                exact hc2
              · rw [mS_c s9, show cmO (u2 I5 1 (W 0) (nI i)) W = cmO I5 W from by simp [cmO, u2], c5, c4, hn2]
              · rw [X9.2.1, hro 1 (by decide), b1]
                rcases hin z hz with e | e
                · rw [e]
                  exact pk_us
                · rw [pk_un (hfree z e), X5.2.1]
                  exact hv2 z e
              · rw [X9.2.2.1, hro 5 (by decide), b5]
                rcases hin z hz with e | e
                · rw [e]
                  exact pk_us
                · rw [pk_un (hfree z e), X5.2.2.1]
                  exact hi2 z e
              · rw [X9.2.2.1, hro 5 (by decide), b5, pk_un (Ne.symm (hz (a, i, v) (Or.inl (List.mem_append_right _ List.mem_cons_self)))), X5.2.2.1]
                exact hj2 j hj (fun z h => hz z (hin2 z h))
              · rw [X9.2.2.2, hro 6 (by decide), b6, X5.2.2.2]
                exact hfg2 q hq
              · rw [s9.1 0 (by decide), u2_o _ _ _ (by decide), X5.1 0 (by decide), j4 0 (by decide)]
                exact th
            · have : tsz t + tsz c = 60 := (nI_eq (by omega) (by decide)).mp (show nI (tsz t + tsz c) = nI 60 from hb3)
              omega
          · have h60' : tsz t + tsz c = 60 := by omega
            rw [h60']
            refine WP_icmp_ne 50 dX5_insert_43 (by decide) (fun hb => absurd hb (fun h => h rfl)) (fun _ => ?_)
            refine WP_iconst (3) dX5_insert_46 (by decide) ?_
            refine WP_goto 51 dX5_insert_47 (by decide) ?_
            exact bad _ _ 2 _ _ s13 rfl (by decide) (by
              unfold aIns
              rw [if_pos hx, if_pos hd, if_neg h60])
        · rw [if_neg hd]
          refine WP_if_ne 28 dX5_insert_21 (by decide) (fun hb => absurd hb (by decide)) (fun _ => ?_)
          refine WP_iconst (2) dX5_insert_24 (by decide) ?_
          refine WP_goto 51 dX5_insert_25 (by decide) ?_
          exact bad _ _ 1 _ _ s1 rfl (by decide) (by
            unfold aIns
            rw [if_pos hx, if_neg hd])
      · exact absurd hx2 hb2
    · refine WP_icmp_le 17 dX5_insert_10 (by decide) (fun hb2 => ?_) (fun hb2 => ?_)
      · exact absurd ((inP_le hb (by omega)).mp hb2) hx
      · refine WP_iconst (1) dX5_insert_13 (by decide) ?_
        refine WP_goto 51 dX5_insert_14 (by decide) ?_
        exact bad _ _ 0 _ _ s1 rfl (by decide) (by
          unfold aIns
          rw [if_neg hx])
end MIR
