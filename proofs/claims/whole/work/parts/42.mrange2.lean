/-! ===== the model: ranges (2) ===== -/
section MR2
variable {G : GC} {L : List Nat} {K AN : Nat → Nat} {R0 Rc : Nat → Nat → Option Nat} {Ic AIc Im AIm I1 A1 : Nat → Nat → Int32} {AR : Nat → Nat → Option Nat} {AL : Nat → Nat → Int64} {W : Nat → Nat} {t c m : Tr} {fg : Nat → Option (Nat × Nat)} {n : Cn} {F : List Tr}
/-- other values, the same places -/
theorem mI_mk2 {t' c' : Tr} {n' : Cn} (hI : mI W L K AN R0 Im AIm (t, c, fg, n)) (hm : ∀ i, (∃ x, mB t' c' x ∧ x.2.1 = i) ↔ (∃ x, mB t c x ∧ x.2.1 = i)) (hF : mF W A1 [t', c']) (h1 : I1 1 (W 0) = ix (rk kI t')) (h2 : I1 2 (W 0) = ix (rk kI c')) (hn : cmO I1 W = n') (hv' : ∀ x, mB t' c' x → A1 (W 1) x.2.1 = x.2.2) (r5 : A1 (W 5) = AIm (W 5)) (r6 : A1 (W 6) = AIm (W 6)) : mI W L K AN R0 I1 A1 (t', c', fg, n') := by
  obtain ⟨hM, -, -, -, -, ⟨hth1, hth0⟩, hfg⟩ := hI
  refine ⟨hM, ⟨h1, h2⟩, hF, hn, hv', ⟨fun x hx => ?_, fun i hi hx => ?_⟩, by rw [r6]; exact hfg⟩
  · rw [r5]
    obtain ⟨y, hy, e⟩ := (hm x.2.1).mp ⟨x, hx, rfl⟩
    rw [← e]
    exact hth1 y hy
  · rw [r5]
    refine hth0 i hi (fun x h e => ?_)
    obtain ⟨y, hy, e2⟩ := (hm i).mpr ⟨x, h, e⟩
    exact hx y hy e2
theorem kl_rai (d : Int32) (t : Tr) : kl kI (rai d t) = kl kI t := by
  unfold kl
  rw [io_rai, List.map_map]
  rfl
theorem gR_rai {lf rt pa : Nat → Int32} (d : Int32) (t : Tr) : ∀ par, gR ix kI lf rt pa t par → gR ix kI lf rt pa (rai d t) par := by
  induction t with
  | leaf => intro par _; trivial
  | inner a i v l r ihl ihr =>
    rintro par ⟨h1, h2, h3, h4, h5⟩
    exact ⟨by rw [rk_rai]; exact h1, by rw [rk_rai]; exact h2, h3, ihl _ h4, ihr _ h5⟩
theorem mF_rai (d : Int32) (h : mF W AIm (m :: F)) : mF W AIm (rai d m :: F) := by
  refine mF_step h (by rw [kl_rai]) (gR_rai d m none (h.1 m List.mem_cons_self).1) (fun _ _ => ⟨rfl, rfl, rfl⟩)
theorem raise_m {Q : RS → SS → Prop} (x y d : Int32) (hM : mK W L K AN R0) (hm : mT W AIm m) (hn : (kl kI m).Nodup) (hs : tsz m ≤ 60) (hmany : Im 3 (W 0) = nI (tsz m)) (ho : ordR (AIm (W 7)) m)
    (hQ : WP G mX5_raise Q 0 0 82 [(0, vr (some (W 0))), (1, vi x), (2, vi y)] [] (mkS L K AN R0 Rc Ic AIc AR Im (va_up AIm (W 1) (swp (kl kI m) (AIm (W 1)) (fun q => AIm (W 1) q + d))) AL)) : ∀ (b k : Nat), tsz m - k ≤ b → k ≤ tsz m →
    WP G mX5_raise Q 0 0 51 [(0, vr (some (W 0))), (1, vi x), (2, vi y), (3, vi d), (4, vi (nI k))] [] (mkS L K AN R0 Rc Ic AIc AR Im (va_up AIm (W 1) (swp ((kl kI m).take k) (AIm (W 1)) (fun q => AIm (W 1) q + d))) AL) := by
  have hM' := hM
  obtain ⟨m0, ⟨f1, f2, f3, f4, f5, f6, f7⟩, ⟨⟨q1, n1⟩, ⟨q2, n2⟩, ⟨q3, n3⟩, ⟨q4, n4⟩, ⟨q5, n5⟩, ⟨q6, n6⟩, ⟨q7, n7⟩⟩, hne⟩ := hM
  have w71 : W 7 ≠ W 1 := mK_d hM' (by decide) (by decide) (by decide)
  have fin : ∀ k, k = tsz m → WP G mX5_raise Q 0 0 51 [(0, vr (some (W 0))), (1, vi x), (2, vi y), (3, vi d), (4, vi (nI k))] [] (mkS L K AN R0 Rc Ic AIc AR Im (va_up AIm (W 1) (swp ((kl kI m).take k) (AIm (W 1)) (fun q => AIm (W 1) q + d))) AL) := by
    intro k hk
    subst hk
    refine WP_iload dX5_raise_51 rfl ?_
    refine WP_aload_n dX5_raise_53 rfl ?_
    refine gf_RX5_46 dX5_raise_54 rfl rfl m0 ?_
    rw [hmany]
    refine WP_icmp_ge 82 dX5_raise_57 (by decide) (fun h1 => ?_) (fun h1 => ?_)
    · rw [List.take_of_length_le (by rw [kl_len]; exact Nat.le_refl _)]
      refine WP_lv [(0, vr (some (W 0))), (1, vi x), (2, vi y)] (List.forall_mem_cons.mpr ⟨rfl, List.forall_mem_cons.mpr ⟨rfl, List.forall_mem_cons.mpr ⟨rfl, fun _ h9 => absurd h9 List.not_mem_nil⟩⟩⟩) ?_
      exact hQ
    · exact absurd (Int32.le_refl _) h1
  intro b
  induction b with
  | zero => intro k hb hk; exact fin k (by omega)
  | succ b ih =>
    intro k hb hk
    by_cases hkt : k < tsz m
    · obtain ⟨z, hz⟩ := io_at hkt
      have hzk := kl_at hz
      have hi : z.2.1 < 60 := hm.2 _ (List.mem_of_getElem? hzk)
      refine WP_iload dX5_raise_51 rfl ?_
      refine WP_aload_n dX5_raise_53 rfl ?_
      refine gf_RX5_46 dX5_raise_54 rfl rfl m0 ?_
      rw [hmany]
      refine WP_icmp_ge 82 dX5_raise_57 (by decide) (fun h1 => ?_) (fun h1 => ?_)
      · exact absurd h1 (nI_ge hkt (by omega))
      · refine WP_aload_n dX5_raise_60 rfl ?_
        refine gf_RX5_16 dX5_raise_61 rfl rfl m0 ?_
        refine WP_aload_n dX5_raise_64 rfl ?_
        refine gf_RX5_36 dX5_raise_65 rfl rfl m0 ?_
        refine WP_iload dX5_raise_68 rfl ?_
        refine ald_7 k 60 dX5_raise_70 f7 q7 n7 rfl (by omega) (by decide) ?_
        rw [va_up_ne _ _ w71, ho k z hz]
        refine WP_dup2 dX5_raise_71 rfl rfl ?_
        refine ald_7 (z.2.1) 60 dX5_raise_72 f1 q1 n1 rfl hi (by decide) ?_
        rw [va_up_self, swp_out hn hzk]
        refine WP_iload_n dX5_raise_73 rfl ?_
        refine WP_iadd dX5_raise_74 ?_
        refine ast_7 (z.2.1) 60 dX5_raise_75 f1 q1 n1 rfl hi (by decide) ?_
        rw [va_up_self, up_up, show upd (swp ((kl kI m).take k) (AIm (W 1)) (fun q => AIm (W 1) q + d)) z.2.1 (AIm (W 1) z.2.1 + d) = swp ((kl kI m).take (k + 1)) (AIm (W 1)) (fun q => AIm (W 1) q + d) from swp_step (g := fun q => AIm (W 1) q + d) hzk]
        refine WP_iinc (nI (k + 1)) dX5_raise_76 rfl (nI_1 _) (by decide) rfl ?_
        refine WP_goto 51 dX5_raise_79 (by decide) ?_
        refine WP_lv [(0, vr (some (W 0))), (1, vi x), (2, vi y), (3, vi d), (4, vi (nI (k + 1)))] (List.forall_mem_cons.mpr ⟨rfl, List.forall_mem_cons.mpr ⟨rfl, List.forall_mem_cons.mpr ⟨rfl, List.forall_mem_cons.mpr ⟨rfl, List.forall_mem_cons.mpr ⟨rfl, fun _ h9 => absurd h9 List.not_mem_nil⟩⟩⟩⟩⟩) ?_
        exact ih (k + 1) (by omega) (by omega)
    · exact fin k (by omega)
theorem mB_ne {x y : LB} {l r : Tr} (hn : ((kl kI l) ++ (kl kI r)).Nodup) (hx : x ∈ io l) (hy : y ∈ io r) : x.2.1 ≠ y.2.1 := fun e => (List.nodup_append.mp hn).2.2 x.2.1 (List.mem_map.mpr ⟨x, hx, rfl⟩) y.2.1 (List.mem_map.mpr ⟨y, hy, rfl⟩) e
theorem p_raise (x y d : Int32) (hA : AI (t, c, fg, n)) (hI : mI W L K AN R0 Im AIm (t, c, fg, n)) :
    MT G mX5_raise [vr (some (W 0)), vi x, vi y, vi d] (mkS L K AN R0 Rc Ic AIc AR Im AIm AL) (mR W L K AN R0 Rc Ic AIc AR AL (aRai (t, c, fg, n) x y d)) := by
  obtain ⟨hM, ⟨ht, hc⟩, hF, hcn, hv, ⟨hth1, hth0⟩, hfg⟩ := id hI
  have ht : Im 1 (W 0) = ix (rk kI t) := ht
  have hc : Im 2 (W 0) = ix (rk kI c) := hc
  have hF : mF W AIm [t, c] := hF
  have hcn : cmO Im W = n := hcn
  have hfg : ∀ k, k < 4 → AIm (W 6) k = ix ((fg k).map (·.2)) := hfg
  have hs : tsz t + tsz c ≤ 60 := hA.1
  have hst : tsz t ≤ 60 := by omega
  have hmt := hF.1 t List.mem_cons_self
  have hnt := mF_hd hF
  obtain ⟨m0, ⟨f1, f2, f3, f4, f5, f6, f7⟩, ⟨⟨q1, n1⟩, ⟨q2, n2⟩, ⟨q3, n3⟩, ⟨q4, n4⟩, ⟨q5, n5⟩, ⟨q6, n6⟩, ⟨q7, n7⟩⟩, hne⟩ := id hM
  refine MT_of (by decide) rfl (Nat.le_of_ble_eq_true rfl) ?_
  refine WP_aload_n dX5_raise_0 rfl ?_
  refine WP_aload_n dX5_raise_1 rfl ?_
  refine WP_iload_n dX5_raise_2 rfl ?_
  refine WP_iload_n dX5_raise_3 rfl ?_
  refine callVi mX5_isRange [_, _] dX5_raise_4 okc_X5_isRange ok_809 ⟨by decide, by decide⟩ rfl rfl m0 rfl (Nat.le_of_ble_eq_true rfl) (Nat.le_of_ble_eq_true rfl) (Nat.le_of_ble_eq_true rfl) (m_isRange x y hM ht hmt hnt hst) (fun x1 S1 h1 => ?_)
  obtain ⟨rfl, I1, A1, rfl, s1, -⟩ := h1
  by_cases hx : inR (tsz t) x y
  · rw [if_pos hx]
    refine WP_if_ne 14 dX5_raise_7 (by decide) (fun _ => ?_) (fun hb => absurd hb (by decide))
    refine WP_iload_n dX5_raise_14 rfl ?_
    refine callSi mX5_isValue [_] dX5_raise_15 okc_X5_isValue ok_746 ⟨by decide, by decide⟩ rfl rfl (Nat.le_of_ble_eq_true rfl) (Nat.le_of_ble_eq_true rfl) (Nat.le_of_ble_eq_true rfl) (m_isValue d) rfl (fun x1 S1 h1 => ?_)
    obtain ⟨rfl, rfl⟩ := h1
    by_cases hd : okv d
    · rw [if_pos hd]
      refine WP_if_ne 25 dX5_raise_18 (by decide) (fun _ => ?_) (fun hb => absurd hb (by decide))
      refine WP_iconst (0) dX5_raise_25 (by decide) ?_
      refine callVi mX5_goesWell [_] dX5_raise_26 okc_X5_goesWell ok_749 ⟨by decide, by decide⟩ rfl rfl m0 rfl (Nat.le_of_ble_eq_true rfl) (Nat.le_of_ble_eq_true rfl) (Nat.le_of_ble_eq_true rfl) (m_goesWell 0 hM) (fun x1 S1 h1 => ?_)
      obtain ⟨rfl, rfl⟩ := h1
      rw [if_pos rfl]
      have hI2 := mI_S hI s1 0
      have th : (u2 I1 0 (W 0) 0) 0 (W 0) = 0 := u2_eq _ _ _ _
      generalize u2 I1 0 (W 0) 0 = Im2 at hI2 th ⊢
      obtain ⟨-, ⟨ht2, hc2⟩, hF2, hn2, hv2, -, -⟩ := id hI2
      have ht2 : Im2 1 (W 0) = ix (rk kI t) := ht2
      have hc2 : Im2 2 (W 0) = ix (rk kI c) := hc2
      have hF2 : mF W A1 [t, c] := hF2
      have hn2 : cmO Im2 W = n := hn2
      have hv2 : ∀ x, mB t c x → A1 (W 1) x.2.1 = x.2.2 := hv2
      refine WP_if_ne 34 dX5_raise_29 (by decide) (fun _ => ?_) (fun hb => absurd hb (by decide))
      obtain ⟨f, u, hfu, hu, rfl, rfl⟩ := inR_of hx (by omega)
      have z1 := rgT_sz t f u hu hfu
      have ez : aRai (t, c, fg, n) (nI f) (nI u) d = (0, nI u - nI f, (jn3 ((rgT t f u).1, rai d (rgT t f u).2.1, (rgT t f u).2.2), c, fg, jn3N (rgN (begC n) t f u) ((rgT t f u).1, rai d (rgT t f u).2.1, (rgT t f u).2.2))) := by
        unfold aRai rgA
        rw [if_pos hx, if_pos hd, pI_n (by omega), pI_n (by omega)]
      rw [ez]
      refine WP_aload_n dX5_raise_34 rfl ?_
      refine WP_iload_n dX5_raise_35 rfl ?_
      refine WP_iload_n dX5_raise_36 rfl ?_
      refine callVv mX5_open [_, _] dX5_raise_37 okc_X5_open ok_813 ⟨by decide, by decide⟩ rfl rfl m0 rfl (Nat.le_of_ble_eq_true rfl) (Nat.le_of_ble_eq_true rfl) (Nat.le_of_ble_eq_true rfl) (m_open f u hM ht2 hF2 hst hfu hu) (fun S1 h1 => ?_)
      obtain ⟨I3, A3, rfl, F3, j3, ⟨r31, r35, r36⟩, c3, g10, g11, g12⟩ := h1
      have F3' := mF_3 F3
      refine WP_aload_n dX5_raise_40 rfl ?_
      refine WP_aload_n dX5_raise_41 rfl ?_
      refine gf_RX5_127 dX5_raise_42 rfl rfl m0 ?_
      rw [g11]
      refine callVv mX5_layOrder [_] dX5_raise_45 okc_X5_layOrder ok_734 ⟨by decide, by decide⟩ rfl rfl m0 rfl (Nat.le_of_ble_eq_true rfl) (Nat.le_of_ble_eq_true rfl) (Nat.le_of_ble_eq_true rfl) (m_layOrder hM (F3'.1 _ List.mem_cons_self) (mF_hd F3') (by omega)) (fun S1 h1 => ?_)
      obtain ⟨I4, A4, rfl, s4, o4, o5⟩ := h1
      have F4 := mS_F hM s4 F3
      have X4 := mS_X hM s4
      refine WP_iconst (0) dX5_raise_48 (by decide) ?_
      refine WP_istore dX5_raise_49 (by decide) rfl ?_
      refine WP_lv [(0, vr (some (W 0))), (1, vi (nI f)), (2, vi (nI u)), (3, vi d), (4, vi (nI 0))] (List.forall_mem_cons.mpr ⟨rfl, List.forall_mem_cons.mpr ⟨rfl, List.forall_mem_cons.mpr ⟨rfl, List.forall_mem_cons.mpr ⟨rfl, List.forall_mem_cons.mpr ⟨rfl, fun _ h9 => absurd h9 List.not_mem_nil⟩⟩⟩⟩⟩) ?_
      have key := raise_m (G := G) (Rc := Rc) (Ic := Ic) (AIc := AIc) (AR := AR) (AL := AL) (Q := mR W L K AN R0 Rc Ic AIc AR AL (0, nI u - nI f, (jn3 ((rgT t f u).1, rai d (rgT t f u).2.1, (rgT t f u).2.2), c, fg, jn3N (rgN (begC n) t f u) ((rgT t f u).1, rai d (rgT t f u).2.1, (rgT t f u).2.2)))) (nI f) (nI u) d hM (F4.1 (rgT t f u).2.1 (by simp)) (mF_hd F3') (by omega) o4 o5 ?_ (tsz (rgT t f u).2.1) 0 (by omega) (Nat.zero_le _)
      · rw [swp_0, up_id] at key
        exact key
      · have F5 : mF W (va_up A4 (W 1) (swp (kl kI (rgT t f u).2.1) (A4 (W 1)) (fun q => A4 (W 1) q + d))) ((rgT t f u).1 :: rai d (rgT t f u).2.1 :: (rgT t f u).2.2 :: [c]) :=
          mF_3 (mF_rai d (mF_same (va_up_ne _ _ (mK_d hM (by decide) (by decide) (by decide))) (va_up_ne _ _ (mK_d hM (by decide) (by decide) (by decide))) (va_up_ne _ _ (mK_d hM (by decide) (by decide) (by decide))) (mF_3 F4)))
        refine WP_aload_n dX5_raise_82 rfl ?_
        refine callVv mX5_close [] dX5_raise_83 okc_X5_close ok_821 ⟨by decide, by decide⟩ rfl rfl m0 rfl (Nat.le_of_ble_eq_true rfl) (Nat.le_of_ble_eq_true rfl) (Nat.le_of_ble_eq_true rfl) (m_close hM F5 (by rw [X4.1 10 (by decide)]; exact g10) (by rw [X4.1 11 (by decide), rk_rai]; exact g11) (by rw [X4.1 12 (by decide)]; exact g12)) (fun S1 h1 => ?_)
        obtain ⟨I5, A5, rfl, F6, X5, c5⟩ := h1
        refine WP_iload_n dX5_raise_86 rfl ?_
        refine WP_iload_n dX5_raise_87 rfl ?_
        refine WP_isub dX5_raise_88 ?_
        refine WP_ireturn dX5_raise_89 rfl rfl (Nat.le_of_ble_eq_true rfl) (Nat.le_of_ble_eq_true rfl) ?_
        have ev : A5 (W 1) = swp (kl kI (rgT t f u).2.1) (A1 (W 1)) (fun q => A1 (W 1) q + d) := by
          rw [X5.2.1, va_up_self, X4.2.1, r31]
        have hnd : ((kl kI t) ++ ((kl kI c) ++ [])).Nodup := hF2.2
        rw [List.append_nil] at hnd
        have ekl : kl kI t = kl kI (rgT t f u).1 ++ kl kI (rgT t f u).2.1 ++ kl kI (rgT t f u).2.2 := by
          unfold kl
          rw [← rg_io hfu hu]
          simp
        have hnt2 : (kl kI (rgT t f u).1 ++ kl kI (rgT t f u).2.1 ++ kl kI (rgT t f u).2.2).Nodup := by rw [← ekl]; exact hnt
        have hout : ∀ z : LB, z.2.1 ∉ kl kI (rgT t f u).2.1 → mB t c z → swp (kl kI (rgT t f u).2.1) (A1 (W 1)) (fun q => A1 (W 1) q + d) z.2.1 = z.2.2 := by
          intro z hz hb
          unfold swp
          rw [if_neg hz]
          exact hv2 z hb
        have hidx : ∀ z : LB, z ∈ io (rai d (rgT t f u).2.1) → ∃ z0, z0 ∈ io (rgT t f u).2.1 ∧ z0.2.1 = z.2.1 ∧ z.2.2 = z0.2.2 + d := by
          intro z hz
          rw [io_rai] at hz
          obtain ⟨z0, h1, h2⟩ := List.mem_map.mp hz
          subst h2
          exact ⟨z0, h1, rfl, rfl⟩
        refine ⟨_, _, _, rfl, fun _ => rfl, rfl, mI_mk2 hI2 (fun i => ⟨?_, ?_⟩) F6 ?_ ?_ ?_ (fun z hz => ?_) ?_ ?_, ?_⟩
        · rintro ⟨z, hz, rfl⟩
          rcases hz with hz | hz
          · rw [jn3_io] at hz
            rcases List.mem_append.mp hz with hz | hz
            · rcases List.mem_append.mp hz with hz | hz
              · exact ⟨z, Or.inl (by rw [← rg_io hfu hu]; simp [show z ∈ io (rgT t f u).1 from hz]), rfl⟩
              · obtain ⟨z0, h1, h2, -⟩ := hidx z hz
                exact ⟨z0, rg_mB hfu hu h1, h2⟩
            · exact ⟨z, Or.inl (by rw [← rg_io hfu hu]; simp [show z ∈ io (rgT t f u).2.2 from hz]), rfl⟩
          · exact ⟨z, Or.inr hz, rfl⟩
        · rintro ⟨z, hz, rfl⟩
          rcases hz with hz | hz
          · rw [← rg_io hfu hu] at hz
            rcases List.mem_append.mp hz with hz | hz
            · rcases List.mem_append.mp hz with hz | hz
              · exact ⟨z, Or.inl (by rw [jn3_io]; simp [hz]), rfl⟩
              · refine ⟨(z.1, z.2.1, z.2.2 + d), Or.inl ?_, rfl⟩
                rw [jn3_io]
                refine List.mem_append_left _ (List.mem_append_right _ ?_)
                show _ ∈ io (rai d (rgT t f u).2.1)
                rw [io_rai]
                exact List.mem_map.mpr ⟨z, hz, rfl⟩
            · exact ⟨z, Or.inl (by rw [jn3_io]; simp [hz]), rfl⟩
          · exact ⟨z, Or.inr hz, rfl⟩
        · rw [X5.1 1 (by decide), u2_eq]
        · rw [X5.1 2 (by decide), u2_o _ _ _ (by decide), X4.1 2 (by decide), j3 2 (by decide)]
          exact hc2
        · rw [c5, mS_c s4, c3, hn2]
        · rw [ev]
          rcases hz with hz | hz
          · rw [jn3_io] at hz
            rcases List.mem_append.mp hz with hz | hz
            · rcases List.mem_append.mp hz with hz | hz
              · refine hout z (fun h => ?_) (Or.inl (by rw [← rg_io hfu hu]; simp [show z ∈ io (rgT t f u).1 from hz]))
                obtain ⟨w, h1, h2⟩ := List.mem_map.mp h
                exact mB_ne (List.nodup_append.mp hnt2).1 hz h1 h2.symm
              · obtain ⟨z0, h1, h2, h3⟩ := hidx z hz
                unfold swp
                rw [← h2, if_pos (show z0.2.1 ∈ kl kI (rgT t f u).2.1 from List.mem_map.mpr ⟨z0, h1, rfl⟩), h3]
                show A1 (W 1) z0.2.1 + d = _
                rw [hv2 z0 (rg_mB hfu hu h1)]
            · refine hout z (fun h => ?_) (Or.inl (by rw [← rg_io hfu hu]; simp [show z ∈ io (rgT t f u).2.2 from hz]))
              obtain ⟨w, h1, h2⟩ := List.mem_map.mp h
              exact (List.nodup_append.mp hnt2).2.2 w.2.1 (List.mem_append_right _ (List.mem_map.mpr ⟨w, h1, rfl⟩)) z.2.1 (List.mem_map.mpr ⟨z, hz, rfl⟩) h2
          · refine hout z (fun h => ?_) (Or.inr hz)
            refine (List.nodup_append.mp hnd).2.2 z.2.1 ?_ z.2.1 (List.mem_map.mpr ⟨z, hz, rfl⟩) rfl
            rw [ekl]
            exact List.mem_append_left _ (List.mem_append_right _ h)
        · rw [X5.2.2.1, va_up_ne _ _ (mK_d hM (by decide) (by decide) (by decide)), X4.2.2.1, r35]
        · rw [X5.2.2.2, va_up_ne _ _ (mK_d hM (by decide) (by decide) (by decide)), X4.2.2.2, r36]
        · rw [X5.1 0 (by decide), u2_o _ _ _ (by decide), X4.1 0 (by decide), j3 0 (by decide)]
          exact th
    · rw [if_neg hd]
      refine WP_if_ne 25 dX5_raise_18 (by decide) (fun hb => absurd hb (by decide)) (fun _ => ?_)
      refine WP_iconst (2) dX5_raise_21 (by decide) ?_
      refine WP_goto 26 dX5_raise_22 (by decide) ?_
      refine callVi mX5_goesWell [_] dX5_raise_26 okc_X5_goesWell ok_749 ⟨by decide, by decide⟩ rfl rfl m0 rfl (Nat.le_of_ble_eq_true rfl) (Nat.le_of_ble_eq_true rfl) (Nat.le_of_ble_eq_true rfl) (m_goesWell 2 hM) (fun x1 S1 h1 => ?_)
      obtain ⟨rfl, rfl⟩ := h1
      rw [if_neg (by decide)]
      refine WP_if_ne 34 dX5_raise_29 (by decide) (fun hb => absurd hb (by decide)) (fun _ => ?_)
      refine WP_iconst (0) dX5_raise_32 (by decide) ?_
      refine WP_ireturn dX5_raise_33 rfl rfl (Nat.le_of_ble_eq_true rfl) (Nat.le_of_ble_eq_true rfl) ?_
      have ez : aRai (t, c, fg, n) x y d = (2, 0, (t, c, fg, n)) := by
        unfold aRai
        rw [if_pos hx, if_neg hd]
      rw [ez]
      exact mR_thr hI s1
  · rw [if_neg hx]
    refine WP_if_ne 14 dX5_raise_7 (by decide) (fun hb => absurd hb (by decide)) (fun _ => ?_)
    refine WP_iconst (1) dX5_raise_10 (by decide) ?_
    refine WP_goto 26 dX5_raise_11 (by decide) ?_
    refine callVi mX5_goesWell [_] dX5_raise_26 okc_X5_goesWell ok_749 ⟨by decide, by decide⟩ rfl rfl m0 rfl (Nat.le_of_ble_eq_true rfl) (Nat.le_of_ble_eq_true rfl) (Nat.le_of_ble_eq_true rfl) (m_goesWell 1 hM) (fun x1 S1 h1 => ?_)
    obtain ⟨rfl, rfl⟩ := h1
    rw [if_neg (by decide)]
    refine WP_if_ne 34 dX5_raise_29 (by decide) (fun hb => absurd hb (by decide)) (fun _ => ?_)
    refine WP_iconst (0) dX5_raise_32 (by decide) ?_
    refine WP_ireturn dX5_raise_33 rfl rfl (Nat.le_of_ble_eq_true rfl) (Nat.le_of_ble_eq_true rfl) ?_
    have ez : aRai (t, c, fg, n) x y d = (1, 0, (t, c, fg, n)) := by
      unfold aRai
      rw [if_neg hx]
    rw [ez]
    exact mR_thr hI s1
/-! the least -/
def mnF (g : Nat → Int32) : Nat → Int32
  | 0 => g 0
  | k + 1 => if g (k + 1) < mnF g k then g (k + 1) else mnF g k
theorem mnF_spec (g : Nat → Int32) : ∀ k, (∃ j, j ≤ k ∧ mnF g k = g j) ∧ ∀ j, j ≤ k → mnF g k ≤ g j := by
  intro k
  induction k with
  | zero => exact ⟨⟨0, Nat.le_refl _, rfl⟩, fun j hj => by rw [Nat.le_zero.mp hj]; exact Int32.le_refl _⟩
  | succ k ih =>
    obtain ⟨⟨j0, h1, h2⟩, h3⟩ := ih
    unfold mnF
    by_cases h : g (k + 1) < mnF g k
    · rw [if_pos h]
      refine ⟨⟨k + 1, Nat.le_refl _, rfl⟩, fun j hj => ?_⟩
      by_cases e : j = k + 1
      · rw [e]
        exact Int32.le_refl _
      · exact Int32.le_trans (Int32.le_of_lt h) (h3 j (by omega))
    · rw [if_neg h]
      refine ⟨⟨j0, by omega, h2⟩, fun j hj => ?_⟩
      by_cases e : j = k + 1
      · rw [e]
        exact Int32.not_lt.mp h
      · exact h3 j (by omega)
theorem mnT_spec (t : Tr) : ∀ x, (mnT t x = x ∨ mnT t x ∈ vls t) ∧ mnT t x ≤ x ∧ ∀ y ∈ vls t, mnT t x ≤ y := by
  induction t with
  | leaf => exact fun x => ⟨Or.inl rfl, Int32.le_refl _, fun y hy => by cases hy⟩
  | inner a i v l r ihl ihr =>
    intro x
    have e : vls (nd a i v l r) = vls l ++ v :: vls r := by simp [vls, io]
    rw [show vls (Std.DTreeMap.Internal.Impl.inner a i v l r) = vls l ++ v :: vls r from e]
    show (mnT r (mnT l (if v < x then v else x)) = x ∨ mnT r (mnT l (if v < x then v else x)) ∈ vls l ++ v :: vls r) ∧ mnT r (mnT l (if v < x then v else x)) ≤ x ∧ _
    have hw : ((if v < x then v else x) = x ∨ (if v < x then v else x) = v) ∧ (if v < x then v else x) ≤ x ∧ (if v < x then v else x) ≤ v := by
      by_cases h : v < x
      · rw [if_pos h]
        exact ⟨Or.inr rfl, Int32.le_of_lt h, Int32.le_refl _⟩
      · rw [if_neg h]
        exact ⟨Or.inl rfl, Int32.le_refl _, Int32.not_lt.mp h⟩
    obtain ⟨l1, l2, l3⟩ := ihl (if v < x then v else x)
    obtain ⟨r1, r2, r3⟩ := ihr (mnT l (if v < x then v else x))
    refine ⟨?_, Int32.le_trans r2 (Int32.le_trans l2 hw.2.1), fun y hy => ?_⟩
    · rcases r1 with r1 | r1
      · rw [r1]
        rcases l1 with l1 | l1
        · rw [l1]
          rcases hw.1 with h | h
          · exact Or.inl h
          · exact Or.inr (by rw [h]; simp)
        · exact Or.inr (by simp [l1])
      · exact Or.inr (by simp [r1])
    · rcases List.mem_append.mp hy with hy | hy
      · exact Int32.le_trans r2 (l3 y hy)
      · rcases List.mem_cons.mp hy with e | hy
        · rw [e]
          exact Int32.le_trans r2 (Int32.le_trans l2 hw.2.2)
        · exact r3 y hy
theorem low_eq (h : tsz m ≠ 0) : mnF (vAt m) (tsz m - 1) = lowT m := by
  have hat : ∀ j, j < tsz m → vAt m j ∈ vls m := fun j hj => by
    unfold vAt
    rw [List.getElem?_eq_getElem (by rw [vls_len]; exact hj)]
    exact List.getElem_mem _
  have hex : ∀ y ∈ vls m, ∃ j, j < tsz m ∧ vAt m j = y := fun y hy => by
    obtain ⟨j, hj⟩ := List.getElem?_of_mem hy
    refine ⟨j, ?_, ?_⟩
    · rw [← vls_len]
      exact (List.getElem?_eq_some_iff.mp hj).1
    · unfold vAt
      rw [hj]
      rfl
  obtain ⟨⟨j0, h1, h2⟩, h3⟩ := mnF_spec (vAt m) (tsz m - 1)
  have hl : lowT m ∈ vls m ∧ ∀ y ∈ vls m, lowT m ≤ y := by
    cases m with
    | leaf => exact absurd rfl h
    | inner a i v l r =>
      obtain ⟨s1, s2, s3⟩ := mnT_spec (nd a i v l r) v
      refine ⟨?_, s3⟩
      rcases s1 with s1 | s1
      · show mnT _ v ∈ _
        rw [s1]
        simp [vls, io]
      · exact s1
  obtain ⟨j1, g1, g2⟩ := hex _ hl.1
  refine Int32.le_antisymm ?_ ?_
  · rw [← g2]
    exact h3 j1 (by omega)
  · rw [h2]
    exact hl.2 _ (hat j0 (by omega))
theorem least_m {Q : RS → SS → Prop} (x y : Int32) (hM : mK W L K AN R0) (hm : mT W AIm m) (hs : tsz m ≤ 60) (hmany : Im 3 (W 0) = nI (tsz m)) (ho : ordR (AIm (W 7)) m) (hv : ∀ x ∈ io m, AIm (W 1) x.2.1 = x.2.2)
    (hQ : WP G mX5_least Q 0 0 109 [(0, vr (some (W 0))), (1, vi x), (2, vi y), (3, vi (lowT m))] [] (mkS L K AN R0 Rc Ic AIc AR Im AIm AL)) : ∀ (b k : Nat), tsz m - k ≤ b → k < tsz m →
    WP G mX5_least Q 0 0 61 [(0, vr (some (W 0))), (1, vi x), (2, vi y), (3, vi (mnF (vAt m) k)), (4, vi (nI (k + 1)))] [] (mkS L K AN R0 Rc Ic AIc AR Im AIm AL) := by
  have hM' := hM
  obtain ⟨m0, ⟨f1, f2, f3, f4, f5, f6, f7⟩, ⟨⟨q1, n1⟩, ⟨q2, n2⟩, ⟨q3, n3⟩, ⟨q4, n4⟩, ⟨q5, n5⟩, ⟨q6, n6⟩, ⟨q7, n7⟩⟩, hne⟩ := hM
  intro b
  induction b with
  | zero => intro k hb hk; omega
  | succ b ih =>
    intro k hb hk
    refine WP_iload dX5_least_61 rfl ?_
    refine WP_aload_n dX5_least_63 rfl ?_
    refine gf_RX5_46 dX5_least_64 rfl rfl m0 ?_
    rw [hmany]
    by_cases hkt : k + 1 < tsz m
    · obtain ⟨z, hz⟩ := io_at hkt
      have hi : z.2.1 < 60 := hm.2 _ (List.mem_of_getElem? (kl_at hz))
      refine WP_icmp_ge 109 dX5_least_67 (by decide) (fun h1 => ?_) (fun h1 => ?_)
      · exact absurd h1 (nI_ge hkt (by omega))
      · refine WP_aload_n dX5_least_70 rfl ?_
        refine gf_RX5_16 dX5_least_71 rfl rfl m0 ?_
        refine WP_aload_n dX5_least_74 rfl ?_
        refine gf_RX5_36 dX5_least_75 rfl rfl m0 ?_
        refine WP_iload dX5_least_78 rfl ?_
        refine ald_7 (k + 1) 60 dX5_least_80 f7 q7 n7 rfl (by omega) (by decide) ?_
        rw [ho (k + 1) z hz]
        refine ald_7 (z.2.1) 60 dX5_least_81 f1 q1 n1 rfl hi (by decide) ?_
        rw [hv z (List.mem_of_getElem? hz), ← vAt_io hz]
        refine WP_iload_n dX5_least_82 rfl ?_
        refine WP_icmp_ge 101 dX5_least_83 (by decide) (fun h2 => ?_) (fun h2 => ?_)
        · refine WP_iload_n dX5_least_101 rfl ?_
          refine WP_istore_n dX5_least_102 (by decide) rfl ?_
          refine WP_iinc (nI (k + 1 + 1)) dX5_least_103 rfl (nI_1 _) (by decide) rfl ?_
          refine WP_goto 61 dX5_least_106 (by decide) ?_
          have e : mnF (vAt m) k = mnF (vAt m) (k + 1) := (if_neg (Int32.not_lt.mpr h2)).symm
          rw [e]
          refine WP_lv [(0, vr (some (W 0))), (1, vi x), (2, vi y), (3, vi (mnF (vAt m) (k + 1))), (4, vi (nI (k + 1 + 1)))] (List.forall_mem_cons.mpr ⟨rfl, List.forall_mem_cons.mpr ⟨rfl, List.forall_mem_cons.mpr ⟨rfl, List.forall_mem_cons.mpr ⟨rfl, List.forall_mem_cons.mpr ⟨rfl, fun _ h9 => absurd h9 List.not_mem_nil⟩⟩⟩⟩⟩) ?_
          exact ih (k + 1) (by omega) hkt
        · have e : vAt m (k + 1) = mnF (vAt m) (k + 1) := (if_pos (Int32.not_le.mp h2)).symm
          refine WP_aload_n dX5_least_86 rfl ?_
          refine gf_RX5_16 dX5_least_87 rfl rfl m0 ?_
          refine WP_aload_n dX5_least_90 rfl ?_
          refine gf_RX5_36 dX5_least_91 rfl rfl m0 ?_
          refine WP_iload dX5_least_94 rfl ?_
          refine ald_7 (k + 1) 60 dX5_least_96 f7 q7 n7 rfl (by omega) (by decide) ?_
          rw [ho (k + 1) z hz]
          refine ald_7 (z.2.1) 60 dX5_least_97 f1 q1 n1 rfl hi (by decide) ?_
          rw [hv z (List.mem_of_getElem? hz), ← vAt_io hz, e]
          refine WP_goto 102 dX5_least_98 (by decide) ?_
          refine WP_istore_n dX5_least_102 (by decide) rfl ?_
          refine WP_iinc (nI (k + 1 + 1)) dX5_least_103 rfl (nI_1 _) (by decide) rfl ?_
          refine WP_goto 61 dX5_least_106 (by decide) ?_
          refine WP_lv [(0, vr (some (W 0))), (1, vi x), (2, vi y), (3, vi (mnF (vAt m) (k + 1))), (4, vi (nI (k + 1 + 1)))] (List.forall_mem_cons.mpr ⟨rfl, List.forall_mem_cons.mpr ⟨rfl, List.forall_mem_cons.mpr ⟨rfl, List.forall_mem_cons.mpr ⟨rfl, List.forall_mem_cons.mpr ⟨rfl, fun _ h9 => absurd h9 List.not_mem_nil⟩⟩⟩⟩⟩) ?_
          exact ih (k + 1) (by omega) hkt
    · have hkm : k + 1 = tsz m := by omega
      rw [hkm]
      refine WP_icmp_ge 109 dX5_least_67 (by decide) (fun h1 => ?_) (fun h1 => ?_)
      · have e : mnF (vAt m) k = lowT m := by
          rw [← low_eq (by omega), ← hkm]
          rfl
        rw [e]
        refine WP_lv [(0, vr (some (W 0))), (1, vi x), (2, vi y), (3, vi (lowT m))] (List.forall_mem_cons.mpr ⟨rfl, List.forall_mem_cons.mpr ⟨rfl, List.forall_mem_cons.mpr ⟨rfl, List.forall_mem_cons.mpr ⟨rfl, fun _ h9 => absurd h9 List.not_mem_nil⟩⟩⟩⟩) ?_
        exact hQ
      · exact absurd (Int32.le_refl _) h1
theorem p_least (x y : Int32) (hA : AI (t, c, fg, n)) (hI : mI W L K AN R0 Im AIm (t, c, fg, n)) :
    MT G mX5_least [vr (some (W 0)), vi x, vi y] (mkS L K AN R0 Rc Ic AIc AR Im AIm AL) (mR W L K AN R0 Rc Ic AIc AR AL (aLow (t, c, fg, n) x y)) := by
  obtain ⟨hM, ⟨ht, hc⟩, hF, hcn, hv, ⟨hth1, hth0⟩, hfg⟩ := id hI
  have ht : Im 1 (W 0) = ix (rk kI t) := ht
  have hc : Im 2 (W 0) = ix (rk kI c) := hc
  have hF : mF W AIm [t, c] := hF
  have hcn : cmO Im W = n := hcn
  have hfg : ∀ k, k < 4 → AIm (W 6) k = ix ((fg k).map (·.2)) := hfg
  have hs : tsz t + tsz c ≤ 60 := hA.1
  have hst : tsz t ≤ 60 := by omega
  have hmt := hF.1 t List.mem_cons_self
  have hnt := mF_hd hF
  obtain ⟨m0, ⟨f1, f2, f3, f4, f5, f6, f7⟩, ⟨⟨q1, n1⟩, ⟨q2, n2⟩, ⟨q3, n3⟩, ⟨q4, n4⟩, ⟨q5, n5⟩, ⟨q6, n6⟩, ⟨q7, n7⟩⟩, hne⟩ := id hM
  refine MT_of (by decide) rfl (Nat.le_of_ble_eq_true rfl) ?_
  refine WP_aload_n dX5_least_0 rfl ?_
  refine WP_aload_n dX5_least_1 rfl ?_
  refine WP_iload_n dX5_least_2 rfl ?_
  refine WP_iload_n dX5_least_3 rfl ?_
  refine callVi mX5_isRange [_, _] dX5_least_4 okc_X5_isRange ok_809 ⟨by decide, by decide⟩ rfl rfl m0 rfl (Nat.le_of_ble_eq_true rfl) (Nat.le_of_ble_eq_true rfl) (Nat.le_of_ble_eq_true rfl) (m_isRange x y hM ht hmt hnt hst) (fun x1 S1 h1 => ?_)
  obtain ⟨rfl, I1, A1, rfl, s1, -⟩ := h1
  by_cases hx : inR (tsz t) x y
  · rw [if_pos hx]
    refine WP_if_ne 14 dX5_least_7 (by decide) (fun _ => ?_) (fun hb => absurd hb (by decide))
    refine WP_iload_n dX5_least_14 rfl ?_
    refine WP_iload_n dX5_least_15 rfl ?_
    refine WP_icmp_ne 23 dX5_least_16 (by decide) (fun hxy => ?_) (fun hxy => ?_)
    · refine WP_iconst (0) dX5_least_23 (by decide) ?_
      refine callVi mX5_goesWell [_] dX5_least_24 okc_X5_goesWell ok_749 ⟨by decide, by decide⟩ rfl rfl m0 rfl (Nat.le_of_ble_eq_true rfl) (Nat.le_of_ble_eq_true rfl) (Nat.le_of_ble_eq_true rfl) (m_goesWell 0 hM) (fun x1 S1 h1 => ?_)
      obtain ⟨rfl, rfl⟩ := h1
      rw [if_pos rfl]
      have hI2 := mI_S hI s1 0
      have th : (u2 I1 0 (W 0) 0) 0 (W 0) = 0 := u2_eq _ _ _ _
      generalize u2 I1 0 (W 0) 0 = Im2 at hI2 th ⊢
      obtain ⟨-, ⟨ht2, hc2⟩, hF2, hn2, hv2, -, -⟩ := id hI2
      have ht2 : Im2 1 (W 0) = ix (rk kI t) := ht2
      have hc2 : Im2 2 (W 0) = ix (rk kI c) := hc2
      have hF2 : mF W A1 [t, c] := hF2
      have hn2 : cmO Im2 W = n := hn2
      have hv2 : ∀ x, mB t c x → A1 (W 1) x.2.1 = x.2.2 := hv2
      refine WP_if_ne 32 dX5_least_27 (by decide) (fun _ => ?_) (fun hb => absurd hb (by decide))
      obtain ⟨f, u, hfu, hu, rfl, rfl⟩ := inR_of hx (by omega)
      have z1 := rgT_sz t f u hu hfu
      have hne2 : f ≠ u := fun e => hxy (by rw [e])
      have ez : aLow (t, c, fg, n) (nI f) (nI u) = (0, lowT (rgT t f u).2.1, (jn3 (rgT t f u), c, fg, jn3N (rgN (begC n) t f u) (rgT t f u))) := by
        unfold aLow rgA
        rw [if_pos hx, if_neg hxy, pI_n (by omega), pI_n (by omega)]
        rfl
      rw [ez]
      refine WP_aload_n dX5_least_32 rfl ?_
      refine WP_iload_n dX5_least_33 rfl ?_
      refine WP_iload_n dX5_least_34 rfl ?_
      refine callVv mX5_open [_, _] dX5_least_35 okc_X5_open ok_813 ⟨by decide, by decide⟩ rfl rfl m0 rfl (Nat.le_of_ble_eq_true rfl) (Nat.le_of_ble_eq_true rfl) (Nat.le_of_ble_eq_true rfl) (m_open f u hM ht2 hF2 hst hfu hu) (fun S1 h1 => ?_)
      obtain ⟨I3, A3, rfl, F3, j3, ⟨r31, r35, r36⟩, c3, g10, g11, g12⟩ := h1
      have F3' := mF_3 F3
      refine WP_aload_n dX5_least_38 rfl ?_
      refine WP_aload_n dX5_least_39 rfl ?_
      refine gf_RX5_127 dX5_least_40 rfl rfl m0 ?_
      rw [g11]
      refine callVv mX5_layOrder [_] dX5_least_43 okc_X5_layOrder ok_734 ⟨by decide, by decide⟩ rfl rfl m0 rfl (Nat.le_of_ble_eq_true rfl) (Nat.le_of_ble_eq_true rfl) (Nat.le_of_ble_eq_true rfl) (m_layOrder hM (F3'.1 _ List.mem_cons_self) (mF_hd F3') (by omega)) (fun S1 h1 => ?_)
      obtain ⟨I4, A4, rfl, s4, o4, o5⟩ := h1
      have F4 := mS_F hM s4 F3
      have X4 := mS_X hM s4
      have hv4 : ∀ x ∈ io (rgT t f u).2.1, A4 (W 1) x.2.1 = x.2.2 := fun x hx => by
        rw [X4.2.1, r31]
        exact hv2 x (rg_mB hfu hu hx)
      have h0t : 0 < tsz (rgT t f u).2.1 := by omega
      obtain ⟨z, hz⟩ := io_at h0t
      have hi : z.2.1 < 60 := (F4.1 (rgT t f u).2.1 (by simp)).2 _ (List.mem_of_getElem? (kl_at hz))
      refine WP_aload_n dX5_least_46 rfl ?_
      refine gf_RX5_16 dX5_least_47 rfl rfl m0 ?_
      refine WP_aload_n dX5_least_50 rfl ?_
      refine gf_RX5_36 dX5_least_51 rfl rfl m0 ?_
      refine WP_iconst (0) dX5_least_54 (by decide) ?_
      refine ald_7 0 60 dX5_least_55 f7 q7 n7 rfl (by omega) (by decide) ?_
      rw [o5 0 z hz]
      refine ald_7 (z.2.1) 60 dX5_least_56 f1 q1 n1 rfl hi (by decide) ?_
      rw [hv4 z (List.mem_of_getElem? hz), ← vAt_io hz]
      refine WP_istore_n dX5_least_57 (by decide) rfl ?_
      refine WP_iconst (1) dX5_least_58 (by decide) ?_
      refine WP_istore dX5_least_59 (by decide) rfl ?_
      refine WP_lv [(0, vr (some (W 0))), (1, vi (nI f)), (2, vi (nI u)), (3, vi (mnF (vAt (rgT t f u).2.1) 0)), (4, vi (nI (0 + 1)))] (List.forall_mem_cons.mpr ⟨rfl, List.forall_mem_cons.mpr ⟨rfl, List.forall_mem_cons.mpr ⟨rfl, List.forall_mem_cons.mpr ⟨rfl, List.forall_mem_cons.mpr ⟨rfl, fun _ h9 => absurd h9 List.not_mem_nil⟩⟩⟩⟩⟩) ?_
      refine least_m _ _ hM (F4.1 _ (by simp)) (by omega) o4 o5 hv4 ?_ _ 0 (Nat.le_refl _) h0t
      refine WP_aload_n dX5_least_109 rfl ?_
      refine callVv mX5_close [] dX5_least_110 okc_X5_close ok_821 ⟨by decide, by decide⟩ rfl rfl m0 rfl (Nat.le_of_ble_eq_true rfl) (Nat.le_of_ble_eq_true rfl) (Nat.le_of_ble_eq_true rfl) (m_close hM F4 (by rw [X4.1 10 (by decide)]; exact g10) (by rw [X4.1 11 (by decide)]; exact g11) (by rw [X4.1 12 (by decide)]; exact g12)) (fun S1 h1 => ?_)
      obtain ⟨I5, A5, rfl, F5, X5, c5⟩ := h1
      refine WP_iload_n dX5_least_113 rfl ?_
      refine WP_ireturn dX5_least_114 rfl rfl (Nat.le_of_ble_eq_true rfl) (Nat.le_of_ble_eq_true rfl) ?_
      refine ⟨_, _, _, rfl, fun _ => rfl, rfl, mI_mk hI2 (mB_rg hfu hu (fun x => Iff.rfl)) F5 ?_ ?_ ?_ ?_ ?_ ?_, ?_⟩
      · rw [X5.1 1 (by decide), u2_eq]
      · rw [X5.1 2 (by decide), u2_o _ _ _ (by decide), X4.1 2 (by decide), j3 2 (by decide)]
        exact hc2
      · rw [c5, mS_c s4, c3, hn2]
      · exact X5.2.1.trans (X4.2.1.trans r31)
      · exact X5.2.2.1.trans (X4.2.2.1.trans r35)
      · exact X5.2.2.2.trans (X4.2.2.2.trans r36)
      · rw [X5.1 0 (by decide), u2_o _ _ _ (by decide), X4.1 0 (by decide), j3 0 (by decide)]
        exact th
    · refine WP_iconst (2) dX5_least_19 (by decide) ?_
      refine WP_goto 24 dX5_least_20 (by decide) ?_
      refine callVi mX5_goesWell [_] dX5_least_24 okc_X5_goesWell ok_749 ⟨by decide, by decide⟩ rfl rfl m0 rfl (Nat.le_of_ble_eq_true rfl) (Nat.le_of_ble_eq_true rfl) (Nat.le_of_ble_eq_true rfl) (m_goesWell 2 hM) (fun x1 S1 h1 => ?_)
      obtain ⟨rfl, rfl⟩ := h1
      rw [if_neg (by decide)]
      refine WP_if_ne 32 dX5_least_27 (by decide) (fun hb => absurd hb (by decide)) (fun _ => ?_)
      refine WP_iconst (0) dX5_least_30 (by decide) ?_
      refine WP_ireturn dX5_least_31 rfl rfl (Nat.le_of_ble_eq_true rfl) (Nat.le_of_ble_eq_true rfl) ?_
      have ez : aLow (t, c, fg, n) x y = (2, 0, (t, c, fg, n)) := by
        unfold aLow
        rw [if_pos hx, if_pos hxy]
      rw [ez]
      exact mR_thr hI s1
  · rw [if_neg hx]
    refine WP_if_ne 14 dX5_least_7 (by decide) (fun hb => absurd hb (by decide)) (fun _ => ?_)
    refine WP_iconst (1) dX5_least_10 (by decide) ?_
    refine WP_goto 24 dX5_least_11 (by decide) ?_
    refine callVi mX5_goesWell [_] dX5_least_24 okc_X5_goesWell ok_749 ⟨by decide, by decide⟩ rfl rfl m0 rfl (Nat.le_of_ble_eq_true rfl) (Nat.le_of_ble_eq_true rfl) (Nat.le_of_ble_eq_true rfl) (m_goesWell 1 hM) (fun x1 S1 h1 => ?_)
    obtain ⟨rfl, rfl⟩ := h1
    rw [if_neg (by decide)]
    refine WP_if_ne 32 dX5_least_27 (by decide) (fun hb => absurd hb (by decide)) (fun _ => ?_)
    refine WP_iconst (0) dX5_least_30 (by decide) ?_
    refine WP_ireturn dX5_least_31 rfl rfl (Nat.le_of_ble_eq_true rfl) (Nat.le_of_ble_eq_true rfl) ?_
    have ez : aLow (t, c, fg, n) x y = (1, 0, (t, c, fg, n)) := by
      unfold aLow
      rw [if_neg hx]
    rw [ez]
    exact mR_thr hI s1
end MR2
