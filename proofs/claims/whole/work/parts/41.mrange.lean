/-! ===== the model: ranges ===== -/
section MRG
variable {G : GC} {L : List Nat} {K AN : Nat → Nat} {R0 Rc : Nat → Nat → Option Nat} {Ic AIc Im AIm : Nat → Nat → Int32} {AR : Nat → Nat → Option Nat} {AL : Nat → Nat → Int64} {W : Nat → Nat} {t c m : Tr} {fg : Nat → Option (Nat × Nat)} {n : Cn} {F : List Tr}
/-- on the places of a list the one, elsewhere the other -/
def swp (l : List Nat) (f g : Nat → Int32) : Nat → Int32 := fun q => if q ∈ l then g q else f q
theorem swp_step {l : List Nat} {f g : Nat → Int32} {k i : Nat} (hk : l[k]? = some i) : upd (swp (l.take k) f g) i (g i) = swp (l.take (k + 1)) f g := by
  obtain ⟨hlt, hk⟩ := List.getElem?_eq_some_iff.mp hk
  funext q
  unfold upd swp
  have e : l.take (k + 1) = l.take k ++ [i] := by rw [List.take_succ_eq_append_getElem hlt, hk]
  rw [e]
  by_cases hq : q = i
  · rw [if_pos hq, if_pos (by simp [hq]), hq]
  · rw [if_neg hq]
    by_cases hq2 : q ∈ l.take k
    · rw [if_pos hq2, if_pos (by simp [hq2])]
    · rw [if_neg hq2, if_neg (by simp [hq, hq2])]
theorem swp_out {l : List Nat} {f g : Nat → Int32} {k i : Nat} (hn : l.Nodup) (hk : l[k]? = some i) : swp (l.take k) f g i = f i := by
  unfold swp
  rw [if_neg]
  intro h
  obtain ⟨j, hj⟩ := List.getElem?_of_mem h
  have hjk : j < k := by
    have h3 := (List.getElem?_eq_some_iff.mp hj).1
    rw [List.length_take] at h3
    omega
  rw [List.getElem?_take_of_lt hjk] at hj
  have h1 := idxOf_atN hn hj
  have h2 := idxOf_atN hn hk
  omega
theorem swp_0 {l : List Nat} {f g : Nat → Int32} : swp (l.take 0) f g = f := by
  funext q
  unfold swp
  rw [if_neg (by simp)]
theorem gR_mir {lf rt pa lf' rt' : Nat → Int32} (t : Tr) : ∀ par, (∀ q ∈ kl kI t, lf' q = rt q ∧ rt' q = lf q) → gR ix kI lf rt pa t par → gR ix kI lf' rt' pa (mir t) par := by
  induction t with
  | leaf => intro par _ _; trivial
  | inner a i v l r ihl ihr =>
    intro par h hg
    obtain ⟨h1, h2, h3, h4, h5⟩ := hg
    rw [show kl kI (Std.DTreeMap.Internal.Impl.inner a i v l r) = kl kI l ++ i :: kl kI r from kl_nd kI a i v l r] at h
    have h0 := h i (by simp)
    refine ⟨?_, ?_, h3, ihr _ (fun q hq => h q (by simp [hq])) h5, ihl _ (fun q hq => h q (by simp [hq])) h4⟩
    · rw [rk_mir]
      exact h0.1.trans h2
    · rw [rk_mir]
      exact h0.2.trans h1
theorem kl_mir (t : Tr) : (kl kI (mir t)).Perm (kl kI t) := by
  unfold kl
  rw [io_mir, List.map_reverse]
  exact List.reverse_perm _
theorem kl_at {k : Nat} {x : LB} (h : (io t)[k]? = some x) : (kl kI t)[k]? = some x.2.1 := by
  unfold kl
  rw [List.getElem?_map, h]
  rfl
theorem io_at {k : Nat} (hk : k < tsz t) : ∃ x, (io t)[k]? = some x := ⟨_, List.getElem?_eq_getElem (by rw [io_len]; exact hk)⟩
theorem kl_len (t : Tr) : (kl kI t).length = tsz t := by
  unfold kl
  rw [List.length_map, io_len]
/-- rows 2 and 3, changed -/
def lrA (W : Nat → Nat) (A : Nat → Nat → Int32) (f g : Nat → Int32) : Nat → Nat → Int32 := va_up (va_up A (W 2) f) (W 3) g
theorem turn_m {Q : RS → SS → Prop} (hM : mK W L K AN R0) (hm : mT W AIm m) (hn : (kl kI m).Nodup) (hs : tsz m ≤ 60) (hmany : Im 3 (W 0) = nI (tsz m)) (ho : ordR (AIm (W 7)) m) (hQ : Q (.inl none) (mkS L K AN R0 Rc Ic AIc AR Im (lrA W AIm (swp (kl kI m) (AIm (W 2)) (AIm (W 3))) (swp (kl kI m) (AIm (W 3)) (AIm (W 2)))) AL)) : ∀ (b k : Nat), tsz m - k ≤ b → k ≤ tsz m →
    WP G mX5_turnRound Q 0 0 10 [(0, vr (some (W 0))), (1, vi (nI k))] [] (mkS L K AN R0 Rc Ic AIc AR Im (lrA W AIm (swp ((kl kI m).take k) (AIm (W 2)) (AIm (W 3))) (swp ((kl kI m).take k) (AIm (W 3)) (AIm (W 2)))) AL) := by
  have hM' := hM
  obtain ⟨m0, ⟨f1, f2, f3, f4, f5, f6, f7⟩, ⟨⟨q1, n1⟩, ⟨q2, n2⟩, ⟨q3, n3⟩, ⟨q4, n4⟩, ⟨q5, n5⟩, ⟨q6, n6⟩, ⟨q7, n7⟩⟩, hne⟩ := hM
  have w23 : W 2 ≠ W 3 := mK_d hM' (by decide) (by decide) (by decide)
  have w72 : W 7 ≠ W 2 := mK_d hM' (by decide) (by decide) (by decide)
  have w73 : W 7 ≠ W 3 := mK_d hM' (by decide) (by decide) (by decide)
  have r7 : ∀ f g, lrA W AIm f g (W 7) = AIm (W 7) := fun f g => by unfold lrA; rw [va_up_ne _ _ w73, va_up_ne _ _ w72]
  have r2 : ∀ f g, lrA W AIm f g (W 2) = f := fun f g => by unfold lrA; rw [va_up_ne _ _ w23, va_up_self]
  have r3 : ∀ f g, lrA W AIm f g (W 3) = g := fun f g => by unfold lrA; rw [va_up_self]
  intro b
  induction b with
  | zero =>
    intro k hb hk
    obtain rfl : k = tsz m := by omega
    refine WP_iload_n dX5_turnRound_10 rfl ?_
    refine WP_aload_n dX5_turnRound_11 rfl ?_
    refine gf_RX5_46 dX5_turnRound_12 rfl rfl m0 ?_
    rw [hmany]
    refine WP_icmp_ge 57 dX5_turnRound_15 (by decide) (fun h1 => ?_) (fun h1 => ?_)
    · refine WP_return dX5_turnRound_57 rfl (Nat.le_of_ble_eq_true rfl) (Nat.le_of_ble_eq_true rfl) ?_
      rw [List.take_of_length_le (by rw [kl_len]; exact Nat.le_refl _)]
      exact hQ
    · exact absurd (Int32.le_refl _) h1
  | succ b ih =>
    intro k hb hk
    by_cases hkt : k < tsz m
    · obtain ⟨x, hx⟩ := io_at hkt
      have hxk := kl_at hx
      have hi : x.2.1 < 60 := hm.2 _ (List.mem_of_getElem? hxk)
      refine WP_iload_n dX5_turnRound_10 rfl ?_
      refine WP_aload_n dX5_turnRound_11 rfl ?_
      refine gf_RX5_46 dX5_turnRound_12 rfl rfl m0 ?_
      rw [hmany]
      refine WP_icmp_ge 57 dX5_turnRound_15 (by decide) (fun h1 => ?_) (fun h1 => ?_)
      · exact absurd h1 (nI_ge hkt (by omega))
      · refine WP_aload_n dX5_turnRound_18 rfl ?_
        refine gf_RX5_36 dX5_turnRound_19 rfl rfl m0 ?_
        refine WP_iload_n dX5_turnRound_22 rfl ?_
        refine ald_7 k 60 dX5_turnRound_23 f7 q7 n7 rfl (by omega) (by decide) ?_
        rw [r7, ho k x hx]
        refine WP_istore_n dX5_turnRound_24 (by decide) rfl ?_
        refine WP_aload_n dX5_turnRound_25 rfl ?_
        refine gf_RX5_20 dX5_turnRound_26 rfl rfl m0 ?_
        refine WP_iload_n dX5_turnRound_29 rfl ?_
        refine ald_7 (x.2.1) 60 dX5_turnRound_30 f2 q2 n2 rfl hi (by decide) ?_
        rw [r2, swp_out hn hxk]
        refine WP_istore_n dX5_turnRound_31 (by decide) rfl ?_
        refine WP_aload_n dX5_turnRound_32 rfl ?_
        refine gf_RX5_20 dX5_turnRound_33 rfl rfl m0 ?_
        refine WP_iload_n dX5_turnRound_36 rfl ?_
        refine WP_aload_n dX5_turnRound_37 rfl ?_
        refine gf_RX5_23 dX5_turnRound_38 rfl rfl m0 ?_
        refine WP_iload_n dX5_turnRound_41 rfl ?_
        refine ald_7 (x.2.1) 60 dX5_turnRound_42 f3 q3 n3 rfl hi (by decide) ?_
        rw [r3, swp_out hn hxk]
        refine ast_7 (x.2.1) 60 dX5_turnRound_43 f2 q2 n2 rfl hi (by decide) ?_
        refine WP_aload_n dX5_turnRound_44 rfl ?_
        refine gf_RX5_23 dX5_turnRound_45 rfl rfl m0 ?_
        refine WP_iload_n dX5_turnRound_48 rfl ?_
        refine WP_iload_n dX5_turnRound_49 rfl ?_
        refine ast_7 (x.2.1) 60 dX5_turnRound_50 f3 q3 n3 rfl hi (by decide) ?_
        rw [r2, swp_step hxk]
        have e : va_up (va_up (lrA W AIm (swp ((kl kI m).take k) (AIm (W 2)) (AIm (W 3))) (swp ((kl kI m).take k) (AIm (W 3)) (AIm (W 2)))) (W 2) (swp ((kl kI m).take (k + 1)) (AIm (W 2)) (AIm (W 3)))) (W 3) (upd (va_up (lrA W AIm (swp ((kl kI m).take k) (AIm (W 2)) (AIm (W 3))) (swp ((kl kI m).take k) (AIm (W 3)) (AIm (W 2)))) (W 2) (swp ((kl kI m).take (k + 1)) (AIm (W 2)) (AIm (W 3))) (W 3)) x.2.1 (AIm (W 2) x.2.1)) = lrA W AIm (swp ((kl kI m).take (k + 1)) (AIm (W 2)) (AIm (W 3))) (swp ((kl kI m).take (k + 1)) (AIm (W 3)) (AIm (W 2))) := by
          rw [va_up_ne _ _ (Ne.symm w23), r3, swp_step hxk]
          unfold lrA
          funext y
          by_cases y3 : y = W 3
          · rw [y3, va_up_self, va_up_self]
          · rw [va_up_ne _ _ y3, va_up_ne _ _ y3]
            by_cases y2 : y = W 2
            · rw [y2, va_up_self, va_up_self]
            · rw [va_up_ne _ _ y2, va_up_ne _ _ y2, va_up_ne _ _ y3, va_up_ne _ _ y2]
        rw [e]
        refine WP_iinc (nI (k + 1)) dX5_turnRound_51 rfl (nI_1 _) (by decide) rfl ?_
        refine WP_goto 10 dX5_turnRound_54 (by decide) ?_
        refine WP_lv [(0, vr (some (W 0))), (1, vi (nI (k + 1)))] (List.forall_mem_cons.mpr ⟨rfl, List.forall_mem_cons.mpr ⟨rfl, fun _ h9 => absurd h9 List.not_mem_nil⟩⟩) ?_
        exact ih (k + 1) (by omega) (by omega)
    · obtain rfl : k = tsz m := by omega
      refine WP_iload_n dX5_turnRound_10 rfl ?_
      refine WP_aload_n dX5_turnRound_11 rfl ?_
      refine gf_RX5_46 dX5_turnRound_12 rfl rfl m0 ?_
      rw [hmany]
      refine WP_icmp_ge 57 dX5_turnRound_15 (by decide) (fun h1 => ?_) (fun h1 => ?_)
      · refine WP_return dX5_turnRound_57 rfl (Nat.le_of_ble_eq_true rfl) (Nat.le_of_ble_eq_true rfl) ?_
        rw [List.take_of_length_le (by rw [kl_len]; exact Nat.le_refl _)]
        exact hQ
      · exact absurd (Int32.le_refl _) h1
theorem m_turnRound (hM : mK W L K AN R0) (h : mF W AIm (m :: F)) (h11 : Im 11 (W 0) = ix (rk kI m)) (hs : tsz m ≤ 60) :
    MT G mX5_turnRound [vr (some (W 0))] (mkS L K AN R0 Rc Ic AIc AR Im AIm AL) (rV (fun S' => ∃ I' A', S' = mkS L K AN R0 Rc Ic AIc AR I' A' AL ∧ mF W A' (mir m :: F) ∧ mX W Im AIm I' A' ∧ cmO I' W = cmO Im W)) := by
  have hM' := hM
  obtain ⟨m0, ⟨f1, f2, f3, f4, f5, f6, f7⟩, ⟨⟨q1, n1⟩, ⟨q2, n2⟩, ⟨q3, n3⟩, ⟨q4, n4⟩, ⟨q5, n5⟩, ⟨q6, n6⟩, ⟨q7, n7⟩⟩, hne⟩ := hM
  have hm := h.1 m List.mem_cons_self
  have hn := mF_hd h
  refine MT_of (by decide) rfl (Nat.le_of_ble_eq_true rfl) ?_
  refine WP_aload_n dX5_turnRound_0 rfl ?_
  refine WP_aload_n dX5_turnRound_1 rfl ?_
  refine gf_RX5_127 dX5_turnRound_2 rfl rfl m0 ?_
  rw [h11]
  refine callVv mX5_layOrder [_] dX5_turnRound_5 okc_X5_layOrder ok_734 ⟨by decide, by decide⟩ rfl rfl m0 rfl (Nat.le_of_ble_eq_true rfl) (Nat.le_of_ble_eq_true rfl) (Nat.le_of_ble_eq_true rfl) (m_layOrder hM' hm hn hs) (fun S1 h1 => ?_)
  obtain ⟨I1, A1, rfl, s1, c1, o1⟩ := h1
  have F1 := mS_F hM' s1 h
  refine WP_iconst (0) dX5_turnRound_8 (by decide) ?_
  refine WP_istore_n dX5_turnRound_9 (by decide) rfl ?_
  refine WP_lv [(0, vr (some (W 0))), (1, vi (nI 0))] (List.forall_mem_cons.mpr ⟨rfl, List.forall_mem_cons.mpr ⟨rfl, fun _ h9 => absurd h9 List.not_mem_nil⟩⟩) ?_
  have w23 : W 2 ≠ W 3 := mK_d hM' (by decide) (by decide) (by decide)
  have key := turn_m (G := G) (Rc := Rc) (Ic := Ic) (AIc := AIc) (AR := AR) (AL := AL) (Q := rV (fun S' => ∃ I' A', S' = mkS L K AN R0 Rc Ic AIc AR I' A' AL ∧ mF W A' (mir m :: F) ∧ mX W Im AIm I' A' ∧ cmO I' W = cmO Im W)) hM' (F1.1 m List.mem_cons_self) hn hs c1 o1 ?_ (tsz m) 0 (by omega) (Nat.zero_le _)
  · rw [swp_0, swp_0] at key
    have e : lrA W A1 (A1 (W 2)) (A1 (W 3)) = A1 := by
      unfold lrA
      rw [up_id, up_id]
    rw [e] at key
    exact key
  · have r2 : ∀ f g, lrA W A1 f g (W 2) = f := fun f g => by unfold lrA; rw [va_up_ne _ _ w23, va_up_self]
    have r3 : ∀ f g, lrA W A1 f g (W 3) = g := fun f g => by unfold lrA; rw [va_up_self]
    have r4 : ∀ f g, lrA W A1 f g (W 4) = A1 (W 4) := fun f g => by
      unfold lrA
      rw [va_up_ne _ _ (mK_d hM' (by decide) (by decide) (by decide)), va_up_ne _ _ (mK_d hM' (by decide) (by decide) (by decide))]
    refine ⟨rfl, _, _, rfl, mF_step F1 (kl_mir m) ?_ (fun q hq => ?_), mX_trans (mS_X hM' s1) ⟨fun _ _ => rfl, ?_, ?_, ?_⟩, mS_c s1⟩
    · rw [r2, r3, r4]
      refine gR_mir m none (fun q hq => ⟨?_, ?_⟩) (F1.1 m List.mem_cons_self).1
      · unfold swp
        rw [if_pos hq]
      · unfold swp
        rw [if_pos hq]
    · rw [r2, r3, r4]
      unfold swp
      rw [if_neg hq, if_neg hq]
      exact ⟨rfl, rfl, rfl⟩
    · unfold lrA
      rw [va_up_ne _ _ (mK_d hM' (by decide) (by decide) (by decide)), va_up_ne _ _ (mK_d hM' (by decide) (by decide) (by decide))]
    · unfold lrA
      rw [va_up_ne _ _ (mK_d hM' (by decide) (by decide) (by decide)), va_up_ne _ _ (mK_d hM' (by decide) (by decide) (by decide))]
    · unfold lrA
      rw [va_up_ne _ _ (mK_d hM' (by decide) (by decide) (by decide)), va_up_ne _ _ (mK_d hM' (by decide) (by decide) (by decide))]
theorem mB_rg {f u : Nat} {m' : Tr} (hfu : f ≤ u) (hu : u ≤ tsz t) (hm : ∀ x, x ∈ io m' ↔ x ∈ io (rgT t f u).2.1) (x : LB) : mB (jn3 ((rgT t f u).1, m', (rgT t f u).2.2)) c x ↔ mB t c x := by
  unfold mB
  rw [jn3_io, ← rg_io hfu hu]
  simp only [List.mem_append, hm]
theorem mF_3 {l m r c : Tr} (h : mF W AIm (l :: m :: r :: [c])) : mF W AIm (m :: l :: r :: [c]) := mF_perm (List.Perm.swap _ _ _) h
theorem p_reverse (x y : Int32) (hA : AI (t, c, fg, n)) (hI : mI W L K AN R0 Im AIm (t, c, fg, n)) :
    MT G mX5_reverse [vr (some (W 0)), vi x, vi y] (mkS L K AN R0 Rc Ic AIc AR Im AIm AL) (mR W L K AN R0 Rc Ic AIc AR AL (aRev (t, c, fg, n) x y)) := by
  obtain ⟨hM, ⟨ht, hc⟩, hF, hcn, hv, ⟨hth1, hth0⟩, hfg⟩ := id hI
  have ht : Im 1 (W 0) = ix (rk kI t) := ht
  have hc : Im 2 (W 0) = ix (rk kI c) := hc
  have hF : mF W AIm [t, c] := hF
  have hcn : cmO Im W = n := hcn
  have hfg : ∀ k, k < 4 → AIm (W 6) k = ix ((fg k).map (·.2)) := hfg
  have hs : tsz t + tsz c ≤ 60 := hA.1
  have hst : tsz t ≤ 60 := by omega
  have hmt := hF.1 t List.mem_cons_self
  have hnt := mF_hd hF
  obtain ⟨m0, ⟨f1, f2, f3, f4, f5, f6, f7⟩, ⟨⟨q1, n1⟩, ⟨q2, n2⟩, ⟨q3, n3⟩, ⟨q4, n4⟩, ⟨q5, n5⟩, ⟨q6, n6⟩, ⟨q7, n7⟩⟩, hne⟩ := id hM
  refine MT_of (by decide) rfl (Nat.le_of_ble_eq_true rfl) ?_
  by_cases hx : inR (tsz t) x y
  · refine WP_aload_n dX5_reverse_0 rfl ?_
    refine WP_aload_n dX5_reverse_1 rfl ?_
    refine WP_iload_n dX5_reverse_2 rfl ?_
    refine WP_iload_n dX5_reverse_3 rfl ?_
    refine callVi mX5_isRange [_, _] dX5_reverse_4 okc_X5_isRange ok_809 ⟨by decide, by decide⟩ rfl rfl m0 rfl (Nat.le_of_ble_eq_true rfl) (Nat.le_of_ble_eq_true rfl) (Nat.le_of_ble_eq_true rfl) (m_isRange x y hM ht hmt hnt hst) (fun x1 S1 h1 => ?_)
    obtain ⟨rfl, I1, A1, rfl, s1, -⟩ := h1
    rw [if_pos hx]
    refine WP_if_eq 14 dX5_reverse_7 (by decide) (fun hb => absurd hb (by decide)) (fun _ => ?_)
    refine WP_iconst (0) dX5_reverse_10 (by decide) ?_
    refine WP_goto 15 dX5_reverse_11 (by decide) ?_
    refine callVi mX5_goesWell [_] dX5_reverse_15 okc_X5_goesWell ok_749 ⟨by decide, by decide⟩ rfl rfl m0 rfl (Nat.le_of_ble_eq_true rfl) (Nat.le_of_ble_eq_true rfl) (Nat.le_of_ble_eq_true rfl) (m_goesWell 0 hM) (fun x1 S1 h1 => ?_)
    obtain ⟨rfl, rfl⟩ := h1
    rw [if_pos rfl]
    have hI2 := mI_S hI s1 0
    have th : (u2 I1 0 (W 0) 0) 0 (W 0) = 0 := u2_eq _ _ _ _
    generalize u2 I1 0 (W 0) 0 = Im2 at hI2 th ⊢
    refine WP_if_ne 23 dX5_reverse_18 (by decide) (fun _ => ?_) (fun hb => absurd hb (by decide))
    obtain ⟨-, ⟨ht2, hc2⟩, hF2, hn2, hv2, ⟨hi2, hj2⟩, hfg2⟩ := id hI2
    have ht2 : Im2 1 (W 0) = ix (rk kI t) := ht2
    have hc2 : Im2 2 (W 0) = ix (rk kI c) := hc2
    have hF2 : mF W A1 [t, c] := hF2
    have hn2 : cmO Im2 W = n := hn2
    have hfg2 : ∀ k, k < 4 → A1 (W 6) k = ix ((fg k).map (·.2)) := hfg2
    have hv2 : ∀ x, mB t c x → A1 (W 1) x.2.1 = x.2.2 := hv2
    obtain ⟨f, u, hfu, hu, rfl, rfl⟩ := inR_of hx (by omega)
    have z1 := rgT_sz t f u hu hfu
    have ez : aRev (t, c, fg, n) (nI f) (nI u) = (0, nI u - nI f, (jn3 ((rgT t f u).1, mir (rgT t f u).2.1, (rgT t f u).2.2), c, fg, jn3N (rgN (begC n) t f u) ((rgT t f u).1, mir (rgT t f u).2.1, (rgT t f u).2.2))) := by
      unfold aRev rgA
      rw [if_pos hx, pI_n (by omega), pI_n (by omega)]
    rw [ez]
    refine WP_aload_n dX5_reverse_23 rfl ?_
    refine WP_iload_n dX5_reverse_24 rfl ?_
    refine WP_iload_n dX5_reverse_25 rfl ?_
    refine callVv mX5_open [_, _] dX5_reverse_26 okc_X5_open ok_813 ⟨by decide, by decide⟩ rfl rfl m0 rfl (Nat.le_of_ble_eq_true rfl) (Nat.le_of_ble_eq_true rfl) (Nat.le_of_ble_eq_true rfl) (m_open f u hM ht2 hF2 hst hfu hu) (fun S1 h1 => ?_)
    obtain ⟨I3, A3, rfl, F3, j3, ⟨r31, r35, r36⟩, c3, g10, g11, g12⟩ := h1
    refine WP_aload_n dX5_reverse_29 rfl ?_
    refine callVv mX5_turnRound [] dX5_reverse_30 okc_X5_turnRound ok_817 ⟨by decide, by decide⟩ rfl rfl m0 rfl (Nat.le_of_ble_eq_true rfl) (Nat.le_of_ble_eq_true rfl) (Nat.le_of_ble_eq_true rfl) (m_turnRound hM (mF_3 F3) g11 (by omega)) (fun S1 h1 => ?_)
    obtain ⟨I4, A4, rfl, F4, X4, c4⟩ := h1
    refine WP_aload_n dX5_reverse_33 rfl ?_
    refine callVv mX5_close [] dX5_reverse_34 okc_X5_close ok_821 ⟨by decide, by decide⟩ rfl rfl m0 rfl (Nat.le_of_ble_eq_true rfl) (Nat.le_of_ble_eq_true rfl) (Nat.le_of_ble_eq_true rfl) (m_close hM (mF_3 F4) (by rw [X4.1 10 (by decide)]; exact g10) (by rw [X4.1 11 (by decide), rk_mir]; exact g11) (by rw [X4.1 12 (by decide)]; exact g12)) (fun S1 h1 => ?_)
    obtain ⟨I5, A5, rfl, F5, X5, c5⟩ := h1
    refine WP_iload_n dX5_reverse_37 rfl ?_
    refine WP_iload_n dX5_reverse_38 rfl ?_
    refine WP_isub dX5_reverse_39 ?_
    refine WP_ireturn dX5_reverse_40 rfl rfl (Nat.le_of_ble_eq_true rfl) (Nat.le_of_ble_eq_true rfl) ?_
    refine ⟨_, _, _, rfl, fun _ => rfl, rfl, mI_mk hI2 (mB_rg hfu hu (fun x => by rw [io_mir, List.mem_reverse])) F5 ?_ ?_ ?_ ?_ ?_ ?_, ?_⟩
    · rw [X5.1 1 (by decide), u2_eq]
    · rw [X5.1 2 (by decide), u2_o _ _ _ (by decide), X4.1 2 (by decide), j3 2 (by decide)]
      exact hc2
    · rw [c5, c4, c3, hn2]
    · exact X5.2.1.trans (X4.2.1.trans r31)
    · exact X5.2.2.1.trans (X4.2.2.1.trans r35)
    · exact X5.2.2.2.trans (X4.2.2.2.trans r36)
    · rw [X5.1 0 (by decide), u2_o _ _ _ (by decide), X4.1 0 (by decide), j3 0 (by decide)]
      exact th
  · have ez : aRev (t, c, fg, n) x y = (1, 0, (t, c, fg, n)) := by
      unfold aRev
      rw [if_neg hx]
    rw [ez]
    refine WP_aload_n dX5_reverse_0 rfl ?_
    refine WP_aload_n dX5_reverse_1 rfl ?_
    refine WP_iload_n dX5_reverse_2 rfl ?_
    refine WP_iload_n dX5_reverse_3 rfl ?_
    refine callVi mX5_isRange [_, _] dX5_reverse_4 okc_X5_isRange ok_809 ⟨by decide, by decide⟩ rfl rfl m0 rfl (Nat.le_of_ble_eq_true rfl) (Nat.le_of_ble_eq_true rfl) (Nat.le_of_ble_eq_true rfl) (m_isRange x y hM ht hmt hnt hst) (fun x1 S1 h1 => ?_)
    obtain ⟨rfl, I1, A1, rfl, s1, -⟩ := h1
    rw [if_neg hx]
    refine WP_if_eq 14 dX5_reverse_7 (by decide) (fun _ => ?_) (fun hb => absurd hb (by decide))
    refine WP_iconst (1) dX5_reverse_14 (by decide) ?_
    refine callVi mX5_goesWell [_] dX5_reverse_15 okc_X5_goesWell ok_749 ⟨by decide, by decide⟩ rfl rfl m0 rfl (Nat.le_of_ble_eq_true rfl) (Nat.le_of_ble_eq_true rfl) (Nat.le_of_ble_eq_true rfl) (m_goesWell 1 hM) (fun x1 S1 h1 => ?_)
    obtain ⟨rfl, rfl⟩ := h1
    rw [if_neg (by decide)]
    refine WP_if_ne 23 dX5_reverse_18 (by decide) (fun hb => absurd hb (by decide)) (fun _ => ?_)
    refine WP_iconst (0) dX5_reverse_21 (by decide) ?_
    refine WP_ireturn dX5_reverse_22 rfl rfl (Nat.le_of_ble_eq_true rfl) (Nat.le_of_ble_eq_true rfl) ?_
    exact mR_thr hI s1
/-! sums -/
def sumL (l : List Int32) : Int32 := l.foldl (· + ·) 0
theorem foldl_add (l : List Int32) : ∀ x : Int32, l.foldl (· + ·) x = x + sumL l := by
  induction l with
  | nil => intro x; simp [sumL]
  | cons a l ih =>
    intro x
    show l.foldl (· + ·) (x + a) = x + l.foldl (· + ·) (0 + a)
    rw [ih (x + a), ih (0 + a), Int32.zero_add, Int32.add_assoc]
theorem sumL_app (a b : List Int32) : sumL (a ++ b) = sumL a + sumL b := by
  show (a ++ b).foldl (· + ·) 0 = _
  rw [List.foldl_append, foldl_add]
  rfl
theorem sumL_cons (v : Int32) (b : List Int32) : sumL (v :: b) = v + sumL b := by
  show b.foldl (· + ·) (0 + v) = _
  rw [foldl_add, Int32.zero_add]
theorem smT_sum (t : Tr) : smT t = sumL (vls t) := by
  induction t with
  | leaf => rfl
  | inner a i v l r ihl ihr =>
    show v + smT l + smT r = sumL ((io l ++ (a, i, v) :: io r).map (fun x => x.2.2))
    rw [List.map_append, List.map_cons, sumL_app, sumL_cons, ihl, ihr]
    show v + sumL (vls l) + sumL (vls r) = sumL (vls l) + (v + sumL (vls r))
    rw [Int32.add_comm v, Int32.add_assoc]
theorem sumF_take (t : Tr) : ∀ k, k ≤ tsz t → sumF (vAt t) 0 k = sumL ((vls t).take k) := by
  intro k
  induction k with
  | zero => intro _; rfl
  | succ k ih =>
    intro hk
    have hlt : k < (vls t).length := by rw [vls_len]; omega
    rw [List.take_succ_eq_append_getElem hlt, sumL_app, ← ih (by omega)]
    show sumF (vAt t) 0 k + vAt t (0 + k) = _
    rw [Nat.zero_add]
    congr 1
    unfold vAt
    rw [List.getElem?_eq_getElem hlt]
    show _ = sumL [_]
    rw [sumL_cons]
    show _ = _ + (0 : Int32)
    rw [Int32.add_zero]
    rfl
theorem sumF_all (t : Tr) : sumF (vAt t) 0 (tsz t) = smT t := by
  rw [sumF_take t _ (Nat.le_refl _), smT_sum, List.take_of_length_le (by rw [vls_len]; exact Nat.le_refl _)]
theorem vAt_io {k : Nat} {x : LB} (h : (io t)[k]? = some x) : vAt t k = x.2.2 := by
  unfold vAt vls
  rw [List.getElem?_map, h]
  rfl
theorem sum_m {Q : RS → SS → Prop} (x y : Int32) (hM : mK W L K AN R0) (hm : mT W AIm m) (hs : tsz m ≤ 60) (hmany : Im 3 (W 0) = nI (tsz m)) (ho : ordR (AIm (W 7)) m) (hv : ∀ x ∈ io m, AIm (W 1) x.2.1 = x.2.2)
    (hQ : WP G mX5_sum Q 0 0 72 [(0, vr (some (W 0))), (1, vi x), (2, vi y), (3, vi (smT m))] [] (mkS L K AN R0 Rc Ic AIc AR Im AIm AL)) : ∀ (b k : Nat), tsz m - k ≤ b → k ≤ tsz m →
    WP G mX5_sum Q 0 0 42 [(0, vr (some (W 0))), (1, vi x), (2, vi y), (3, vi (sumF (vAt m) 0 k)), (4, vi (nI k))] [] (mkS L K AN R0 Rc Ic AIc AR Im AIm AL) := by
  have hM' := hM
  obtain ⟨m0, ⟨f1, f2, f3, f4, f5, f6, f7⟩, ⟨⟨q1, n1⟩, ⟨q2, n2⟩, ⟨q3, n3⟩, ⟨q4, n4⟩, ⟨q5, n5⟩, ⟨q6, n6⟩, ⟨q7, n7⟩⟩, hne⟩ := hM
  have fin : ∀ k, k = tsz m → WP G mX5_sum Q 0 0 42 [(0, vr (some (W 0))), (1, vi x), (2, vi y), (3, vi (sumF (vAt m) 0 k)), (4, vi (nI k))] [] (mkS L K AN R0 Rc Ic AIc AR Im AIm AL) := by
    intro k hk
    subst hk
    refine WP_iload dX5_sum_42 rfl ?_
    refine WP_aload_n dX5_sum_44 rfl ?_
    refine gf_RX5_46 dX5_sum_45 rfl rfl m0 ?_
    rw [hmany]
    refine WP_icmp_ge 72 dX5_sum_48 (by decide) (fun h1 => ?_) (fun h1 => ?_)
    · rw [sumF_all]
      refine WP_lv [(0, vr (some (W 0))), (1, vi x), (2, vi y), (3, vi (smT m))] (List.forall_mem_cons.mpr ⟨rfl, List.forall_mem_cons.mpr ⟨rfl, List.forall_mem_cons.mpr ⟨rfl, List.forall_mem_cons.mpr ⟨rfl, fun _ h9 => absurd h9 List.not_mem_nil⟩⟩⟩⟩) ?_
      exact hQ
    · exact absurd (Int32.le_refl _) h1
  intro b
  induction b with
  | zero => intro k hb hk; exact fin k (by omega)
  | succ b ih =>
    intro k hb hk
    by_cases hkt : k < tsz m
    · obtain ⟨z, hz⟩ := io_at hkt
      have hi : z.2.1 < 60 := hm.2 _ (List.mem_of_getElem? (kl_at hz))
      refine WP_iload dX5_sum_42 rfl ?_
      refine WP_aload_n dX5_sum_44 rfl ?_
      refine gf_RX5_46 dX5_sum_45 rfl rfl m0 ?_
      rw [hmany]
      refine WP_icmp_ge 72 dX5_sum_48 (by decide) (fun h1 => ?_) (fun h1 => ?_)
      · exact absurd h1 (nI_ge hkt (by omega))
      · refine WP_iload_n dX5_sum_51 rfl ?_
        refine WP_aload_n dX5_sum_52 rfl ?_
        refine gf_RX5_16 dX5_sum_53 rfl rfl m0 ?_
        refine WP_aload_n dX5_sum_56 rfl ?_
        refine gf_RX5_36 dX5_sum_57 rfl rfl m0 ?_
        refine WP_iload dX5_sum_60 rfl ?_
        refine ald_7 k 60 dX5_sum_62 f7 q7 n7 rfl (by omega) (by decide) ?_
        rw [ho k z hz]
        refine ald_7 (z.2.1) 60 dX5_sum_63 f1 q1 n1 rfl hi (by decide) ?_
        rw [hv z (List.mem_of_getElem? hz), ← vAt_io hz]
        refine WP_iadd dX5_sum_64 ?_
        refine WP_istore_n dX5_sum_65 (by decide) rfl ?_
        refine WP_iinc (nI (k + 1)) dX5_sum_66 rfl (nI_1 _) (by decide) rfl ?_
        refine WP_goto 42 dX5_sum_69 (by decide) ?_
        refine WP_lv [(0, vr (some (W 0))), (1, vi x), (2, vi y), (3, vi (sumF (vAt m) 0 (k + 1))), (4, vi (nI (k + 1)))] (List.forall_mem_cons.mpr ⟨rfl, List.forall_mem_cons.mpr ⟨rfl, List.forall_mem_cons.mpr ⟨rfl, List.forall_mem_cons.mpr ⟨?_, List.forall_mem_cons.mpr ⟨rfl, fun _ h9 => absurd h9 List.not_mem_nil⟩⟩⟩⟩⟩) ?_
        · show _ = some (vi (sumF (vAt m) 0 k + vAt m (0 + k)))
          rw [Nat.zero_add]
          rfl
        · exact ih (k + 1) (by omega) (by omega)
    · exact fin k (by omega)
theorem rg_mB {f u : Nat} (hfu : f ≤ u) (hu : u ≤ tsz t) {x : LB} (h : x ∈ io (rgT t f u).2.1) : mB t c x := by
  refine Or.inl ?_
  rw [← rg_io hfu hu]
  simp [h]
theorem p_sum (x y : Int32) (hA : AI (t, c, fg, n)) (hI : mI W L K AN R0 Im AIm (t, c, fg, n)) :
    MT G mX5_sum [vr (some (W 0)), vi x, vi y] (mkS L K AN R0 Rc Ic AIc AR Im AIm AL) (mR W L K AN R0 Rc Ic AIc AR AL (aSum (t, c, fg, n) x y)) := by
  obtain ⟨hM, ⟨ht, hc⟩, hF, hcn, hv, ⟨hth1, hth0⟩, hfg⟩ := id hI
  have ht : Im 1 (W 0) = ix (rk kI t) := ht
  have hc : Im 2 (W 0) = ix (rk kI c) := hc
  have hF : mF W AIm [t, c] := hF
  have hcn : cmO Im W = n := hcn
  have hfg : ∀ k, k < 4 → AIm (W 6) k = ix ((fg k).map (·.2)) := hfg
  have hs : tsz t + tsz c ≤ 60 := hA.1
  have hst : tsz t ≤ 60 := by omega
  have hmt := hF.1 t List.mem_cons_self
  have hnt := mF_hd hF
  obtain ⟨m0, ⟨f1, f2, f3, f4, f5, f6, f7⟩, ⟨⟨q1, n1⟩, ⟨q2, n2⟩, ⟨q3, n3⟩, ⟨q4, n4⟩, ⟨q5, n5⟩, ⟨q6, n6⟩, ⟨q7, n7⟩⟩, hne⟩ := id hM
  refine MT_of (by decide) rfl (Nat.le_of_ble_eq_true rfl) ?_
  by_cases hx : inR (tsz t) x y
  · refine WP_aload_n dX5_sum_0 rfl ?_
    refine WP_aload_n dX5_sum_1 rfl ?_
    refine WP_iload_n dX5_sum_2 rfl ?_
    refine WP_iload_n dX5_sum_3 rfl ?_
    refine callVi mX5_isRange [_, _] dX5_sum_4 okc_X5_isRange ok_809 ⟨by decide, by decide⟩ rfl rfl m0 rfl (Nat.le_of_ble_eq_true rfl) (Nat.le_of_ble_eq_true rfl) (Nat.le_of_ble_eq_true rfl) (m_isRange x y hM ht hmt hnt hst) (fun x1 S1 h1 => ?_)
    obtain ⟨rfl, I1, A1, rfl, s1, -⟩ := h1
    rw [if_pos hx]
    refine WP_if_eq 14 dX5_sum_7 (by decide) (fun hb => absurd hb (by decide)) (fun _ => ?_)
    refine WP_iconst (0) dX5_sum_10 (by decide) ?_
    refine WP_goto 15 dX5_sum_11 (by decide) ?_
    refine callVi mX5_goesWell [_] dX5_sum_15 okc_X5_goesWell ok_749 ⟨by decide, by decide⟩ rfl rfl m0 rfl (Nat.le_of_ble_eq_true rfl) (Nat.le_of_ble_eq_true rfl) (Nat.le_of_ble_eq_true rfl) (m_goesWell 0 hM) (fun x1 S1 h1 => ?_)
    obtain ⟨rfl, rfl⟩ := h1
    rw [if_pos rfl]
    have hI2 := mI_S hI s1 0
    have th : (u2 I1 0 (W 0) 0) 0 (W 0) = 0 := u2_eq _ _ _ _
    generalize u2 I1 0 (W 0) 0 = Im2 at hI2 th ⊢
    refine WP_if_ne 23 dX5_sum_18 (by decide) (fun _ => ?_) (fun hb => absurd hb (by decide))
    obtain ⟨-, ⟨ht2, hc2⟩, hF2, hn2, hv2, ⟨hi2, hj2⟩, hfg2⟩ := id hI2
    have ht2 : Im2 1 (W 0) = ix (rk kI t) := ht2
    have hc2 : Im2 2 (W 0) = ix (rk kI c) := hc2
    have hF2 : mF W A1 [t, c] := hF2
    have hn2 : cmO Im2 W = n := hn2
    have hfg2 : ∀ k, k < 4 → A1 (W 6) k = ix ((fg k).map (·.2)) := hfg2
    have hv2 : ∀ x, mB t c x → A1 (W 1) x.2.1 = x.2.2 := hv2
    obtain ⟨f, u, hfu, hu, rfl, rfl⟩ := inR_of hx (by omega)
    have z1 := rgT_sz t f u hu hfu
    have ez : aSum (t, c, fg, n) (nI f) (nI u) = (0, smT (rgT t f u).2.1, (jn3 (rgT t f u), c, fg, jn3N (rgN (begC n) t f u) (rgT t f u))) := by
      unfold aSum rgA
      rw [if_pos hx, pI_n (by omega), pI_n (by omega)]
      rfl
    rw [ez]
    refine WP_aload_n dX5_sum_23 rfl ?_
    refine WP_iload_n dX5_sum_24 rfl ?_
    refine WP_iload_n dX5_sum_25 rfl ?_
    refine callVv mX5_open [_, _] dX5_sum_26 okc_X5_open ok_813 ⟨by decide, by decide⟩ rfl rfl m0 rfl (Nat.le_of_ble_eq_true rfl) (Nat.le_of_ble_eq_true rfl) (Nat.le_of_ble_eq_true rfl) (m_open f u hM ht2 hF2 hst hfu hu) (fun S1 h1 => ?_)
    obtain ⟨I3, A3, rfl, F3, j3, ⟨r31, r35, r36⟩, c3, g10, g11, g12⟩ := h1
    have F3' := mF_3 F3
    refine WP_aload_n dX5_sum_29 rfl ?_
    refine WP_aload_n dX5_sum_30 rfl ?_
    refine gf_RX5_127 dX5_sum_31 rfl rfl m0 ?_
    rw [g11]
    refine callVv mX5_layOrder [_] dX5_sum_34 okc_X5_layOrder ok_734 ⟨by decide, by decide⟩ rfl rfl m0 rfl (Nat.le_of_ble_eq_true rfl) (Nat.le_of_ble_eq_true rfl) (Nat.le_of_ble_eq_true rfl) (m_layOrder hM (F3'.1 _ List.mem_cons_self) (mF_hd F3') (by omega)) (fun S1 h1 => ?_)
    obtain ⟨I4, A4, rfl, s4, o4, o5⟩ := h1
    have F4 := mS_F hM s4 F3
    have X4 := mS_X hM s4
    refine WP_iconst (0) dX5_sum_37 (by decide) ?_
    refine WP_istore_n dX5_sum_38 (by decide) rfl ?_
    refine WP_iconst (0) dX5_sum_39 (by decide) ?_
    refine WP_istore dX5_sum_40 (by decide) rfl ?_
    refine WP_lv [(0, vr (some (W 0))), (1, vi (nI f)), (2, vi (nI u)), (3, vi (sumF (vAt (rgT t f u).2.1) 0 0)), (4, vi (nI 0))] (List.forall_mem_cons.mpr ⟨rfl, List.forall_mem_cons.mpr ⟨rfl, List.forall_mem_cons.mpr ⟨rfl, List.forall_mem_cons.mpr ⟨rfl, List.forall_mem_cons.mpr ⟨rfl, fun _ h9 => absurd h9 List.not_mem_nil⟩⟩⟩⟩⟩) ?_
    refine sum_m _ _ hM (F4.1 _ (by simp)) (by omega) o4 o5 (fun x hx => ?_) ?_ _ 0 (Nat.le_refl _) (Nat.zero_le _)
    · rw [X4.2.1, r31]
      exact hv2 x (rg_mB hfu hu hx)
    · refine WP_aload_n dX5_sum_72 rfl ?_
      refine callVv mX5_close [] dX5_sum_73 okc_X5_close ok_821 ⟨by decide, by decide⟩ rfl rfl m0 rfl (Nat.le_of_ble_eq_true rfl) (Nat.le_of_ble_eq_true rfl) (Nat.le_of_ble_eq_true rfl) (m_close hM F4 (by rw [X4.1 10 (by decide)]; exact g10) (by rw [X4.1 11 (by decide)]; exact g11) (by rw [X4.1 12 (by decide)]; exact g12)) (fun S1 h1 => ?_)
      obtain ⟨I5, A5, rfl, F5, X5, c5⟩ := h1
      refine WP_iload_n dX5_sum_76 rfl ?_
      refine WP_ireturn dX5_sum_77 rfl rfl (Nat.le_of_ble_eq_true rfl) (Nat.le_of_ble_eq_true rfl) ?_
      refine ⟨_, _, _, rfl, fun _ => rfl, rfl, mI_mk hI2 (mB_rg hfu hu (fun x => Iff.rfl)) F5 ?_ ?_ ?_ ?_ ?_ ?_, ?_⟩
      · rw [X5.1 1 (by decide), u2_eq]
      · rw [X5.1 2 (by decide), u2_o _ _ _ (by decide), X4.1 2 (by decide), j3 2 (by decide)]
        exact hc2
      · rw [c5, mS_c s4, c3, hn2]
      · exact X5.2.1.trans (X4.2.1.trans r31)
      · exact X5.2.2.1.trans (X4.2.2.1.trans r35)
      · exact X5.2.2.2.trans (X4.2.2.2.trans r36)
      · rw [X5.1 0 (by decide), u2_o _ _ _ (by decide), X4.1 0 (by decide), j3 0 (by decide)]
        exact th
  · have ez : aSum (t, c, fg, n) x y = (1, 0, (t, c, fg, n)) := by
      unfold aSum
      rw [if_neg hx]
    rw [ez]
    refine WP_aload_n dX5_sum_0 rfl ?_
    refine WP_aload_n dX5_sum_1 rfl ?_
    refine WP_iload_n dX5_sum_2 rfl ?_
    refine WP_iload_n dX5_sum_3 rfl ?_
    refine callVi mX5_isRange [_, _] dX5_sum_4 okc_X5_isRange ok_809 ⟨by decide, by decide⟩ rfl rfl m0 rfl (Nat.le_of_ble_eq_true rfl) (Nat.le_of_ble_eq_true rfl) (Nat.le_of_ble_eq_true rfl) (m_isRange x y hM ht hmt hnt hst) (fun x1 S1 h1 => ?_)
    obtain ⟨rfl, I1, A1, rfl, s1, -⟩ := h1
    rw [if_neg hx]
    refine WP_if_eq 14 dX5_sum_7 (by decide) (fun _ => ?_) (fun hb => absurd hb (by decide))
    refine WP_iconst (1) dX5_sum_14 (by decide) ?_
    refine callVi mX5_goesWell [_] dX5_sum_15 okc_X5_goesWell ok_749 ⟨by decide, by decide⟩ rfl rfl m0 rfl (Nat.le_of_ble_eq_true rfl) (Nat.le_of_ble_eq_true rfl) (Nat.le_of_ble_eq_true rfl) (m_goesWell 1 hM) (fun x1 S1 h1 => ?_)
    obtain ⟨rfl, rfl⟩ := h1
    rw [if_neg (by decide)]
    refine WP_if_ne 23 dX5_sum_18 (by decide) (fun hb => absurd hb (by decide)) (fun _ => ?_)
    refine WP_iconst (0) dX5_sum_21 (by decide) ?_
    refine WP_ireturn dX5_sum_22 rfl rfl (Nat.le_of_ble_eq_true rfl) (Nat.le_of_ble_eq_true rfl) ?_
    exact mR_thr hI s1
end MRG
