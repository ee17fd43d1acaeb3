/-! ===== the model: splay, split, join ===== -/
section MCT
variable {G : GC} {L : List Nat} {K AN : Nat → Nat} {R0 Rc : Nat → Nat → Option Nat} {Ic AIc Im AIm A' : Nat → Nat → Int32} {AR : Nat → Nat → Option Nat} {AL : Nat → Nat → Int64} {W : Nat → Nat}
theorem mT_frame {t : Tr} (hf : ∀ q ∈ kl kI t, A' (W 2) q = AIm (W 2) q ∧ A' (W 3) q = AIm (W 3) q ∧ A' (W 4) q = AIm (W 4) q) (h : mT W AIm t) : mT W A' t := ⟨gR_congr ix kI t none hf h.1, h.2⟩
theorem apartI {a i : Nat} {v : Int32} {l r : Tr} (hn : (kl kI (nd a i v l r)).Nodup) : i ∉ kl kI l ∧ i ∉ kl kI r ∧ (kl kI l).Nodup ∧ (kl kI r).Nodup ∧ ∀ q ∈ kl kI l, ∀ q' ∈ kl kI r, q ≠ q' := by
  rw [kl_nd] at hn
  obtain ⟨n1, n2, n3⟩ := List.nodup_append.mp hn
  obtain ⟨n4, n5⟩ := List.nodup_cons.mp n2
  exact ⟨fun h => n3 i h i List.mem_cons_self rfl, n4, n1, n5, fun q hq q' hq' => n3 q hq q' (List.mem_cons_of_mem _ hq')⟩
/-- the trees of a list, and what is apart from them -/
theorem far {t : Tr} {F : List Tr} (h : mF W AIm (t :: F)) : ∀ q ∈ kl kI t, ∀ u ∈ F, q ∉ kl kI u := fun q hq u hu h2 =>
  (List.nodup_append.mp (show (kl kI t ++ F.flatMap (kl kI)).Nodup from h.2)).2.2 q hq q (List.mem_flatMap.mpr ⟨u, hu, h2⟩) rfl
theorem detM {a i : Nat} {v : Int32} {l r : Tr} {F : List Tr} (h : mF W AIm (nd a i v l r :: F)) (e2 : A' (W 2) = va_up (AIm (W 2)) i (ix none)) (e3 : A' (W 3) = AIm (W 3)) (e4 : A' (W 4) = upo (AIm (W 4)) (rk kI l) (ix none)) : mF W A' (l :: nd a i v .leaf r :: F) := by
  have hn := mF_hd h
  obtain ⟨m1, m2, m3, m4, lr⟩ := apartI hn
  obtain ⟨⟨g1, g2, g3, g4, g5⟩, hb⟩ := h.1 _ List.mem_cons_self
  have hi : i ∈ kl kI (nd a i v l r) := rk_mem kI rfl
  have kx : ∀ q ∈ kl kI l, q ∈ kl kI (nd a i v l r) := fun q hq => by rw [kl_nd]; exact List.mem_append_left _ hq
  have ky : ∀ q ∈ kl kI r, q ∈ kl kI (nd a i v l r) := fun q hq => by rw [kl_nd]; exact List.mem_append_right _ (List.mem_cons_of_mem _ hq)
  have ea : rk kI l ≠ some i := fun e => m1 (rk_mem kI e)
  refine ⟨fun u hu => ?_, ?_⟩
  · rcases List.mem_cons.mp hu with e | hu
    · rw [e]
      refine ⟨gR_congr ix kI _ _ (fun q hq => ⟨?_, by rw [e3], by rw [e4]⟩) (gR_up ix kI m3 g4 none), fun q hq => hb q (kx q hq)⟩
      rw [e2, va_up_ne _ _ (show q ≠ i from fun e => m1 (e ▸ hq))]
    · rcases List.mem_cons.mp hu with e | hu
      · rw [e]
        refine ⟨⟨by rw [e2, va_up_self]; rfl, by rw [e3]; exact g2, by rw [e4, upo_ne _ _ ea]; exact g3, trivial, gR_congr ix kI _ _ (fun q hq => ⟨by rw [e2, va_up_ne _ _ (show q ≠ i from fun e => m2 (e ▸ hq))], by rw [e3], by rw [e4, upo_ne _ _ (fun e => lr q (rk_mem kI e) q hq rfl)]⟩) g5⟩, fun q hq => ?_⟩
        rw [kl_nd] at hq
        rcases List.mem_append.mp hq with hq | hq
        · cases hq
        · rcases List.mem_cons.mp hq with e | hq
          · rw [e]
            exact hb i hi
          · exact hb q (ky q hq)
      · refine mT_frame (fun q hq => ⟨?_, by rw [e3], ?_⟩) (h.1 u (List.mem_cons_of_mem _ hu))
        · rw [e2, va_up_ne _ _ (show q ≠ i from fun e => far h i hi u hu (e ▸ hq))]
        · rw [e4, upo_ne _ _ (fun e => far h q (kx q (rk_mem kI e)) u hu hq)]
  · show (kl kI l ++ (kl kI (nd a i v .leaf r) ++ F.flatMap (kl kI))).Nodup
    rw [← List.append_assoc]
    refine (List.Perm.append_right _ ?_).nodup_iff.mpr h.2
    rw [kl_nd, kl_nd]
    exact List.Perm.refl _
/-- both subtrees of a root go free -/
theorem rmM {a i : Nat} {v : Int32} {l r : Tr} {F : List Tr} (h : mF W AIm (nd a i v l r :: F)) (e2 : A' (W 2) = AIm (W 2)) (e3 : A' (W 3) = AIm (W 3)) (e4 : A' (W 4) = upo (upo (AIm (W 4)) (rk kI l) (ix none)) (rk kI r) (ix none)) : mF W A' (l :: r :: F) := by
  have hn := mF_hd h
  obtain ⟨m1, m2, m3, m4, lr⟩ := apartI hn
  obtain ⟨⟨g1, g2, g3, g4, g5⟩, hb⟩ := h.1 _ List.mem_cons_self
  have kx : ∀ q ∈ kl kI l, q ∈ kl kI (nd a i v l r) := fun q hq => by rw [kl_nd]; exact List.mem_append_left _ hq
  have ky : ∀ q ∈ kl kI r, q ∈ kl kI (nd a i v l r) := fun q hq => by rw [kl_nd]; exact List.mem_append_right _ (List.mem_cons_of_mem _ hq)
  refine ⟨fun u hu => ?_, ?_⟩
  · rcases List.mem_cons.mp hu with e | hu
    · rw [e]
      refine ⟨gR_congr ix kI _ _ (fun q hq => ⟨by rw [e2], by rw [e3], ?_⟩) (gR_up ix kI m3 g4 none), fun q hq => hb q (kx q hq)⟩
      rw [e4, upo_ne _ _ (fun e => lr q hq q (rk_mem kI e) rfl)]
    · rcases List.mem_cons.mp hu with e | hu
      · rw [e]
        have g6 : gR ix kI (AIm (W 2)) (AIm (W 3)) (upo (AIm (W 4)) (rk kI l) (ix none)) r (some i) := gR_congr ix kI _ _ (fun q hq => ⟨rfl, rfl, upo_ne _ _ (fun e => lr q (rk_mem kI e) q hq rfl)⟩) g5
        exact ⟨gR_congr ix kI _ _ (fun q hq => ⟨by rw [e2], by rw [e3], by rw [e4]⟩) (gR_up ix kI m4 g6 none), fun q hq => hb q (ky q hq)⟩
      · refine mT_frame (fun q hq => ⟨by rw [e2], by rw [e3], ?_⟩) (h.1 u (List.mem_cons_of_mem _ hu))
        rw [e4, upo_ne _ _ (fun e => far h q (ky q (rk_mem kI e)) u hu hq), upo_ne _ _ (fun e => far h q (kx q (rk_mem kI e)) u hu hq)]
  · have h2 : (kl kI (nd a i v l r) ++ F.flatMap (kl kI)).Nodup := h.2
    show (kl kI l ++ (kl kI r ++ F.flatMap (kl kI))).Nodup
    rw [kl_nd, List.append_assoc] at h2
    have h3 : (kl kI l ++ i :: (kl kI r ++ F.flatMap (kl kI))).Nodup := h2
    rw [List.perm_middle.nodup_iff, List.nodup_cons] at h3
    exact h3.2
theorem attLM {a i : Nat} {v : Int32} {l r : Tr} {F : List Tr} (h : mF W AIm (nd a i v .leaf r :: l :: F)) (e2 : A' (W 2) = va_up (AIm (W 2)) i (ix (rk kI l))) (e3 : A' (W 3) = AIm (W 3)) (e4 : A' (W 4) = upo (AIm (W 4)) (rk kI l) (ix (some i))) : mF W A' (nd a i v l r :: F) := by
  have h2 : (kl kI (nd a i v .leaf r) ++ (kl kI l ++ F.flatMap (kl kI))).Nodup := h.2
  have hp : (kl kI (nd a i v l r) ++ F.flatMap (kl kI)).Nodup := by
    rw [← List.append_assoc] at h2
    refine (List.Perm.append_right _ ?_).nodup_iff.mpr h2
    rw [kl_nd, kl_nd]
    exact List.perm_append_comm
  have hn := (List.nodup_append.mp hp).1
  obtain ⟨m1, m2, m3, m4, lr⟩ := apartI hn
  obtain ⟨⟨g1, g2, g3, g4, g5⟩, hb⟩ := h.1 _ List.mem_cons_self
  obtain ⟨y1, y2⟩ := h.1 l (List.mem_cons_of_mem _ List.mem_cons_self)
  have ea : rk kI l ≠ some i := fun e => m1 (rk_mem kI e)
  have hfar : ∀ q ∈ kl kI (nd a i v l r), ∀ u ∈ F, q ∉ kl kI u := fun q hq u hu h3 => (List.nodup_append.mp hp).2.2 q hq q (List.mem_flatMap.mpr ⟨u, hu, h3⟩) rfl
  have kx : ∀ q ∈ kl kI l, q ∈ kl kI (nd a i v l r) := fun q hq => by rw [kl_nd]; exact List.mem_append_left _ hq
  have hi : i ∈ kl kI (nd a i v l r) := rk_mem kI rfl
  refine ⟨fun u hu => ?_, hp⟩
  rcases List.mem_cons.mp hu with e | hu
  · rw [e]
    refine ⟨⟨by rw [e2, va_up_self], by rw [e3]; exact g2, by rw [e4, upo_ne _ _ ea]; exact g3, ?_, ?_⟩, fun q hq => ?_⟩
    · exact gR_congr ix kI _ _ (fun q hq => ⟨by rw [e2, va_up_ne _ _ (show q ≠ i from fun e => m1 (e ▸ hq))], by rw [e3], by rw [e4]⟩) (gR_up ix kI m3 y1 (some i))
    · exact gR_congr ix kI _ _ (fun q hq => ⟨by rw [e2, va_up_ne _ _ (show q ≠ i from fun e => m2 (e ▸ hq))], by rw [e3], by rw [e4, upo_ne _ _ (fun e => lr q (rk_mem kI e) q hq rfl)]⟩) g5
    · rw [kl_nd] at hq
      rcases List.mem_append.mp hq with hq | hq
      · exact y2 q hq
      · exact hb q (by rw [kl_nd]; exact List.mem_append_right _ hq)
  · refine mT_frame (fun q hq => ⟨?_, by rw [e3], ?_⟩) (h.1 u (List.mem_cons_of_mem _ (List.mem_cons_of_mem _ hu)))
    · rw [e2, va_up_ne _ _ (show q ≠ i from fun e => hfar i hi u hu (e ▸ hq))]
    · rw [e4, upo_ne _ _ (fun e => hfar q (kx q (rk_mem kI e)) u hu hq)]
theorem attRM {a i : Nat} {v : Int32} {l r : Tr} {F : List Tr} (h : mF W AIm (nd a i v l .leaf :: r :: F)) (e3 : A' (W 3) = va_up (AIm (W 3)) i (ix (rk kI r))) (e2 : A' (W 2) = AIm (W 2)) (e4 : A' (W 4) = upo (AIm (W 4)) (rk kI r) (ix (some i))) : mF W A' (nd a i v l r :: F) := by
  have h2 : (kl kI (nd a i v l .leaf) ++ (kl kI r ++ F.flatMap (kl kI))).Nodup := h.2
  have hp : (kl kI (nd a i v l r) ++ F.flatMap (kl kI)).Nodup := by
    rw [← List.append_assoc] at h2
    refine (List.Perm.append_right _ ?_).nodup_iff.mpr h2
    rw [kl_nd, kl_nd, List.append_assoc]
    exact List.Perm.refl _
  have hn := (List.nodup_append.mp hp).1
  obtain ⟨m1, m2, m3, m4, lr⟩ := apartI hn
  obtain ⟨⟨g1, g2, g3, g4, g5⟩, hb⟩ := h.1 _ List.mem_cons_self
  obtain ⟨y1, y2⟩ := h.1 r (List.mem_cons_of_mem _ List.mem_cons_self)
  have ea : rk kI r ≠ some i := fun e => m2 (rk_mem kI e)
  have hfar : ∀ q ∈ kl kI (nd a i v l r), ∀ u ∈ F, q ∉ kl kI u := fun q hq u hu h3 => (List.nodup_append.mp hp).2.2 q hq q (List.mem_flatMap.mpr ⟨u, hu, h3⟩) rfl
  have kx : ∀ q ∈ kl kI r, q ∈ kl kI (nd a i v l r) := fun q hq => by rw [kl_nd]; exact List.mem_append_right _ (List.mem_cons_of_mem _ hq)
  have hi : i ∈ kl kI (nd a i v l r) := rk_mem kI rfl
  refine ⟨fun u hu => ?_, hp⟩
  rcases List.mem_cons.mp hu with e | hu
  · rw [e]
    refine ⟨⟨by rw [e2]; exact g1, by rw [e3, va_up_self], by rw [e4, upo_ne _ _ ea]; exact g3, ?_, ?_⟩, fun q hq => ?_⟩
    · exact gR_congr ix kI _ _ (fun q hq => ⟨by rw [e2], by rw [e3, va_up_ne _ _ (show q ≠ i from fun e => m1 (e ▸ hq))], by rw [e4, upo_ne _ _ (fun e => lr q hq q (rk_mem kI e) rfl)]⟩) g4
    · exact gR_congr ix kI _ _ (fun q hq => ⟨by rw [e2], by rw [e3, va_up_ne _ _ (show q ≠ i from fun e => m2 (e ▸ hq))], by rw [e4]⟩) (gR_up ix kI m4 y1 (some i))
    · rw [kl_nd] at hq
      rcases List.mem_append.mp hq with hq | hq
      · exact hb q (by rw [kl_nd]; exact List.mem_append_left _ hq)
      · rcases List.mem_cons.mp hq with e | hq
        · rw [e]
          exact hb i (rk_mem kI rfl)
        · exact y2 q hq
  · refine mT_frame (fun q hq => ⟨by rw [e2], ?_, ?_⟩) (h.1 u (List.mem_cons_of_mem _ (List.mem_cons_of_mem _ hu)))
    · rw [e3, va_up_ne _ _ (show q ≠ i from fun e => hfar i hi u hu (e ▸ hq))]
    · rw [e4, upo_ne _ _ (fun e => hfar q (kx q (rk_mem kI e)) u hu hq)]
theorem newM {a i : Nat} {v : Int32} {F : List Tr} (h : mF W AIm F) (hi : i < 60) (hF : ∀ u ∈ F, i ∉ kl kI u) (e2 : A' (W 2) = va_up (AIm (W 2)) i (ix none)) (e3 : A' (W 3) = va_up (AIm (W 3)) i (ix none)) (e4 : A' (W 4) = va_up (AIm (W 4)) i (ix none)) : mF W A' (nd a i v .leaf .leaf :: F) := by
  refine ⟨fun u hu => ?_, ?_⟩
  · rcases List.mem_cons.mp hu with e | hu
    · rw [e]
      refine ⟨⟨by rw [e2, va_up_self]; rfl, by rw [e3, va_up_self]; rfl, by rw [e4, va_up_self], trivial, trivial⟩, fun q hq => ?_⟩
      obtain rfl : q = i := by simpa [kl, io] using hq
      exact hi
    · exact mT_frame (fun q hq => by
        have hne : q ≠ i := fun e => hF u hu (e ▸ hq)
        rw [e2, e3, e4, va_up_ne _ _ hne, va_up_ne _ _ hne, va_up_ne _ _ hne]
        exact ⟨rfl, rfl, rfl⟩) (h.1 u hu)
  · show (i :: F.flatMap (kl kI)).Nodup
    refine List.nodup_cons.mpr ⟨fun hm => ?_, h.2⟩
    obtain ⟨u, hu, hb⟩ := List.mem_flatMap.mp hm
    exact hF u hu hb
theorem addC_e {n : Cn} {a b : Nat × Nat × Nat} (h1 : a.1 = b.1) (h2 : a.2.1 = b.2.1) (h3 : a.2.2 = b.2.2) : addC n a = addC n b := by
  unfold addC
  rw [h1, h2, h3]
theorem cm_stp : cmO (u2 (u2 Im 6 (W 0) (Im 6 (W 0) + 1)) 8 (W 0) (u2 Im 6 (W 0) (Im 6 (W 0) + 1) 8 (W 0) + 1)) W = addC (cmO Im W) (1, 0, 0) := by
  simp only [cmO, addC, nI_0]
  simp [u2]
  rfl
/-- the two counts of a step, and back to the loop's head -/
theorem msp_tail {Q : RS → SS → Prop} {i : Nat} {lv : List (Nat × VV)} (hM : mK W L K AN R0) (l0 : lkp lv 0 = some (vr (some (W 0)))) (l1 : lkp lv 1 = some (vi (nI i)))
    (kk : ∀ I', cmO I' W = addC (cmO Im W) (1, 0, 0) → mQ W Im AIm I' AIm → WP G mX5_splay Q 0 0 10 [(0, vr (some (W 0))), (1, vi (nI i))] [] (mkS L K AN R0 Rc Ic AIc AR I' AIm AL)) :
    WP G mX5_splay Q 0 0 98 lv [] (mkS L K AN R0 Rc Ic AIc AR Im AIm AL) := by
  have m0 := hM.1
  refine WP_aload_n dX5_splay_98 l0 ?_
  refine WP_dup dX5_splay_99 rfl ?_
  refine gf_RX5_72 dX5_splay_100 rfl rfl m0 ?_
  refine WP_iconst (1) dX5_splay_103 (by decide) ?_
  refine WP_iadd dX5_splay_104 ?_
  refine pf_RX5_72 dX5_splay_105 rfl rfl m0 ?_
  refine WP_aload_n dX5_splay_108 l0 ?_
  refine WP_dup dX5_splay_109 rfl ?_
  refine gf_RX5_75 dX5_splay_110 rfl rfl m0 ?_
  refine WP_iconst (1) dX5_splay_113 (by decide) ?_
  refine WP_iadd dX5_splay_114 ?_
  refine pf_RX5_75 dX5_splay_115 rfl rfl m0 ?_
  refine WP_goto 10 dX5_splay_118 (by decide) ?_
  refine WP_lv [(0, vr (some (W 0))), (1, vi (nI i))] (List.forall_mem_cons.mpr ⟨l0, List.forall_mem_cons.mpr ⟨l1, fun _ h9 => absurd h9 List.not_mem_nil⟩⟩) ?_
  exact kk _ cm_stp ⟨fun j hj => by rw [u2_o _ _ _ (by omega), u2_o _ _ _ (by omega)], fun _ _ _ _ => rfl⟩
theorem msp_nil {Q : RS → SS → Prop} {a i : Nat} {v : Int32} {l r : Tr} {F : List Tr} (hM : mK W L K AN R0) (h : mF W AIm (nd a i v l r :: F)) (hQ : Q (.inl none) (mkS L K AN R0 Rc Ic AIc AR Im AIm AL)) :
    WP G mX5_splay Q 0 0 10 [(0, vr (some (W 0))), (1, vi (nI i))] [] (mkS L K AN R0 Rc Ic AIc AR Im AIm AL) := by
  obtain ⟨m0, ⟨f1, f2, f3, f4, f5, f6, f7⟩, ⟨⟨q1, n1⟩, ⟨q2, n2⟩, ⟨q3, n3⟩, ⟨q4, n4⟩, ⟨q5, n5⟩, ⟨q6, n6⟩, ⟨q7, n7⟩⟩, hne⟩ := hM
  obtain ⟨z0, z1, z2, z3⟩ := mz (fs := []) (h.1 _ List.mem_cons_self)
  refine WP_aload_n dX5_splay_10 rfl ?_
  refine gf_RX5_26 dX5_splay_11 rfl rfl m0 ?_
  refine WP_iload_n dX5_splay_14 rfl ?_
  refine ald_7 i 60 dX5_splay_15 f4 q4 n4 rfl z0 (by decide) ?_
  refine WP_iconst (-1) dX5_splay_16 (by decide) ?_
  rw [z3]
  refine WP_icmp_eq 121 dX5_splay_17 (by decide) (fun hb => ?_) (fun hb => ?_)
  · refine WP_return dX5_splay_121 rfl (Nat.le_of_ble_eq_true rfl) (Nat.le_of_ble_eq_true rfl) ?_
    exact hQ
  · exact absurd rfl hb
theorem msp_loop {Q : RS → SS → Prop} (a i : Nat) (v : Int32) (hM : mK W L K AN R0) : ∀ (n : Nat) (fs : List Fr), fs.length ≤ n → ∀ (l r : Tr) (F : List Tr) (I A : Nat → Nat → Int32), mF W A (plug fs (nd a i v l r) :: F) →
    (∀ I' A', mF W A' (spl fs (nd a i v l r) :: F) → mQ W I A I' A' → cmO I' W = addC (cmO I W) ((fs.length + 1) / 2, fs.length, 0) → Q (.inl none) (mkS L K AN R0 Rc Ic AIc AR I' A' AL)) →
    WP G mX5_splay Q 0 0 10 [(0, vr (some (W 0))), (1, vi (nI i))] [] (mkS L K AN R0 Rc Ic AIc AR I A AL) := by
  have hM' := hM
  obtain ⟨m0, ⟨f1, f2, f3, f4, f5, f6, f7⟩, ⟨⟨q1, n1⟩, ⟨q2, n2⟩, ⟨q3, n3⟩, ⟨q4, n4⟩, ⟨q5, n5⟩, ⟨q6, n6⟩, ⟨q7, n7⟩⟩, hne⟩ := hM
  intro n
  induction n with
  | zero =>
    intro fs hn l r F I A h kk
    match fs, hn with
    | [], _ => exact msp_nil hM' h (kk I A h mQ_refl (addC_0 _).symm)
  | succ n ih =>
    intro fs hn l r F I A h kk
    match fs, hn, h, kk with
    | [], _, h, kk => exact msp_nil hM' h (kk I A h mQ_refl (addC_0 _).symm)
    | [f], _, h, kk =>
      obtain ⟨lft, x, d⟩ := f
      have hc := h.1 _ List.mem_cons_self
      obtain ⟨z0, z1, z2, z3⟩ := mz (fs := [(lft, x, d)]) hc
      obtain ⟨y0, y1, y2, y3⟩ := mzp (f := (lft, x, d)) (fs := []) hc
      refine WP_aload_n dX5_splay_10 rfl ?_
      refine gf_RX5_26 dX5_splay_11 rfl rfl m0 ?_
      refine WP_iload_n dX5_splay_14 rfl ?_
      refine ald_7 i 60 dX5_splay_15 f4 q4 n4 rfl z0 (by decide) ?_
      refine WP_iconst (-1) dX5_splay_16 (by decide) ?_
      rw [z3]
      refine WP_icmp_eq 121 dX5_splay_17 (by decide) (fun hb => ?_) (fun hb => ?_)
      · exact absurd hb (nI_ne1 y0)
      · refine WP_aload_n dX5_splay_20 rfl ?_
        refine gf_RX5_26 dX5_splay_21 rfl rfl m0 ?_
        refine WP_iload_n dX5_splay_24 rfl ?_
        refine ald_7 i 60 dX5_splay_25 f4 q4 n4 rfl z0 (by decide) ?_
        rw [z3]
        refine WP_istore_n dX5_splay_26 (by decide) rfl ?_
        refine WP_aload_n dX5_splay_27 rfl ?_
        refine gf_RX5_26 dX5_splay_28 rfl rfl m0 ?_
        refine WP_iload_n dX5_splay_31 rfl ?_
        refine ald_7 (x.2.1) 60 dX5_splay_32 f4 q4 n4 rfl y0 (by decide) ?_
        rw [y3]
        refine WP_istore_n dX5_splay_33 (by decide) rfl ?_
        refine WP_iload_n dX5_splay_34 rfl ?_
        refine WP_iconst (-1) dX5_splay_35 (by decide) ?_
        refine WP_icmp_eq 93 dX5_splay_36 (by decide) (fun hb2 => ?_) (fun hb2 => ?_)
        · refine WP_aload_n dX5_splay_93 rfl ?_
          refine WP_iload_n dX5_splay_94 rfl ?_
          refine callVv mX5_rotate [_] dX5_splay_95 okc_X5_rotate ok_769 ⟨by decide, by decide⟩ rfl rfl m0 rfl (Nat.le_of_ble_eq_true rfl) (Nat.le_of_ble_eq_true rfl) (Nat.le_of_ble_eq_true rfl) (m_rotate (fs := []) (F := F) hM' h) (fun S1 h1 => ?_)
          obtain ⟨I1, A1, rfl, F1, Q1, c1⟩ := h1
          obtain ⟨l', r', e1, -, -⟩ := rot1_nd (lft, x, d) a i v l r
          refine msp_tail (i := i) hM' rfl rfl (fun I2 c2 Q2 => ?_)
          refine msp_nil hM' (by rw [← e1]; exact F1) (kk I2 A1 F1 (mQ_trans Q1 Q2) ?_)
          rw [c2, c1, addC_add]
          exact addC_e (by simp) (by simp) rfl
        · exact absurd rfl hb2
    | f :: g :: hs, hn, h, kk =>
      have hlen : hs.length ≤ n := by simp at hn; omega
      have hl2 : (hs.length + 1 + 1 + 1) / 2 = 1 + (hs.length + 1) / 2 := by omega
      obtain ⟨lft, x, d⟩ := f
      obtain ⟨lg, y, d2⟩ := g
      have hnd := mF_hd h
      have hc := h.1 _ List.mem_cons_self
      have hc2 : mT W A (plug ((lg, y, d2) :: hs) (plug1 (lft, x, d) (nd a i v l r))) := hc
      have hnd2 : (kl kI (plug ((lg, y, d2) :: hs) (plug1 (lft, x, d) (nd a i v l r)))).Nodup := hnd
      obtain ⟨z0, z1, z2, z3⟩ := mz (fs := (lft, x, d) :: (lg, y, d2) :: hs) hc
      obtain ⟨y0, y1, y2, y3⟩ := mzp (f := (lft, x, d)) (fs := (lg, y, d2) :: hs) hc
      obtain ⟨x0, x1, x2, x3⟩ := mzp (f := (lg, y, d2)) (fs := hs) hc2
      have x1 : A (W 2) y.2.1 = ix (if lg = true then rk kI (plug1 (lft, x, d) (nd a i v l r)) else rk kI d2) := x1
      rw [rk_plug1] at x1
      have hd9 : ∀ q, rk kI d = some q → q < 60 := fun q hq => hc.2 q ((kl_plug kI _ _).mem_iff.mpr (List.mem_append_right _ (List.mem_cons_of_mem _ (List.mem_append_left _ (rk_mem kI hq)))))
      have hd29 : ∀ q, rk kI d2 = some q → q < 60 := fun q hq => hc2.2 q ((kl_plug kI _ _).mem_iff.mpr (List.mem_append_right _ (List.mem_cons_of_mem _ (List.mem_append_left _ (rk_mem kI hq)))))
      have hs1 := sib_neI hnd (i := i) rfl
      have hs2 : rk kI d2 ≠ some x.2.1 := sib_neI hnd2 (i := x.2.1) (rk_plug1 kI _ _)
      have hQf : ∀ (l2 r2 : Tr) (I2 A2 : Nat → Nat → Int32), step2 (lft, x, d) (lg, y, d2) (nd a i v l r) = nd a i v l2 r2 → mF W A2 (plug hs (nd a i v l2 r2) :: F) → mQ W I A I2 A2 → cmO I2 W = addC (cmO I W) (1, 2, 0) →
          WP G mX5_splay Q 0 0 10 [(0, vr (some (W 0))), (1, vi (nI i))] [] (mkS L K AN R0 Rc Ic AIc AR I2 A2 AL) := by
        intro l2 r2 I2 A2 e3 F2 Q2 c2
        refine ih hs hlen l2 r2 F I2 A2 F2 (fun I' A' g12 g13 g14 => kk I' A' ?_ (mQ_trans Q2 g13) ?_)
        · rw [← e3] at g12
          exact g12
        · rw [g14, c2, addC_add]
          refine addC_e ?_ ?_ rfl
          · show 1 + (hs.length + 1) / 2 = (hs.length + 1 + 1 + 1) / 2
            omega
          · show 2 + hs.length = hs.length + 1 + 1
            omega
      obtain ⟨l2, r2, e3, -, -⟩ := step2_nd (lft, x, d) (lg, y, d2) a i v l r
      refine WP_aload_n dX5_splay_10 rfl ?_
      refine gf_RX5_26 dX5_splay_11 rfl rfl m0 ?_
      refine WP_iload_n dX5_splay_14 rfl ?_
      refine ald_7 i 60 dX5_splay_15 f4 q4 n4 rfl z0 (by decide) ?_
      refine WP_iconst (-1) dX5_splay_16 (by decide) ?_
      rw [z3]
      refine WP_icmp_eq 121 dX5_splay_17 (by decide) (fun hb => ?_) (fun hb => ?_)
      · exact absurd hb (nI_ne1 y0)
      · refine WP_aload_n dX5_splay_20 rfl ?_
        refine gf_RX5_26 dX5_splay_21 rfl rfl m0 ?_
        refine WP_iload_n dX5_splay_24 rfl ?_
        refine ald_7 i 60 dX5_splay_25 f4 q4 n4 rfl z0 (by decide) ?_
        rw [z3]
        refine WP_istore_n dX5_splay_26 (by decide) rfl ?_
        refine WP_aload_n dX5_splay_27 rfl ?_
        refine gf_RX5_26 dX5_splay_28 rfl rfl m0 ?_
        refine WP_iload_n dX5_splay_31 rfl ?_
        refine ald_7 (x.2.1) 60 dX5_splay_32 f4 q4 n4 rfl y0 (by decide) ?_
        rw [y3]
        refine WP_istore_n dX5_splay_33 (by decide) rfl ?_
        refine WP_iload_n dX5_splay_34 rfl ?_
        refine WP_iconst (-1) dX5_splay_35 (by decide) ?_
        refine WP_icmp_eq 93 dX5_splay_36 (by decide) (fun hb2 => ?_) (fun hb2 => ?_)
        · exact absurd hb2 (nI_ne1 x0)
        · have hstr : ∀ bb : Bool, (bb = true ↔ lft = lg) → WP G mX5_splay Q 0 0 77 [(0, vr (some (W 0))), (1, vi (nI i)), (2, vi (nI x.2.1)), (3, vi (nI y.2.1))] [vi (bI bb)] (mkS L K AN R0 Rc Ic AIc AR I A AL) := by
            intro bb hbb
            cases bb with
            | true =>
              have heq : lft = lg := hbb.mp rfl
              subst heq
              obtain ⟨xa, xi, xv⟩ := x
              refine WP_istore dX5_splay_77 (by decide) rfl ?_
              refine WP_aload_n dX5_splay_79 rfl ?_
              refine WP_iload dX5_splay_80 rfl ?_
              refine WP_if_eq 89 dX5_splay_82 (by decide) (fun h3 => ?_) (fun h3 => ?_)
              · exact absurd h3 (by decide)
              · refine WP_iload_n dX5_splay_85 rfl ?_
                refine WP_goto 90 dX5_splay_86 (by decide) ?_
                have hcall : MT G mX5_rotate [vr (some (W 0)), vi (nI xi)] (mkS L K AN R0 Rc Ic AIc AR I A AL) (rV (fun S' => ∃ I' A', S' = mkS L K AN R0 Rc Ic AIc AR I' A' AL ∧ mF W A' (plug hs (rot1 (plug1 (lft, (xa, xi, xv), d) (nd a i v l r)) (lft, y, d2)) :: F) ∧ mQ W I A I' A' ∧ cmO I' W = addC (cmO I W) (0, 1, 0))) := by
                  cases lft
                  · exact m_rotate (a := xa) (i := xi) (v := xv) (b := d) (c := nd a i v l r) (d := d2) (lft := false) (x := y) (fs := hs) hM' h
                  · exact m_rotate (a := xa) (i := xi) (v := xv) (b := nd a i v l r) (c := d) (d := d2) (lft := true) (x := y) (fs := hs) hM' h
                refine callVv mX5_rotate [_] dX5_splay_90 okc_X5_rotate ok_769 ⟨by decide, by decide⟩ rfl rfl m0 rfl (Nat.le_of_ble_eq_true rfl) (Nat.le_of_ble_eq_true rfl) (Nat.le_of_ble_eq_true rfl) (hcall) (fun S1 h1 => ?_)
                obtain ⟨I1, A1, rfl, F1, Q1, c1⟩ := h1
                rw [rot1_zz (f := (lft, (xa, xi, xv), d)) (g := (lft, y, d2)) rfl] at F1
                have hz : ∃ lz xz dz, zzF (lft, (xa, xi, xv), d) (lft, y, d2) = (lz, xz, dz) := ⟨_, _, _, rfl⟩
                obtain ⟨lz, xz, dz, hz⟩ := hz
                rw [hz] at F1
                refine WP_aload_n dX5_splay_93 rfl ?_
                refine WP_iload_n dX5_splay_94 rfl ?_
                refine callVv mX5_rotate [_] dX5_splay_95 okc_X5_rotate ok_769 ⟨by decide, by decide⟩ rfl rfl m0 rfl (Nat.le_of_ble_eq_true rfl) (Nat.le_of_ble_eq_true rfl) (Nat.le_of_ble_eq_true rfl) (m_rotate (lft := lz) (x := xz) (d := dz) (fs := hs) (F := F) hM' F1) (fun S1 h1 => ?_)
                obtain ⟨I2, A2, rfl, F2, Q2, c2⟩ := h1
                have e9 : rot1 (nd a i v l r) (lz, xz, dz) = nd a i v l2 r2 := by
                  rw [← e3, ← hz]
                  unfold step2
                  rw [if_pos rfl]
                rw [e9] at F2
                refine msp_tail (i := i) hM' rfl rfl (fun I3 c3 Q3 => hQf l2 r2 I3 A2 e3 F2 (mQ_trans Q1 (mQ_trans Q2 Q3)) ?_)
                rw [c3, c2, c1, addC_add, addC_add]
                exact addC_e rfl rfl rfl
            | false =>
              have hne : ¬ lft = lg := fun e => by cases hbb.mpr e
              refine WP_istore dX5_splay_77 (by decide) rfl ?_
              refine WP_aload_n dX5_splay_79 rfl ?_
              refine WP_iload dX5_splay_80 rfl ?_
              refine WP_if_eq 89 dX5_splay_82 (by decide) (fun h3 => ?_) (fun h3 => ?_)
              · refine WP_iload_n dX5_splay_89 rfl ?_
                refine callVv mX5_rotate [_] dX5_splay_90 okc_X5_rotate ok_769 ⟨by decide, by decide⟩ rfl rfl m0 rfl (Nat.le_of_ble_eq_true rfl) (Nat.le_of_ble_eq_true rfl) (Nat.le_of_ble_eq_true rfl) (m_rotate (fs := (lg, y, d2) :: hs) (F := F) hM' h) (fun S1 h1 => ?_)
                obtain ⟨I1, A1, rfl, F1, Q1, c1⟩ := h1
                obtain ⟨l1, r1, e1, -, -⟩ := rot1_nd (lft, x, d) a i v l r
                have F1' : mF W A1 (plug ((lg, y, d2) :: hs) (nd a i v l1 r1) :: F) := by rw [← e1]; exact F1
                refine WP_aload_n dX5_splay_93 rfl ?_
                refine WP_iload_n dX5_splay_94 rfl ?_
                refine callVv mX5_rotate [_] dX5_splay_95 okc_X5_rotate ok_769 ⟨by decide, by decide⟩ rfl rfl m0 rfl (Nat.le_of_ble_eq_true rfl) (Nat.le_of_ble_eq_true rfl) (Nat.le_of_ble_eq_true rfl) (m_rotate (fs := hs) (F := F) hM' F1') (fun S1 h1 => ?_)
                obtain ⟨I2, A2, rfl, F2, Q2, c2⟩ := h1
                have e9 : rot1 (nd a i v l1 r1) (lg, y, d2) = nd a i v l2 r2 := by
                  rw [← e3, ← e1]
                  unfold step2
                  rw [if_neg hne]
                rw [e9] at F2
                refine msp_tail (i := i) hM' rfl rfl (fun I3 c3 Q3 => hQf l2 r2 I3 A2 e3 F2 (mQ_trans Q1 (mQ_trans Q2 Q3)) ?_)
                rw [c3, c2, c1, addC_add, addC_add]
                exact addC_e rfl rfl rfl
              · exact absurd rfl h3
          have hmid : ∀ bg : Bool, (bg = true ↔ lg = true) → WP G mX5_splay Q 0 0 54 [(0, vr (some (W 0))), (1, vi (nI i)), (2, vi (nI x.2.1)), (3, vi (nI y.2.1))] [vi (bI bg)] (mkS L K AN R0 Rc Ic AIc AR I A AL) := by
            intro bg hbg
            refine WP_aload_n dX5_splay_54 rfl ?_
            refine gf_RX5_20 dX5_splay_55 rfl rfl m0 ?_
            refine WP_iload_n dX5_splay_58 rfl ?_
            refine ald_7 (x.2.1) 60 dX5_splay_59 f2 q2 n2 rfl y0 (by decide) ?_
            refine WP_iload_n dX5_splay_60 rfl ?_
            rw [y1]
            cases lft with
            | true =>
              refine WP_icmp_ne 68 dX5_splay_61 (by decide) (fun h4 => ?_) (fun h4 => ?_)
              · exact absurd rfl h4
              · refine WP_iconst (1) dX5_splay_64 (by decide) ?_
                refine WP_goto 69 dX5_splay_65 (by decide) ?_
                refine WP_icmp_ne 76 dX5_splay_69 (by decide) (fun h5 => ?_) (fun h5 => ?_)
                · refine WP_iconst (0) dX5_splay_76 (by decide) ?_
                  refine hstr false ⟨fun e => (by cases e), fun e => ?_⟩
                  have : bg = true := hbg.mpr e.symm
                  rw [this] at h5
                  exact absurd rfl h5
                · refine WP_iconst (1) dX5_splay_72 (by decide) ?_
                  refine WP_goto 77 dX5_splay_73 (by decide) ?_
                  refine hstr true ⟨fun _ => ?_, fun _ => rfl⟩
                  refine (hbg.mp ?_).symm
                  cases bg with
                  | true => rfl
                  | false => exact absurd h5 (by decide)
            | false =>
              refine WP_icmp_ne 68 dX5_splay_61 (by decide) (fun h4 => ?_) (fun h4 => ?_)
              · refine WP_iconst (0) dX5_splay_68 (by decide) ?_
                refine WP_icmp_ne 76 dX5_splay_69 (by decide) (fun h5 => ?_) (fun h5 => ?_)
                · refine WP_iconst (0) dX5_splay_76 (by decide) ?_
                  refine hstr false ⟨fun e => (by cases e), fun e => ?_⟩
                  have : bg = false := by
                    cases bg with
                    | false => rfl
                    | true =>
                      have := hbg.mp rfl
                      rw [← e] at this
                      cases this
                  rw [this] at h5
                  exact absurd rfl h5
                · refine WP_iconst (1) dX5_splay_72 (by decide) ?_
                  refine WP_goto 77 dX5_splay_73 (by decide) ?_
                  refine hstr true ⟨fun _ => ?_, fun _ => rfl⟩
                  have hbf : bg = false := by
                    cases bg with
                    | false => rfl
                    | true => exact absurd h5 (by decide)
                  cases lg with
                  | false => rfl
                  | true =>
                    have h9 := hbg.mpr rfl
                    rw [hbf] at h9
                    cases h9
              · have h4 : ix (rk kI d) = ix (some i) := h4
                exact absurd ((ix_inj hd9 (fun j hj => by cases hj; exact z0)).mp h4) hs1
          refine WP_aload_n dX5_splay_39 rfl ?_
          refine gf_RX5_20 dX5_splay_40 rfl rfl m0 ?_
          refine WP_iload_n dX5_splay_43 rfl ?_
          refine ald_7 (y.2.1) 60 dX5_splay_44 f2 q2 n2 rfl x0 (by decide) ?_
          refine WP_iload_n dX5_splay_45 rfl ?_
          rw [x1]
          cases lg with
          | true =>
            refine WP_icmp_ne 53 dX5_splay_46 (by decide) (fun h4 => ?_) (fun h4 => ?_)
            · exact absurd rfl h4
            · refine WP_iconst (1) dX5_splay_49 (by decide) ?_
              refine WP_goto 54 dX5_splay_50 (by decide) ?_
              refine WP_lv [(0, vr (some (W 0))), (1, vi (nI i)), (2, vi (nI x.2.1)), (3, vi (nI y.2.1))] (List.forall_mem_cons.mpr ⟨rfl, List.forall_mem_cons.mpr ⟨rfl, List.forall_mem_cons.mpr ⟨rfl, List.forall_mem_cons.mpr ⟨rfl, fun _ h9 => absurd h9 List.not_mem_nil⟩⟩⟩⟩) ?_
              exact hmid true ⟨fun _ => rfl, fun _ => rfl⟩
          | false =>
            refine WP_icmp_ne 53 dX5_splay_46 (by decide) (fun h4 => ?_) (fun h4 => ?_)
            · refine WP_iconst (0) dX5_splay_53 (by decide) ?_
              refine WP_lv [(0, vr (some (W 0))), (1, vi (nI i)), (2, vi (nI x.2.1)), (3, vi (nI y.2.1))] (List.forall_mem_cons.mpr ⟨rfl, List.forall_mem_cons.mpr ⟨rfl, List.forall_mem_cons.mpr ⟨rfl, List.forall_mem_cons.mpr ⟨rfl, fun _ h9 => absurd h9 List.not_mem_nil⟩⟩⟩⟩) ?_
              exact hmid false ⟨fun e => (by cases e), fun e => (by cases e)⟩
            · have h4 : ix (rk kI d2) = ix (some x.2.1) := h4
              exact absurd ((ix_inj hd29 (fun j hj => by cases hj; exact y0)).mp h4) hs2
theorem m_splay (a i : Nat) (v : Int32) (l r : Tr) (fs : List Fr) (F : List Tr) (hM : mK W L K AN R0) (h : mF W AIm (plug fs (nd a i v l r) :: F)) :
    MT G mX5_splay [vr (some (W 0)), vi (nI i)] (mkS L K AN R0 Rc Ic AIc AR Im AIm AL) (rV (fun S' => ∃ I' A', S' = mkS L K AN R0 Rc Ic AIc AR I' A' AL ∧ mF W A' (spl fs (nd a i v l r) :: F) ∧ mQ W Im AIm I' A' ∧ cmO I' W = addC (cmO Im W) ((fs.length + 1) / 2, fs.length, 1))) := by
  have m0 := hM.1
  refine MT_of (by decide) rfl (Nat.le_of_ble_eq_true rfl) ?_
  refine WP_aload_n dX5_splay_0 rfl ?_
  refine WP_dup dX5_splay_1 rfl ?_
  refine gf_RX5_66 dX5_splay_2 rfl rfl m0 ?_
  refine WP_iconst (1) dX5_splay_5 (by decide) ?_
  refine WP_iadd dX5_splay_6 ?_
  refine pf_RX5_66 dX5_splay_7 rfl rfl m0 ?_
  refine msp_loop a i v hM fs.length fs (Nat.le_refl _) l r F _ _ h (fun I' A' g1 g2 g3 => ⟨rfl, I', A', rfl, g1, mQ_trans ⟨fun j hj => ?_, fun _ _ _ _ => rfl⟩ g2, ?_⟩)
  · rw [u2_o _ _ _ (by omega)]
  · have e : cmO (u2 Im 9 (W 0) (Im 9 (W 0) + 1)) W = addC (cmO Im W) (0, 0, 1) := by
      simp only [cmO, addC, nI_0]
      simp [u2]
      rfl
    rw [g3, e, addC_add]
    exact addC_e (Nat.zero_add _) (Nat.zero_add _) rfl
end MCT
