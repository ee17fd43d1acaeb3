/-! ===== Tree.addToAll, Tree.turnRound ===== -/
section CHG
variable {G : GC} {L : List Nat} {K AN : Nat → Nat} {R0 Rc Rc' : Nat → Nat → Option Nat} {Ic Ic' AIc Im AIm : Nat → Nat → Int32} {AR : Nat → Nat → Option Nat} {AL : Nat → Nat → Int64}
theorem node_apart {a i : Nat} {v : Int32} {l r : Tr} {fs : List Fr} (hn : (kl kA (plug fs (nd a i v l r))).Nodup) : (∀ q ∈ kl kA l, q ≠ a) ∧ (∀ q ∈ kl kA r, q ≠ a) ∧ (∀ q ∈ kp kA fs, q ≠ a) := by
  have h2 := (kl_plug kA _ _).nodup_iff.mp hn
  obtain ⟨n1, n2, n3⟩ := List.nodup_append.mp h2
  obtain ⟨m1, m2, -, -⟩ := io_apart n1
  exact ⟨fun q hq e => m1 (e ▸ hq), fun q hq e => m2 (e ▸ hq), fun q hq e => n3 a (rk_mem kA rfl) q hq e.symm⟩
theorem kl_zip (ky : Nat → Nat → Nat) {fs : List Fr} {t t' : Tr} (h : (kl ky t').Perm (kl ky t)) : (kl ky (plug fs t')).Perm (kl ky (plug fs t)) := (kl_plug ky fs t').trans ((List.Perm.append_right _ h).trans (kl_plug ky fs t).symm)
theorem cF_setV {a i : Nat} {v w : Int32} {l r : Tr} {fs : List Fr} {F : List Tr} (h : cF L K Rc Ic (plug fs (nd a i v l r) :: F)) (e0 : Ic' 0 = Ic 0) (e1 : Ic' 1 = va_up (Ic 1) a w) : cF L K Rc Ic' (plug fs (nd a i w l r) :: F) := by
  have hn := nodup_hd h
  have hc := h.1 _ List.mem_cons_self
  obtain ⟨al, ar, af⟩ := node_apart hn
  obtain ⟨g1, g2⟩ := (gR_plug id kA _ _).mp hc.1
  obtain ⟨⟨p1, p2, p3⟩, p4⟩ := (gN_plug _ _ _).mp hc.2
  have hk : (kl kA (nd a i w l r)).Perm (kl kA (nd a i v l r)) := by rw [kl_nd, kl_nd]
  refine cF_step h (kl_zip kA hk) ⟨(gR_plug id kA _ _).mpr ⟨g1, g2⟩, (gN_plug _ _ _).mpr ⟨⟨⟨p1.1, by rw [e0]; exact p1.2.1, by rw [e1, va_up_self]⟩, ?_, ?_⟩, ?_⟩⟩ (fun q hq => ⟨⟨rfl, rfl, rfl⟩, by rw [e0], ?_⟩)
  · exact gN_frame (fun q hq => ⟨by rw [e0], by rw [e1, va_up_ne _ _ (al q hq)]⟩) p2
  · exact gN_frame (fun q hq => ⟨by rw [e0], by rw [e1, va_up_ne _ _ (ar q hq)]⟩) p3
  · exact gNP_frame (fun q hq => ⟨by rw [e0], by rw [e1, va_up_ne _ _ (af q hq)]⟩) p4
  · rw [e1, va_up_ne]
    rintro rfl
    exact hq ((kl_plug kA _ _).mem_iff.mpr (List.mem_append_left _ (rk_mem kA rfl)))
theorem cF_swap {a i : Nat} {v : Int32} {l r : Tr} {fs : List Fr} {F : List Tr} (h : cF L K Rc Ic (plug fs (nd a i v l r) :: F)) (e0 : Rc' 0 = va_up (Rc 0) a (rk kA r)) (e1 : Rc' 1 = va_up (Rc 1) a (rk kA l)) (e2 : Rc' 2 = Rc 2) : cF L K Rc' Ic (plug fs (nd a i v r l) :: F) := by
  have hn := nodup_hd h
  have hc := h.1 _ List.mem_cons_self
  obtain ⟨al, ar, af⟩ := node_apart hn
  obtain ⟨⟨g1, g2, g3, g4, g5⟩, g6⟩ := (gR_plug id kA _ _).mp hc.1
  obtain ⟨⟨p1, p2, p3⟩, p4⟩ := (gN_plug _ _ _).mp hc.2
  have hk : (kl kA (nd a i v r l)).Perm (kl kA (nd a i v l r)) := by
    rw [kl_nd, kl_nd]
    refine List.perm_append_comm.trans ?_
    show (a :: (kl kA l ++ kl kA r)).Perm _
    exact List.perm_middle.symm
  have hs : tsz r + 1 + tsz l = tsz l + 1 + tsz r := by omega
  refine cF_step h (kl_zip kA hk) ⟨(gR_plug id kA _ _).mpr ⟨⟨by rw [e0, va_up_self]; rfl, by rw [e1, va_up_self]; rfl, by rw [e2]; exact g3, ?_, ?_⟩, ?_⟩, (gN_plug _ _ _).mpr ⟨⟨?_, p3, p2⟩, ?_⟩⟩ (fun q hq => ⟨⟨?_, ?_, by rw [e2]⟩, rfl, rfl⟩)
  · exact gR_congr id kA _ _ (fun q hq => ⟨by rw [e0, va_up_ne _ _ (ar q hq)], by rw [e1, va_up_ne _ _ (ar q hq)], by rw [e2]⟩) g5
  · exact gR_congr id kA _ _ (fun q hq => ⟨by rw [e0, va_up_ne _ _ (al q hq)], by rw [e1, va_up_ne _ _ (al q hq)], by rw [e2]⟩) g4
  · exact gP_congr id kA _ _ (fun q hq => ⟨by rw [e0, va_up_ne _ _ (af q hq)], by rw [e1, va_up_ne _ _ (af q hq)], by rw [e2]⟩) g6
  · rw [hs]
    exact p1
  · show gNP _ fs (tsz r + 1 + tsz l)
    rw [hs]
    exact p4
  · rw [e0, va_up_ne]
    rintro rfl
    exact hq ((kl_plug kA _ _).mem_iff.mpr (List.mem_append_left _ (rk_mem kA rfl)))
  · rw [e1, va_up_ne]
    rintro rfl
    exact hq ((kl_plug kA _ _).mem_iff.mpr (List.mem_append_left _ (rk_mem kA rfl)))
theorem add_loop {Q : RS → SS → Prop} (T : Nat) (d : Int32) : ∀ (t : Tr) (fs : List Fr) (m : Nat) (F : List Tr) (I : Nat → Nat → Int32), cF L K Rc I (plug fs t :: F) → tsz t ≤ m → m < 2 ^ 31 →
    (∀ I', cF L K Rc I' (plug fs (rai d t) :: F) → (∀ j, j ≠ 1 → I' j = I j) → WP G mX3_addToAll Q 0 0 10 [(0, vr (some T)), (1, vi d), (2, vr (nxA fs)), (3, vi (nI (m - tsz t)))] [] (mkS L K AN R0 Rc I' AIc AR Im AIm AL)) →
    WP G mX3_addToAll Q 0 0 10 [(0, vr (some T)), (1, vi d), (2, vr (nx t fs)), (3, vi (nI m))] [] (mkS L K AN R0 Rc I AIc AR Im AIm AL) := by
  intro t
  induction t with
  | leaf => intro fs m F I h hm hm2 kk; exact kk I h (fun _ _ => rfl)
  | inner a i v l r ihl ihr =>
    intro fs m F I h hm hm2 kk
    have hm : tsz l + 1 + tsz r ≤ m := hm
    obtain ⟨hka, hz0, hz1, hz2, hz3, hz4⟩ := cz (a := a) (i := i) (v := v) (l := l) (r := r) (h.1 _ List.mem_cons_self)
    have hka : isK (mkS L K AN R0 Rc I AIc AR Im AIm AL) 0 a := hka
    refine WP_iload_n dX3_addToAll_10 rfl ?_
    refine WP_if_le 39 dX3_addToAll_11 (by decide) (fun h1 => ?_) (fun h1 => ?_)
    · exact absurd h1 (nI_le0 (by omega) hm2)
    · refine WP_aload_n dX3_addToAll_14 rfl ?_
      refine WP_ifnull 39 dX3_addToAll_15 (by decide) (fun h2 => ?_) (fun p9 h2 => ?_)
      · cases h2
      · cases h2
        refine WP_aload_n dX3_addToAll_18 rfl ?_
        refine WP_dup dX3_addToAll_19 rfl ?_
        refine gf_RX3_39 dX3_addToAll_20 rfl rfl hka ?_
        refine WP_iload_n dX3_addToAll_23 rfl ?_
        rw [hz4]
        refine WP_iadd dX3_addToAll_24 ?_
        refine pf_RX3_39 dX3_addToAll_25 rfl rfl hka ?_
        refine WP_aload_n dX3_addToAll_28 rfl ?_
        have h' : cF L K Rc (u2 I 1 a (v + d)) (plug fs (nd a i (v + d) l r) :: F) := cF_setV h (u2_o _ _ _ (by decide)) (u2_s _ _ _ _)
        refine callVr mX0_nextOfWalk [] dX3_addToAll_29 okc_X0_nextOfWalk ok_357 ⟨by decide, by decide⟩ rfl rfl hka rfl (Nat.le_of_ble_eq_true rfl) (Nat.le_of_ble_eq_true rfl) (Nat.le_of_ble_eq_true rfl) (c_nextOfWalk a i (v + d) l r fs (nodup_hd h') (h'.1 _ List.mem_cons_self)) (fun o1 S1 h3 => ?_)
        obtain ⟨rfl, rfl⟩ := h3
        refine WP_astore_n dX3_addToAll_32 (by decide) rfl ?_
        refine WP_iinc (nI (m - 1)) dX3_addToAll_33 rfl (nI_m1 (by omega)) (by decide) rfl ?_
        refine WP_goto 10 dX3_addToAll_36 (by decide) ?_
        refine WP_lv [(0, vr (some T)), (1, vi d), (2, vr (nx l ((true, (a, i, v + d), r) :: fs))), (3, vi (nI (m - 1)))] (List.forall_mem_cons.mpr ⟨rfl, List.forall_mem_cons.mpr ⟨rfl, List.forall_mem_cons.mpr ⟨rfl, List.forall_mem_cons.mpr ⟨rfl, fun _ h9 => absurd h9 List.not_mem_nil⟩⟩⟩⟩) ?_
        refine ihl ((true, (a, i, v + d), r) :: fs) (m - 1) F _ h' (by omega) (by omega) (fun I2 h2 e2 => ?_)
        rw [nx_T _ (rai d l)]
        refine ihr ((false, (a, i, v + d), rai d l) :: fs) _ F _ h2 (by omega) (by omega) (fun I3 h3 e3 => ?_)
        have hk := kk I3 h3 (fun j hj => by rw [e3 j hj, e2 j hj, u2_o _ _ _ hj])
        rw [show m - tsz (Std.DTreeMap.Internal.Impl.inner a i v l r) = m - 1 - tsz l - tsz r from by show m - (tsz l + 1 + tsz r) = _; omega] at hk
        exact hk
theorem c_addToAll (T : Nat) (d : Int32) (t : Tr) (F : List Tr) (hT : isK (mkS L K AN R0 Rc Ic AIc AR Im AIm AL) 3 T) (hr : Rc 3 T = rk kA t) (hs : tsz t ≤ 60) (h : cF L K Rc Ic (t :: F)) :
    MT G mX3_addToAll [vr (some T), vi d] (mkS L K AN R0 Rc Ic AIc AR Im AIm AL) (rV (fun S' => ∃ Ic', S' = mkS L K AN R0 Rc Ic' AIc AR Im AIm AL ∧ cF L K Rc Ic' (rai d t :: F) ∧ ∀ j, j ≠ 1 → Ic' j = Ic j)) := by
  refine MT_of (by decide) rfl (Nat.le_of_ble_eq_true rfl) ?_
  refine WP_aload_n dX3_addToAll_0 rfl ?_
  refine gf_RX3_7 dX3_addToAll_1 rfl rfl hT ?_
  rw [hr]
  refine WP_astore_n dX3_addToAll_4 (by decide) rfl ?_
  refine WP_aload_n dX3_addToAll_5 rfl ?_
  refine callVi mX3_count [] dX3_addToAll_6 okc_X3_count ok_352 ⟨by decide, by decide⟩ rfl rfl hT rfl (Nat.le_of_ble_eq_true rfl) (Nat.le_of_ble_eq_true rfl) (Nat.le_of_ble_eq_true rfl) (c_count T t hT hr (h.1 _ List.mem_cons_self)) (fun x1 S1 h1 => ?_)
  obtain ⟨rfl, rfl⟩ := h1
  refine WP_istore_n dX3_addToAll_9 (by decide) rfl ?_
  refine WP_lv [(0, vr (some T)), (1, vi d), (2, vr (rk kA t)), (3, vi (nI (tsz t)))] (List.forall_mem_cons.mpr ⟨rfl, List.forall_mem_cons.mpr ⟨rfl, List.forall_mem_cons.mpr ⟨rfl, List.forall_mem_cons.mpr ⟨rfl, fun _ h9 => absurd h9 List.not_mem_nil⟩⟩⟩⟩) ?_
  have e : rk kA t = nx t [] := by cases t <;> rfl
  rw [e]
  refine add_loop T d t [] (tsz t) F Ic h (Nat.le_refl _) (by omega) (fun I' h' e' => ?_)
  rw [Nat.sub_self]
  refine WP_iload_n dX3_addToAll_10 rfl ?_
  refine WP_if_le 39 dX3_addToAll_11 (by decide) (fun h1 => ?_) (fun h1 => ?_)
  · refine WP_return dX3_addToAll_39 rfl (Nat.le_of_ble_eq_true rfl) (Nat.le_of_ble_eq_true rfl) ?_
    exact ⟨rfl, _, rfl, h', e'⟩
  · exact absurd (show nI 0 ≤ 0 by decide) h1
theorem turn_loop {Q : RS → SS → Prop} (T : Nat) : ∀ (t : Tr) (fs : List Fr) (m : Nat) (F : List Tr) (R : Nat → Nat → Option Nat), cF L K R Ic (plug fs t :: F) → tsz t ≤ m → m < 2 ^ 31 →
    (∀ R', cF L K R' Ic (plug fs (mir t) :: F) → R' 3 = R 3 → WP G mX3_turnRound Q 0 0 10 [(0, vr (some T)), (1, vr (nxA fs)), (2, vi (nI (m - tsz t)))] [] (mkS L K AN R0 R' Ic AIc AR Im AIm AL)) →
    WP G mX3_turnRound Q 0 0 10 [(0, vr (some T)), (1, vr (nx t fs)), (2, vi (nI m))] [] (mkS L K AN R0 R Ic AIc AR Im AIm AL) := by
  intro t
  induction t with
  | leaf => intro fs m F R h hm hm2 kk; exact kk R h rfl
  | inner a i v l r ihl ihr =>
    intro fs m F R h hm hm2 kk
    have hm : tsz l + 1 + tsz r ≤ m := hm
    obtain ⟨hka, hz0, hz1, hz2, hz3, hz4⟩ := cz (a := a) (i := i) (v := v) (l := l) (r := r) (h.1 _ List.mem_cons_self)
    have hka : isK (mkS L K AN R0 R Ic AIc AR Im AIm AL) 0 a := hka
    refine WP_iload_n dX3_turnRound_10 rfl ?_
    refine WP_if_le 33 dX3_turnRound_11 (by decide) (fun h1 => ?_) (fun h1 => ?_)
    · exact absurd h1 (nI_le0 (by omega) hm2)
    · refine WP_aload_n dX3_turnRound_14 rfl ?_
      refine WP_ifnull 33 dX3_turnRound_15 (by decide) (fun h2 => ?_) (fun p9 h2 => ?_)
      · cases h2
      · cases h2
        refine WP_aload_n dX3_turnRound_18 rfl ?_
        refine callVv mX0_swapSides [] dX3_turnRound_19 okc_X0_swapSides ok_353 ⟨by decide, by decide⟩ rfl rfl hka rfl (Nat.le_of_ble_eq_true rfl) (Nat.le_of_ble_eq_true rfl) (Nat.le_of_ble_eq_true rfl) (c_swapSides a hka) (fun S1 h3 => ?_)
        subst h3
        have h' : cF L K (u2 (u2 R 0 a (R 1 a)) 1 a (R 0 a)) Ic (plug fs (nd a i v r l) :: F) := cF_swap h (by rw [u2_o _ _ _ (by decide), u2_s, hz1]) (by rw [u2_s, u2_o _ _ _ (by decide), hz0]) (by rw [u2_o _ _ _ (by decide), u2_o _ _ _ (by decide)])
        refine WP_aload_n dX3_turnRound_22 rfl ?_
        refine callVr mX0_nextOfWalk [] dX3_turnRound_23 okc_X0_nextOfWalk ok_357 ⟨by decide, by decide⟩ rfl rfl hka rfl (Nat.le_of_ble_eq_true rfl) (Nat.le_of_ble_eq_true rfl) (Nat.le_of_ble_eq_true rfl) (c_nextOfWalk a i v r l fs (nodup_hd h') (h'.1 _ List.mem_cons_self)) (fun o1 S1 h3 => ?_)
        obtain ⟨rfl, rfl⟩ := h3
        refine WP_astore_n dX3_turnRound_26 (by decide) rfl ?_
        refine WP_iinc (nI (m - 1)) dX3_turnRound_27 rfl (nI_m1 (by omega)) (by decide) rfl ?_
        refine WP_goto 10 dX3_turnRound_30 (by decide) ?_
        refine WP_lv [(0, vr (some T)), (1, vr (nx r ((true, (a, i, v), l) :: fs))), (2, vi (nI (m - 1)))] (List.forall_mem_cons.mpr ⟨rfl, List.forall_mem_cons.mpr ⟨rfl, List.forall_mem_cons.mpr ⟨rfl, fun _ h9 => absurd h9 List.not_mem_nil⟩⟩⟩) ?_
        refine ihr ((true, (a, i, v), l) :: fs) (m - 1) F _ h' (by omega) (by omega) (fun R2 h2 e2 => ?_)
        rw [nx_T _ (mir r)]
        refine ihl ((false, (a, i, v), mir r) :: fs) _ F _ h2 (by omega) (by omega) (fun R3 h3 e3 => ?_)
        have hk := kk R3 h3 (by rw [e3, e2, u2_o _ _ _ (by decide), u2_o _ _ _ (by decide)])
        rw [show m - tsz (Std.DTreeMap.Internal.Impl.inner a i v l r) = m - 1 - tsz r - tsz l from by show m - (tsz l + 1 + tsz r) = _; omega] at hk
        exact hk
theorem c_turnRound (T : Nat) (t : Tr) (F : List Tr) (hT : isK (mkS L K AN R0 Rc Ic AIc AR Im AIm AL) 3 T) (hr : Rc 3 T = rk kA t) (hs : tsz t ≤ 60) (h : cF L K Rc Ic (t :: F)) :
    MT G mX3_turnRound [vr (some T)] (mkS L K AN R0 Rc Ic AIc AR Im AIm AL) (rV (fun S' => ∃ Rc', S' = mkS L K AN R0 Rc' Ic AIc AR Im AIm AL ∧ cF L K Rc' Ic (mir t :: F) ∧ Rc' 3 = Rc 3)) := by
  refine MT_of (by decide) rfl (Nat.le_of_ble_eq_true rfl) ?_
  refine WP_aload_n dX3_turnRound_0 rfl ?_
  refine gf_RX3_7 dX3_turnRound_1 rfl rfl hT ?_
  rw [hr]
  refine WP_astore_n dX3_turnRound_4 (by decide) rfl ?_
  refine WP_aload_n dX3_turnRound_5 rfl ?_
  refine callVi mX3_count [] dX3_turnRound_6 okc_X3_count ok_352 ⟨by decide, by decide⟩ rfl rfl hT rfl (Nat.le_of_ble_eq_true rfl) (Nat.le_of_ble_eq_true rfl) (Nat.le_of_ble_eq_true rfl) (c_count T t hT hr (h.1 _ List.mem_cons_self)) (fun x1 S1 h1 => ?_)
  obtain ⟨rfl, rfl⟩ := h1
  refine WP_istore_n dX3_turnRound_9 (by decide) rfl ?_
  refine WP_lv [(0, vr (some T)), (1, vr (rk kA t)), (2, vi (nI (tsz t)))] (List.forall_mem_cons.mpr ⟨rfl, List.forall_mem_cons.mpr ⟨rfl, List.forall_mem_cons.mpr ⟨rfl, fun _ h9 => absurd h9 List.not_mem_nil⟩⟩⟩) ?_
  have e : rk kA t = nx t [] := by cases t <;> rfl
  rw [e]
  refine turn_loop T t [] (tsz t) F Rc h (Nat.le_refl _) (by omega) (fun R' h' e' => ?_)
  rw [Nat.sub_self]
  refine WP_iload_n dX3_turnRound_10 rfl ?_
  refine WP_if_le 33 dX3_turnRound_11 (by decide) (fun h1 => ?_) (fun h1 => ?_)
  · refine WP_return dX3_turnRound_33 rfl (Nat.le_of_ble_eq_true rfl) (Nat.le_of_ble_eq_true rfl) ?_
    exact ⟨rfl, _, rfl, h', e'⟩
  · exact absurd (show nI 0 ≤ 0 by decide) h1
end CHG
