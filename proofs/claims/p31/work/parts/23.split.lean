/-! ===== SplaySequence$Splayer: split, join ===== -/
section SPJ
variable {G : GC} {L : List Nat} {K AN : Nat → Nat} {R0 Rc : Nat → Nat → Option Nat} {Ic AIc Im AIm : Nat → Nat → Int32} {AR : Nat → Nat → Option Nat} {AL : Nat → Nat → Int64}
theorem cF_same {Rc' : Nat → Nat → Option Nat} {Ic' : Nat → Nat → Int32} {F : List Tr} (h : cF L K Rc Ic F) (e0 : Rc' 0 = Rc 0) (e1 : Rc' 1 = Rc 1) (e2 : Rc' 2 = Rc 2) (i0 : Ic' 0 = Ic 0) (i1 : Ic' 1 = Ic 1) : cF L K Rc' Ic' F :=
  ⟨fun u hu => cT_frame (fun q _ => ⟨⟨by rw [e0], by rw [e1], by rw [e2]⟩, by rw [i0], by rw [i1]⟩) (h.1 u hu), h.2⟩
/-- the whole tree, seen from the node at a position -/
theorem at_zip {t : Tr} {k : Nat} (hk : k < tsz t) : ∃ fs a i v l r, zat t k [] = (nd a i v l r, fs) ∧ t = plug fs (nd a i v l r) ∧ upT t k = spl fs (nd a i v l r) ∧ upN t k = fs.length ∧ fs.length < tsz t ∧ (bef fs).length + tsz l = k ∧ (io t)[k]? = some (a, i, v) := by
  obtain ⟨a, i, v, l, r, e1, e2, e3⟩ := zat_nd t k [] hk
  have e4 := zat_plug1 t k []
  rw [e1] at e4
  have e4 : plug (zat t k []).2 (nd a i v l r) = t := e4
  refine ⟨(zat t k []).2, a, i, v, l, r, by rw [← e1], e4.symm, by unfold upT; rw [e1], rfl, ?_, ?_, e3⟩
  · have h1 := plug_len (zat t k []).2 (nd a i v l r)
    rw [e4] at h1
    have h2 : (zat t k []).2.length + (tsz l + 1 + tsz r) ≤ tsz t := h1
    omega
  · rw [e2]
    exact Nat.zero_add k
/-- the class's splay of the node at a position -/
theorem c_splayAt (P T a : Nat) (t : Tr) (k : Nat) (F : List Tr) (hP : isK (mkS L K AN R0 Rc Ic AIc AR Im AIm AL) 2 P) (hT : isK (mkS L K AN R0 Rc Ic AIc AR Im AIm AL) 3 T) (hk : k < tsz t) (hs : tsz t ≤ 60) (ha : rk kA (zat t k []).1 = some a) (h : cF L K Rc Ic (t :: F)) :
    MT G mX2_splay [vr (some P), vr (some T), vr (some a)] (mkS L K AN R0 Rc Ic AIc AR Im AIm AL) (rV (fun S' => ∃ Rc' Ic', S' = mkS L K AN R0 Rc' Ic' AIc AR Im AIm AL ∧ cF L K Rc' Ic' (upT t k :: F) ∧ Rc' 3 = va_up (Rc 3) T (some a) ∧ Ic' 2 = Ic 2 ∧ cnts Ic Ic' P ((upN t k + 1) / 2) (upN t k) 1)) := by
  obtain ⟨fs, a', i, v, l, r, e1, e2, e3, e4, e5, -, -⟩ := at_zip hk
  rw [e1] at ha
  cases ha
  rw [e2] at h
  rw [e3, e4]
  exact c_splay P T a' i v l r fs F hP hT (by omega) h
/-- the parts of a split, where the two objects' roots are told -/
def spRoots (Rc Rc' : Nat → Nat → Option Nat) (T U : Nat) (o1 o2 : Option Nat) : Prop := Rc' 3 T = o1 ∧ Rc' 3 U = o2 ∧ ∀ q, q ≠ T → q ≠ U → Rc' 3 q = Rc 3 q
theorem c_split (P T U : Nat) (t : Tr) (k : Nat) (F : List Tr) (hP : isK (mkS L K AN R0 Rc Ic AIc AR Im AIm AL) 2 P) (hT : isK (mkS L K AN R0 Rc Ic AIc AR Im AIm AL) 3 T) (hU : isK (mkS L K AN R0 Rc Ic AIc AR Im AIm AL) 3 U) (hTU : T ≠ U) (hs : tsz t ≤ 60) (hk : k ≤ 60) (hr : Rc 3 T = rk kA t) (h : cF L K Rc Ic (t :: F)) :
    MT G mX2_split [vr (some P), vr (some T), vi (nI k), vr (some U)] (mkS L K AN R0 Rc Ic AIc AR Im AIm AL) (rV (fun S' => ∃ Rc' Ic', S' = mkS L K AN R0 Rc' Ic' AIc AR Im AIm AL ∧ cF L K Rc' Ic' ((splT t k).1 :: (splT t k).2 :: F) ∧ spRoots Rc Rc' T U (rk kA (splT t k).1) (rk kA (splT t k).2) ∧ Ic' 2 = Ic 2 ∧ cnts Ic Ic' P (splC t k).1 (splC t k).2.1 (splC t k).2.2)) := by
  have hf : fnd t (nI k) = if k < tsz t then rk kA (zat t k []).1 else none := fnd_nI t k [] (by omega) (by omega)
  refine MT_of (by decide) rfl (Nat.le_of_ble_eq_true rfl) ?_
  refine WP_aload_n dX2_split_0 rfl ?_
  refine WP_iload_n dX2_split_1 rfl ?_
  refine callVr mX3_find [_] dX2_split_2 okc_X3_find ok_346 ⟨by decide, by decide⟩ rfl rfl hT rfl (Nat.le_of_ble_eq_true rfl) (Nat.le_of_ble_eq_true rfl) (Nat.le_of_ble_eq_true rfl) (c_find T t (nI k) hT hr (h.1 _ List.mem_cons_self)) (fun o1 S1 h1 => ?_)
  obtain ⟨rfl, rfl⟩ := h1
  rw [hf]
  refine WP_astore dX2_split_5 (by decide) rfl ?_
  refine WP_aload dX2_split_7 rfl ?_
  refine WP_ifnonnull 20 dX2_split_9 (by decide) (fun p9 h1 => ?_) (fun h1 => ?_)
  · by_cases hkt : k < tsz t
    · rw [if_pos hkt] at h1 ⊢
      obtain ⟨fs, a, i, v, l, r, e1, e2, e3, e4, e5, -, e7⟩ := at_zip hkt
      refine WP_iload_n dX2_split_20 rfl ?_
      refine WP_if_ne 35 dX2_split_21 (by decide) (fun h2 => ?_) (fun h2 => ?_)
      · have hk0 : k ≠ 0 := fun e => h2 (by rw [e]; rfl)
        refine WP_aload_n dX2_split_35 rfl ?_
        refine WP_aload_n dX2_split_36 rfl ?_
        refine WP_aload dX2_split_37 rfl ?_
        rw [h1]
        refine callVv mX2_splay [_, _] dX2_split_39 okc_X2_splay ok_272 ⟨by decide, by decide⟩ rfl rfl hP rfl (Nat.le_of_ble_eq_true rfl) (Nat.le_of_ble_eq_true rfl) (Nat.le_of_ble_eq_true rfl) (c_splayAt P T p9 t k F hP hT hkt hs h1 h) (fun S1 h3 => ?_)
        obtain ⟨R1, I1, rfl, g1, g2, g3, g4⟩ := h3
        obtain ⟨a', i', v', l', r', u1, u2', u3, u4⟩ := upT_nd t k hkt
        rw [e1] at h1
        cases h1
        cases Option.some.inj (u4.symm.trans e7)
        rw [u1] at g1
        have hc := g1.1 _ List.mem_cons_self
        obtain ⟨hka, hz0, hz1, hz2, hz3, -⟩ := cz (fs := []) hc
        have hka : isK (mkS L K AN R0 R1 I1 AIc AR Im AIm AL) 0 a := hka
        refine WP_aload_n dX2_split_42 rfl ?_
        refine WP_aload dX2_split_43 rfl ?_
        refine pf_RX2_38 dX2_split_45 rfl rfl hU ?_
        refine WP_aload_n dX2_split_48 rfl ?_
        refine WP_aload dX2_split_49 rfl ?_
        have hd0 : u2 R1 3 U (some a) 0 a = rk kA l' := by rw [u2_o _ _ _ (by decide)]; exact hz0
        have hd1 : u2 R1 3 U (some a) 1 a = rk kA r' := by rw [u2_o _ _ _ (by decide)]; exact hz1
        have hd2 : (u2 R1 3 U (some a)) 2 = R1 2 := u2_o _ _ _ (by decide)
        have hgl := hc.2.2.1
        have hgr := hc.2.2.2
        refine callVr mX0_dropLeft [] dX2_split_51 okc_X0_dropLeft ok_347 ⟨by decide, by decide⟩ rfl rfl hka rfl (Nat.le_of_ble_eq_true rfl) (Nat.le_of_ble_eq_true rfl) (Nat.le_of_ble_eq_true rfl) (c_dropLeft a hka (fun b hb => rk_K hgl b (hd0.symm.trans hb)) (fun b hb => rk_K hgr b (hd1.symm.trans hb))) (fun o2 S1 h3 => ?_)
        obtain ⟨rfl, rfl⟩ := h3
        rw [hd0, hd1, cnt_rk (par := none) hgr]
        refine pf_RX2_38 dX2_split_54 rfl rfl hT ?_
        refine WP_return dX2_split_57 rfl (Nat.le_of_ble_eq_true rfl) (Nat.le_of_ble_eq_true rfl) ?_
        have esp : splT t k = (l', nd a i v .leaf r') := by
          unfold splT
          rw [if_neg (by omega), if_neg hk0, u1]
        have ecp : splC t k = ((upN t k + 1) / 2, upN t k, 1) := by
          unfold splC
          rw [if_neg (by omega), if_neg hk0]
        rw [esp, ecp]
        refine ⟨rfl, _, _, rfl, dropL g1 ?_ ?_ ?_ ?_ ?_, ⟨?_, ?_, fun q q1 q2 => ?_⟩, ?_, ?_⟩
        · rw [u2_o _ _ _ (by decide), drR_s _ (by decide), u2_o _ _ _ (by decide)]
        · rw [u2_o _ _ _ (by decide), drR_o _ _ (by decide) (by decide), u2_o _ _ _ (by decide)]
        · rw [u2_o _ _ _ (by decide), drR_p _ (by decide), hd0, hd2]
        · rw [u2_s]
          show va_up (I1 0) a (1 + nI 0 + nI (tsz r')) = _
          rw [n3]
        · rw [u2_o _ _ _ (by decide)]
        · exact u2_eq _ _ _ _
        · rw [u2_na _ _ _ _ (Ne.symm hTU), drR_o _ _ (by decide) (by decide), u2_eq]
          rfl
        · rw [u2_na _ _ _ _ q1, drR_o _ _ (by decide) (by decide), u2_na _ _ _ _ q2, g2, va_up_ne _ _ q1]
        · rw [u2_o _ _ _ (by decide)]
          exact g3
        · have := cnts_t g4 (show cnts I1 (u2 I1 0 a (1 + 0 + nI (tsz r'))) P 0 0 0 from by simp [cnts, u2, nI_0])
          exact this
      · have hk0 : k = 0 := by
          have h2 : nI k = nI 0 := h2
          exact (nI_eq (by omega) (by omega)).mp h2
        subst hk0
        refine WP_aload_n dX2_split_24 rfl ?_
        refine WP_aload_n dX2_split_25 rfl ?_
        refine callVr mX3_takeAll [] dX2_split_26 okc_X3_takeAll ok_268 ⟨by decide, by decide⟩ rfl rfl hT rfl (Nat.le_of_ble_eq_true rfl) (Nat.le_of_ble_eq_true rfl) (Nat.le_of_ble_eq_true rfl) (c_takeAll T hT) (fun o2 S1 h3 => ?_)
        obtain ⟨rfl, rfl⟩ := h3
        rw [hr]
        refine pf_RX2_38 dX2_split_29 rfl rfl hU ?_
        refine WP_goto 57 dX2_split_32 (by decide) ?_
        refine WP_return dX2_split_57 rfl (Nat.le_of_ble_eq_true rfl) (Nat.le_of_ble_eq_true rfl) ?_
        have esp : splT t 0 = (.leaf, t) := by
          unfold splT
          rw [if_neg (by omega), if_pos rfl]
        have ecp : splC t 0 = (0, 0, 0) := by
          unfold splC
          rw [if_neg (by omega), if_pos rfl]
        rw [esp, ecp]
        refine ⟨rfl, _, _, rfl, cF_leaf (cF_same h ?_ ?_ ?_ rfl rfl), ⟨?_, ?_, fun q q1 q2 => ?_⟩, rfl, cnts_0 _ _⟩
        · rw [u2_o _ _ _ (by decide), u2_o _ _ _ (by decide)]
        · rw [u2_o _ _ _ (by decide), u2_o _ _ _ (by decide)]
        · rw [u2_o _ _ _ (by decide), u2_o _ _ _ (by decide)]
        · rw [u2_na _ _ _ _ hTU, u2_eq]
          rfl
        · exact u2_eq _ _ _ _
        · rw [u2_na _ _ _ _ q2, u2_na _ _ _ _ q1]
    · rw [if_neg hkt] at h1
      cases h1
  · have hkt : ¬ k < tsz t := by
      intro hkt
      rw [if_pos hkt] at h1
      obtain ⟨fs, a, i, v, l, r, e1, -⟩ := at_zip hkt
      rw [e1] at h1
      cases h1
    refine WP_aload_n dX2_split_12 rfl ?_
    refine WP_null dX2_split_13 ?_
    refine pf_RX2_38 dX2_split_14 rfl rfl hU ?_
    refine WP_goto 57 dX2_split_17 (by decide) ?_
    refine WP_return dX2_split_57 rfl (Nat.le_of_ble_eq_true rfl) (Nat.le_of_ble_eq_true rfl) ?_
    have esp : splT t k = (t, .leaf) := by
      unfold splT
      rw [if_pos (by omega)]
    have ecp : splC t k = (0, 0, 0) := by
      unfold splC
      rw [if_pos (by omega)]
    rw [esp, ecp]
    refine ⟨rfl, _, _, rfl, cF_perm (List.Perm.swap _ _ _) (cF_leaf (cF_same h ?_ ?_ ?_ rfl rfl)), ⟨?_, ?_, fun q q1 q2 => ?_⟩, rfl, cnts_0 _ _⟩
    · rw [u2_o _ _ _ (by decide)]
    · rw [u2_o _ _ _ (by decide)]
    · rw [u2_o _ _ _ (by decide)]
    · rw [u2_na _ _ _ _ hTU]
      exact hr
    · exact u2_eq _ _ _ _
    · rw [u2_na _ _ _ _ q2]
theorem c_join (P T U : Nat) (t u : Tr) (F : List Tr) (hP : isK (mkS L K AN R0 Rc Ic AIc AR Im AIm AL) 2 P) (hT : isK (mkS L K AN R0 Rc Ic AIc AR Im AIm AL) 3 T) (hU : isK (mkS L K AN R0 Rc Ic AIc AR Im AIm AL) 3 U) (hTU : T ≠ U) (hs : tsz t ≤ 60) (hr : Rc 3 T = rk kA t) (hr2 : Rc 3 U = rk kA u) (h : cF L K Rc Ic (t :: u :: F)) :
    MT G mX2_join [vr (some P), vr (some T), vr (some U)] (mkS L K AN R0 Rc Ic AIc AR Im AIm AL) (rV (fun S' => ∃ Rc' Ic', S' = mkS L K AN R0 Rc' Ic' AIc AR Im AIm AL ∧ cF L K Rc' Ic' (joinT t u :: F) ∧ spRoots Rc Rc' T U (rk kA (joinT t u)) none ∧ Ic' 2 = Ic 2 ∧ cnts Ic Ic' P (joinC t u).1 (joinC t u).2.1 (joinC t u).2.2)) := by
  have hlast : lastK t = rk kA (zat t (tsz t - 1) []).1 := lastK_zat t []
  refine MT_of (by decide) rfl (Nat.le_of_ble_eq_true rfl) ?_
  refine WP_aload_n dX2_join_0 rfl ?_
  refine callVr mX3_last [] dX2_join_1 okc_X3_last ok_264 ⟨by decide, by decide⟩ rfl rfl hT rfl (Nat.le_of_ble_eq_true rfl) (Nat.le_of_ble_eq_true rfl) (Nat.le_of_ble_eq_true rfl) (c_last T t hT hr (h.1 _ List.mem_cons_self)) (fun o1 S1 h1 => ?_)
  obtain ⟨rfl, rfl⟩ := h1
  refine WP_astore_n dX2_join_4 (by decide) rfl ?_
  refine WP_aload_n dX2_join_5 rfl ?_
  refine callVr mX3_takeAll [] dX2_join_6 okc_X3_takeAll ok_268 ⟨by decide, by decide⟩ rfl rfl hU rfl (Nat.le_of_ble_eq_true rfl) (Nat.le_of_ble_eq_true rfl) (Nat.le_of_ble_eq_true rfl) (c_takeAll U hU) (fun o2 S1 h3 => ?_)
  obtain ⟨rfl, rfl⟩ := h3
  rw [hr2]
  have h' : cF L K (u2 Rc 3 U none) Ic (t :: u :: F) := cF_same h (u2_o _ _ _ (by decide)) (u2_o _ _ _ (by decide)) (u2_o _ _ _ (by decide)) rfl rfl
  have hrT : u2 Rc 3 U none 3 T = rk kA t := by rw [u2_na _ _ _ _ hTU]; exact hr
  refine WP_astore dX2_join_9 (by decide) rfl ?_
  refine WP_aload_n dX2_join_11 rfl ?_
  refine WP_ifnonnull 24 dX2_join_12 (by decide) (fun p9 h1 => ?_) (fun h1 => ?_)
  · have ht0 : tsz t ≠ 0 := by
      intro e
      rw [tsz0 e] at h1
      cases h1
    have hkt : tsz t - 1 < tsz t := by omega
    obtain ⟨fs, a, i, v, l, r, e1, e2, e3, e4, e5, -, e7⟩ := at_zip hkt
    rw [hlast] at h1 ⊢
    rw [h1]
    refine WP_aload dX2_join_24 rfl ?_
    refine WP_ifnull 41 dX2_join_26 (by decide) (fun h2 => ?_) (fun p8 h2 => ?_)
    · have hu0 : tsz u = 0 := by
        cases u with
        | leaf => rfl
        | inner a i v l r => cases h2
      refine WP_return dX2_join_41 rfl (Nat.le_of_ble_eq_true rfl) (Nat.le_of_ble_eq_true rfl) ?_
      have ej : joinT t u = t := by
        unfold joinT
        rw [if_neg ht0, if_pos hu0]
      have ec : joinC t u = (0, 0, 0) := by
        unfold joinC
        rw [if_neg ht0, if_pos hu0]
      rw [ej, ec]
      refine ⟨rfl, _, _, rfl, cF_tail (cF_perm (List.Perm.swap _ _ _) h'), ⟨hrT, u2_eq _ _ _ _, fun q q1 q2 => u2_na _ _ _ _ q2⟩, rfl, cnts_0 _ _⟩
    · have hu0 : tsz u ≠ 0 := by
        intro e
        rw [tsz0 e] at h2
        cases h2
      refine WP_aload_n dX2_join_29 rfl ?_
      refine WP_aload_n dX2_join_30 rfl ?_
      refine WP_aload_n dX2_join_31 rfl ?_
      refine callVv mX2_splay [_, _] dX2_join_32 okc_X2_splay ok_272 ⟨by decide, by decide⟩ rfl rfl hP rfl (Nat.le_of_ble_eq_true rfl) (Nat.le_of_ble_eq_true rfl) (Nat.le_of_ble_eq_true rfl) (c_splayAt P T p9 t (tsz t - 1) (u :: F) hP hT hkt hs h1 h') (fun S1 h3 => ?_)
      obtain ⟨R1, I1, rfl, g1, g2, g3, g4⟩ := h3
      obtain ⟨a', i', v', l', r', u1, u2', u3, u4⟩ := upT_nd t (tsz t - 1) hkt
      rw [e1] at h1
      cases h1
      cases Option.some.inj (u4.symm.trans e7)
      have e8 : tsz l' + 1 + tsz r' = tsz t := io_tsz (t := nd a i v l' r') u2'
      have e9 : r' = .leaf := tsz0 (by omega)
      subst e9
      rw [u1] at g1
      have hc := g1.1 _ List.mem_cons_self
      obtain ⟨hka, hz0, hz1, hz2, hz3, -⟩ := cz (fs := []) hc
      have hka : isK (mkS L K AN R0 R1 I1 AIc AR Im AIm AL) 0 a := hka
      have hgl := hc.2.2.1
      have hgu := (g1.1 u (List.mem_cons_of_mem _ List.mem_cons_self)).2
      refine WP_aload_n dX2_join_35 rfl ?_
      refine WP_aload dX2_join_36 rfl ?_
      refine callVv mX0_takeRight [_] dX2_join_38 okc_X0_takeRight ok_246 ⟨by decide, by decide⟩ rfl rfl hka rfl (Nat.le_of_ble_eq_true rfl) (Nat.le_of_ble_eq_true rfl) (Nat.le_of_ble_eq_true rfl) (c_takeRight a (rk kA u) hka (rk_K hgu) (fun b hb => rk_K hgl b (hz0.symm.trans hb))) (fun S1 h3 => ?_)
      subst h3
      rw [hz0, cnt_rk (par := none) hgl, cnt_rk (par := none) hgu, n3]
      refine WP_return dX2_join_41 rfl (Nat.le_of_ble_eq_true rfl) (Nat.le_of_ble_eq_true rfl) ?_
      have ej : joinT t u = nd a i v l' u := by
        unfold joinT
        rw [if_neg ht0, if_neg hu0, u1]
      have ec : joinC t u = ((upN t (tsz t - 1) + 1) / 2, upN t (tsz t - 1), 1) := by
        unfold joinC
        rw [if_neg ht0, if_neg hu0]
      rw [ej, ec]
      refine ⟨rfl, _, _, rfl, attR g1 (tkR_s _ (by decide) _ _ _) (tkR_o _ _ (by decide) (by decide) _ _ _) (tkR_p _ (by decide) _ _ _) (u2_s _ _ _ _) (u2_o _ _ _ (by decide)), ⟨?_, ?_, fun q q1 q2 => ?_⟩, ?_, ?_⟩
      · rw [tkR_o _ _ (by decide) (by decide), g2, va_up_self]
        rfl
      · rw [tkR_o _ _ (by decide) (by decide), g2, va_up_ne _ _ (Ne.symm hTU), u2_eq]
      · rw [tkR_o _ _ (by decide) (by decide), g2, va_up_ne _ _ q1, u2_na _ _ _ _ q2]
      · rw [u2_o _ _ _ (by decide)]
        exact g3
      · have := cnts_t g4 (show cnts I1 (u2 I1 0 a (nI (tsz l' + 1 + tsz u))) P 0 0 0 from by simp [cnts, u2, nI_0])
        exact this
  · have ht0 : tsz t = 0 := by
      by_cases e : tsz t = 0
      · exact e
      · obtain ⟨fs, a, i, v, l, r, e1, -⟩ := at_zip (show tsz t - 1 < tsz t by omega)
        rw [hlast, e1] at h1
        cases h1
    refine WP_aload_n dX2_join_15 rfl ?_
    refine WP_aload dX2_join_16 rfl ?_
    refine pf_RX2_38 dX2_join_18 rfl rfl hT ?_
    refine WP_goto 41 dX2_join_21 (by decide) ?_
    refine WP_return dX2_join_41 rfl (Nat.le_of_ble_eq_true rfl) (Nat.le_of_ble_eq_true rfl) ?_
    have ej : joinT t u = u := by
      unfold joinT
      rw [if_pos ht0]
    have ec : joinC t u = (0, 0, 0) := by
      unfold joinC
      rw [if_pos ht0]
    rw [ej, ec]
    refine ⟨rfl, _, _, rfl, cF_same (cF_tail h') ?_ ?_ ?_ rfl rfl, ⟨u2_eq _ _ _ _, ?_, fun q q1 q2 => ?_⟩, rfl, cnts_0 _ _⟩
    · rw [u2_o _ _ _ (by decide)]
    · rw [u2_o _ _ _ (by decide)]
    · rw [u2_o _ _ _ (by decide)]
    · rw [u2_na _ _ _ _ (Ne.symm hTU), u2_eq]
    · rw [u2_na _ _ _ _ q1, u2_na _ _ _ _ q2]
end SPJ
