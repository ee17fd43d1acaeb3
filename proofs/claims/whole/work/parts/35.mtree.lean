/-! ===== the model: nodes are places in rows ===== -/
abbrev kI : Nat → Nat → Nat := fun _ i => i
def ix (o : Option Nat) : Int32 := match o with
  | none => -1
  | some i => nI i
theorem nI_ne1 {i : Nat} (h : i < 60) : ¬ nI i = -1 := by
  intro e
  have h1 := nI_toInt (n := i) (by omega)
  rw [e] at h1
  have h2 : (-1 : Int32).toInt = -1 := rfl
  omega
theorem ix_m1 {o : Option Nat} (h : ∀ i, o = some i → i < 60) : ix o = -1 ↔ o = none := by
  cases o with
  | none => exact ⟨fun _ => rfl, fun _ => rfl⟩
  | some i => exact ⟨fun e => absurd e (nI_ne1 (h i rfl)), fun e => by cases e⟩
theorem ix_inj {o o' : Option Nat} (h : ∀ i, o = some i → i < 60) (h' : ∀ i, o' = some i → i < 60) : ix o = ix o' ↔ o = o' := by
  refine ⟨fun e => ?_, fun e => by rw [e]⟩
  cases o with
  | none => exact ((ix_m1 h').mp e.symm).symm
  | some i =>
    cases o' with
    | none => exact absurd e (nI_ne1 (h i rfl))
    | some j =>
      have h1 := h i rfl
      have h2 := h' j rfl
      rw [(nI_eq (a := i) (b := j) (by omega) (by omega)).mp e]
/-- the object (0), its rows: values, left, right, parent, isThere, fingers, order -/
def mK (W : Nat → Nat) (L : List Nat) (K AN : Nat → Nat) (R0 : Nat → Nat → Option Nat) : Prop :=
  (W 0 ∈ L ∧ K (W 0) = 5) ∧ (R0 9 (W 0) = some (W 1) ∧ R0 10 (W 0) = some (W 2) ∧ R0 11 (W 0) = some (W 3) ∧ R0 12 (W 0) = some (W 4) ∧ R0 13 (W 0) = some (W 5) ∧ R0 14 (W 0) = some (W 6) ∧ R0 15 (W 0) = some (W 7)) ∧
  (((W 1 ∈ L ∧ K (W 1) = 7) ∧ AN (W 1) = 60) ∧ ((W 2 ∈ L ∧ K (W 2) = 7) ∧ AN (W 2) = 60) ∧ ((W 3 ∈ L ∧ K (W 3) = 7) ∧ AN (W 3) = 60) ∧ ((W 4 ∈ L ∧ K (W 4) = 7) ∧ AN (W 4) = 60) ∧ ((W 5 ∈ L ∧ K (W 5) = 8) ∧ AN (W 5) = 60) ∧ ((W 6 ∈ L ∧ K (W 6) = 7) ∧ AN (W 6) = 4) ∧ ((W 7 ∈ L ∧ K (W 7) = 7) ∧ AN (W 7) = 60)) ∧
  (∀ i j, 1 ≤ i → i ≤ 7 → 1 ≤ j → j ≤ 7 → i ≠ j → W i ≠ W j)
def mT (W : Nat → Nat) (AIm : Nat → Nat → Int32) (t : Tr) : Prop := gR ix kI (AIm (W 2)) (AIm (W 3)) (AIm (W 4)) t none ∧ ∀ q ∈ kl kI t, q < 60
def mF (W : Nat → Nat) (AIm : Nat → Nat → Int32) (F : List Tr) : Prop := (∀ t ∈ F, mT W AIm t) ∧ (F.flatMap (kl kI)).Nodup
theorem mT_same {W : Nat → Nat} {AIm AIm' : Nat → Nat → Int32} {t : Tr} (e2 : AIm' (W 2) = AIm (W 2)) (e3 : AIm' (W 3) = AIm (W 3)) (e4 : AIm' (W 4) = AIm (W 4)) (h : mT W AIm t) : mT W AIm' t := by
  unfold mT
  rw [e2, e3, e4]
  exact h
theorem mF_same {W : Nat → Nat} {AIm AIm' : Nat → Nat → Int32} {F : List Tr} (e2 : AIm' (W 2) = AIm (W 2)) (e3 : AIm' (W 3) = AIm (W 3)) (e4 : AIm' (W 4) = AIm (W 4)) (h : mF W AIm F) : mF W AIm' F :=
  ⟨fun t ht => mT_same e2 e3 e4 (h.1 t ht), h.2⟩
theorem mF_perm {W : Nat → Nat} {AIm : Nat → Nat → Int32} {F F' : List Tr} (h : F.Perm F') (hF : mF W AIm F) : mF W AIm F' := ⟨fun t ht => hF.1 t (h.mem_iff.mpr ht), (h.flatMap_right (kl kI)).nodup_iff.mp hF.2⟩
theorem mF_tail {W : Nat → Nat} {AIm : Nat → Nat → Int32} {t : Tr} {F : List Tr} (h : mF W AIm (t :: F)) : mF W AIm F := ⟨fun u hu => h.1 u (List.mem_cons_of_mem _ hu), (List.nodup_append.mp (show (kl kI t ++ F.flatMap (kl kI)).Nodup from h.2)).2.1⟩
theorem mF_leaf {W : Nat → Nat} {AIm : Nat → Nat → Int32} {F : List Tr} (h : mF W AIm F) : mF W AIm (.leaf :: F) := by
  refine ⟨fun t ht => ?_, h.2⟩
  rcases List.mem_cons.mp ht with rfl | ht
  · exact ⟨trivial, fun q hq => by cases hq⟩
  · exact h.1 t ht
theorem mF_hd {W : Nat → Nat} {AIm : Nat → Nat → Int32} {t : Tr} {F : List Tr} (h : mF W AIm (t :: F)) : (kl kI t).Nodup := (List.nodup_append.mp (show (kl kI t ++ F.flatMap (kl kI)).Nodup from h.2)).1
/-- what the rows hold at a node -/
theorem mz {W : Nat → Nat} {AIm : Nat → Nat → Int32} {a i : Nat} {v : Int32} {l r : Tr} {fs : List Fr} (h : mT W AIm (plug fs (nd a i v l r))) : i < 60 ∧ AIm (W 2) i = ix (rk kI l) ∧ AIm (W 3) i = ix (rk kI r) ∧ AIm (W 4) i = ix (pk kI fs) := by
  obtain ⟨⟨g1, g2, g3, -, -⟩, -⟩ := (gR_plug ix kI fs _).mp h.1
  exact ⟨h.2 i ((kl_plug kI fs _).mem_iff.mpr (List.mem_append_left _ (rk_mem kI rfl))), g1, g2, g3⟩
theorem mzp {W : Nat → Nat} {AIm : Nat → Nat → Int32} {t : Tr} {f : Fr} {fs : List Fr} (h : mT W AIm (plug (f :: fs) t)) : f.2.1.2.1 < 60 ∧ AIm (W 2) f.2.1.2.1 = ix (if f.1 = true then rk kI t else rk kI f.2.2) ∧ AIm (W 3) f.2.1.2.1 = ix (if f.1 = true then rk kI f.2.2 else rk kI t) ∧ AIm (W 4) f.2.1.2.1 = ix (pk kI fs) := by
  obtain ⟨b, ⟨a, i, v⟩, c⟩ := f
  cases b
  · exact mz (fs := fs) (a := a) (i := i) (v := v) (l := c) (r := t) h
  · exact mz (fs := fs) (a := a) (i := i) (v := v) (l := t) (r := c) h
theorem rk_lt {W : Nat → Nat} {AIm : Nat → Nat → Int32} {t : Tr} {fs : List Fr} (h : mT W AIm (plug fs t)) : ∀ i, rk kI t = some i → i < 60 := fun i hi => h.2 i ((kl_plug kI fs _).mem_iff.mpr (List.mem_append_left _ (rk_mem kI hi)))
theorem pk_lt' {W : Nat → Nat} {AIm : Nat → Nat → Int32} {t : Tr} {fs : List Fr} (h : mT W AIm (plug fs t)) : ∀ i, pk kI fs = some i → i < 60 := fun i hi => h.2 i ((kl_plug kI fs _).mem_iff.mpr (List.mem_append_right _ (pk_mem kI hi)))
theorem sib_neI {t : Tr} {f : Fr} {fs : List Fr} {i : Nat} (hn : (kl kI (plug (f :: fs) t)).Nodup) (ht : rk kI t = some i) : rk kI f.2.2 ≠ some i := by
  intro h
  have h2 := (kl_plug kI (f :: fs) t).nodup_iff.mp hn
  exact (List.nodup_append.mp h2).2.2 i (rk_mem kI ht) i (List.mem_cons_of_mem _ (List.mem_append_left _ (rk_mem kI h))) rfl
section MTR
variable {G : GC} {L : List Nat} {K AN : Nat → Nat} {R0 Rc : Nat → Nat → Option Nat} {Ic AIc Im AIm : Nat → Nat → Int32} {AR : Nat → Nat → Option Nat} {AL : Nat → Nat → Int64} {W : Nat → Nat}
def hdI (l : List LB) : Option Nat := l.head?.map (fun x => x.2.1)
theorem nd_ne0 (a i : Nat) (v : Int32) (l r : Tr) : ¬ tsz (nd a i v l r) = 0 := by
  show ¬ tsz l + 1 + tsz r = 0
  omega
theorem hdI_nd (a i : Nat) (v : Int32) (l r : Tr) : hdI (io (nd a i v l r)) = if tsz l = 0 then some i else hdI (io l) := by
  cases l with
  | leaf => rfl
  | inner a' i' v' l' r' =>
    rw [if_neg (nd_ne0 a' i' v' l' r')]
    show hdI ((io l' ++ (a', i', v') :: io r') ++ (a, i, v) :: io r) = hdI (io l' ++ (a', i', v') :: io r')
    unfold hdI
    rw [List.head?_append, List.head?_append]
    cases (io l').head? <;> rfl
theorem leftmost_loop {Q : RS → SS → Prop} (th : Int32) (hM : mK W L K AN R0) : ∀ (t : Tr) (fs : List Fr) (i j : Nat), mT W AIm (plug fs t) → rk kI t = some i → hdI (io t) = some j → Q (.inl (some (vi (nI j)))) (mkS L K AN R0 Rc Ic AIc AR Im AIm AL) →
    WP G mX5_leftmost Q 0 0 2 [(0, vr (some (W 0))), (1, vi th), (2, vi (nI i))] [] (mkS L K AN R0 Rc Ic AIc AR Im AIm AL) := by
  have hM' := hM
  obtain ⟨m0, ⟨f1, f2, f3, f4, f5, f6, f7⟩, ⟨⟨q1, n1⟩, ⟨q2, n2⟩, ⟨q3, n3⟩, ⟨q4, n4⟩, ⟨q5, n5⟩, ⟨q6, n6⟩, ⟨q7, n7⟩⟩, hne⟩ := hM
  intro t
  induction t with
  | leaf => intro fs i j _ h; cases h
  | inner a i0 v l r ihl ihr =>
    intro fs i j hm hi hj hQ
    cases hi
    obtain ⟨z0, z1, z2, z3⟩ := mz hm
    have hl9 := hm
    rw [plug_T] at hl9
    refine WP_aload_n dX5_leftmost_2 rfl ?_
    refine gf_RX5_20 dX5_leftmost_3 rfl rfl m0 ?_
    refine WP_iload_n dX5_leftmost_6 rfl ?_
    refine ald_7 i0 60 dX5_leftmost_7 f2 q2 n2 rfl z0 (by decide) ?_
    refine WP_iconst (-1) dX5_leftmost_8 (by decide) ?_
    rw [z1]
    refine WP_icmp_eq 22 dX5_leftmost_9 (by decide) (fun hb => ?_) (fun hb => ?_)
    · have hl : rk kI l = none := (ix_m1 (rk_lt hl9)).mp hb
      refine WP_iload_n dX5_leftmost_22 rfl ?_
      refine WP_ireturn dX5_leftmost_23 rfl rfl (Nat.le_of_ble_eq_true rfl) (Nat.le_of_ble_eq_true rfl) ?_
      rw [hdI_nd] at hj
      cases l with
      | leaf =>
        cases hj
        exact hQ
      | inner a' i' v' l' r' => cases hl
    · cases l with
      | leaf => exact absurd rfl hb
      | inner a' i' v' l' r' =>
        rw [hdI_nd, if_neg (nd_ne0 a' i' v' l' r')] at hj
        refine WP_aload_n dX5_leftmost_12 rfl ?_
        refine gf_RX5_20 dX5_leftmost_13 rfl rfl m0 ?_
        refine WP_iload_n dX5_leftmost_16 rfl ?_
        refine ald_7 i0 60 dX5_leftmost_17 f2 q2 n2 rfl z0 (by decide) ?_
        refine WP_istore_n dX5_leftmost_18 (by decide) rfl ?_
        refine WP_goto 2 dX5_leftmost_19 (by decide) ?_
        rw [z1]
        refine WP_lv [(0, vr (some (W 0))), (1, vi th), (2, vi (nI i'))] (List.forall_mem_cons.mpr ⟨rfl, List.forall_mem_cons.mpr ⟨rfl, List.forall_mem_cons.mpr ⟨rfl, fun _ h9 => absurd h9 List.not_mem_nil⟩⟩⟩) ?_
        exact ihl _ i' j hl9 rfl hj hQ
theorem m_leftmost (t : Tr) (fs : List Fr) (i j : Nat) (hM : mK W L K AN R0) (hm : mT W AIm (plug fs t)) (hi : rk kI t = some i) (hj : hdI (io t) = some j) :
    MT G mX5_leftmost [vr (some (W 0)), vi (nI i)] (mkS L K AN R0 Rc Ic AIc AR Im AIm AL) (rI (fun x S' => x = nI j ∧ S' = mkS L K AN R0 Rc Ic AIc AR Im AIm AL)) := by
  refine MT_of (by decide) rfl (Nat.le_of_ble_eq_true rfl) ?_
  refine WP_iload_n dX5_leftmost_0 rfl ?_
  refine WP_istore_n dX5_leftmost_1 (by decide) rfl ?_
  refine WP_lv [(0, vr (some (W 0))), (1, vi (nI i)), (2, vi (nI i))] (List.forall_mem_cons.mpr ⟨rfl, List.forall_mem_cons.mpr ⟨rfl, List.forall_mem_cons.mpr ⟨rfl, fun _ h9 => absurd h9 List.not_mem_nil⟩⟩⟩) ?_
  exact leftmost_loop _ hM t fs i j hm hi hj ⟨_, rfl, rfl, rfl⟩
/-- the last node -/
theorem rightmost_loop {Q : RS → SS → Prop} (th : Int32) (hM : mK W L K AN R0) : ∀ (t : Tr) (fs : List Fr) (i : Nat), mT W AIm (plug fs t) → rk kI t = some i → (∀ x, (io t)[tsz t - 1]? = some x → Q (.inl (some (vi (nI x.2.1)))) (mkS L K AN R0 Rc Ic AIc AR Im AIm AL)) →
    WP G mX5_rightmost Q 0 0 2 [(0, vr (some (W 0))), (1, vi th), (2, vi (nI i))] [] (mkS L K AN R0 Rc Ic AIc AR Im AIm AL) := by
  have hM' := hM
  obtain ⟨m0, ⟨f1, f2, f3, f4, f5, f6, f7⟩, ⟨⟨q1, n1⟩, ⟨q2, n2⟩, ⟨q3, n3⟩, ⟨q4, n4⟩, ⟨q5, n5⟩, ⟨q6, n6⟩, ⟨q7, n7⟩⟩, hne⟩ := hM
  intro t
  induction t with
  | leaf => intro fs i _ h; cases h
  | inner a i0 v l r ihl ihr =>
    intro fs i hm hi hQ
    cases hi
    obtain ⟨z0, z1, z2, z3⟩ := mz hm
    have hl9 := hm
    rw [plug_F] at hl9
    refine WP_aload_n dX5_rightmost_2 rfl ?_
    refine gf_RX5_23 dX5_rightmost_3 rfl rfl m0 ?_
    refine WP_iload_n dX5_rightmost_6 rfl ?_
    refine ald_7 i0 60 dX5_rightmost_7 f3 q3 n3 rfl z0 (by decide) ?_
    refine WP_iconst (-1) dX5_rightmost_8 (by decide) ?_
    rw [z2]
    refine WP_icmp_eq 22 dX5_rightmost_9 (by decide) (fun hb => ?_) (fun hb => ?_)
    · have hl : rk kI r = none := (ix_m1 (rk_lt hl9)).mp hb
      refine WP_iload_n dX5_rightmost_22 rfl ?_
      refine WP_ireturn dX5_rightmost_23 rfl rfl (Nat.le_of_ble_eq_true rfl) (Nat.le_of_ble_eq_true rfl) ?_
      cases r with
      | leaf =>
        refine hQ (a, i0, v) ?_
        show (io l ++ [(a, i0, v)])[tsz l + 1 + 0 - 1]? = _
        rw [List.getElem?_append_right (by rw [io_len]; omega), io_len, show tsz l + 1 + 0 - 1 - tsz l = 0 by omega]
        rfl
      | inner a' i' v' l' r' => cases hl
    · cases r with
      | leaf => exact absurd rfl hb
      | inner a' i' v' l' r' =>
        refine WP_aload_n dX5_rightmost_12 rfl ?_
        refine gf_RX5_23 dX5_rightmost_13 rfl rfl m0 ?_
        refine WP_iload_n dX5_rightmost_16 rfl ?_
        refine ald_7 i0 60 dX5_rightmost_17 f3 q3 n3 rfl z0 (by decide) ?_
        refine WP_istore_n dX5_rightmost_18 (by decide) rfl ?_
        refine WP_goto 2 dX5_rightmost_19 (by decide) ?_
        rw [z2]
        refine WP_lv [(0, vr (some (W 0))), (1, vi th), (2, vi (nI i'))] (List.forall_mem_cons.mpr ⟨rfl, List.forall_mem_cons.mpr ⟨rfl, List.forall_mem_cons.mpr ⟨rfl, fun _ h9 => absurd h9 List.not_mem_nil⟩⟩⟩) ?_
        refine ihr _ i' hl9 rfl (fun x hx => hQ x ?_)
        show (io l ++ (a, i0, v) :: io (nd a' i' v' l' r'))[tsz l + 1 + (tsz l' + 1 + tsz r') - 1]? = _
        rw [List.getElem?_append_right (by rw [io_len]; omega), io_len, show tsz l + 1 + (tsz l' + 1 + tsz r') - 1 - tsz l = (tsz l' + 1 + tsz r' - 1) + 1 by omega, List.getElem?_cons_succ]
        exact hx
theorem m_rightmost (t : Tr) (fs : List Fr) (i : Nat) (hM : mK W L K AN R0) (hm : mT W AIm (plug fs t)) (hi : rk kI t = some i) :
    MT G mX5_rightmost [vr (some (W 0)), vi (nI i)] (mkS L K AN R0 Rc Ic AIc AR Im AIm AL) (rI (fun x S' => (∃ y, (io t)[tsz t - 1]? = some y ∧ x = nI y.2.1) ∧ S' = mkS L K AN R0 Rc Ic AIc AR Im AIm AL)) := by
  refine MT_of (by decide) rfl (Nat.le_of_ble_eq_true rfl) ?_
  refine WP_iload_n dX5_rightmost_0 rfl ?_
  refine WP_istore_n dX5_rightmost_1 (by decide) rfl ?_
  refine WP_lv [(0, vr (some (W 0))), (1, vi (nI i)), (2, vi (nI i))] (List.forall_mem_cons.mpr ⟨rfl, List.forall_mem_cons.mpr ⟨rfl, List.forall_mem_cons.mpr ⟨rfl, fun _ h9 => absurd h9 List.not_mem_nil⟩⟩⟩) ?_
  exact rightmost_loop _ hM t fs i hm hi (fun y hy => ⟨_, rfl, ⟨y, hy, rfl⟩, rfl⟩)
theorem root_loop {Q : RS → SS → Prop} (th : Int32) (hM : mK W L K AN R0) : ∀ (fs : List Fr) (t : Tr) (i j : Nat), mT W AIm (plug fs t) → rk kI t = some i → rk kI (plug fs t) = some j → Q (.inl (some (vi (nI j)))) (mkS L K AN R0 Rc Ic AIc AR Im AIm AL) →
    WP G mX5_rootOf Q 0 0 2 [(0, vr (some (W 0))), (1, vi th), (2, vi (nI i))] [] (mkS L K AN R0 Rc Ic AIc AR Im AIm AL) := by
  have hM' := hM
  obtain ⟨m0, ⟨f1, f2, f3, f4, f5, f6, f7⟩, ⟨⟨q1, n1⟩, ⟨q2, n2⟩, ⟨q3, n3⟩, ⟨q4, n4⟩, ⟨q5, n5⟩, ⟨q6, n6⟩, ⟨q7, n7⟩⟩, hne⟩ := hM
  intro fs
  induction fs with
  | nil =>
    intro t i j hm hi hj hQ
    cases t with
    | leaf => cases hi
    | inner a i0 v l r =>
      cases hi
      cases hj
      obtain ⟨z0, z1, z2, z3⟩ := mz (fs := []) hm
      refine WP_aload_n dX5_rootOf_2 rfl ?_
      refine gf_RX5_26 dX5_rootOf_3 rfl rfl m0 ?_
      refine WP_iload_n dX5_rootOf_6 rfl ?_
      refine ald_7 i0 60 dX5_rootOf_7 f4 q4 n4 rfl z0 (by decide) ?_
      refine WP_iconst (-1) dX5_rootOf_8 (by decide) ?_
      rw [z3]
      refine WP_icmp_eq 22 dX5_rootOf_9 (by decide) (fun hb => ?_) (fun hb => ?_)
      · refine WP_iload_n dX5_rootOf_22 rfl ?_
        refine WP_ireturn dX5_rootOf_23 rfl rfl (Nat.le_of_ble_eq_true rfl) (Nat.le_of_ble_eq_true rfl) ?_
        exact hQ
      · exact absurd rfl hb
  | cons f fs ih =>
    intro t i j hm hi hj hQ
    cases t with
    | leaf => cases hi
    | inner a i0 v l r =>
      cases hi
      obtain ⟨z0, z1, z2, z3⟩ := mz hm
      have hp := pk_lt' hm
      refine WP_aload_n dX5_rootOf_2 rfl ?_
      refine gf_RX5_26 dX5_rootOf_3 rfl rfl m0 ?_
      refine WP_iload_n dX5_rootOf_6 rfl ?_
      refine ald_7 i0 60 dX5_rootOf_7 f4 q4 n4 rfl z0 (by decide) ?_
      refine WP_iconst (-1) dX5_rootOf_8 (by decide) ?_
      rw [z3]
      refine WP_icmp_eq 22 dX5_rootOf_9 (by decide) (fun hb => ?_) (fun hb => ?_)
      · exact absurd ((ix_m1 hp).mp hb) (fun e => by cases e)
      · refine WP_aload_n dX5_rootOf_12 rfl ?_
        refine gf_RX5_26 dX5_rootOf_13 rfl rfl m0 ?_
        refine WP_iload_n dX5_rootOf_16 rfl ?_
        refine ald_7 i0 60 dX5_rootOf_17 f4 q4 n4 rfl z0 (by decide) ?_
        refine WP_istore_n dX5_rootOf_18 (by decide) rfl ?_
        refine WP_goto 2 dX5_rootOf_19 (by decide) ?_
        rw [z3]
        refine WP_lv [(0, vr (some (W 0))), (1, vi th), (2, vi (nI (fk kI f)))] (List.forall_mem_cons.mpr ⟨rfl, List.forall_mem_cons.mpr ⟨rfl, List.forall_mem_cons.mpr ⟨rfl, fun _ h9 => absurd h9 List.not_mem_nil⟩⟩⟩) ?_
        exact ih (plug1 f (nd a i0 v l r)) (fk kI f) j hm (rk_plug1 kI f _) hj hQ
theorem m_rootOf (t : Tr) (fs : List Fr) (i j : Nat) (hM : mK W L K AN R0) (hm : mT W AIm (plug fs t)) (hi : rk kI t = some i) (hj : rk kI (plug fs t) = some j) :
    MT G mX5_rootOf [vr (some (W 0)), vi (nI i)] (mkS L K AN R0 Rc Ic AIc AR Im AIm AL) (rI (fun x S' => x = nI j ∧ S' = mkS L K AN R0 Rc Ic AIc AR Im AIm AL)) := by
  refine MT_of (by decide) rfl (Nat.le_of_ble_eq_true rfl) ?_
  refine WP_iload_n dX5_rootOf_0 rfl ?_
  refine WP_istore_n dX5_rootOf_1 (by decide) rfl ?_
  refine WP_lv [(0, vr (some (W 0))), (1, vi (nI i)), (2, vi (nI i))] (List.forall_mem_cons.mpr ⟨rfl, List.forall_mem_cons.mpr ⟨rfl, List.forall_mem_cons.mpr ⟨rfl, fun _ h9 => absurd h9 List.not_mem_nil⟩⟩⟩) ?_
  exact root_loop _ hM fs t i j hm hi hj ⟨_, rfl, rfl, rfl⟩
theorem depth_loop {Q : RS → SS → Prop} (th : Int32) (hM : mK W L K AN R0) : ∀ (fs : List Fr) (t : Tr) (m : Nat), mT W AIm (plug fs t) → Q (.inl (some (vi (nI (m + fs.length))))) (mkS L K AN R0 Rc Ic AIc AR Im AIm AL) →
    WP G mX5_depthOf Q 0 0 9 [(0, vr (some (W 0))), (1, vi th), (2, vi (nI m)), (3, vi (ix (pk kI fs)))] [] (mkS L K AN R0 Rc Ic AIc AR Im AIm AL) := by
  have hM' := hM
  obtain ⟨m0, ⟨f1, f2, f3, f4, f5, f6, f7⟩, ⟨⟨q1, n1⟩, ⟨q2, n2⟩, ⟨q3, n3⟩, ⟨q4, n4⟩, ⟨q5, n5⟩, ⟨q6, n6⟩, ⟨q7, n7⟩⟩, hne⟩ := hM
  intro fs
  induction fs with
  | nil =>
    intro t m hm hQ
    refine WP_iload_n dX5_depthOf_9 rfl ?_
    refine WP_iconst (-1) dX5_depthOf_10 (by decide) ?_
    refine WP_icmp_eq 27 dX5_depthOf_11 (by decide) (fun hb => ?_) (fun hb => ?_)
    · refine WP_iload_n dX5_depthOf_27 rfl ?_
      refine WP_ireturn dX5_depthOf_28 rfl rfl (Nat.le_of_ble_eq_true rfl) (Nat.le_of_ble_eq_true rfl) ?_
      exact hQ
    · exact absurd rfl hb
  | cons f fs ih =>
    intro t m hm hQ
    obtain ⟨z0, z1, z2, z3⟩ := mzp hm
    have hp := pk_lt' hm
    refine WP_iload_n dX5_depthOf_9 rfl ?_
    refine WP_iconst (-1) dX5_depthOf_10 (by decide) ?_
    refine WP_icmp_eq 27 dX5_depthOf_11 (by decide) (fun hb => ?_) (fun hb => ?_)
    · exact absurd ((ix_m1 hp).mp hb) (fun e => by cases e)
    · refine WP_iinc (nI (m + 1)) dX5_depthOf_14 rfl (nI_1 _) (by decide) rfl ?_
      refine WP_aload_n dX5_depthOf_17 rfl ?_
      refine gf_RX5_26 dX5_depthOf_18 rfl rfl m0 ?_
      refine WP_iload_n dX5_depthOf_21 rfl ?_
      refine ald_7 (f.2.1.2.1) 60 dX5_depthOf_22 f4 q4 n4 rfl z0 (by decide) ?_
      refine WP_istore_n dX5_depthOf_23 (by decide) rfl ?_
      refine WP_goto 9 dX5_depthOf_24 (by decide) ?_
      rw [z3]
      refine WP_lv [(0, vr (some (W 0))), (1, vi th), (2, vi (nI (m + 1))), (3, vi (ix (pk kI fs)))] (List.forall_mem_cons.mpr ⟨rfl, List.forall_mem_cons.mpr ⟨rfl, List.forall_mem_cons.mpr ⟨rfl, List.forall_mem_cons.mpr ⟨rfl, fun _ h9 => absurd h9 List.not_mem_nil⟩⟩⟩⟩) ?_
      refine ih (plug1 f t) (m + 1) hm ?_
      rw [show m + 1 + fs.length = m + (f :: fs).length by simp; omega]
      exact hQ
theorem m_depthOf (a i : Nat) (v : Int32) (l r : Tr) (fs : List Fr) (hM : mK W L K AN R0) (hm : mT W AIm (plug fs (nd a i v l r))) :
    MT G mX5_depthOf [vr (some (W 0)), vi (nI i)] (mkS L K AN R0 Rc Ic AIc AR Im AIm AL) (rI (fun x S' => x = nI fs.length ∧ S' = mkS L K AN R0 Rc Ic AIc AR Im AIm AL)) := by
  have hM' := hM
  obtain ⟨m0, ⟨f1, f2, f3, f4, f5, f6, f7⟩, ⟨⟨q1, n1⟩, ⟨q2, n2⟩, ⟨q3, n3⟩, ⟨q4, n4⟩, ⟨q5, n5⟩, ⟨q6, n6⟩, ⟨q7, n7⟩⟩, hne⟩ := hM
  obtain ⟨z0, z1, z2, z3⟩ := mz hm
  refine MT_of (by decide) rfl (Nat.le_of_ble_eq_true rfl) ?_
  refine WP_iconst (0) dX5_depthOf_0 (by decide) ?_
  refine WP_istore_n dX5_depthOf_1 (by decide) rfl ?_
  refine WP_aload_n dX5_depthOf_2 rfl ?_
  refine gf_RX5_26 dX5_depthOf_3 rfl rfl m0 ?_
  refine WP_iload_n dX5_depthOf_6 rfl ?_
  refine ald_7 i 60 dX5_depthOf_7 f4 q4 n4 rfl z0 (by decide) ?_
  refine WP_istore_n dX5_depthOf_8 (by decide) rfl ?_
  rw [z3]
  refine WP_lv [(0, vr (some (W 0))), (1, vi (nI i)), (2, vi (nI 0)), (3, vi (ix (pk kI fs)))] (List.forall_mem_cons.mpr ⟨rfl, List.forall_mem_cons.mpr ⟨rfl, List.forall_mem_cons.mpr ⟨rfl, List.forall_mem_cons.mpr ⟨rfl, fun _ h9 => absurd h9 List.not_mem_nil⟩⟩⟩⟩) ?_
  refine depth_loop _ hM' fs _ 0 hm ?_
  rw [Nat.zero_add]
  exact ⟨_, rfl, rfl, rfl⟩
/-- the node that follows -/
theorem foll_up {Q : RS → SS → Prop} (th : Int32) (hM : mK W L K AN R0) : ∀ (fs : List Fr) (t : Tr) (i : Nat), (kl kI (plug fs t)).Nodup → mT W AIm (plug fs t) → rk kI t = some i → Q (.inl (some (vi (ix (hdI (aft fs)))))) (mkS L K AN R0 Rc Ic AIc AR Im AIm AL) →
    WP G mX5_following Q 0 0 23 [(0, vr (some (W 0))), (1, vi th), (2, vi (nI i))] [] (mkS L K AN R0 Rc Ic AIc AR Im AIm AL) := by
  have hM' := hM
  obtain ⟨m0, ⟨f1, f2, f3, f4, f5, f6, f7⟩, ⟨⟨q1, n1⟩, ⟨q2, n2⟩, ⟨q3, n3⟩, ⟨q4, n4⟩, ⟨q5, n5⟩, ⟨q6, n6⟩, ⟨q7, n7⟩⟩, hne⟩ := hM
  intro fs
  induction fs with
  | nil =>
    intro t i hn hm hi hQ
    cases t with
    | leaf => cases hi
    | inner a i0 v l r =>
      cases hi
      obtain ⟨z0, z1, z2, z3⟩ := mz (fs := []) hm
      refine WP_aload_n dX5_following_23 rfl ?_
      refine gf_RX5_26 dX5_following_24 rfl rfl m0 ?_
      refine WP_iload_n dX5_following_27 rfl ?_
      refine ald_7 i0 60 dX5_following_28 f4 q4 n4 rfl z0 (by decide) ?_
      refine WP_iconst (-1) dX5_following_29 (by decide) ?_
      rw [z3]
      refine WP_icmp_eq 58 dX5_following_30 (by decide) (fun hb => ?_) (fun hb => ?_)
      · refine WP_aload_n dX5_following_58 rfl ?_
        refine gf_RX5_26 dX5_following_59 rfl rfl m0 ?_
        refine WP_iload_n dX5_following_62 rfl ?_
        refine ald_7 i0 60 dX5_following_63 f4 q4 n4 rfl z0 (by decide) ?_
        rw [z3]
        refine WP_ireturn dX5_following_64 rfl rfl (Nat.le_of_ble_eq_true rfl) (Nat.le_of_ble_eq_true rfl) ?_
        exact hQ
      · exact absurd rfl hb
  | cons f fs ih =>
    intro t i hn hm hi hQ
    cases t with
    | leaf => cases hi
    | inner a i0 v l r =>
      cases hi
      obtain ⟨z0, z1, z2, z3⟩ := mz hm
      obtain ⟨y0, y1, y2, y3⟩ := mzp hm
      have hp := pk_lt' hm
      have hsib := sib_neI hn (i := i0) rfl
      have hs9 : ∀ q, rk kI f.2.2 = some q → q < 60 := fun q hq => hm.2 q ((kl_plug kI _ _).mem_iff.mpr (List.mem_append_right _ (List.mem_cons_of_mem _ (List.mem_append_left _ (rk_mem kI hq)))))
      refine WP_aload_n dX5_following_23 rfl ?_
      refine gf_RX5_26 dX5_following_24 rfl rfl m0 ?_
      refine WP_iload_n dX5_following_27 rfl ?_
      refine ald_7 i0 60 dX5_following_28 f4 q4 n4 rfl z0 (by decide) ?_
      refine WP_iconst (-1) dX5_following_29 (by decide) ?_
      rw [z3]
      refine WP_icmp_eq 58 dX5_following_30 (by decide) (fun hb => ?_) (fun hb => ?_)
      · exact absurd ((ix_m1 hp).mp hb) (fun e => by cases e)
      · refine WP_aload_n dX5_following_33 rfl ?_
        refine gf_RX5_23 dX5_following_34 rfl rfl m0 ?_
        refine WP_aload_n dX5_following_37 rfl ?_
        refine gf_RX5_26 dX5_following_38 rfl rfl m0 ?_
        refine WP_iload_n dX5_following_41 rfl ?_
        refine ald_7 i0 60 dX5_following_42 f4 q4 n4 rfl z0 (by decide) ?_
        rw [z3]
        refine ald_7 f.2.1.2.1 60 dX5_following_43 f3 q3 n3 rfl y0 (by decide) ?_
        rw [y2]
        refine WP_iload_n dX5_following_44 rfl ?_
        obtain ⟨b, ⟨xa, xi, xv⟩, d⟩ := f
        cases b
        · refine WP_icmp_ne 58 dX5_following_45 (by decide) (fun h2 => ?_) (fun h2 => ?_)
          · exact absurd rfl h2
          · refine WP_aload_n dX5_following_48 rfl ?_
            refine gf_RX5_26 dX5_following_49 rfl rfl m0 ?_
            refine WP_iload_n dX5_following_52 rfl ?_
            refine ald_7 i0 60 dX5_following_53 f4 q4 n4 rfl z0 (by decide) ?_
            refine WP_istore_n dX5_following_54 (by decide) rfl ?_
            refine WP_goto 23 dX5_following_55 (by decide) ?_
            rw [z3]
            refine WP_lv [(0, vr (some (W 0))), (1, vi th), (2, vi (nI xi))] (List.forall_mem_cons.mpr ⟨rfl, List.forall_mem_cons.mpr ⟨rfl, List.forall_mem_cons.mpr ⟨rfl, fun _ h9 => absurd h9 List.not_mem_nil⟩⟩⟩) ?_
            exact ih (plug1 (false, (xa, xi, xv), d) (nd a i0 v l r)) xi hn hm rfl hQ
        · refine WP_icmp_ne 58 dX5_following_45 (by decide) (fun h2 => ?_) (fun h2 => ?_)
          · refine WP_aload_n dX5_following_58 rfl ?_
            refine gf_RX5_26 dX5_following_59 rfl rfl m0 ?_
            refine WP_iload_n dX5_following_62 rfl ?_
            refine ald_7 i0 60 dX5_following_63 f4 q4 n4 rfl z0 (by decide) ?_
            rw [z3]
            refine WP_ireturn dX5_following_64 rfl rfl (Nat.le_of_ble_eq_true rfl) (Nat.le_of_ble_eq_true rfl) ?_
            exact hQ
          · have h2 : ix (rk kI d) = ix (some i0) := h2
            exact absurd ((ix_inj hs9 (fun q hq => by cases hq; exact z0)).mp h2) hsib
theorem m_following (a i : Nat) (v : Int32) (l r : Tr) (fs : List Fr) (hM : mK W L K AN R0) (hn : (kl kI (plug fs (nd a i v l r))).Nodup) (hm : mT W AIm (plug fs (nd a i v l r))) :
    MT G mX5_following [vr (some (W 0)), vi (nI i)] (mkS L K AN R0 Rc Ic AIc AR Im AIm AL) (rI (fun x S' => x = ix (hdI (io r ++ aft fs)) ∧ S' = mkS L K AN R0 Rc Ic AIc AR Im AIm AL)) := by
  have hM' := hM
  obtain ⟨m0, ⟨f1, f2, f3, f4, f5, f6, f7⟩, ⟨⟨q1, n1⟩, ⟨q2, n2⟩, ⟨q3, n3⟩, ⟨q4, n4⟩, ⟨q5, n5⟩, ⟨q6, n6⟩, ⟨q7, n7⟩⟩, hne⟩ := hM
  obtain ⟨z0, z1, z2, z3⟩ := mz hm
  have hr9 := hm
  rw [plug_F] at hr9
  refine MT_of (by decide) rfl (Nat.le_of_ble_eq_true rfl) ?_
  refine WP_aload_n dX5_following_0 rfl ?_
  refine gf_RX5_23 dX5_following_1 rfl rfl m0 ?_
  refine WP_iload_n dX5_following_4 rfl ?_
  refine ald_7 i 60 dX5_following_5 f3 q3 n3 rfl z0 (by decide) ?_
  refine WP_iconst (-1) dX5_following_6 (by decide) ?_
  rw [z2]
  refine WP_icmp_eq 21 dX5_following_7 (by decide) (fun hb => ?_) (fun hb => ?_)
  · have hr : r = .leaf := by
      have := (ix_m1 (rk_lt hr9)).mp hb
      cases r with
      | leaf => rfl
      | inner a' i' v' l' r' => cases this
    subst hr
    refine WP_iload_n dX5_following_21 rfl ?_
    refine WP_istore_n dX5_following_22 (by decide) rfl ?_
    refine WP_lv [(0, vr (some (W 0))), (1, vi (nI i)), (2, vi (nI i))] (List.forall_mem_cons.mpr ⟨rfl, List.forall_mem_cons.mpr ⟨rfl, List.forall_mem_cons.mpr ⟨rfl, fun _ h9 => absurd h9 List.not_mem_nil⟩⟩⟩) ?_
    exact foll_up _ hM' fs _ i hn hm rfl ⟨_, rfl, rfl, rfl⟩
  · cases r with
    | leaf => exact absurd rfl hb
    | inner a' i' v' l' r' =>
      refine WP_aload_n dX5_following_10 rfl ?_
      refine WP_aload_n dX5_following_11 rfl ?_
      refine gf_RX5_23 dX5_following_12 rfl rfl m0 ?_
      refine WP_iload_n dX5_following_15 rfl ?_
      refine ald_7 i 60 dX5_following_16 f3 q3 n3 rfl z0 (by decide) ?_
      rw [z2]
      obtain ⟨j, hj⟩ : ∃ j, hdI (io (nd a' i' v' l' r')) = some j := by
        unfold hdI
        cases h : (io (nd a' i' v' l' r')) with
        | nil =>
          have := io_len (nd a' i' v' l' r')
          rw [h] at this
          have this : 0 = tsz l' + 1 + tsz r' := this
          omega
        | cons x xs => exact ⟨_, rfl⟩
      refine callVi mX5_leftmost [_] dX5_following_17 okc_X5_leftmost ok_738 ⟨by decide, by decide⟩ rfl rfl m0 rfl (Nat.le_of_ble_eq_true rfl) (Nat.le_of_ble_eq_true rfl) (Nat.le_of_ble_eq_true rfl) (m_leftmost (nd a' i' v' l' r') _ i' j hM' hr9 rfl hj) (fun x1 S1 h1 => ?_)
      obtain ⟨rfl, rfl⟩ := h1
      refine WP_ireturn dX5_following_20 rfl rfl (Nat.le_of_ble_eq_true rfl) (Nat.le_of_ble_eq_true rfl) ?_
      refine ⟨_, rfl, ?_, rfl⟩
      have : hdI (io (nd a' i' v' l' r') ++ aft fs) = some j := by
        rw [← hj]
        unfold hdI
        rw [List.head?_append]
        cases h : (io (nd a' i' v' l' r')).head? with
        | none =>
          unfold hdI at hj
          rw [h] at hj
          cases hj
        | some x => rfl
      rw [this]
      rfl
end MTR
