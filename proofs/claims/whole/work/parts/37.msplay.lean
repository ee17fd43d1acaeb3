/-! ===== the model: hang, rotate, splay ===== -/
def bI (b : Bool) : Int32 := match b with
  | true => 1
  | false => 0
def lrW (b : Bool) : Nat := match b with
  | true => 3
  | false => 2
def hgA (W : Nat → Nat) (b : Bool) (A : Nat → Nat → Int32) (o u : Option Nat) : Nat → Nat → Int32 :=
  va_up (va_up A (W 4) (upo (A (W 4)) o (ix u))) (W (lrW b)) (upo (va_up A (W 4) (upo (A (W 4)) o (ix u)) (W (lrW b))) u (ix o))
theorem upd_va (f : Nat → Int32) (k : Nat) (x : Int32) : upd f k x = va_up f k x := rfl
def wrB (fs : List Fr) : Bool := match fs with
  | (false, _, _) :: _ => true
  | _ => false
def cmO (Im : Nat → Nat → Int32) (W : Nat → Nat) : Cn := (Im 6 (W 0), Im 7 (W 0), Im 8 (W 0), Im 9 (W 0))
/-- what restructuring leaves as it was -/
def mQ (W : Nat → Nat) (Im AIm Im' AIm' : Nat → Nat → Int32) : Prop := (∀ j, j < 6 ∨ 9 < j → Im' j = Im j) ∧ ∀ y, y ≠ W 2 → y ≠ W 3 → y ≠ W 4 → AIm' y = AIm y
theorem mQ_refl {W : Nat → Nat} {Im AIm : Nat → Nat → Int32} : mQ W Im AIm Im AIm := ⟨fun _ _ => rfl, fun _ _ _ _ => rfl⟩
theorem mQ_trans {W : Nat → Nat} {Im AIm I1 A1 I2 A2 : Nat → Nat → Int32} (h : mQ W Im AIm I1 A1) (h2 : mQ W I1 A1 I2 A2) : mQ W Im AIm I2 A2 := ⟨fun j hj => (h2.1 j hj).trans (h.1 j hj), fun x a b c => (h2.2 x a b c).trans (h.2 x a b c)⟩
theorem addC_add (n : Cn) (a b : Nat × Nat × Nat) : addC (addC n a) b = addC n (a.1 + b.1, a.2.1 + b.2.1, a.2.2 + b.2.2) := by
  simp only [addC, Int32.add_assoc, nI_add]
theorem addC_0 (n : Cn) : addC n (0, 0, 0) = n := by
  simp [addC, nI_0]
section MSP
variable {G : GC} {L : List Nat} {K AN : Nat → Nat} {R0 Rc : Nat → Nat → Option Nat} {Ic AIc Im AIm : Nat → Nat → Int32} {AR : Nat → Nat → Option Nat} {AL : Nat → Nat → Int64} {W : Nat → Nat}
theorem hgA_4 (hM : mK W L K AN R0) (b : Bool) (A : Nat → Nat → Int32) (o u : Option Nat) : hgA W b A o u (W 4) = upo (A (W 4)) o (ix u) := by
  unfold hgA
  rw [va_up_ne _ _ (show W 4 ≠ W (lrW b) from by cases b <;> exact mK_d hM (by decide) (by decide) (by decide)), va_up_self]
theorem hgA_s (hM : mK W L K AN R0) (b : Bool) (A : Nat → Nat → Int32) (o u : Option Nat) : hgA W b A o u (W (lrW b)) = upo (A (W (lrW b))) u (ix o) := by
  unfold hgA
  rw [va_up_self, va_up_ne _ _ (show W (lrW b) ≠ W 4 from by cases b <;> exact mK_d hM (by decide) (by decide) (by decide))]
theorem hgA_o {y : Nat} (b : Bool) (A : Nat → Nat → Int32) (o u : Option Nat) (h1 : y ≠ W (lrW b)) (h4 : y ≠ W 4) : hgA W b A o u y = A y := by
  unfold hgA
  rw [va_up_ne _ _ h1, va_up_ne _ _ h4]
theorem hang_tail {Q : RS → SS → Prop} (o u : Option Nat) (b : Bool) (hM : mK W L K AN R0) (hu : ∀ j, u = some j → j < 60) (hQ : Q (.inl none) (mkS L K AN R0 Rc Ic AIc AR Im (va_up AIm (W (lrW b)) (upo (AIm (W (lrW b))) u (ix o))) AL)) :
    WP G mX5_hang Q 0 0 12 [(0, vr (some (W 0))), (1, vi (ix o)), (2, vi (ix u)), (3, vi (bI b))] [] (mkS L K AN R0 Rc Ic AIc AR Im AIm AL) := by
  obtain ⟨m0, ⟨f1, f2, f3, f4, f5, f6, f7⟩, ⟨⟨q1, n1⟩, ⟨q2, n2⟩, ⟨q3, n3⟩, ⟨q4, n4⟩, ⟨q5, n5⟩, ⟨q6, n6⟩, ⟨q7, n7⟩⟩, hne⟩ := hM
  cases u with
  | none =>
    refine WP_iload_n dX5_hang_12 rfl ?_
    refine WP_iconst (-1) dX5_hang_13 (by decide) ?_
    refine WP_icmp_eq 28 dX5_hang_14 (by decide) (fun h1 => ?_) (fun h1 => ?_)
    · refine WP_iload_n dX5_hang_28 rfl ?_
      refine WP_iconst (-1) dX5_hang_29 (by decide) ?_
      refine WP_icmp_eq 44 dX5_hang_30 (by decide) (fun h2 => ?_) (fun h2 => ?_)
      · refine WP_return dX5_hang_44 rfl (Nat.le_of_ble_eq_true rfl) (Nat.le_of_ble_eq_true rfl) ?_
        rw [show va_up AIm (W (lrW b)) (upo (AIm (W (lrW b))) none (ix o)) = AIm from up_id _ _] at hQ
        exact hQ
      · exact absurd rfl h2
    · exact absurd rfl h1
  | some j =>
    have hj := hu j rfl
    refine WP_iload_n dX5_hang_12 rfl ?_
    refine WP_iconst (-1) dX5_hang_13 (by decide) ?_
    refine WP_icmp_eq 28 dX5_hang_14 (by decide) (fun h1 => ?_) (fun h1 => ?_)
    · exact absurd h1 (nI_ne1 hj)
    · refine WP_iload_n dX5_hang_17 rfl ?_
      cases b with
      | false =>
        refine WP_if_eq 28 dX5_hang_18 (by decide) (fun h2 => ?_) (fun h2 => ?_)
        · refine WP_iload_n dX5_hang_28 rfl ?_
          refine WP_iconst (-1) dX5_hang_29 (by decide) ?_
          refine WP_icmp_eq 44 dX5_hang_30 (by decide) (fun h3 => ?_) (fun h3 => ?_)
          · exact absurd h3 (nI_ne1 hj)
          · refine WP_iload_n dX5_hang_33 rfl ?_
            refine WP_if_ne 44 dX5_hang_34 (by decide) (fun h4 => ?_) (fun h4 => ?_)
            · exact absurd rfl h4
            · refine WP_aload_n dX5_hang_37 rfl ?_
              refine gf_RX5_20 dX5_hang_38 rfl rfl m0 ?_
              refine WP_iload_n dX5_hang_41 rfl ?_
              refine WP_iload_n dX5_hang_42 rfl ?_
              refine ast_7 j 60 dX5_hang_43 f2 q2 n2 rfl hj (by decide) ?_
              refine WP_return dX5_hang_44 rfl (Nat.le_of_ble_eq_true rfl) (Nat.le_of_ble_eq_true rfl) ?_
              exact hQ
        · exact absurd rfl h2
      | true =>
        refine WP_if_eq 28 dX5_hang_18 (by decide) (fun h2 => ?_) (fun h2 => ?_)
        · exact absurd h2 (by decide)
        · refine WP_aload_n dX5_hang_21 rfl ?_
          refine gf_RX5_23 dX5_hang_22 rfl rfl m0 ?_
          refine WP_iload_n dX5_hang_25 rfl ?_
          refine WP_iload_n dX5_hang_26 rfl ?_
          refine ast_7 j 60 dX5_hang_27 f3 q3 n3 rfl hj (by decide) ?_
          refine WP_iload_n dX5_hang_28 rfl ?_
          refine WP_iconst (-1) dX5_hang_29 (by decide) ?_
          refine WP_icmp_eq 44 dX5_hang_30 (by decide) (fun h3 => ?_) (fun h3 => ?_)
          · exact absurd h3 (nI_ne1 hj)
          · refine WP_iload_n dX5_hang_33 rfl ?_
            refine WP_if_ne 44 dX5_hang_34 (by decide) (fun h4 => ?_) (fun h4 => ?_)
            · refine WP_return dX5_hang_44 rfl (Nat.le_of_ble_eq_true rfl) (Nat.le_of_ble_eq_true rfl) ?_
              exact hQ
            · exact absurd h4 (by decide)
theorem m_hang (o u : Option Nat) (b : Bool) (hM : mK W L K AN R0) (ho : ∀ j, o = some j → j < 60) (hu : ∀ j, u = some j → j < 60) :
    MT G mX5_hang [vr (some (W 0)), vi (ix o), vi (ix u), vi (bI b)] (mkS L K AN R0 Rc Ic AIc AR Im AIm AL) (rV (fun S' => S' = mkS L K AN R0 Rc Ic AIc AR Im (hgA W b AIm o u) AL)) := by
  have hM' := hM
  obtain ⟨m0, ⟨f1, f2, f3, f4, f5, f6, f7⟩, ⟨⟨q1, n1⟩, ⟨q2, n2⟩, ⟨q3, n3⟩, ⟨q4, n4⟩, ⟨q5, n5⟩, ⟨q6, n6⟩, ⟨q7, n7⟩⟩, hne⟩ := hM
  cases o with
  | none =>
    refine MT_of (by decide) rfl (Nat.le_of_ble_eq_true rfl) ?_
    refine WP_iload_n dX5_hang_0 rfl ?_
    refine WP_iconst (-1) dX5_hang_1 (by decide) ?_
    refine WP_icmp_eq 12 dX5_hang_2 (by decide) (fun h1 => ?_) (fun h1 => ?_)
    · refine WP_lv [(0, vr (some (W 0))), (1, vi (ix none)), (2, vi (ix u)), (3, vi (bI b))] (List.forall_mem_cons.mpr ⟨rfl, List.forall_mem_cons.mpr ⟨rfl, List.forall_mem_cons.mpr ⟨rfl, List.forall_mem_cons.mpr ⟨rfl, fun _ h9 => absurd h9 List.not_mem_nil⟩⟩⟩⟩) ?_
      refine hang_tail none u b hM' hu ⟨rfl, ?_⟩
      unfold hgA
      rw [show va_up AIm (W 4) (upo (AIm (W 4)) none (ix u)) = AIm from up_id _ _]
    · exact absurd rfl h1
  | some i =>
    have hi := ho i rfl
    refine MT_of (by decide) rfl (Nat.le_of_ble_eq_true rfl) ?_
    refine WP_iload_n dX5_hang_0 rfl ?_
    refine WP_iconst (-1) dX5_hang_1 (by decide) ?_
    refine WP_icmp_eq 12 dX5_hang_2 (by decide) (fun h1 => ?_) (fun h1 => ?_)
    · exact absurd h1 (nI_ne1 hi)
    · refine WP_aload_n dX5_hang_5 rfl ?_
      refine gf_RX5_26 dX5_hang_6 rfl rfl m0 ?_
      refine WP_iload_n dX5_hang_9 rfl ?_
      refine WP_iload_n dX5_hang_10 rfl ?_
      refine ast_7 i 60 dX5_hang_11 f4 q4 n4 rfl hi (by decide) ?_
      refine WP_lv [(0, vr (some (W 0))), (1, vi (ix (some i))), (2, vi (ix u)), (3, vi (bI b))] (List.forall_mem_cons.mpr ⟨rfl, List.forall_mem_cons.mpr ⟨rfl, List.forall_mem_cons.mpr ⟨rfl, List.forall_mem_cons.mpr ⟨rfl, fun _ h9 => absurd h9 List.not_mem_nil⟩⟩⟩⟩) ?_
      exact hang_tail (some i) u b hM' hu ⟨rfl, rfl⟩
theorem mF_step {A' : Nat → Nat → Int32} {t t' : Tr} {F : List Tr} (h : mF W AIm (t :: F)) (hk : (kl kI t').Perm (kl kI t)) (ht : gR ix kI (A' (W 2)) (A' (W 3)) (A' (W 4)) t' none) (hf : ∀ q, q ∉ kl kI t → A' (W 2) q = AIm (W 2) q ∧ A' (W 3) q = AIm (W 3) q ∧ A' (W 4) q = AIm (W 4) q) : mF W A' (t' :: F) := by
  obtain ⟨h1, h2⟩ := h
  have h2 : (kl kI t ++ F.flatMap (kl kI)).Nodup := h2
  refine ⟨fun u hu => ?_, (List.Perm.append_right (F.flatMap (kl kI)) hk).nodup_iff.mpr h2⟩
  rcases List.mem_cons.mp hu with e | hu
  · rw [e]
    exact ⟨ht, fun q hq => (h1 t List.mem_cons_self).2 q (hk.mem_iff.mp hq)⟩
  · obtain ⟨g1, g2⟩ := h1 u (List.mem_cons_of_mem _ hu)
    exact ⟨gR_congr ix kI u none (fun q hq => hf q (fun hq2 => (List.nodup_append.mp h2).2.2 q hq2 q (List.mem_flatMap.mpr ⟨u, hu, hq⟩) rfl)) g1, g2⟩
/-- what a rotation's three hangings make of the rows -/
def rtA (W : Nat → Nat) (lft : Bool) (A : Nat → Nat → Int32) (i p : Nat) (sub g : Option Nat) (wr : Bool) : Nat → Nat → Int32 :=
  hgA W wr (hgA W lft (hgA W (!lft) A sub (some p)) (some p) (some i)) (some i) g
theorem rotM {a i : Nat} {v : Int32} {b c d : Tr} {lft : Bool} {x : LB} {fs : List Fr} {F : List Tr} (hM : mK W L K AN R0) (h : mF W AIm (plug ((lft, x, d) :: fs) (nd a i v b c) :: F)) :
    mF W (rtA W lft AIm i x.2.1 (rk kI (if lft = true then c else b)) (pk kI fs) (wrB fs)) (plug fs (rot1 (nd a i v b c) (lft, x, d)) :: F) := by
  have hn := mF_hd h
  have hc := h.1 _ List.mem_cons_self
  have w23 : W 2 ≠ W 3 := mK_d hM (by decide) (by decide) (by decide)
  have w24 : W 2 ≠ W 4 := mK_d hM (by decide) (by decide) (by decide)
  have w34 : W 3 ≠ W 4 := mK_d hM (by decide) (by decide) (by decide)
  have e2 : rtA W lft AIm i x.2.1 (rk kI (if lft = true then c else b)) (pk kI fs) (wrB fs) (W 4) = va_up (va_up (upo (AIm (W 4)) (rk kI (if lft = true then c else b)) (ix (some x.2.1))) x.2.1 (ix (some i))) i (ix (pk kI fs)) := by
    unfold rtA
    rw [hgA_4 hM, hgA_4 hM, hgA_4 hM]
    rfl
  have hgl : ∀ (A : Nat → Nat → Int32) (o u : Option Nat), hgA W false A o u (W 2) = upo (A (W 2)) u (ix o) := fun A o u => hgA_s hM false A o u
  have hgr : ∀ (A : Nat → Nat → Int32) (o u : Option Nat), hgA W true A o u (W 3) = upo (A (W 3)) u (ix o) := fun A o u => hgA_s hM true A o u
  have hgl' : ∀ (A : Nat → Nat → Int32) (o u : Option Nat), hgA W true A o u (W 2) = A (W 2) := fun A o u => hgA_o true A o u w23 w24
  have hgr' : ∀ (A : Nat → Nat → Int32) (o u : Option Nat), hgA W false A o u (W 3) = A (W 3) := fun A o u => hgA_o false A o u (Ne.symm w23) w34
  have e0 : rtA W lft AIm i x.2.1 (rk kI (if lft = true then c else b)) (pk kI fs) (wrB fs) (W 2) = (if (fs.head?.map (·.1)) = some true then upo (if lft = true then va_up (AIm (W 2)) x.2.1 (ix (rk kI c)) else va_up (AIm (W 2)) i (ix (some x.2.1))) (pk kI fs) (ix (some i)) else (if lft = true then va_up (AIm (W 2)) x.2.1 (ix (rk kI c)) else va_up (AIm (W 2)) i (ix (some x.2.1)))) := by
    have e9 : hgA W lft (hgA W (!lft) AIm (rk kI (if lft = true then c else b)) (some x.2.1)) (some x.2.1) (some i) (W 2) = (if lft = true then va_up (AIm (W 2)) x.2.1 (ix (rk kI c)) else va_up (AIm (W 2)) i (ix (some x.2.1))) := by
      cases lft
      · rw [hgl, show (!false) = true from rfl, hgl']
        rfl
      · rw [hgl', show (!true) = false from rfl, hgl]
        rfl
    unfold rtA
    match fs with
    | [] =>
      show hgA W false _ (some i) none (W 2) = _
      rw [hgl, e9]
      exact (if_neg (fun h => by cases h)).symm
    | (false, y, c') :: fs' =>
      show hgA W true _ (some i) _ (W 2) = _
      rw [hgl', e9]
      exact (if_neg (fun h => by cases h)).symm
    | (true, y, c') :: fs' =>
      show hgA W false _ (some i) _ (W 2) = _
      rw [hgl, e9]
      exact (if_pos rfl).symm
  have e1 : rtA W lft AIm i x.2.1 (rk kI (if lft = true then c else b)) (pk kI fs) (wrB fs) (W 3) = (if (fs.head?.map (·.1)) = some true then (if lft = true then va_up (AIm (W 3)) i (ix (some x.2.1)) else va_up (AIm (W 3)) x.2.1 (ix (rk kI b))) else upo (if lft = true then va_up (AIm (W 3)) i (ix (some x.2.1)) else va_up (AIm (W 3)) x.2.1 (ix (rk kI b))) (pk kI fs) (ix (some i))) := by
    have e9 : hgA W lft (hgA W (!lft) AIm (rk kI (if lft = true then c else b)) (some x.2.1)) (some x.2.1) (some i) (W 3) = (if lft = true then va_up (AIm (W 3)) i (ix (some x.2.1)) else va_up (AIm (W 3)) x.2.1 (ix (rk kI b))) := by
      cases lft
      · rw [hgr', show (!false) = true from rfl, hgr]
        rfl
      · rw [hgr, show (!true) = false from rfl, hgr']
        rfl
    unfold rtA
    match fs with
    | [] =>
      show hgA W false _ (some i) none (W 3) = _
      rw [hgr', e9]
      exact (if_neg (fun h => by cases h)).symm
    | (false, y, c') :: fs' =>
      show hgA W true _ (some i) _ (W 3) = _
      rw [hgr, e9]
      exact (if_neg (fun h => by cases h)).symm
    | (true, y, c') :: fs' =>
      show hgA W false _ (some i) _ (W 3) = _
      rw [hgr', e9]
      exact (if_pos rfl).symm
  have ka : i ∈ kl kI (plug ((lft, x, d) :: fs) (nd a i v b c)) := (kl_plug kI _ _).mem_iff.mpr (List.mem_append_left _ (rk_mem kI rfl))
  have kx : x.2.1 ∈ kl kI (plug ((lft, x, d) :: fs) (nd a i v b c)) := (kl_plug kI _ _).mem_iff.mpr (List.mem_append_right _ List.mem_cons_self)
  have kg : ∀ y, pk kI fs = some y → y ∈ kl kI (plug ((lft, x, d) :: fs) (nd a i v b c)) := fun y hy => (kl_plug kI _ _).mem_iff.mpr (List.mem_append_right _ (List.mem_cons_of_mem _ (List.mem_append_right _ (pk_mem kI hy))))
  have ks : ∀ y, rk kI (if lft = true then c else b) = some y → y ∈ kl kI (plug ((lft, x, d) :: fs) (nd a i v b c)) := fun y hy => (kl_plug kI _ _).mem_iff.mpr (List.mem_append_left _ (by
    rw [kl_nd]
    cases lft
    · exact List.mem_append_left _ (rk_mem kI hy)
    · exact List.mem_append_right _ (List.mem_cons_of_mem _ (rk_mem kI hy))))
  refine mF_step h (by rw [rot_kl]) ?_ (fun q hq => ?_)
  · cases lft
    · exact rotF_ok ix kI (x := x) hn hc.1 e0 e1 e2
    · exact rotT_ok ix kI (x := x) hn hc.1 e0 e1 e2
  · have qa : q ≠ i := fun e => hq (e ▸ ka)
    have qx : q ≠ x.2.1 := fun e => hq (e ▸ kx)
    have qg : pk kI fs ≠ some q := fun e => hq (kg q e)
    have qs : rk kI (if lft = true then c else b) ≠ some q := fun e => hq (ks q e)
    refine ⟨?_, ?_, ?_⟩
    · rw [e0]
      cases lft <;> split <;> simp [upo_ne _ _ qg, va_up_ne _ _ qa, va_up_ne _ _ qx]
    · rw [e1]
      cases lft <;> split <;> simp [upo_ne _ _ qg, va_up_ne _ _ qa, va_up_ne _ _ qx]
    · rw [e2, va_up_ne _ _ qa, va_up_ne _ _ qx, upo_ne _ _ qs]
theorem rtA_o {y i p : Nat} {lft wr : Bool} {sub g : Option Nat} (h2 : y ≠ W 2) (h3 : y ≠ W 3) (h4 : y ≠ W 4) : rtA W lft AIm i p sub g wr y = AIm y := by
  have h : ∀ b, y ≠ W (lrW b) := fun b => by cases b; exact h2; exact h3
  unfold rtA
  rw [hgA_o _ _ _ _ (h _) h4, hgA_o _ _ _ _ (h _) h4, hgA_o _ _ _ _ (h _) h4]
theorem rot_end {Q : RS → SS → Prop} {a i : Nat} {v : Int32} {b c d : Tr} {lft : Bool} {x : LB} {fs : List Fr} (hM : mK W L K AN R0) (hm : mT W AIm (plug ((lft, x, d) :: fs) (nd a i v b c))) (hn : (kl kI (plug ((lft, x, d) :: fs) (nd a i v b c))).Nodup)
    (hQ : Q (.inl none) (mkS L K AN R0 Rc Ic AIc AR (u2 Im 7 (W 0) (Im 7 (W 0) + 1)) (rtA W lft AIm i x.2.1 (rk kI (if lft = true then c else b)) (pk kI fs) (wrB fs)) AL)) :
    WP G mX5_rotate Q 0 0 36 [(0, vr (some (W 0))), (1, vi (nI i)), (2, vi (nI x.2.1)), (3, vi (ix (pk kI fs))), (4, vi (bI (wrB fs)))] [] (mkS L K AN R0 Rc Ic AIc AR Im AIm AL) := by
  have hM' := hM
  obtain ⟨m0, ⟨f1, f2, f3, f4, f5, f6, f7⟩, ⟨⟨q1, n1⟩, ⟨q2, n2⟩, ⟨q3, n3⟩, ⟨q4, n4⟩, ⟨q5, n5⟩, ⟨q6, n6⟩, ⟨q7, n7⟩⟩, hne⟩ := hM
  obtain ⟨z0, z1, z2, z3⟩ := mz (fs := (lft, x, d) :: fs) hm
  obtain ⟨y0, y1, y2, y3⟩ := mzp (f := (lft, x, d)) hm
  have hp : ∀ j, pk kI fs = some j → j < 60 := fun j hj => hm.2 j ((kl_plug kI _ _).mem_iff.mpr (List.mem_append_right _ (List.mem_cons_of_mem _ (List.mem_append_right _ (pk_mem kI hj)))))
  have hb9 : ∀ j, rk kI b = some j → j < 60 := rk_lt (t := b) (fs := (true, (a, i, v), c) :: (lft, x, d) :: fs) hm
  have hc9 : ∀ j, rk kI c = some j → j < 60 := rk_lt (t := c) (fs := (false, (a, i, v), b) :: (lft, x, d) :: fs) hm
  have hd9 : ∀ q, rk kI d = some q → q < 60 := fun q hq => hm.2 q ((kl_plug kI _ _).mem_iff.mpr (List.mem_append_right _ (List.mem_cons_of_mem _ (List.mem_append_left _ (rk_mem kI hq)))))
  have hsib := sib_neI hn (i := i) rfl
  have hx9 : ∀ j, some x.2.1 = some j → j < 60 := fun j hj => by cases hj; exact y0
  have hi9 : ∀ j, some i = some j → j < 60 := fun j hj => by cases hj; exact z0
  refine WP_aload_n dX5_rotate_36 rfl ?_
  refine gf_RX5_20 dX5_rotate_37 rfl rfl m0 ?_
  refine WP_iload_n dX5_rotate_40 rfl ?_
  refine ald_7 (x.2.1) 60 dX5_rotate_41 f2 q2 n2 rfl y0 (by decide) ?_
  refine WP_iload_n dX5_rotate_42 rfl ?_
  rw [y1]
  cases lft with
  | true =>
    refine WP_icmp_ne 68 dX5_rotate_43 (by decide) (fun h1 => ?_) (fun h1 => ?_)
    · exact absurd rfl h1
    · refine WP_aload_n dX5_rotate_46 rfl ?_
      refine WP_aload_n dX5_rotate_47 rfl ?_
      refine gf_RX5_23 dX5_rotate_48 rfl rfl m0 ?_
      refine WP_iload_n dX5_rotate_51 rfl ?_
      refine ald_7 i 60 dX5_rotate_52 f3 q3 n3 rfl z0 (by decide) ?_
      refine WP_iload_n dX5_rotate_53 rfl ?_
      refine WP_iconst (0) dX5_rotate_54 (by decide) ?_
      rw [z2]
      refine callVv mX5_hang [_, _, _] dX5_rotate_55 okc_X5_hang ok_773 ⟨by decide, by decide⟩ rfl rfl m0 rfl (Nat.le_of_ble_eq_true rfl) (Nat.le_of_ble_eq_true rfl) (Nat.le_of_ble_eq_true rfl) (m_hang (rk kI c) (some x.2.1) false hM' hc9 hx9) (fun S1 h1 => ?_)
      subst h1
      refine WP_aload_n dX5_rotate_58 rfl ?_
      refine WP_iload_n dX5_rotate_59 rfl ?_
      refine WP_iload_n dX5_rotate_60 rfl ?_
      refine WP_iconst (1) dX5_rotate_61 (by decide) ?_
      refine callVv mX5_hang [_, _, _] dX5_rotate_62 okc_X5_hang ok_773 ⟨by decide, by decide⟩ rfl rfl m0 rfl (Nat.le_of_ble_eq_true rfl) (Nat.le_of_ble_eq_true rfl) (Nat.le_of_ble_eq_true rfl) (m_hang (some x.2.1) (some i) true hM' hx9 hi9) (fun S1 h1 => ?_)
      subst h1
      refine WP_goto 87 dX5_rotate_65 (by decide) ?_
      refine WP_aload_n dX5_rotate_87 rfl ?_
      refine WP_iload_n dX5_rotate_88 rfl ?_
      refine WP_iload_n dX5_rotate_89 rfl ?_
      refine WP_iload dX5_rotate_90 rfl ?_
      refine callVv mX5_hang [_, _, _] dX5_rotate_92 okc_X5_hang ok_773 ⟨by decide, by decide⟩ rfl rfl m0 rfl (Nat.le_of_ble_eq_true rfl) (Nat.le_of_ble_eq_true rfl) (Nat.le_of_ble_eq_true rfl) (m_hang (some i) (pk kI fs) (wrB fs) hM' hi9 hp) (fun S1 h1 => ?_)
      subst h1
      refine WP_aload_n dX5_rotate_95 rfl ?_
      refine WP_dup dX5_rotate_96 rfl ?_
      refine gf_RX5_63 dX5_rotate_97 rfl rfl m0 ?_
      refine WP_iconst (1) dX5_rotate_100 (by decide) ?_
      refine WP_iadd dX5_rotate_101 ?_
      refine pf_RX5_63 dX5_rotate_102 rfl rfl m0 ?_
      refine WP_return dX5_rotate_105 rfl (Nat.le_of_ble_eq_true rfl) (Nat.le_of_ble_eq_true rfl) ?_
      exact hQ
  | false =>
    refine WP_icmp_ne 68 dX5_rotate_43 (by decide) (fun h1 => ?_) (fun h1 => ?_)
    · refine WP_aload_n dX5_rotate_68 rfl ?_
      refine WP_aload_n dX5_rotate_69 rfl ?_
      refine gf_RX5_20 dX5_rotate_70 rfl rfl m0 ?_
      refine WP_iload_n dX5_rotate_73 rfl ?_
      refine ald_7 i 60 dX5_rotate_74 f2 q2 n2 rfl z0 (by decide) ?_
      refine WP_iload_n dX5_rotate_75 rfl ?_
      refine WP_iconst (1) dX5_rotate_76 (by decide) ?_
      rw [z1]
      refine callVv mX5_hang [_, _, _] dX5_rotate_77 okc_X5_hang ok_773 ⟨by decide, by decide⟩ rfl rfl m0 rfl (Nat.le_of_ble_eq_true rfl) (Nat.le_of_ble_eq_true rfl) (Nat.le_of_ble_eq_true rfl) (m_hang (rk kI b) (some x.2.1) true hM' hb9 hx9) (fun S1 h1 => ?_)
      subst h1
      refine WP_aload_n dX5_rotate_80 rfl ?_
      refine WP_iload_n dX5_rotate_81 rfl ?_
      refine WP_iload_n dX5_rotate_82 rfl ?_
      refine WP_iconst (0) dX5_rotate_83 (by decide) ?_
      refine callVv mX5_hang [_, _, _] dX5_rotate_84 okc_X5_hang ok_773 ⟨by decide, by decide⟩ rfl rfl m0 rfl (Nat.le_of_ble_eq_true rfl) (Nat.le_of_ble_eq_true rfl) (Nat.le_of_ble_eq_true rfl) (m_hang (some x.2.1) (some i) false hM' hx9 hi9) (fun S1 h1 => ?_)
      subst h1
      refine WP_aload_n dX5_rotate_87 rfl ?_
      refine WP_iload_n dX5_rotate_88 rfl ?_
      refine WP_iload_n dX5_rotate_89 rfl ?_
      refine WP_iload dX5_rotate_90 rfl ?_
      refine callVv mX5_hang [_, _, _] dX5_rotate_92 okc_X5_hang ok_773 ⟨by decide, by decide⟩ rfl rfl m0 rfl (Nat.le_of_ble_eq_true rfl) (Nat.le_of_ble_eq_true rfl) (Nat.le_of_ble_eq_true rfl) (m_hang (some i) (pk kI fs) (wrB fs) hM' hi9 hp) (fun S1 h1 => ?_)
      subst h1
      refine WP_aload_n dX5_rotate_95 rfl ?_
      refine WP_dup dX5_rotate_96 rfl ?_
      refine gf_RX5_63 dX5_rotate_97 rfl rfl m0 ?_
      refine WP_iconst (1) dX5_rotate_100 (by decide) ?_
      refine WP_iadd dX5_rotate_101 ?_
      refine pf_RX5_63 dX5_rotate_102 rfl rfl m0 ?_
      refine WP_return dX5_rotate_105 rfl (Nat.le_of_ble_eq_true rfl) (Nat.le_of_ble_eq_true rfl) ?_
      exact hQ
    · have h1 : ix (rk kI d) = ix (some i) := h1
      exact absurd ((ix_inj hd9 hi9).mp h1) hsib
theorem m_rotate {a i : Nat} {v : Int32} {b c d : Tr} {lft : Bool} {x : LB} {fs : List Fr} {F : List Tr} (hM : mK W L K AN R0) (h : mF W AIm (plug ((lft, x, d) :: fs) (nd a i v b c) :: F)) :
    MT G mX5_rotate [vr (some (W 0)), vi (nI i)] (mkS L K AN R0 Rc Ic AIc AR Im AIm AL) (rV (fun S' => ∃ I' A', S' = mkS L K AN R0 Rc Ic AIc AR I' A' AL ∧ mF W A' (plug fs (rot1 (nd a i v b c) (lft, x, d)) :: F) ∧ mQ W Im AIm I' A' ∧ cmO I' W = addC (cmO Im W) (0, 1, 0))) := by
  have hM' := hM
  obtain ⟨m0, ⟨f1, f2, f3, f4, f5, f6, f7⟩, ⟨⟨q1, n1⟩, ⟨q2, n2⟩, ⟨q3, n3⟩, ⟨q4, n4⟩, ⟨q5, n5⟩, ⟨q6, n6⟩, ⟨q7, n7⟩⟩, hne⟩ := hM
  have hn := mF_hd h
  have hm := h.1 _ List.mem_cons_self
  obtain ⟨z0, z1, z2, z3⟩ := mz (fs := (lft, x, d) :: fs) hm
  obtain ⟨y0, y1, y2, y3⟩ := mzp (f := (lft, x, d)) hm
  have hfin : rV (fun S' => ∃ I' A', S' = mkS L K AN R0 Rc Ic AIc AR I' A' AL ∧ mF W A' (plug fs (rot1 (nd a i v b c) (lft, x, d)) :: F) ∧ mQ W Im AIm I' A' ∧ cmO I' W = addC (cmO Im W) (0, 1, 0)) (.inl none) (mkS L K AN R0 Rc Ic AIc AR (u2 Im 7 (W 0) (Im 7 (W 0) + 1)) (rtA W lft AIm i x.2.1 (rk kI (if lft = true then c else b)) (pk kI fs) (wrB fs)) AL) := by
    refine ⟨rfl, _, _, rfl, rotM hM' h, ⟨fun j hj => u2_o _ _ _ (by omega), fun y a b c => rtA_o a b c⟩, ?_⟩
    simp only [cmO, addC, nI_0]
    simp [u2]
    rfl
  refine MT_of (by decide) rfl (Nat.le_of_ble_eq_true rfl) ?_
  refine WP_aload_n dX5_rotate_0 rfl ?_
  refine gf_RX5_26 dX5_rotate_1 rfl rfl m0 ?_
  refine WP_iload_n dX5_rotate_4 rfl ?_
  refine ald_7 i 60 dX5_rotate_5 f4 q4 n4 rfl z0 (by decide) ?_
  rw [z3]
  refine WP_istore_n dX5_rotate_6 (by decide) rfl ?_
  refine WP_aload_n dX5_rotate_7 rfl ?_
  refine gf_RX5_26 dX5_rotate_8 rfl rfl m0 ?_
  refine WP_iload_n dX5_rotate_11 rfl ?_
  refine ald_7 (x.2.1) 60 dX5_rotate_12 f4 q4 n4 rfl y0 (by decide) ?_
  rw [y3]
  refine WP_istore_n dX5_rotate_13 (by decide) rfl ?_
  refine WP_iload_n dX5_rotate_14 rfl ?_
  refine WP_iconst (-1) dX5_rotate_15 (by decide) ?_
  match fs, h, hm, hn, z3, y3, hfin with
  | [], h, hm, hn, z3, y3, hfin =>
    refine WP_icmp_eq 33 dX5_rotate_16 (by decide) (fun h1 => ?_) (fun h1 => ?_)
    · refine WP_iconst (0) dX5_rotate_33 (by decide) ?_
      refine WP_istore dX5_rotate_34 (by decide) rfl ?_
      refine WP_lv [(0, vr (some (W 0))), (1, vi (nI i)), (2, vi (nI x.2.1)), (3, vi (ix (pk kI []))), (4, vi (bI (wrB [])))] (List.forall_mem_cons.mpr ⟨rfl, List.forall_mem_cons.mpr ⟨rfl, List.forall_mem_cons.mpr ⟨rfl, List.forall_mem_cons.mpr ⟨rfl, List.forall_mem_cons.mpr ⟨rfl, fun _ h9 => absurd h9 List.not_mem_nil⟩⟩⟩⟩⟩) ?_
      exact rot_end hM' hm hn hfin
    · exact absurd rfl h1
  | (bg, y, e) :: gs, h, hm, hn, z3, y3, hfin =>
    have hm2 : mT W AIm (plug ((bg, y, e) :: gs) (plug1 (lft, x, d) (nd a i v b c))) := hm
    have hn2 : (kl kI (plug ((bg, y, e) :: gs) (plug1 (lft, x, d) (nd a i v b c)))).Nodup := hn
    obtain ⟨v0, v1, v2, v3⟩ := mzp (f := (bg, y, e)) hm2
    have v2 : AIm (W 3) y.2.1 = ix (if bg = true then rk kI e else rk kI (plug1 (lft, x, d) (nd a i v b c))) := v2
    rw [rk_plug1] at v2
    have he9 : ∀ q, rk kI e = some q → q < 60 := fun q hq => hm2.2 q ((kl_plug kI _ _).mem_iff.mpr (List.mem_append_right _ (List.mem_cons_of_mem _ (List.mem_append_left _ (rk_mem kI hq)))))
    have hsib : rk kI e ≠ some x.2.1 := sib_neI hn2 (i := x.2.1) (rk_plug1 kI _ _)
    refine WP_icmp_eq 33 dX5_rotate_16 (by decide) (fun h1 => ?_) (fun h1 => ?_)
    · exact absurd h1 (nI_ne1 v0)
    · refine WP_aload_n dX5_rotate_19 rfl ?_
      refine gf_RX5_23 dX5_rotate_20 rfl rfl m0 ?_
      refine WP_iload_n dX5_rotate_23 rfl ?_
      refine ald_7 (y.2.1) 60 dX5_rotate_24 f3 q3 n3 rfl v0 (by decide) ?_
      refine WP_iload_n dX5_rotate_25 rfl ?_
      rw [v2]
      cases bg with
      | true =>
        refine WP_icmp_ne 33 dX5_rotate_26 (by decide) (fun h2 => ?_) (fun h2 => ?_)
        · refine WP_iconst (0) dX5_rotate_33 (by decide) ?_
          refine WP_istore dX5_rotate_34 (by decide) rfl ?_
          refine WP_lv [(0, vr (some (W 0))), (1, vi (nI i)), (2, vi (nI x.2.1)), (3, vi (ix (pk kI ((true, y, e) :: gs)))), (4, vi (bI (wrB ((true, y, e) :: gs))))] (List.forall_mem_cons.mpr ⟨rfl, List.forall_mem_cons.mpr ⟨rfl, List.forall_mem_cons.mpr ⟨rfl, List.forall_mem_cons.mpr ⟨rfl, List.forall_mem_cons.mpr ⟨rfl, fun _ h9 => absurd h9 List.not_mem_nil⟩⟩⟩⟩⟩) ?_
          exact rot_end hM' hm hn hfin
        · have h2 : ix (rk kI e) = ix (some x.2.1) := h2
          exact absurd ((ix_inj he9 (fun j hj => by cases hj; exact y0)).mp h2) hsib
      | false =>
        refine WP_icmp_ne 33 dX5_rotate_26 (by decide) (fun h2 => ?_) (fun h2 => ?_)
        · exact absurd rfl h2
        · refine WP_iconst (1) dX5_rotate_29 (by decide) ?_
          refine WP_goto 34 dX5_rotate_30 (by decide) ?_
          refine WP_istore dX5_rotate_34 (by decide) rfl ?_
          refine WP_lv [(0, vr (some (W 0))), (1, vi (nI i)), (2, vi (nI x.2.1)), (3, vi (ix (pk kI ((false, y, e) :: gs)))), (4, vi (bI (wrB ((false, y, e) :: gs))))] (List.forall_mem_cons.mpr ⟨rfl, List.forall_mem_cons.mpr ⟨rfl, List.forall_mem_cons.mpr ⟨rfl, List.forall_mem_cons.mpr ⟨rfl, List.forall_mem_cons.mpr ⟨rfl, fun _ h9 => absurd h9 List.not_mem_nil⟩⟩⟩⟩⟩) ?_
          exact rot_end hM' hm hn hfin
end MSP
