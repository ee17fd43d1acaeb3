/-! ===== reading: Node.position, nodesAbove, top; Tree.count, find, last, holds, takeAll ===== -/
section RDN
variable {G : GC} {L : List Nat} {K AN : Nat → Nat} {R0 Rc : Nat → Nat → Option Nat} {Ic AIc Im AIm : Nat → Nat → Int32} {AR : Nat → Nat → Option Nat} {AL : Nat → Nat → Int64}
theorem plug_len (fs : List Fr) : ∀ t, fs.length + tsz t ≤ tsz (plug fs t) := by
  induction fs with
  | nil => intro t; simp [plug]
  | cons f fs ih =>
    intro t
    have h1 := ih (plug1 f t)
    rw [tsz_plug1] at h1
    show fs.length + 1 + tsz t ≤ tsz (plug fs (plug1 f t))
    omega
theorem tsz_bef (fs : List Fr) (t : Tr) : tsz (plug fs t) = (bef fs).length + tsz t + (aft fs).length := by
  rw [← io_len, io_plug, List.length_append, List.length_append, io_len]
  omega
theorem pos_loop {Q : RS → SS → Prop} (th : Nat) : ∀ (fs : List Fr) (a i : Nat) (v : Int32) (l r : Tr) (m : Nat), (kl kA (plug fs (nd a i v l r))).Nodup → cT L K Rc Ic (plug fs (nd a i v l r)) →
    Q (.inl (some (vi (nI (m + (bef fs).length))))) (mkS L K AN R0 Rc Ic AIc AR Im AIm AL) →
    WP G mX0_position Q 0 0 10 [(0, vr (some th)), (1, vi (nI m)), (2, vr (some a))] [] (mkS L K AN R0 Rc Ic AIc AR Im AIm AL) := by
  intro fs
  induction fs with
  | nil =>
    intro a i v l r m hn hc hQ
    obtain ⟨hka, hz0, hz1, hz2, -, -⟩ := cz (fs := []) hc
    have hz2 : Rc 2 a = none := hz2
    refine WP_aload_n dX0_position_10 rfl ?_
    refine gf_RX0_16 dX0_position_11 rfl rfl hka ?_
    rw [hz2]
    refine WP_ifnull 47 dX0_position_14 (by decide) (fun h1 => ?_) (fun p9 h1 => ?_)
    · refine WP_iload_n dX0_position_47 rfl ?_
      refine WP_ireturn dX0_position_48 rfl rfl (Nat.le_of_ble_eq_true rfl) (Nat.le_of_ble_eq_true rfl) ?_
      exact hQ
    · cases h1
  | cons f fs ih =>
    intro a i v l r m hn hc hQ
    obtain ⟨lft, ⟨xa, xi, xv⟩, d⟩ := f
    obtain ⟨hka, hz0, hz1, hz2, hz3, -⟩ := cz (fs := (lft, (xa, xi, xv), d) :: fs) hc
    have hz2' : Rc 2 a = some xa := hz2
    obtain ⟨hkp, -, -, -, hp3, -⟩ := czp (f := (lft, (xa, xi, xv), d)) (fs := fs) hc
    have hp3' : Ic 0 xa = nI (tsz (nd a i v l r) + 1 + tsz d) := hp3
    have hL : isLeftOf Rc a = if lft = true then 1 else 0 := (isLeft_eq hn hc).trans (by cases lft <;> rfl)
    refine WP_aload_n dX0_position_10 rfl ?_
    refine gf_RX0_16 dX0_position_11 rfl rfl hka ?_
    rw [hz2']
    refine WP_ifnull 47 dX0_position_14 (by decide) (fun h1 => ?_) (fun p9 h1 => ?_)
    · cases h1
    · cases h1
      refine WP_aload_n dX0_position_17 rfl ?_
      refine callVi mX0_isLeftChild [] dX0_position_18 okc_X0_isLeftChild ok_361 ⟨by decide, by decide⟩ rfl rfl hka rfl (Nat.le_of_ble_eq_true rfl) (Nat.le_of_ble_eq_true rfl) (Nat.le_of_ble_eq_true rfl) (c_isLeftChild a hka (fun p h => by rw [hz2'] at h; cases h; exact hkp)) (fun x1 S1 h1 => ?_)
      obtain ⟨h1, rfl⟩ := h1
      have h1 : x1 = if lft = true then 1 else 0 := h1.trans hL
      subst h1
      refine WP_if_ne 39 dX0_position_21 (by decide) (fun h2 => ?_) (fun h2 => ?_)
      · cases lft
        · exact absurd rfl h2
        · refine WP_aload_n dX0_position_39 rfl ?_
          refine gf_RX0_16 dX0_position_40 rfl rfl hka ?_
          rw [hz2']
          refine WP_astore_n dX0_position_43 (by decide) rfl ?_
          refine WP_goto 10 dX0_position_44 (by decide) ?_
          refine WP_lv [(0, vr (some th)), (1, vi (nI m)), (2, vr (some xa))] (List.forall_mem_cons.mpr ⟨rfl, List.forall_mem_cons.mpr ⟨rfl, List.forall_mem_cons.mpr ⟨rfl, fun _ h9 => absurd h9 List.not_mem_nil⟩⟩⟩) ?_
          exact ih xa xi xv (nd a i v l r) d m hn hc hQ
      · cases lft
        · refine WP_iload_n dX0_position_24 rfl ?_
          refine WP_aload_n dX0_position_25 rfl ?_
          refine gf_RX0_16 dX0_position_26 rfl rfl hka ?_
          rw [hz2']
          refine gf_RX0_7 dX0_position_29 rfl rfl hkp ?_
          refine WP_aload_n dX0_position_32 rfl ?_
          refine gf_RX0_7 dX0_position_33 rfl rfl hka ?_
          refine WP_isub dX0_position_36 ?_
          refine WP_iadd dX0_position_37 ?_
          rw [hp3', hz3, pk_sub (by show tsz l + 1 + tsz r ≤ tsz l + 1 + tsz r + 1 + tsz d; omega), nI_add]
          refine WP_istore_n dX0_position_38 (by decide) rfl ?_
          refine WP_aload_n dX0_position_39 rfl ?_
          refine gf_RX0_16 dX0_position_40 rfl rfl hka ?_
          rw [hz2']
          refine WP_astore_n dX0_position_43 (by decide) rfl ?_
          refine WP_goto 10 dX0_position_44 (by decide) ?_
          refine WP_lv [(0, vr (some th)), (1, vi (nI (m + (tsz (nd a i v l r) + 1 + tsz d - (tsz l + 1 + tsz r))))), (2, vr (some xa))] (List.forall_mem_cons.mpr ⟨rfl, List.forall_mem_cons.mpr ⟨rfl, List.forall_mem_cons.mpr ⟨rfl, fun _ h9 => absurd h9 List.not_mem_nil⟩⟩⟩) ?_
          refine ih xa xi xv d (nd a i v l r) _ hn hc ?_
          have e : m + (tsz (nd a i v l r) + 1 + tsz d - (tsz l + 1 + tsz r)) + (bef fs).length = m + (bef ((false, (xa, xi, xv), d) :: fs)).length := by
            simp only [bef, List.length_append, List.length_cons, List.length_nil, io_len]
            show m + (tsz l + 1 + tsz r + 1 + tsz d - (tsz l + 1 + tsz r)) + _ = _
            omega
          rw [e]
          exact hQ
        · exact absurd h2 (by decide)
theorem c_position (a i : Nat) (v : Int32) (l r : Tr) (fs : List Fr) (hn : (kl kA (plug fs (nd a i v l r))).Nodup) (hc : cT L K Rc Ic (plug fs (nd a i v l r))) :
    MT G mX0_position [vr (some a)] (mkS L K AN R0 Rc Ic AIc AR Im AIm AL) (rI (fun x S' => x = nI ((bef fs).length + tsz l) ∧ S' = mkS L K AN R0 Rc Ic AIc AR Im AIm AL)) := by
  obtain ⟨hka, hz0, hz1, hz2, hz3, -⟩ := cz hc
  have hgl := ((gN_plug _ _ _).mp hc.2).1.2.1
  refine MT_of (by decide) rfl (Nat.le_of_ble_eq_true rfl) ?_
  refine WP_aload_n dX0_position_0 rfl ?_
  refine gf_RX0_20 dX0_position_1 rfl rfl hka ?_
  rw [hz0]
  refine callSi mX0_countOf [_] dX0_position_4 okc_X0_countOf ok_245 ⟨by decide, by decide⟩ rfl rfl (Nat.le_of_ble_eq_true rfl) (Nat.le_of_ble_eq_true rfl) (Nat.le_of_ble_eq_true rfl) (c_countOf (rk kA l) (rk_K hgl)) rfl (fun x1 S1 h1 => ?_)
  obtain ⟨h1, rfl⟩ := h1
  rw [cnt_rk (par := none) hgl] at h1
  subst h1
  refine WP_istore_n dX0_position_7 (by decide) rfl ?_
  refine WP_aload_n dX0_position_8 rfl ?_
  refine WP_astore_n dX0_position_9 (by decide) rfl ?_
  refine WP_lv [(0, vr (some a)), (1, vi (nI (tsz l))), (2, vr (some a))] (List.forall_mem_cons.mpr ⟨rfl, List.forall_mem_cons.mpr ⟨rfl, List.forall_mem_cons.mpr ⟨rfl, fun _ h9 => absurd h9 List.not_mem_nil⟩⟩⟩) ?_
  refine pos_loop a fs a i v l r (tsz l) hn hc ⟨_, rfl, ?_, rfl⟩
  rw [Nat.add_comm]
theorem above_loop {Q : RS → SS → Prop} (th : Nat) : ∀ (fs : List Fr) (t : Tr) (m : Nat), cT L K Rc Ic (plug fs t) →
    Q (.inl (some (vi (nI (m + fs.length))))) (mkS L K AN R0 Rc Ic AIc AR Im AIm AL) →
    WP G mX0_nodesAbove Q 0 0 7 [(0, vr (some th)), (1, vi (nI m)), (2, vr (pk kA fs))] [] (mkS L K AN R0 Rc Ic AIc AR Im AIm AL) := by
  intro fs
  induction fs with
  | nil =>
    intro t m hc hQ
    refine WP_aload_n dX0_nodesAbove_7 rfl ?_
    refine WP_ifnull 22 dX0_nodesAbove_8 (by decide) (fun h1 => ?_) (fun p9 h1 => ?_)
    · refine WP_iload_n dX0_nodesAbove_22 rfl ?_
      refine WP_ireturn dX0_nodesAbove_23 rfl rfl (Nat.le_of_ble_eq_true rfl) (Nat.le_of_ble_eq_true rfl) ?_
      exact hQ
    · cases h1
  | cons f fs ih =>
    intro t m hc hQ
    obtain ⟨hkp, -, -, hp2, -, -⟩ := czp hc
    refine WP_aload_n dX0_nodesAbove_7 rfl ?_
    refine WP_ifnull 22 dX0_nodesAbove_8 (by decide) (fun h1 => ?_) (fun p9 h1 => ?_)
    · cases h1
    · cases h1
      refine WP_iinc (nI (m + 1)) dX0_nodesAbove_11 rfl (nI_1 m) (by decide) rfl ?_
      have hkp : isK (mkS L K AN R0 Rc Ic AIc AR Im AIm AL) 0 (fk kA f) := hkp
      have hp2 : Rc 2 (fk kA f) = pk kA fs := hp2
      refine WP_aload_n dX0_nodesAbove_14 rfl ?_
      refine gf_RX0_16 dX0_nodesAbove_15 rfl rfl hkp ?_
      rw [hp2]
      refine WP_astore_n dX0_nodesAbove_18 (by decide) rfl ?_
      refine WP_goto 7 dX0_nodesAbove_19 (by decide) ?_
      refine WP_lv [(0, vr (some th)), (1, vi (nI (m + 1))), (2, vr (pk kA fs))] (List.forall_mem_cons.mpr ⟨rfl, List.forall_mem_cons.mpr ⟨rfl, List.forall_mem_cons.mpr ⟨rfl, fun _ h9 => absurd h9 List.not_mem_nil⟩⟩⟩) ?_
      refine ih (plug1 f t) (m + 1) hc ?_
      rw [show m + 1 + fs.length = m + (f :: fs).length by simp only [List.length_cons]; omega]
      exact hQ
theorem c_nodesAbove (a i : Nat) (v : Int32) (l r : Tr) (fs : List Fr) (hc : cT L K Rc Ic (plug fs (nd a i v l r))) :
    MT G mX0_nodesAbove [vr (some a)] (mkS L K AN R0 Rc Ic AIc AR Im AIm AL) (rI (fun x S' => x = nI fs.length ∧ S' = mkS L K AN R0 Rc Ic AIc AR Im AIm AL)) := by
  obtain ⟨hka, hz0, hz1, hz2, hz3, -⟩ := cz hc
  refine MT_of (by decide) rfl (Nat.le_of_ble_eq_true rfl) ?_
  refine WP_iconst (0) dX0_nodesAbove_0 (by decide) ?_
  refine WP_istore_n dX0_nodesAbove_1 (by decide) rfl ?_
  refine WP_aload_n dX0_nodesAbove_2 rfl ?_
  refine gf_RX0_16 dX0_nodesAbove_3 rfl rfl hka ?_
  rw [hz2]
  refine WP_astore_n dX0_nodesAbove_6 (by decide) rfl ?_
  refine WP_lv [(0, vr (some a)), (1, vi (nI 0)), (2, vr (pk kA fs))] (List.forall_mem_cons.mpr ⟨rfl, List.forall_mem_cons.mpr ⟨rfl, List.forall_mem_cons.mpr ⟨rfl, fun _ h9 => absurd h9 List.not_mem_nil⟩⟩⟩) ?_
  refine above_loop a fs (nd a i v l r) 0 hc ⟨_, rfl, ?_, rfl⟩
  rw [Nat.zero_add]
theorem top_loop {Q : RS → SS → Prop} (th : Nat) : ∀ (fs : List Fr) (a i : Nat) (v : Int32) (l r : Tr), cT L K Rc Ic (plug fs (nd a i v l r)) →
    Q (.inl (some (vr (rk kA (plug fs (nd a i v l r)))))) (mkS L K AN R0 Rc Ic AIc AR Im AIm AL) →
    WP G mX0_top Q 0 0 2 [(0, vr (some th)), (1, vr (some a))] [] (mkS L K AN R0 Rc Ic AIc AR Im AIm AL) := by
  intro fs
  induction fs with
  | nil =>
    intro a i v l r hc hQ
    obtain ⟨hka, hz0, hz1, hz2, -, -⟩ := cz (fs := []) hc
    have hz2 : Rc 2 a = none := hz2
    refine WP_aload_n dX0_top_2 rfl ?_
    refine gf_RX0_16 dX0_top_3 rfl rfl hka ?_
    rw [hz2]
    refine WP_ifnull 17 dX0_top_6 (by decide) (fun h1 => ?_) (fun p9 h1 => ?_)
    · refine WP_aload_n dX0_top_17 rfl ?_
      refine WP_areturn dX0_top_18 rfl (Nat.le_of_ble_eq_true rfl) (Nat.le_of_ble_eq_true rfl) ?_
      exact hQ
    · cases h1
  | cons f fs ih =>
    intro a i v l r hc hQ
    obtain ⟨hka, hz0, hz1, hz2, -, -⟩ := cz (fs := f :: fs) hc
    have hz2 : Rc 2 a = some (fk kA f) := hz2
    refine WP_aload_n dX0_top_2 rfl ?_
    refine gf_RX0_16 dX0_top_3 rfl rfl hka ?_
    rw [hz2]
    refine WP_ifnull 17 dX0_top_6 (by decide) (fun h1 => ?_) (fun p9 h1 => ?_)
    · cases h1
    · cases h1
      refine WP_aload_n dX0_top_9 rfl ?_
      refine gf_RX0_16 dX0_top_10 rfl rfl hka ?_
      rw [hz2]
      refine WP_astore_n dX0_top_13 (by decide) rfl ?_
      refine WP_goto 2 dX0_top_14 (by decide) ?_
      obtain ⟨lft, ⟨xa, xi, xv⟩, d⟩ := f
      refine WP_lv [(0, vr (some th)), (1, vr (some xa))] (List.forall_mem_cons.mpr ⟨rfl, List.forall_mem_cons.mpr ⟨rfl, fun _ h9 => absurd h9 List.not_mem_nil⟩⟩) ?_
      cases lft
      · exact ih xa xi xv d (nd a i v l r) hc hQ
      · exact ih xa xi xv (nd a i v l r) d hc hQ
theorem c_top (a i : Nat) (v : Int32) (l r : Tr) (fs : List Fr) (hc : cT L K Rc Ic (plug fs (nd a i v l r))) :
    MT G mX0_top [vr (some a)] (mkS L K AN R0 Rc Ic AIc AR Im AIm AL) (rR (fun x S' => x = rk kA (plug fs (nd a i v l r)) ∧ S' = mkS L K AN R0 Rc Ic AIc AR Im AIm AL)) := by
  refine MT_of (by decide) rfl (Nat.le_of_ble_eq_true rfl) ?_
  refine WP_aload_n dX0_top_0 rfl ?_
  refine WP_astore_n dX0_top_1 (by decide) rfl ?_
  refine WP_lv [(0, vr (some a)), (1, vr (some a))] (List.forall_mem_cons.mpr ⟨rfl, List.forall_mem_cons.mpr ⟨rfl, fun _ h9 => absurd h9 List.not_mem_nil⟩⟩) ?_
  exact top_loop a fs a i v l r hc ⟨_, rfl, rfl, rfl⟩
theorem c_count (T : Nat) (t : Tr) (hT : isK (mkS L K AN R0 Rc Ic AIc AR Im AIm AL) 3 T) (hr : Rc 3 T = rk kA t) (hc : cT L K Rc Ic t) :
    MT G mX3_count [vr (some T)] (mkS L K AN R0 Rc Ic AIc AR Im AIm AL) (rI (fun x S' => x = nI (tsz t) ∧ S' = mkS L K AN R0 Rc Ic AIc AR Im AIm AL)) := by
  refine MT_of (by decide) rfl (Nat.le_of_ble_eq_true rfl) ?_
  refine WP_aload_n dX3_count_0 rfl ?_
  refine gf_RX3_7 dX3_count_1 rfl rfl hT ?_
  rw [hr]
  refine callSi mX0_countOf [_] dX3_count_4 okc_X0_countOf ok_138 ⟨by decide, by decide⟩ rfl rfl (Nat.le_of_ble_eq_true rfl) (Nat.le_of_ble_eq_true rfl) (Nat.le_of_ble_eq_true rfl) (c_countOf (rk kA t) (rk_K hc.2)) rfl (fun x1 S1 h1 => ?_)
  obtain ⟨h1, rfl⟩ := h1
  rw [cnt_rk (par := none) hc.2] at h1
  refine WP_ireturn dX3_count_7 rfl rfl (Nat.le_of_ble_eq_true rfl) (Nat.le_of_ble_eq_true rfl) ?_
  exact ⟨_, rfl, h1, rfl⟩
theorem c_holds (T a i : Nat) (v : Int32) (l r : Tr) (fs : List Fr) (hT : isK (mkS L K AN R0 Rc Ic AIc AR Im AIm AL) 3 T) (hc : cT L K Rc Ic (plug fs (nd a i v l r))) :
    MT G mX3_holds [vr (some T), vr (some a)] (mkS L K AN R0 Rc Ic AIc AR Im AIm AL) (rI (fun x S' => x = (if rk kA (plug fs (nd a i v l r)) = Rc 3 T then 1 else 0) ∧ S' = mkS L K AN R0 Rc Ic AIc AR Im AIm AL)) := by
  have hka : isK (mkS L K AN R0 Rc Ic AIc AR Im AIm AL) 0 a := (cz hc).1
  refine MT_of (by decide) rfl (Nat.le_of_ble_eq_true rfl) ?_
  refine WP_aload_n dX3_holds_0 rfl ?_
  refine callVr mX0_top [] dX3_holds_1 okc_X0_top ok_482 ⟨by decide, by decide⟩ rfl rfl hka rfl (Nat.le_of_ble_eq_true rfl) (Nat.le_of_ble_eq_true rfl) (Nat.le_of_ble_eq_true rfl) (c_top a i v l r fs hc) (fun x1 S1 h1 => ?_)
  obtain ⟨rfl, rfl⟩ := h1
  refine WP_aload_n dX3_holds_4 rfl ?_
  refine gf_RX3_7 dX3_holds_5 rfl rfl hT ?_
  refine WP_acmp_ne 15 dX3_holds_8 (by decide) (fun h => ?_) (fun h => ?_)
  · refine WP_iconst (0) dX3_holds_15 (by decide) ?_
    refine WP_ireturn dX3_holds_16 rfl rfl (Nat.le_of_ble_eq_true rfl) (Nat.le_of_ble_eq_true rfl) ?_
    exact ⟨_, rfl, (if_neg h).symm, rfl⟩
  · refine WP_iconst (1) dX3_holds_11 (by decide) ?_
    refine WP_goto 16 dX3_holds_12 (by decide) ?_
    refine WP_ireturn dX3_holds_16 rfl rfl (Nat.le_of_ble_eq_true rfl) (Nat.le_of_ble_eq_true rfl) ?_
    exact ⟨_, rfl, (if_pos h).symm, rfl⟩
theorem c_takeAll (T : Nat) (hT : isK (mkS L K AN R0 Rc Ic AIc AR Im AIm AL) 3 T) :
    MT G mX3_takeAll [vr (some T)] (mkS L K AN R0 Rc Ic AIc AR Im AIm AL) (rR (fun x S' => x = Rc 3 T ∧ S' = mkS L K AN R0 (u2 Rc 3 T none) Ic AIc AR Im AIm AL)) := by
  refine MT_of (by decide) rfl (Nat.le_of_ble_eq_true rfl) ?_
  refine WP_aload_n dX3_takeAll_0 rfl ?_
  refine gf_RX3_7 dX3_takeAll_1 rfl rfl hT ?_
  refine WP_astore_n dX3_takeAll_4 (by decide) rfl ?_
  refine WP_aload_n dX3_takeAll_5 rfl ?_
  refine WP_null dX3_takeAll_6 ?_
  refine pf_RX3_7 dX3_takeAll_7 rfl rfl hT ?_
  refine WP_aload_n dX3_takeAll_10 rfl ?_
  refine WP_areturn dX3_takeAll_11 rfl (Nat.le_of_ble_eq_true rfl) (Nat.le_of_ble_eq_true rfl) ?_
  exact ⟨_, rfl, rfl, rfl⟩
def fnd : Tr → Int32 → Option Nat
  | .leaf, _ => none
  | .inner a _ _ l r, x => if x = nI (tsz l) then some a else if x < nI (tsz l) then fnd l x else fnd r (x - (nI (tsz l) + 1))
theorem fnd_neg (t : Tr) {x : Int32} (hx : x < 0) (hs : tsz t < 2 ^ 31) : fnd t x = none := by
  induction t with
  | leaf => rfl
  | inner a i v l r ihl ihr =>
    have hs : tsz l + 1 + tsz r < 2 ^ 31 := hs
    have h1 : x < nI (tsz l) := Int32.lt_of_lt_of_le hx (nI_pos' (by omega))
    unfold fnd
    rw [if_neg (fun e => by rw [e] at h1; exact Int32.lt_irrefl h1), if_pos h1]
    exact ihl (by omega)
theorem fnd_nI (t : Tr) : ∀ (j : Nat) (fs : List Fr), j < 2 ^ 31 → tsz t < 2 ^ 31 → fnd t (nI j) = if j < tsz t then rk kA (zat t j fs).1 else none := by
  induction t with
  | leaf => intro j fs _ _; rfl
  | inner a i v l r ihl ihr =>
    intro j fs hj hs
    have hs : tsz l + 1 + tsz r < 2 ^ 31 := hs
    show (if nI j = nI (tsz l) then some a else if nI j < nI (tsz l) then fnd l (nI j) else fnd r (nI j - (nI (tsz l) + 1))) = if j < tsz l + 1 + tsz r then rk kA (if j < tsz l then zat l j ((true, (a, i, v), r) :: fs) else if j = tsz l then (nd a i v l r, fs) else zat r (j - tsz l - 1) ((false, (a, i, v), l) :: fs)).1 else none
    by_cases h1 : j = tsz l
    · subst h1
      rw [if_pos rfl, if_pos (by omega), if_neg (Nat.lt_irrefl _), if_pos rfl]
      rfl
    · rw [if_neg (fun e => h1 ((nI_eq hj (by omega)).mp e))]
      by_cases h2 : j < tsz l
      · rw [if_pos (nI_lt h2 (by omega)), ihl j ((true, (a, i, v), r) :: fs) hj (by omega), if_pos h2, if_pos (by omega), if_pos h2]
      · rw [if_neg (nI_nlt (by omega) hj), nI_1, pk_sub (by omega), ihr (j - (tsz l + 1)) ((false, (a, i, v), l) :: fs) (by omega) (by omega), if_neg h2, if_neg h1, show j - tsz l - 1 = j - (tsz l + 1) by omega]
        by_cases h3 : j < tsz l + 1 + tsz r
        · rw [if_pos h3, if_pos (by omega)]
        · rw [if_neg h3, if_neg (by omega)]
theorem find_loop {Q : RS → SS → Prop} (T : Nat) (at0 : Int32) (hQ : ∀ o, Q (.inl (some (vr o))) (mkS L K AN R0 Rc Ic AIc AR Im AIm AL) → True) : ∀ (t : Tr) (fs : List Fr) (x : Int32), cT L K Rc Ic (plug fs t) →
    Q (.inl (some (vr (fnd t x)))) (mkS L K AN R0 Rc Ic AIc AR Im AIm AL) →
    WP G mX3_find Q 0 0 7 [(0, vr (some T)), (1, vi at0), (2, vi x), (3, vr (rk kA t))] [] (mkS L K AN R0 Rc Ic AIc AR Im AIm AL) := by
  intro t
  induction t with
  | leaf =>
    intro fs x hc hQ
    refine WP_aload_n dX3_find_7 rfl ?_
    refine WP_ifnull 57 dX3_find_8 (by decide) (fun h1 => ?_) (fun p9 h1 => ?_)
    · refine WP_null dX3_find_57 ?_
      refine WP_areturn dX3_find_58 rfl (Nat.le_of_ble_eq_true rfl) (Nat.le_of_ble_eq_true rfl) ?_
      exact hQ
    · cases h1
  | inner a i v l r ihl ihr =>
    intro fs x hc hQ
    obtain ⟨hka, hz0, hz1, hz2, hz3, -⟩ := cz (a := a) (i := i) (v := v) (l := l) (r := r) hc
    have hka : isK (mkS L K AN R0 Rc Ic AIc AR Im AIm AL) 0 a := hka
    have hgl := ((gN_plug _ _ _).mp hc.2).1.2.1
    refine WP_aload_n dX3_find_7 rfl ?_
    refine WP_ifnull 57 dX3_find_8 (by decide) (fun h1 => ?_) (fun p9 h1 => ?_)
    · cases h1
    · cases h1
      refine WP_aload_n dX3_find_11 rfl ?_
      refine gf_RX3_19 dX3_find_12 rfl rfl hka ?_
      rw [hz0]
      refine callSi mX0_countOf [_] dX3_find_15 okc_X0_countOf ok_138 ⟨by decide, by decide⟩ rfl rfl (Nat.le_of_ble_eq_true rfl) (Nat.le_of_ble_eq_true rfl) (Nat.le_of_ble_eq_true rfl) (c_countOf (rk kA l) (rk_K hgl)) rfl (fun x1 S1 h1 => ?_)
      obtain ⟨h1, rfl⟩ := h1
      rw [cnt_rk (par := none) hgl] at h1
      subst h1
      refine WP_istore dX3_find_18 (by decide) rfl ?_
      refine WP_iload_n dX3_find_20 rfl ?_
      refine WP_iload dX3_find_21 rfl ?_
      refine WP_icmp_ne 28 dX3_find_23 (by decide) (fun h2 => ?_) (fun h2 => ?_)
      · refine WP_iload_n dX3_find_28 rfl ?_
        refine WP_iload dX3_find_29 rfl ?_
        refine WP_icmp_ge 42 dX3_find_31 (by decide) (fun h3 => ?_) (fun h3 => ?_)
        · refine WP_iload_n dX3_find_42 rfl ?_
          refine WP_iload dX3_find_43 rfl ?_
          refine WP_iconst (1) dX3_find_45 (by decide) ?_
          refine WP_iadd dX3_find_46 ?_
          refine WP_isub dX3_find_47 ?_
          refine WP_istore_n dX3_find_48 (by decide) rfl ?_
          refine WP_aload_n dX3_find_49 rfl ?_
          refine gf_RX3_22 dX3_find_50 rfl rfl hka ?_
          rw [hz1]
          refine WP_astore_n dX3_find_53 (by decide) rfl ?_
          refine WP_goto 7 dX3_find_54 (by decide) ?_
          refine WP_lv [(0, vr (some T)), (1, vi at0), (2, vi (x - (nI (tsz l) + 1))), (3, vr (rk kA r))] (List.forall_mem_cons.mpr ⟨rfl, List.forall_mem_cons.mpr ⟨rfl, List.forall_mem_cons.mpr ⟨rfl, List.forall_mem_cons.mpr ⟨rfl, fun _ h9 => absurd h9 List.not_mem_nil⟩⟩⟩⟩) ?_
          refine ihr ((false, (a, i, v), l) :: fs) _ hc ?_
          have e : fnd (Std.DTreeMap.Internal.Impl.inner a i v l r) x = fnd r (x - (nI (tsz l) + 1)) := by
            show (if x = nI (tsz l) then some a else if x < nI (tsz l) then fnd l x else fnd r (x - (nI (tsz l) + 1))) = _
            rw [if_neg h2, if_neg (Int32.not_lt.mpr h3)]
          rw [e] at hQ
          exact hQ
        · refine WP_aload_n dX3_find_34 rfl ?_
          refine gf_RX3_19 dX3_find_35 rfl rfl hka ?_
          rw [hz0]
          refine WP_astore_n dX3_find_38 (by decide) rfl ?_
          refine WP_goto 54 dX3_find_39 (by decide) ?_
          refine WP_goto 7 dX3_find_54 (by decide) ?_
          refine WP_lv [(0, vr (some T)), (1, vi at0), (2, vi x), (3, vr (rk kA l))] (List.forall_mem_cons.mpr ⟨rfl, List.forall_mem_cons.mpr ⟨rfl, List.forall_mem_cons.mpr ⟨rfl, List.forall_mem_cons.mpr ⟨rfl, fun _ h9 => absurd h9 List.not_mem_nil⟩⟩⟩⟩) ?_
          refine ihl ((true, (a, i, v), r) :: fs) _ hc ?_
          have e : fnd (Std.DTreeMap.Internal.Impl.inner a i v l r) x = fnd l x := by
            show (if x = nI (tsz l) then some a else if x < nI (tsz l) then fnd l x else fnd r (x - (nI (tsz l) + 1))) = _
            rw [if_neg h2, if_pos (Int32.not_le.mp h3)]
          rw [e] at hQ
          exact hQ
      · refine WP_aload_n dX3_find_26 rfl ?_
        refine WP_areturn dX3_find_27 rfl (Nat.le_of_ble_eq_true rfl) (Nat.le_of_ble_eq_true rfl) ?_
        have e : fnd (Std.DTreeMap.Internal.Impl.inner a i v l r) x = some a := by
          show (if x = nI (tsz l) then some a else if x < nI (tsz l) then fnd l x else fnd r (x - (nI (tsz l) + 1))) = _
          rw [if_pos h2]
        rw [e] at hQ
        exact hQ
theorem c_find (T : Nat) (t : Tr) (x : Int32) (hT : isK (mkS L K AN R0 Rc Ic AIc AR Im AIm AL) 3 T) (hr : Rc 3 T = rk kA t) (hc : cT L K Rc Ic t) :
    MT G mX3_find [vr (some T), vi x] (mkS L K AN R0 Rc Ic AIc AR Im AIm AL) (rR (fun o S' => o = fnd t x ∧ S' = mkS L K AN R0 Rc Ic AIc AR Im AIm AL)) := by
  refine MT_of (by decide) rfl (Nat.le_of_ble_eq_true rfl) ?_
  refine WP_iload_n dX3_find_0 rfl ?_
  refine WP_istore_n dX3_find_1 (by decide) rfl ?_
  refine WP_aload_n dX3_find_2 rfl ?_
  refine gf_RX3_7 dX3_find_3 rfl rfl hT ?_
  rw [hr]
  refine WP_astore_n dX3_find_6 (by decide) rfl ?_
  refine WP_lv [(0, vr (some T)), (1, vi x), (2, vi x), (3, vr (rk kA t))] (List.forall_mem_cons.mpr ⟨rfl, List.forall_mem_cons.mpr ⟨rfl, List.forall_mem_cons.mpr ⟨rfl, List.forall_mem_cons.mpr ⟨rfl, fun _ h9 => absurd h9 List.not_mem_nil⟩⟩⟩⟩) ?_
  exact find_loop T x (fun _ _ => trivial) t [] x hc ⟨_, rfl, rfl, rfl⟩
def lastK : Tr → Option Nat
  | .leaf => none
  | .inner a _ _ _ r => match r with
    | .leaf => some a
    | .inner a' i' v' l' r' => lastK (.inner a' i' v' l' r')
theorem lastK_zat (t : Tr) : ∀ fs, lastK t = rk kA (zat t (tsz t - 1) fs).1 := by
  induction t with
  | leaf => intro fs; rfl
  | inner a i v l r ihl ihr =>
    intro fs
    show _ = rk kA (if tsz l + 1 + tsz r - 1 < tsz l then zat l (tsz l + 1 + tsz r - 1) ((true, (a, i, v), r) :: fs) else if tsz l + 1 + tsz r - 1 = tsz l then (nd a i v l r, fs) else zat r (tsz l + 1 + tsz r - 1 - tsz l - 1) ((false, (a, i, v), l) :: fs)).1
    rw [if_neg (by omega)]
    cases r with
    | leaf => rw [if_pos (show tsz l + 1 + tsz Std.DTreeMap.Internal.Impl.leaf - 1 = tsz l from by show tsz l + 1 + 0 - 1 = tsz l; omega)]; rfl
    | inner a' i' v' l' r' =>
      have hs : 0 < tsz (Std.DTreeMap.Internal.Impl.inner a' i' v' l' r') := by show 0 < tsz l' + 1 + tsz r'; omega
      rw [if_neg (by omega), show tsz l + 1 + tsz (Std.DTreeMap.Internal.Impl.inner a' i' v' l' r') - 1 - tsz l - 1 = tsz (Std.DTreeMap.Internal.Impl.inner a' i' v' l' r') - 1 by omega]
      exact ihr _
theorem last_loop {Q : RS → SS → Prop} (T : Nat) : ∀ (t : Tr) (fs : List Fr), cT L K Rc Ic (plug fs t) →
    Q (.inl (some (vr (lastK t)))) (mkS L K AN R0 Rc Ic AIc AR Im AIm AL) →
    WP G mX3_last Q 0 0 5 [(0, vr (some T)), (1, vr (rk kA t))] [] (mkS L K AN R0 Rc Ic AIc AR Im AIm AL) := by
  intro t
  induction t with
  | leaf =>
    intro fs hc hQ
    refine WP_aload_n dX3_last_5 rfl ?_
    refine WP_ifnull 24 dX3_last_6 (by decide) (fun h1 => ?_) (fun p9 h1 => ?_)
    · refine WP_aload_n dX3_last_24 rfl ?_
      refine WP_areturn dX3_last_25 rfl (Nat.le_of_ble_eq_true rfl) (Nat.le_of_ble_eq_true rfl) ?_
      exact hQ
    · cases h1
  | inner a i v l r ihl ihr =>
    intro fs hc hQ
    obtain ⟨hka, hz0, hz1, hz2, hz3, -⟩ := cz (a := a) (i := i) (v := v) (l := l) (r := r) hc
    have hka : isK (mkS L K AN R0 Rc Ic AIc AR Im AIm AL) 0 a := hka
    refine WP_aload_n dX3_last_5 rfl ?_
    refine WP_ifnull 24 dX3_last_6 (by decide) (fun h1 => ?_) (fun p9 h1 => ?_)
    · cases h1
    · cases h1
      refine WP_aload_n dX3_last_9 rfl ?_
      refine gf_RX3_22 dX3_last_10 rfl rfl hka ?_
      rw [hz1]
      refine WP_ifnull 24 dX3_last_13 (by decide) (fun h1 => ?_) (fun p9 h1 => ?_)
      · refine WP_aload_n dX3_last_24 rfl ?_
        refine WP_areturn dX3_last_25 rfl (Nat.le_of_ble_eq_true rfl) (Nat.le_of_ble_eq_true rfl) ?_
        cases r with
        | leaf => exact hQ
        | inner a' i' v' l' r' => cases h1
      · cases r with
        | leaf => cases h1
        | inner a' i' v' l' r' =>
          refine WP_aload_n dX3_last_16 rfl ?_
          refine gf_RX3_22 dX3_last_17 rfl rfl hka ?_
          rw [hz1]
          refine WP_astore_n dX3_last_20 (by decide) rfl ?_
          refine WP_goto 5 dX3_last_21 (by decide) ?_
          refine WP_lv [(0, vr (some T)), (1, vr (rk kA (Std.DTreeMap.Internal.Impl.inner a' i' v' l' r')))] (List.forall_mem_cons.mpr ⟨rfl, List.forall_mem_cons.mpr ⟨rfl, fun _ h9 => absurd h9 List.not_mem_nil⟩⟩) ?_
          exact ihr ((false, (a, i, v), l) :: fs) hc hQ
theorem c_last (T : Nat) (t : Tr) (hT : isK (mkS L K AN R0 Rc Ic AIc AR Im AIm AL) 3 T) (hr : Rc 3 T = rk kA t) (hc : cT L K Rc Ic t) :
    MT G mX3_last [vr (some T)] (mkS L K AN R0 Rc Ic AIc AR Im AIm AL) (rR (fun o S' => o = lastK t ∧ S' = mkS L K AN R0 Rc Ic AIc AR Im AIm AL)) := by
  refine MT_of (by decide) rfl (Nat.le_of_ble_eq_true rfl) ?_
  refine WP_aload_n dX3_last_0 rfl ?_
  refine gf_RX3_7 dX3_last_1 rfl rfl hT ?_
  rw [hr]
  refine WP_astore_n dX3_last_4 (by decide) rfl ?_
  refine WP_lv [(0, vr (some T)), (1, vr (rk kA t))] (List.forall_mem_cons.mpr ⟨rfl, List.forall_mem_cons.mpr ⟨rfl, fun _ h9 => absurd h9 List.not_mem_nil⟩⟩) ?_
  exact last_loop T t [] hc ⟨_, rfl, rfl, rfl⟩
end RDN
