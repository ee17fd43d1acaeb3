/-! ===== walks from node to node: Node.nextOfWalk and what Tree does with it ===== -/
def nxA : List Fr → Option Nat
  | [] => none
  | (true, _, c) :: fs => match rk kA c with
    | some q => some q
    | none => nxA fs
  | (false, _, _) :: fs => nxA fs
def nx (t : Tr) (fs : List Fr) : Option Nat := match rk kA t with
  | some q => some q
  | none => nxA fs
theorem nx_T (x : LB) (l r : Tr) (fs : List Fr) : nxA ((true, x, r) :: fs) = nx r ((false, x, l) :: fs) := by
  cases r <;> rfl
def smT : Tr → Int32
  | .leaf => 0
  | .inner _ _ v l r => v + smT l + smT r
def mnT : Tr → Int32 → Int32
  | .leaf, x => x
  | .inner _ _ v l r, x => mnT r (mnT l (if v < x then v else x))
def rkS : Tr → Nat
  | .leaf => 0
  | .inner _ _ _ l r => Nat.log2 (tsz l + 1 + tsz r) + rkS l + rkS r
def lvT : Tr → Nat → Nat → Nat
  | .leaf, _, x => x
  | .inner _ _ _ l r, d, x => lvT r (d + 1) (lvT l (d + 1) (max x (d + 1)))
def rai (d : Int32) : Tr → Tr
  | .leaf => .leaf
  | .inner a i v l r => nd a i (v + d) (rai d l) (rai d r)
def mir : Tr → Tr
  | .leaf => .leaf
  | .inner a i v l r => nd a i v (mir r) (mir l)
theorem tsz_rai (d : Int32) (t : Tr) : tsz (rai d t) = tsz t := by
  induction t with
  | leaf => rfl
  | inner a i v l r ihl ihr => show tsz (rai d l) + 1 + tsz (rai d r) = tsz l + 1 + tsz r; rw [ihl, ihr]
theorem tsz_mir (t : Tr) : tsz (mir t) = tsz t := by
  induction t with
  | leaf => rfl
  | inner a i v l r ihl ihr =>
    show tsz (mir r) + 1 + tsz (mir l) = tsz l + 1 + tsz r
    rw [ihl, ihr]
    omega
section WLK
variable {G : GC} {L : List Nat} {K AN : Nat → Nat} {R0 Rc : Nat → Nat → Option Nat} {Ic AIc Im AIm : Nat → Nat → Int32} {AR : Nat → Nat → Option Nat} {AL : Nat → Nat → Int64}
theorem next_loop {Q : RS → SS → Prop} (th : Nat) : ∀ (fs : List Fr) (a i : Nat) (v : Int32) (l r : Tr), (kl kA (plug fs (nd a i v l r))).Nodup → cT L K Rc Ic (plug fs (nd a i v l r)) →
    Q (.inl (some (vr (nxA fs)))) (mkS L K AN R0 Rc Ic AIc AR Im AIm AL) →
    WP G mX0_nextOfWalk Q 0 0 26 [(0, vr (some th)), (1, vr (some a))] [] (mkS L K AN R0 Rc Ic AIc AR Im AIm AL) := by
  intro fs
  induction fs with
  | nil =>
    intro a i v l r hn hc hQ
    obtain ⟨hka, hz0, hz1, hz2, -, -⟩ := cz (fs := []) hc
    have hz2 : Rc 2 a = none := hz2
    refine WP_aload_n dX0_nextOfWalk_26 rfl ?_
    refine gf_RX0_16 dX0_nextOfWalk_27 rfl rfl hka ?_
    rw [hz2]
    refine WP_ifnull 66 dX0_nextOfWalk_30 (by decide) (fun h1 => ?_) (fun p9 h1 => ?_)
    · refine WP_null dX0_nextOfWalk_66 ?_
      refine WP_areturn dX0_nextOfWalk_67 rfl (Nat.le_of_ble_eq_true rfl) (Nat.le_of_ble_eq_true rfl) ?_
      exact hQ
    · cases h1
  | cons f fs ih =>
    intro a i v l r hn hc hQ
    obtain ⟨lft, ⟨xa, xi, xv⟩, d⟩ := f
    obtain ⟨hka, hz0, hz1, hz2, -, -⟩ := cz (fs := (lft, (xa, xi, xv), d) :: fs) hc
    have hz2' : Rc 2 a = some xa := hz2
    obtain ⟨hkp, -, hp1, -, -, -⟩ := czp (f := (lft, (xa, xi, xv), d)) (fs := fs) hc
    have hkp' : isK (mkS L K AN R0 Rc Ic AIc AR Im AIm AL) 0 xa := hkp
    have hL : isLeftOf Rc a = if lft = true then 1 else 0 := (isLeft_eq hn hc).trans (by cases lft <;> rfl)
    refine WP_aload_n dX0_nextOfWalk_26 rfl ?_
    refine gf_RX0_16 dX0_nextOfWalk_27 rfl rfl hka ?_
    rw [hz2']
    refine WP_ifnull 66 dX0_nextOfWalk_30 (by decide) (fun h1 => ?_) (fun p9 h1 => ?_)
    · cases h1
    · cases h1
      refine WP_aload_n dX0_nextOfWalk_33 rfl ?_
      refine callVi mX0_isLeftChild [] dX0_nextOfWalk_34 okc_X0_isLeftChild ok_361 ⟨by decide, by decide⟩ rfl rfl hka rfl (Nat.le_of_ble_eq_true rfl) (Nat.le_of_ble_eq_true rfl) (Nat.le_of_ble_eq_true rfl) (c_isLeftChild a hka (fun p h => by rw [hz2'] at h; cases h; exact hkp')) (fun x1 S1 h1 => ?_)
      obtain ⟨h1, rfl⟩ := h1
      have h1 : x1 = if lft = true then 1 else 0 := h1.trans hL
      subst h1
      refine WP_if_eq 58 dX0_nextOfWalk_37 (by decide) (fun h2 => ?_) (fun h2 => ?_)
      · cases lft
        · refine WP_aload_n dX0_nextOfWalk_58 rfl ?_
          refine gf_RX0_16 dX0_nextOfWalk_59 rfl rfl hka ?_
          rw [hz2']
          refine WP_astore_n dX0_nextOfWalk_62 (by decide) rfl ?_
          refine WP_goto 26 dX0_nextOfWalk_63 (by decide) ?_
          refine WP_lv [(0, vr (some th)), (1, vr (some xa))] (List.forall_mem_cons.mpr ⟨rfl, List.forall_mem_cons.mpr ⟨rfl, fun _ h9 => absurd h9 List.not_mem_nil⟩⟩) ?_
          exact ih xa xi xv d (nd a i v l r) hn hc hQ
        · exact absurd h2 (by decide)
      · cases lft
        · exact absurd rfl h2
        · have hp1' : Rc 1 xa = rk kA d := hp1
          refine WP_aload_n dX0_nextOfWalk_40 rfl ?_
          refine gf_RX0_16 dX0_nextOfWalk_41 rfl rfl hka ?_
          rw [hz2']
          refine gf_RX0_27 dX0_nextOfWalk_44 rfl rfl hkp' ?_
          rw [hp1']
          refine WP_ifnull 58 dX0_nextOfWalk_47 (by decide) (fun h3 => ?_) (fun p9 h3 => ?_)
          · refine WP_aload_n dX0_nextOfWalk_58 rfl ?_
            refine gf_RX0_16 dX0_nextOfWalk_59 rfl rfl hka ?_
            rw [hz2']
            refine WP_astore_n dX0_nextOfWalk_62 (by decide) rfl ?_
            refine WP_goto 26 dX0_nextOfWalk_63 (by decide) ?_
            refine WP_lv [(0, vr (some th)), (1, vr (some xa))] (List.forall_mem_cons.mpr ⟨rfl, List.forall_mem_cons.mpr ⟨rfl, fun _ h9 => absurd h9 List.not_mem_nil⟩⟩) ?_
            refine ih xa xi xv (nd a i v l r) d hn hc ?_
            have e : nxA ((true, (xa, xi, xv), d) :: fs) = nxA fs := by
              show (match rk kA d with | some q => some q | none => nxA fs) = nxA fs
              rw [h3]
            rw [e] at hQ
            exact hQ
          · refine WP_aload_n dX0_nextOfWalk_50 rfl ?_
            refine gf_RX0_16 dX0_nextOfWalk_51 rfl rfl hka ?_
            rw [hz2']
            refine gf_RX0_27 dX0_nextOfWalk_54 rfl rfl hkp' ?_
            rw [hp1', h3]
            refine WP_areturn dX0_nextOfWalk_57 rfl (Nat.le_of_ble_eq_true rfl) (Nat.le_of_ble_eq_true rfl) ?_
            have e : nxA ((true, (xa, xi, xv), d) :: fs) = some p9 := by
              show (match rk kA d with | some q => some q | none => nxA fs) = some p9
              rw [h3]
            rw [e] at hQ
            exact hQ
theorem c_nextOfWalk (a i : Nat) (v : Int32) (l r : Tr) (fs : List Fr) (hn : (kl kA (plug fs (nd a i v l r))).Nodup) (hc : cT L K Rc Ic (plug fs (nd a i v l r))) :
    MT G mX0_nextOfWalk [vr (some a)] (mkS L K AN R0 Rc Ic AIc AR Im AIm AL) (rR (fun x S' => x = nx l ((true, (a, i, v), r) :: fs) ∧ S' = mkS L K AN R0 Rc Ic AIc AR Im AIm AL)) := by
  obtain ⟨hka, hz0, hz1, hz2, -, -⟩ := cz hc
  have hka : isK (mkS L K AN R0 Rc Ic AIc AR Im AIm AL) 0 a := hka
  refine MT_of (by decide) rfl (Nat.le_of_ble_eq_true rfl) ?_
  refine WP_aload_n dX0_nextOfWalk_0 rfl ?_
  refine gf_RX0_20 dX0_nextOfWalk_1 rfl rfl hka ?_
  rw [hz0]
  refine WP_ifnull 12 dX0_nextOfWalk_4 (by decide) (fun h1 => ?_) (fun p9 h1 => ?_)
  · refine WP_aload_n dX0_nextOfWalk_12 rfl ?_
    refine gf_RX0_27 dX0_nextOfWalk_13 rfl rfl hka ?_
    rw [hz1]
    refine WP_ifnull 24 dX0_nextOfWalk_16 (by decide) (fun h2 => ?_) (fun p9 h2 => ?_)
    · refine WP_aload_n dX0_nextOfWalk_24 rfl ?_
      refine WP_astore_n dX0_nextOfWalk_25 (by decide) rfl ?_
      refine WP_lv [(0, vr (some a)), (1, vr (some a))] (List.forall_mem_cons.mpr ⟨rfl, List.forall_mem_cons.mpr ⟨rfl, fun _ h9 => absurd h9 List.not_mem_nil⟩⟩) ?_
      refine next_loop a fs a i v l r hn hc ⟨_, rfl, ?_, rfl⟩
      show nxA fs = (match rk kA l with | some q => some q | none => (match rk kA r with | some q => some q | none => nxA fs))
      rw [h1, h2]
    · refine WP_aload_n dX0_nextOfWalk_19 rfl ?_
      refine gf_RX0_27 dX0_nextOfWalk_20 rfl rfl hka ?_
      rw [hz1]
      refine WP_areturn dX0_nextOfWalk_23 rfl (Nat.le_of_ble_eq_true rfl) (Nat.le_of_ble_eq_true rfl) ?_
      refine ⟨_, rfl, ?_, rfl⟩
      show rk kA r = (match rk kA l with | some q => some q | none => (match rk kA r with | some q => some q | none => nxA fs))
      rw [h1, h2]
  · refine WP_aload_n dX0_nextOfWalk_7 rfl ?_
    refine gf_RX0_20 dX0_nextOfWalk_8 rfl rfl hka ?_
    rw [hz0]
    refine WP_areturn dX0_nextOfWalk_11 rfl (Nat.le_of_ble_eq_true rfl) (Nat.le_of_ble_eq_true rfl) ?_
    refine ⟨_, rfl, ?_, rfl⟩
    show rk kA l = (match rk kA l with | some q => some q | none => (match rk kA r with | some q => some q | none => nxA fs))
    rw [h1]
theorem nI_le0 {m : Nat} (h : 0 < m) (h2 : m < 2 ^ 31) : ¬ nI m ≤ 0 := nI_nle h h2
theorem nI_m1 {m : Nat} (h : 0 < m) : nI m + Int32.ofInt (-1) = nI (m - 1) := by
  obtain ⟨q, rfl⟩ : ∃ q, m = q + 1 := ⟨m - 1, by omega⟩
  exact pk_m1 q
theorem tot_loop {Q : RS → SS → Prop} (T : Nat) : ∀ (t : Tr) (fs : List Fr) (x : Int32) (m : Nat), (kl kA (plug fs t)).Nodup → cT L K Rc Ic (plug fs t) → tsz t ≤ m → m < 2 ^ 31 →
    WP G mX3_total Q 0 0 12 [(0, vr (some T)), (1, vi (x + smT t)), (2, vr (nxA fs)), (3, vi (nI (m - tsz t)))] [] (mkS L K AN R0 Rc Ic AIc AR Im AIm AL) →
    WP G mX3_total Q 0 0 12 [(0, vr (some T)), (1, vi x), (2, vr (nx t fs)), (3, vi (nI m))] [] (mkS L K AN R0 Rc Ic AIc AR Im AIm AL) := by
  intro t
  induction t with
  | leaf =>
    intro fs x m hn hc hm hm2 kk
    rw [show x + smT .leaf = x from Int32.add_zero x] at kk
    exact kk
  | inner a i v l r ihl ihr =>
    intro fs x m hn hc hm hm2 kk
    have hm : tsz l + 1 + tsz r ≤ m := hm
    obtain ⟨hka, hz0, hz1, hz2, hz3, hz4⟩ := cz (a := a) (i := i) (v := v) (l := l) (r := r) hc
    have hka : isK (mkS L K AN R0 Rc Ic AIc AR Im AIm AL) 0 a := hka
    refine WP_iload_n dX3_total_12 rfl ?_
    refine WP_if_le 38 dX3_total_13 (by decide) (fun h1 => ?_) (fun h1 => ?_)
    · exact absurd h1 (nI_le0 (by omega) hm2)
    · refine WP_aload_n dX3_total_16 rfl ?_
      refine WP_ifnull 38 dX3_total_17 (by decide) (fun h2 => ?_) (fun p9 h2 => ?_)
      · cases h2
      · cases h2
        refine WP_iload_n dX3_total_20 rfl ?_
        refine WP_aload_n dX3_total_21 rfl ?_
        refine gf_RX3_39 dX3_total_22 rfl rfl hka ?_
        refine WP_iadd dX3_total_25 ?_
        rw [hz4]
        refine WP_istore_n dX3_total_26 (by decide) rfl ?_
        refine WP_aload_n dX3_total_27 rfl ?_
        refine callVr mX0_nextOfWalk [] dX3_total_28 okc_X0_nextOfWalk ok_357 ⟨by decide, by decide⟩ rfl rfl hka rfl (Nat.le_of_ble_eq_true rfl) (Nat.le_of_ble_eq_true rfl) (Nat.le_of_ble_eq_true rfl) (c_nextOfWalk a i v l r fs hn hc) (fun o1 S1 h3 => ?_)
        obtain ⟨rfl, rfl⟩ := h3
        refine WP_astore_n dX3_total_31 (by decide) rfl ?_
        refine WP_iinc (nI (m - 1)) dX3_total_32 rfl (nI_m1 (by omega)) (by decide) rfl ?_
        refine WP_goto 12 dX3_total_35 (by decide) ?_
        refine WP_lv [(0, vr (some T)), (1, vi (x + v)), (2, vr (nx l ((true, (a, i, v), r) :: fs))), (3, vi (nI (m - 1)))] (List.forall_mem_cons.mpr ⟨rfl, List.forall_mem_cons.mpr ⟨rfl, List.forall_mem_cons.mpr ⟨rfl, List.forall_mem_cons.mpr ⟨rfl, fun _ h9 => absurd h9 List.not_mem_nil⟩⟩⟩⟩) ?_
        refine ihl ((true, (a, i, v), r) :: fs) (x + v) (m - 1) hn hc (by omega) (by omega) ?_
        rw [nx_T _ l]
        refine ihr ((false, (a, i, v), l) :: fs) _ _ hn hc (by omega) (by omega) ?_
        rw [show x + smT (.inner a i v l r) = x + v + smT l + smT r from by show x + (v + smT l + smT r) = _; rw [← Int32.add_assoc, ← Int32.add_assoc], show m - tsz (Std.DTreeMap.Internal.Impl.inner a i v l r) = m - 1 - tsz l - tsz r from by show m - (tsz l + 1 + tsz r) = _; omega] at kk
        exact kk
theorem c_total (T : Nat) (t : Tr) (hT : isK (mkS L K AN R0 Rc Ic AIc AR Im AIm AL) 3 T) (hr : Rc 3 T = rk kA t) (hs : tsz t ≤ 60) (hn : (kl kA t).Nodup) (hc : cT L K Rc Ic t) :
    MT G mX3_total [vr (some T)] (mkS L K AN R0 Rc Ic AIc AR Im AIm AL) (rI (fun x S' => x = smT t ∧ S' = mkS L K AN R0 Rc Ic AIc AR Im AIm AL)) := by
  refine MT_of (by decide) rfl (Nat.le_of_ble_eq_true rfl) ?_
  refine WP_iconst (0) dX3_total_0 (by decide) ?_
  refine WP_istore_n dX3_total_1 (by decide) rfl ?_
  refine WP_aload_n dX3_total_2 rfl ?_
  refine gf_RX3_7 dX3_total_3 rfl rfl hT ?_
  rw [hr]
  refine WP_astore_n dX3_total_6 (by decide) rfl ?_
  refine WP_aload_n dX3_total_7 rfl ?_
  refine callVi mX3_count [] dX3_total_8 okc_X3_count ok_352 ⟨by decide, by decide⟩ rfl rfl hT rfl (Nat.le_of_ble_eq_true rfl) (Nat.le_of_ble_eq_true rfl) (Nat.le_of_ble_eq_true rfl) (c_count T t hT hr hc) (fun x1 S1 h1 => ?_)
  obtain ⟨rfl, rfl⟩ := h1
  refine WP_istore_n dX3_total_11 (by decide) rfl ?_
  refine WP_lv [(0, vr (some T)), (1, vi 0), (2, vr (rk kA t)), (3, vi (nI (tsz t)))] (List.forall_mem_cons.mpr ⟨rfl, List.forall_mem_cons.mpr ⟨rfl, List.forall_mem_cons.mpr ⟨rfl, List.forall_mem_cons.mpr ⟨rfl, fun _ h9 => absurd h9 List.not_mem_nil⟩⟩⟩⟩) ?_
  have e : rk kA t = nx t [] := by cases t <;> rfl
  rw [e]
  refine tot_loop T t [] 0 (tsz t) hn hc (Nat.le_refl _) (by omega) ?_
  rw [Nat.sub_self]
  refine WP_iload_n dX3_total_12 rfl ?_
  refine WP_if_le 38 dX3_total_13 (by decide) (fun h1 => ?_) (fun h1 => ?_)
  · refine WP_iload_n dX3_total_38 rfl ?_
    refine WP_ireturn dX3_total_39 rfl rfl (Nat.le_of_ble_eq_true rfl) (Nat.le_of_ble_eq_true rfl) ?_
    exact ⟨_, rfl, Int32.zero_add _, rfl⟩
  · exact absurd (show nI 0 ≤ 0 by decide) h1
theorem low_loop {Q : RS → SS → Prop} (T : Nat) : ∀ (t : Tr) (fs : List Fr) (x : Int32) (m : Nat), (kl kA (plug fs t)).Nodup → cT L K Rc Ic (plug fs t) → tsz t ≤ m → m < 2 ^ 31 →
    WP G mX3_lowest Q 0 0 29 [(0, vr (some T)), (1, vi (mnT t x)), (2, vr (nxA fs)), (3, vi (nI (m - tsz t)))] [] (mkS L K AN R0 Rc Ic AIc AR Im AIm AL) →
    WP G mX3_lowest Q 0 0 29 [(0, vr (some T)), (1, vi x), (2, vr (nx t fs)), (3, vi (nI m))] [] (mkS L K AN R0 Rc Ic AIc AR Im AIm AL) := by
  intro t
  induction t with
  | leaf => intro fs x m hn hc hm hm2 kk; exact kk
  | inner a i v l r ihl ihr =>
    intro fs x m hn hc hm hm2 kk
    have hm : tsz l + 1 + tsz r ≤ m := hm
    obtain ⟨hka, hz0, hz1, hz2, hz3, hz4⟩ := cz (a := a) (i := i) (v := v) (l := l) (r := r) hc
    have hka : isK (mkS L K AN R0 Rc Ic AIc AR Im AIm AL) 0 a := hka
    refine WP_iload_n dX3_lowest_29 rfl ?_
    refine WP_if_le 57 dX3_lowest_30 (by decide) (fun h1 => ?_) (fun h1 => ?_)
    · exact absurd h1 (nI_le0 (by omega) hm2)
    · refine WP_aload_n dX3_lowest_33 rfl ?_
      refine WP_ifnull 57 dX3_lowest_34 (by decide) (fun h2 => ?_) (fun p9 h2 => ?_)
      · cases h2
      · cases h2
        refine WP_iload_n dX3_lowest_37 rfl ?_
        refine WP_aload_n dX3_lowest_38 rfl ?_
        refine gf_RX3_39 dX3_lowest_39 rfl rfl hka ?_
        rw [hz4]
        refine WP_min dX3_lowest_42 ok_412 (by decide) (Nat.le_of_ble_eq_true rfl) (Nat.le_refl _) (Nat.le_refl _) ?_
        refine WP_istore_n dX3_lowest_45 (by decide) rfl ?_
        refine WP_aload_n dX3_lowest_46 rfl ?_
        refine callVr mX0_nextOfWalk [] dX3_lowest_47 okc_X0_nextOfWalk ok_357 ⟨by decide, by decide⟩ rfl rfl hka rfl (Nat.le_of_ble_eq_true rfl) (Nat.le_of_ble_eq_true rfl) (Nat.le_of_ble_eq_true rfl) (c_nextOfWalk a i v l r fs hn hc) (fun o1 S1 h3 => ?_)
        obtain ⟨rfl, rfl⟩ := h3
        refine WP_astore_n dX3_lowest_50 (by decide) rfl ?_
        refine WP_iinc (nI (m - 1)) dX3_lowest_51 rfl (nI_m1 (by omega)) (by decide) rfl ?_
        refine WP_goto 29 dX3_lowest_54 (by decide) ?_
        refine WP_lv [(0, vr (some T)), (1, vi (if v < x then v else x)), (2, vr (nx l ((true, (a, i, v), r) :: fs))), (3, vi (nI (m - 1)))] (List.forall_mem_cons.mpr ⟨rfl, List.forall_mem_cons.mpr ⟨rfl, List.forall_mem_cons.mpr ⟨rfl, List.forall_mem_cons.mpr ⟨rfl, fun _ h9 => absurd h9 List.not_mem_nil⟩⟩⟩⟩) ?_
        refine ihl ((true, (a, i, v), r) :: fs) _ (m - 1) hn hc (by omega) (by omega) ?_
        rw [nx_T _ l]
        refine ihr ((false, (a, i, v), l) :: fs) _ _ hn hc (by omega) (by omega) ?_
        rw [show m - tsz (Std.DTreeMap.Internal.Impl.inner a i v l r) = m - 1 - tsz l - tsz r from by show m - (tsz l + 1 + tsz r) = _; omega] at kk
        exact kk
theorem c_lowest (T a i : Nat) (v : Int32) (l r : Tr) (hT : isK (mkS L K AN R0 Rc Ic AIc AR Im AIm AL) 3 T) (hr : Rc 3 T = some a) (hs : tsz (nd a i v l r) ≤ 60) (hn : (kl kA (nd a i v l r)).Nodup) (hc : cT L K Rc Ic (nd a i v l r)) :
    MT G mX3_lowest [vr (some T)] (mkS L K AN R0 Rc Ic AIc AR Im AIm AL) (rI (fun x S' => x = mnT (nd a i v l r) v ∧ S' = mkS L K AN R0 Rc Ic AIc AR Im AIm AL)) := by
  obtain ⟨hka, -, -, -, -, hz4⟩ := cz (fs := []) hc
  have hka : isK (mkS L K AN R0 Rc Ic AIc AR Im AIm AL) 0 a := hka
  refine MT_of (by decide) rfl (Nat.le_of_ble_eq_true rfl) ?_
  refine WP_aload_n dX3_lowest_0 rfl ?_
  refine gf_RX3_7 dX3_lowest_1 rfl rfl hT ?_
  rw [hr]
  refine WP_ifnonnull 11 dX3_lowest_4 (by decide) (fun p9 h1 => ?_) (fun h1 => ?_)
  · cases h1
    refine WP_aload_n dX3_lowest_11 rfl ?_
    refine gf_RX3_7 dX3_lowest_12 rfl rfl hT ?_
    rw [hr]
    refine gf_RX3_39 dX3_lowest_15 rfl rfl hka ?_
    rw [hz4]
    refine WP_istore_n dX3_lowest_18 (by decide) rfl ?_
    refine WP_aload_n dX3_lowest_19 rfl ?_
    refine gf_RX3_7 dX3_lowest_20 rfl rfl hT ?_
    rw [hr]
    refine WP_astore_n dX3_lowest_23 (by decide) rfl ?_
    refine WP_aload_n dX3_lowest_24 rfl ?_
    refine callVi mX3_count [] dX3_lowest_25 okc_X3_count ok_352 ⟨by decide, by decide⟩ rfl rfl hT rfl (Nat.le_of_ble_eq_true rfl) (Nat.le_of_ble_eq_true rfl) (Nat.le_of_ble_eq_true rfl) (c_count T (nd a i v l r) hT hr hc) (fun x1 S1 h1 => ?_)
    obtain ⟨rfl, rfl⟩ := h1
    refine WP_istore_n dX3_lowest_28 (by decide) rfl ?_
    refine WP_lv [(0, vr (some T)), (1, vi v), (2, vr (nx (nd a i v l r) [])), (3, vi (nI (tsz (nd a i v l r))))] (List.forall_mem_cons.mpr ⟨rfl, List.forall_mem_cons.mpr ⟨rfl, List.forall_mem_cons.mpr ⟨rfl, List.forall_mem_cons.mpr ⟨rfl, fun _ h9 => absurd h9 List.not_mem_nil⟩⟩⟩⟩) ?_
    refine low_loop T (nd a i v l r) [] v (tsz (nd a i v l r)) hn hc (Nat.le_refl _) (by omega) ?_
    rw [Nat.sub_self]
    refine WP_iload_n dX3_lowest_29 rfl ?_
    refine WP_if_le 57 dX3_lowest_30 (by decide) (fun h1 => ?_) (fun h1 => ?_)
    · refine WP_iload_n dX3_lowest_57 rfl ?_
      refine WP_ireturn dX3_lowest_58 rfl rfl (Nat.le_of_ble_eq_true rfl) (Nat.le_of_ble_eq_true rfl) ?_
      exact ⟨_, rfl, rfl, rfl⟩
    · exact absurd (show nI 0 ≤ 0 by decide) h1
  · cases h1
theorem rank_loop {Q : RS → SS → Prop} (n0 : Int32) : ∀ (b s r : Nat), s < 2 ^ 31 → 1 ≤ s → s ≤ b → Q (.inl (some (vi (nI (r + Nat.log2 s))))) (mkS L K AN R0 Rc Ic AIc AR Im AIm AL) →
    WP G mX3_rankOf Q 0 0 4 [(0, vi n0), (1, vi (nI r)), (2, vi (nI s))] [] (mkS L K AN R0 Rc Ic AIc AR Im AIm AL) := by
  intro b
  induction b with
  | zero => intro s r h1 h2 h3; omega
  | succ b ih =>
    intro s r h1 h2 h3 hQ
    refine WP_iload_n dX3_rankOf_4 rfl ?_
    refine WP_iconst (1) dX3_rankOf_5 (by decide) ?_
    refine WP_icmp_le 19 dX3_rankOf_6 (by decide) (fun hb => ?_) (fun hb => ?_)
    · have hs : s = 1 := by
        have hb : nI s ≤ nI 1 := hb
        have := (nI_leI h1 (by decide)).mp hb
        omega
      subst hs
      refine WP_iload_n dX3_rankOf_19 rfl ?_
      refine WP_ireturn dX3_rankOf_20 rfl rfl (Nat.le_of_ble_eq_true rfl) (Nat.le_of_ble_eq_true rfl) ?_
      rw [show Nat.log2 1 = 0 by decide +kernel] at hQ
      exact hQ
    · have hs : 2 ≤ s := by
        have hb : ¬ nI s ≤ nI 1 := hb
        by_cases e : s ≤ 1
        · exact absurd ((nI_leI h1 (by decide)).mpr e) hb
        · omega
      refine WP_iinc (nI (r + 1)) dX3_rankOf_9 rfl (nI_1 r) (by decide) rfl ?_
      refine WP_iload_n dX3_rankOf_12 rfl ?_
      refine WP_iconst (1) dX3_rankOf_13 (by decide) ?_
      refine WP_ishr (nI (s / 2)) dX3_rankOf_14 (pk_shrN h1 _ 1 (by decide +kernel)) ?_
      refine WP_istore_n dX3_rankOf_15 (by decide) rfl ?_
      refine WP_goto 4 dX3_rankOf_16 (by decide) ?_
      refine WP_lv [(0, vi n0), (1, vi (nI (r + 1))), (2, vi (nI (s / 2)))] (List.forall_mem_cons.mpr ⟨rfl, List.forall_mem_cons.mpr ⟨rfl, List.forall_mem_cons.mpr ⟨rfl, fun _ h9 => absurd h9 List.not_mem_nil⟩⟩⟩) ?_
      refine ih (s / 2) (r + 1) (by omega) (by omega) (by omega) ?_
      rw [Nat.log2_def, if_pos hs] at hQ
      rw [show r + 1 + (s / 2).log2 = r + ((s / 2).log2 + 1) by omega]
      exact hQ
theorem c_rankOf (s : Nat) (h1 : s < 2 ^ 31) (h2 : 1 ≤ s) :
    MT G mX3_rankOf [vi (nI s)] (mkS L K AN R0 Rc Ic AIc AR Im AIm AL) (rI (fun x S' => x = nI (Nat.log2 s) ∧ S' = mkS L K AN R0 Rc Ic AIc AR Im AIm AL)) := by
  refine MT_of (by decide) rfl (Nat.le_of_ble_eq_true rfl) ?_
  refine WP_iconst (0) dX3_rankOf_0 (by decide) ?_
  refine WP_istore_n dX3_rankOf_1 (by decide) rfl ?_
  refine WP_iload_n dX3_rankOf_2 rfl ?_
  refine WP_istore_n dX3_rankOf_3 (by decide) rfl ?_
  refine WP_lv [(0, vi (nI s)), (1, vi (nI 0)), (2, vi (nI s))] (List.forall_mem_cons.mpr ⟨rfl, List.forall_mem_cons.mpr ⟨rfl, List.forall_mem_cons.mpr ⟨rfl, fun _ h9 => absurd h9 List.not_mem_nil⟩⟩⟩) ?_
  refine rank_loop (nI s) s s 0 h1 h2 (Nat.le_refl _) ⟨_, rfl, ?_, rfl⟩
  rw [Nat.zero_add]
theorem rks_loop {Q : RS → SS → Prop} (T : Nat) : ∀ (t : Tr) (fs : List Fr) (x m : Nat), (kl kA (plug fs t)).Nodup → cT L K Rc Ic (plug fs t) → tsz t ≤ m → m < 2 ^ 31 →
    WP G mX3_sumOfRanks Q 0 0 12 [(0, vr (some T)), (1, vi (nI (x + rkS t))), (2, vr (nxA fs)), (3, vi (nI (m - tsz t)))] [] (mkS L K AN R0 Rc Ic AIc AR Im AIm AL) →
    WP G mX3_sumOfRanks Q 0 0 12 [(0, vr (some T)), (1, vi (nI x)), (2, vr (nx t fs)), (3, vi (nI m))] [] (mkS L K AN R0 Rc Ic AIc AR Im AIm AL) := by
  intro t
  induction t with
  | leaf => intro fs x m hn hc hm hm2 kk; exact kk
  | inner a i v l r ihl ihr =>
    intro fs x m hn hc hm hm2 kk
    have hm : tsz l + 1 + tsz r ≤ m := hm
    obtain ⟨hka, hz0, hz1, hz2, hz3, hz4⟩ := cz (a := a) (i := i) (v := v) (l := l) (r := r) hc
    have hka : isK (mkS L K AN R0 Rc Ic AIc AR Im AIm AL) 0 a := hka
    refine WP_iload_n dX3_sumOfRanks_12 rfl ?_
    refine WP_if_le 41 dX3_sumOfRanks_13 (by decide) (fun h1 => ?_) (fun h1 => ?_)
    · exact absurd h1 (nI_le0 (by omega) hm2)
    · refine WP_aload_n dX3_sumOfRanks_16 rfl ?_
      refine WP_ifnull 41 dX3_sumOfRanks_17 (by decide) (fun h2 => ?_) (fun p9 h2 => ?_)
      · cases h2
      · cases h2
        refine WP_iload_n dX3_sumOfRanks_20 rfl ?_
        refine WP_aload_n dX3_sumOfRanks_21 rfl ?_
        refine gf_RX3_49 dX3_sumOfRanks_22 rfl rfl hka ?_
        rw [hz3]
        refine callSi mX3_rankOf [_] dX3_sumOfRanks_25 okc_X3_rankOf ok_614 ⟨by decide, by decide⟩ rfl rfl (Nat.le_of_ble_eq_true rfl) (Nat.le_of_ble_eq_true rfl) (Nat.le_of_ble_eq_true rfl) (c_rankOf (tsz l + 1 + tsz r) (by omega) (by omega)) rfl (fun x1 S1 h3 => ?_)
        obtain ⟨rfl, rfl⟩ := h3
        refine WP_iadd dX3_sumOfRanks_28 ?_
        rw [nI_add]
        refine WP_istore_n dX3_sumOfRanks_29 (by decide) rfl ?_
        refine WP_aload_n dX3_sumOfRanks_30 rfl ?_
        refine callVr mX0_nextOfWalk [] dX3_sumOfRanks_31 okc_X0_nextOfWalk ok_357 ⟨by decide, by decide⟩ rfl rfl hka rfl (Nat.le_of_ble_eq_true rfl) (Nat.le_of_ble_eq_true rfl) (Nat.le_of_ble_eq_true rfl) (c_nextOfWalk a i v l r fs hn hc) (fun o1 S1 h3 => ?_)
        obtain ⟨rfl, rfl⟩ := h3
        refine WP_astore_n dX3_sumOfRanks_34 (by decide) rfl ?_
        refine WP_iinc (nI (m - 1)) dX3_sumOfRanks_35 rfl (nI_m1 (by omega)) (by decide) rfl ?_
        refine WP_goto 12 dX3_sumOfRanks_38 (by decide) ?_
        refine WP_lv [(0, vr (some T)), (1, vi (nI (x + Nat.log2 (tsz l + 1 + tsz r)))), (2, vr (nx l ((true, (a, i, v), r) :: fs))), (3, vi (nI (m - 1)))] (List.forall_mem_cons.mpr ⟨rfl, List.forall_mem_cons.mpr ⟨rfl, List.forall_mem_cons.mpr ⟨rfl, List.forall_mem_cons.mpr ⟨rfl, fun _ h9 => absurd h9 List.not_mem_nil⟩⟩⟩⟩) ?_
        refine ihl ((true, (a, i, v), r) :: fs) _ (m - 1) hn hc (by omega) (by omega) ?_
        rw [nx_T _ l]
        refine ihr ((false, (a, i, v), l) :: fs) _ _ hn hc (by omega) (by omega) ?_
        rw [show x + rkS (.inner a i v l r) = x + Nat.log2 (tsz l + 1 + tsz r) + rkS l + rkS r from by show x + (Nat.log2 (tsz l + 1 + tsz r) + rkS l + rkS r) = _; omega, show m - tsz (Std.DTreeMap.Internal.Impl.inner a i v l r) = m - 1 - tsz l - tsz r from by show m - (tsz l + 1 + tsz r) = _; omega] at kk
        exact kk
theorem c_sumOfRanks (T : Nat) (t : Tr) (hT : isK (mkS L K AN R0 Rc Ic AIc AR Im AIm AL) 3 T) (hr : Rc 3 T = rk kA t) (hs : tsz t ≤ 60) (hn : (kl kA t).Nodup) (hc : cT L K Rc Ic t) :
    MT G mX3_sumOfRanks [vr (some T)] (mkS L K AN R0 Rc Ic AIc AR Im AIm AL) (rI (fun x S' => x = nI (rkS t) ∧ S' = mkS L K AN R0 Rc Ic AIc AR Im AIm AL)) := by
  refine MT_of (by decide) rfl (Nat.le_of_ble_eq_true rfl) ?_
  refine WP_iconst (0) dX3_sumOfRanks_0 (by decide) ?_
  refine WP_istore_n dX3_sumOfRanks_1 (by decide) rfl ?_
  refine WP_aload_n dX3_sumOfRanks_2 rfl ?_
  refine gf_RX3_7 dX3_sumOfRanks_3 rfl rfl hT ?_
  rw [hr]
  refine WP_astore_n dX3_sumOfRanks_6 (by decide) rfl ?_
  refine WP_aload_n dX3_sumOfRanks_7 rfl ?_
  refine callVi mX3_count [] dX3_sumOfRanks_8 okc_X3_count ok_352 ⟨by decide, by decide⟩ rfl rfl hT rfl (Nat.le_of_ble_eq_true rfl) (Nat.le_of_ble_eq_true rfl) (Nat.le_of_ble_eq_true rfl) (c_count T t hT hr hc) (fun x1 S1 h1 => ?_)
  obtain ⟨rfl, rfl⟩ := h1
  refine WP_istore_n dX3_sumOfRanks_11 (by decide) rfl ?_
  refine WP_lv [(0, vr (some T)), (1, vi (nI 0)), (2, vr (rk kA t)), (3, vi (nI (tsz t)))] (List.forall_mem_cons.mpr ⟨rfl, List.forall_mem_cons.mpr ⟨rfl, List.forall_mem_cons.mpr ⟨rfl, List.forall_mem_cons.mpr ⟨rfl, fun _ h9 => absurd h9 List.not_mem_nil⟩⟩⟩⟩) ?_
  have e : rk kA t = nx t [] := by cases t <;> rfl
  rw [e]
  refine rks_loop T t [] 0 (tsz t) hn hc (Nat.le_refl _) (by omega) ?_
  rw [Nat.sub_self]
  refine WP_iload_n dX3_sumOfRanks_12 rfl ?_
  refine WP_if_le 41 dX3_sumOfRanks_13 (by decide) (fun h1 => ?_) (fun h1 => ?_)
  · refine WP_iload_n dX3_sumOfRanks_41 rfl ?_
    refine WP_ireturn dX3_sumOfRanks_42 rfl rfl (Nat.le_of_ble_eq_true rfl) (Nat.le_of_ble_eq_true rfl) ?_
    exact ⟨_, rfl, by rw [Nat.zero_add], rfl⟩
  · exact absurd (show nI 0 ≤ 0 by decide) h1
theorem lev_loop {Q : RS → SS → Prop} (T : Nat) : ∀ (t : Tr) (fs : List Fr) (x m : Nat), (kl kA (plug fs t)).Nodup → cT L K Rc Ic (plug fs t) → tsz t ≤ m → m < 2 ^ 31 → x ≤ 60 → tsz (plug fs t) ≤ 60 →
    (lvT t fs.length x ≤ 60 → WP G mX3_levels Q 0 0 12 [(0, vr (some T)), (1, vi (nI (lvT t fs.length x))), (2, vr (nxA fs)), (3, vi (nI (m - tsz t)))] [] (mkS L K AN R0 Rc Ic AIc AR Im AIm AL)) →
    WP G mX3_levels Q 0 0 12 [(0, vr (some T)), (1, vi (nI x)), (2, vr (nx t fs)), (3, vi (nI m))] [] (mkS L K AN R0 Rc Ic AIc AR Im AIm AL) := by
  intro t
  induction t with
  | leaf => intro fs x m hn hc hm hm2 hx hs kk; exact kk hx
  | inner a i v l r ihl ihr =>
    intro fs x m hn hc hm hm2 hx hs kk
    have hm : tsz l + 1 + tsz r ≤ m := hm
    have hfl : fs.length + 1 ≤ 60 := by
      have h9 := plug_len fs (nd a i v l r)
      have h8 : fs.length + (tsz l + 1 + tsz r) ≤ tsz (plug fs (nd a i v l r)) := h9
      have h7 : tsz (plug fs (nd a i v l r)) ≤ 60 := hs
      omega
    obtain ⟨hka, hz0, hz1, hz2, hz3, hz4⟩ := cz (a := a) (i := i) (v := v) (l := l) (r := r) hc
    have hka : isK (mkS L K AN R0 Rc Ic AIc AR Im AIm AL) 0 a := hka
    refine WP_iload_n dX3_levels_12 rfl ?_
    refine WP_if_le 42 dX3_levels_13 (by decide) (fun h1 => ?_) (fun h1 => ?_)
    · exact absurd h1 (nI_le0 (by omega) hm2)
    · refine WP_aload_n dX3_levels_16 rfl ?_
      refine WP_ifnull 42 dX3_levels_17 (by decide) (fun h2 => ?_) (fun p9 h2 => ?_)
      · cases h2
      · cases h2
        refine WP_iload_n dX3_levels_20 rfl ?_
        refine WP_aload_n dX3_levels_21 rfl ?_
        refine callVi mX0_nodesAbove [] dX3_levels_22 okc_X0_nodesAbove ok_590 ⟨by decide, by decide⟩ rfl rfl hka rfl (Nat.le_of_ble_eq_true rfl) (Nat.le_of_ble_eq_true rfl) (Nat.le_of_ble_eq_true rfl) (c_nodesAbove a i v l r fs hc) (fun x1 S1 h3 => ?_)
        obtain ⟨rfl, rfl⟩ := h3
        refine WP_iconst (1) dX3_levels_25 (by decide) ?_
        refine WP_iadd dX3_levels_26 ?_
        refine WP_max dX3_levels_27 ok_591 (by decide) (Nat.le_of_ble_eq_true rfl) (Nat.le_refl _) (Nat.le_refl _) ?_
        have em : (if nI x < nI fs.length + 1 then nI fs.length + 1 else nI x) = nI (max x (fs.length + 1)) := by
          rw [nI_1]
          by_cases h9 : x < fs.length + 1
          · rw [if_pos (nI_lt h9 (by omega)), Nat.max_eq_right (by omega)]
          · rw [if_neg (nI_nlt (by omega) (by omega)), Nat.max_eq_left (by omega)]
        rw [em]
        refine WP_istore_n dX3_levels_30 (by decide) rfl ?_
        refine WP_aload_n dX3_levels_31 rfl ?_
        refine callVr mX0_nextOfWalk [] dX3_levels_32 okc_X0_nextOfWalk ok_357 ⟨by decide, by decide⟩ rfl rfl hka rfl (Nat.le_of_ble_eq_true rfl) (Nat.le_of_ble_eq_true rfl) (Nat.le_of_ble_eq_true rfl) (c_nextOfWalk a i v l r fs hn hc) (fun o1 S1 h3 => ?_)
        obtain ⟨rfl, rfl⟩ := h3
        refine WP_astore_n dX3_levels_35 (by decide) rfl ?_
        refine WP_iinc (nI (m - 1)) dX3_levels_36 rfl (nI_m1 (by omega)) (by decide) rfl ?_
        refine WP_goto 12 dX3_levels_39 (by decide) ?_
        refine WP_lv [(0, vr (some T)), (1, vi (nI (max x (fs.length + 1)))), (2, vr (nx l ((true, (a, i, v), r) :: fs))), (3, vi (nI (m - 1)))] (List.forall_mem_cons.mpr ⟨rfl, List.forall_mem_cons.mpr ⟨rfl, List.forall_mem_cons.mpr ⟨rfl, List.forall_mem_cons.mpr ⟨rfl, fun _ h9 => absurd h9 List.not_mem_nil⟩⟩⟩⟩) ?_
        refine ihl ((true, (a, i, v), r) :: fs) _ (m - 1) hn hc (by omega) (by omega) (by omega) hs (fun h8 => ?_)
        rw [nx_T _ l]
        refine ihr ((false, (a, i, v), l) :: fs) _ _ hn hc (by omega) (by omega) h8 hs (fun h7 => ?_)
        rw [show m - tsz (Std.DTreeMap.Internal.Impl.inner a i v l r) = m - 1 - tsz l - tsz r from by show m - (tsz l + 1 + tsz r) = _; omega] at kk
        exact kk h7
theorem c_levels (T : Nat) (t : Tr) (hT : isK (mkS L K AN R0 Rc Ic AIc AR Im AIm AL) 3 T) (hr : Rc 3 T = rk kA t) (hs : tsz t ≤ 60) (hn : (kl kA t).Nodup) (hc : cT L K Rc Ic t) :
    MT G mX3_levels [vr (some T)] (mkS L K AN R0 Rc Ic AIc AR Im AIm AL) (rI (fun x S' => x = nI (lvT t 0 0) ∧ S' = mkS L K AN R0 Rc Ic AIc AR Im AIm AL)) := by
  refine MT_of (by decide) rfl (Nat.le_of_ble_eq_true rfl) ?_
  refine WP_iconst (0) dX3_levels_0 (by decide) ?_
  refine WP_istore_n dX3_levels_1 (by decide) rfl ?_
  refine WP_aload_n dX3_levels_2 rfl ?_
  refine gf_RX3_7 dX3_levels_3 rfl rfl hT ?_
  rw [hr]
  refine WP_astore_n dX3_levels_6 (by decide) rfl ?_
  refine WP_aload_n dX3_levels_7 rfl ?_
  refine callVi mX3_count [] dX3_levels_8 okc_X3_count ok_352 ⟨by decide, by decide⟩ rfl rfl hT rfl (Nat.le_of_ble_eq_true rfl) (Nat.le_of_ble_eq_true rfl) (Nat.le_of_ble_eq_true rfl) (c_count T t hT hr hc) (fun x1 S1 h1 => ?_)
  obtain ⟨rfl, rfl⟩ := h1
  refine WP_istore_n dX3_levels_11 (by decide) rfl ?_
  refine WP_lv [(0, vr (some T)), (1, vi (nI 0)), (2, vr (rk kA t)), (3, vi (nI (tsz t)))] (List.forall_mem_cons.mpr ⟨rfl, List.forall_mem_cons.mpr ⟨rfl, List.forall_mem_cons.mpr ⟨rfl, List.forall_mem_cons.mpr ⟨rfl, fun _ h9 => absurd h9 List.not_mem_nil⟩⟩⟩⟩) ?_
  have e : rk kA t = nx t [] := by cases t <;> rfl
  rw [e]
  refine lev_loop T t [] 0 (tsz t) hn hc (Nat.le_refl _) (by omega) (by omega) hs (fun _ => ?_)
  rw [Nat.sub_self]
  refine WP_iload_n dX3_levels_12 rfl ?_
  refine WP_if_le 42 dX3_levels_13 (by decide) (fun h1 => ?_) (fun h1 => ?_)
  · refine WP_iload_n dX3_levels_42 rfl ?_
    refine WP_ireturn dX3_levels_43 rfl rfl (Nat.le_of_ble_eq_true rfl) (Nat.le_of_ble_eq_true rfl) ?_
    exact ⟨_, rfl, rfl, rfl⟩
  · exact absurd (show nI 0 ≤ 0 by decide) h1
end WLK
