/-! ===== SplaySequence$Splayer: rotate, splay ===== -/
section SPL
variable {G : GC} {L : List Nat} {K AN : Nat → Nat} {R0 Rc : Nat → Nat → Option Nat} {Ic AIc Im AIm : Nat → Nat → Int32} {AR : Nat → Nat → Option Nat} {AL : Nat → Nat → Int64}
def rfin (R2 : Nat → Nat → Option Nat) (a : Nat) (g : Option Nat) (hd : Int32) : Nat → Nat → Option Nat := match g with
  | none => u2 R2 2 a g
  | some y => if hd = 1 then u2 (u2 R2 2 a g) 0 y (some a) else u2 (u2 R2 2 a g) 1 y (some a)
theorem rtR_fin (lft : Bool) (Rc : Nat → Nat → Option Nat) (a p : Nat) (sub g : Option Nat) (hd : Int32) : rtR lft Rc a p sub g hd = rfin (tkR (if lft = true then 1 else 0) (tkR (if lft = true then 0 else 1) Rc p sub) a (some p)) a g hd := by
  cases g <;> rfl
theorem hd01_or (fs : List Fr) : hd01 fs = 0 ∨ hd01 fs = 1 := by
  unfold hd01
  split
  · exact Or.inr rfl
  · exact Or.inl rfl
theorem n3 (m n : Nat) : 1 + nI m + nI n = nI (m + 1 + n) := by
  rw [show (1 : Int32) = nI 1 from rfl, nI_add, nI_add]
  exact congrArg nI (by omega)
/-- the splayer's numbers: steps, rotations, splays that came -/
def cnts (I I' : Nat → Nat → Int32) (P s r m : Nat) : Prop := I' 3 P = I 3 P + nI s ∧ I' 4 P = I 4 P + nI r ∧ I' 5 P = I 5 P + nI s ∧ I' 6 P = I 6 P + nI m
theorem cnts_0 (I : Nat → Nat → Int32) (P : Nat) : cnts I I P 0 0 0 := by simp [cnts, nI_0]
theorem cnts_t {I I1 I2 : Nat → Nat → Int32} {P s r m s' r' m' : Nat} (h1 : cnts I I1 P s r m) (h2 : cnts I1 I2 P s' r' m') : cnts I I2 P (s + s') (r + r') (m + m') := by
  obtain ⟨a1, a2, a3, a4⟩ := h1
  obtain ⟨b1, b2, b3, b4⟩ := h2
  exact ⟨by rw [b1, a1, ← nI_add, Int32.add_assoc], by rw [b2, a2, ← nI_add, Int32.add_assoc], by rw [b3, a3, ← nI_add, Int32.add_assoc], by rw [b4, a4, ← nI_add, Int32.add_assoc]⟩
theorem rot_cnts (I : Nat → Nat → Int32) (P q1 q2 : Nat) (e1 e2 : Int32) : cnts I (u2 (u2 (u2 I 0 q1 e1) 0 q2 e2) 4 P (u2 (u2 I 0 q1 e1) 0 q2 e2 4 P + 1)) P 0 1 0 := by
  refine ⟨?_, ?_, ?_, ?_⟩
  · simp [u2, nI_0]
  · simp [u2]
    rfl
  · simp [u2, nI_0]
  · simp [u2, nI_0]
theorem rot_tail {Q : RS → SS → Prop} {lv : List (Nat × VV)} {P a : Nat} {g : Option Nat} {hd : Int32} {R2 : Nat → Nat → Option Nat} {I2 : Nat → Nat → Int32} (hP : isK (mkS L K AN R0 R2 I2 AIc AR Im AIm AL) 2 P) (ha : isK (mkS L K AN R0 R2 I2 AIc AR Im AIm AL) 0 a) (hg : ∀ y, g = some y → isK (mkS L K AN R0 R2 I2 AIc AR Im AIm AL) 0 y) (hhd : hd = 0 ∨ hd = 1)
    (l0 : lkp lv 0 = some (vr (some P))) (l1 : lkp lv 1 = some (vr (some a))) (l3 : lkp lv 3 = some (vr g)) (l4 : lkp lv 4 = some (vi hd))
    (hQ : Q (.inl none) (mkS L K AN R0 (rfin R2 a g hd) (u2 I2 4 P (I2 4 P + 1)) AIc AR Im AIm AL)) : WP G mX2_rotate Q 0 0 57 lv [] (mkS L K AN R0 R2 I2 AIc AR Im AIm AL) := by
  refine WP_aload_n dX2_rotate_57 l1 ?_
  refine WP_aload_n dX2_rotate_58 l3 ?_
  refine pf_RX2_21 dX2_rotate_59 rfl rfl ha ?_
  refine WP_aload_n dX2_rotate_62 l3 ?_
  refine WP_ifnull 84 dX2_rotate_63 (by decide) (fun h => ?_) (fun y h => ?_)
  · refine WP_aload_n dX2_rotate_84 l0 ?_
    refine WP_dup dX2_rotate_85 rfl ?_
    refine gf_RX2_15 dX2_rotate_86 rfl rfl hP ?_
    refine WP_iconst (1) dX2_rotate_89 (by decide) ?_
    refine WP_iadd dX2_rotate_90 ?_
    refine pf_RX2_15 dX2_rotate_91 rfl rfl hP ?_
    refine WP_return dX2_rotate_94 rfl (Nat.le_of_ble_eq_true rfl) (Nat.le_of_ble_eq_true rfl) ?_
    subst h
    exact hQ
  · have hy := hg y h
    refine WP_iload dX2_rotate_66 l4 ?_
    refine WP_if_eq 79 dX2_rotate_68 (by decide) (fun h2 => ?_) (fun h2 => ?_)
    · refine WP_aload_n dX2_rotate_79 l3 ?_
      refine WP_aload_n dX2_rotate_80 l1 ?_
      refine pf_RX2_43 dX2_rotate_81 rfl h hy ?_
      refine WP_aload_n dX2_rotate_84 l0 ?_
      refine WP_dup dX2_rotate_85 rfl ?_
      refine gf_RX2_15 dX2_rotate_86 rfl rfl hP ?_
      refine WP_iconst (1) dX2_rotate_89 (by decide) ?_
      refine WP_iadd dX2_rotate_90 ?_
      refine pf_RX2_15 dX2_rotate_91 rfl rfl hP ?_
      refine WP_return dX2_rotate_94 rfl (Nat.le_of_ble_eq_true rfl) (Nat.le_of_ble_eq_true rfl) ?_
      subst h
      subst h2
      exact hQ
    · refine WP_aload_n dX2_rotate_71 l3 ?_
      refine WP_aload_n dX2_rotate_72 l1 ?_
      refine pf_RX2_52 dX2_rotate_73 rfl h hy ?_
      refine WP_goto 84 dX2_rotate_76 (by decide) ?_
      refine WP_aload_n dX2_rotate_84 l0 ?_
      refine WP_dup dX2_rotate_85 rfl ?_
      refine gf_RX2_15 dX2_rotate_86 rfl rfl hP ?_
      refine WP_iconst (1) dX2_rotate_89 (by decide) ?_
      refine WP_iadd dX2_rotate_90 ?_
      refine pf_RX2_15 dX2_rotate_91 rfl rfl hP ?_
      refine WP_return dX2_rotate_94 rfl (Nat.le_of_ble_eq_true rfl) (Nat.le_of_ble_eq_true rfl) ?_
      subst h
      rcases hhd with rfl | rfl
      · exact absurd rfl h2
      · exact hQ
theorem c_rotate (P a i : Nat) (v : Int32) (b c d : Tr) (lft : Bool) (x : LB) (fs : List Fr) (F : List Tr) (hP : isK (mkS L K AN R0 Rc Ic AIc AR Im AIm AL) 2 P) (h : cF L K Rc Ic (plug ((lft, x, d) :: fs) (nd a i v b c) :: F)) :
    MT G mX2_rotate [vr (some P), vr (some a)] (mkS L K AN R0 Rc Ic AIc AR Im AIm AL) (rV (fun S' => ∃ Rc' Ic', S' = mkS L K AN R0 Rc' Ic' AIc AR Im AIm AL ∧ cF L K Rc' Ic' (plug fs (rot1 (nd a i v b c) (lft, x, d)) :: F) ∧ Rc' 3 = Rc 3 ∧ Ic' 2 = Ic 2 ∧ cnts Ic Ic' P 0 1 0)) := by
  have hn := nodup_hd h
  have hc := h.1 _ List.mem_cons_self
  obtain ⟨hka, hz0, hz1, hz2, hz3, hz4⟩ := cz (fs := (lft, x, d) :: fs) hc
  have hz2 : Rc 2 a = some x.1 := hz2
  obtain ⟨hkp, hp0, hp1, hp2, hp3, hp4⟩ := czp (f := (lft, x, d)) (fs := fs) hc
  have hp2 : Rc 2 x.1 = pk kA fs := hp2
  have hgn := hc.2
  obtain ⟨⟨-, hgb, hgc⟩, -, hgd, -⟩ := (gN_plug _ _ _).mp hgn
  have hgd : gN (Pn L K Ic) d := hgd
  have hkg : ∀ y, pk kA fs = some y → isK (mkS L K AN R0 Rc Ic AIc AR Im AIm AL) 0 y := by
    intro y hy
    cases fs with
    | nil => cases hy
    | cons g gs =>
      cases hy
      exact (czp (f := g) (fs := gs) (t := plug1 (lft, x, d) (nd a i v b c)) hc).1
  have hL1 : isLeftOf Rc x.1 = hd01 fs := by
    obtain ⟨xa, xi, xv⟩ := x
    cases lft
    · exact isLeft_eq (fs := fs) (a := xa) (i := xi) (v := xv) (l := d) (r := nd a i v b c) hn hc
    · exact isLeft_eq (fs := fs) (a := xa) (i := xi) (v := xv) (l := nd a i v b c) (r := d) hn hc
  have hL2 : isLeftOf Rc a = hd01 ((lft, x, d) :: fs) := isLeft_eq hn hc
  have hax : a ≠ x.1 := by
    have h2 := (kl_plug kA _ _).nodup_iff.mp hn
    exact (List.nodup_append.mp h2).2.2 a (rk_mem kA rfl) x.1 List.mem_cons_self
  have hrb : ∀ y, rk kA b = some y → y ≠ x.1 := by
    intro y hy
    have h2 := (kl_plug kA _ _).nodup_iff.mp hn
    exact (List.nodup_append.mp h2).2.2 y (by rw [kl_nd]; exact List.mem_append_left _ (rk_mem kA hy)) x.1 List.mem_cons_self
  have hrc : ∀ y, rk kA c = some y → y ≠ x.1 := by
    intro y hy
    have h2 := (kl_plug kA _ _).nodup_iff.mp hn
    exact (List.nodup_append.mp h2).2.2 y (by rw [kl_nd]; exact List.mem_append_right _ (List.mem_cons_of_mem _ (rk_mem kA hy))) x.1 List.mem_cons_self
  refine MT_of (by decide) rfl (Nat.le_of_ble_eq_true rfl) ?_
  refine WP_aload_n dX2_rotate_0 rfl ?_
  refine gf_RX2_21 dX2_rotate_1 rfl rfl hka ?_
  rw [hz2]
  refine WP_astore_n dX2_rotate_4 (by decide) rfl ?_
  refine WP_aload_n dX2_rotate_5 rfl ?_
  refine WP_ifnonnull 10 dX2_rotate_6 (by decide) (fun p9 h1 => ?_) (fun h1 => ?_)
  · cases h1
    refine WP_aload_n dX2_rotate_10 rfl ?_
    refine gf_RX2_21 dX2_rotate_11 rfl rfl hkp ?_
    rw [hp2]
    refine WP_astore_n dX2_rotate_14 (by decide) rfl ?_
    refine WP_aload_n dX2_rotate_15 rfl ?_
    refine callVi mX0_isLeftChild [] dX2_rotate_16 okc_X0_isLeftChild ok_233 ⟨by decide, by decide⟩ rfl rfl hkp rfl (Nat.le_of_ble_eq_true rfl) (Nat.le_of_ble_eq_true rfl) (Nat.le_of_ble_eq_true rfl) (c_isLeftChild x.1 hkp (fun p h => hkg p (hp2.symm.trans h))) (fun x1 S1 h1 => ?_)
    obtain ⟨h1, rfl⟩ := h1
    have h1 : x1 = hd01 fs := h1.trans hL1
    subst h1
    refine WP_istore dX2_rotate_19 (by decide) rfl ?_
    refine WP_aload_n dX2_rotate_21 rfl ?_
    refine callVi mX0_isLeftChild [] dX2_rotate_22 okc_X0_isLeftChild ok_233 ⟨by decide, by decide⟩ rfl rfl hka rfl (Nat.le_of_ble_eq_true rfl) (Nat.le_of_ble_eq_true rfl) (Nat.le_of_ble_eq_true rfl) (c_isLeftChild a hka (fun p h => by rw [hz2] at h; cases h; exact hkp)) (fun x2 S1 h1 => ?_)
    obtain ⟨h1, rfl⟩ := h1
    have h1 : x2 = hd01 ((lft, x, d) :: fs) := h1.trans hL2
    subst h1
    refine WP_if_eq 44 dX2_rotate_25 (by decide) (fun h2 => ?_) (fun h2 => ?_)
    · cases lft
      · refine WP_aload_n dX2_rotate_44 rfl ?_
        refine WP_aload_n dX2_rotate_45 rfl ?_
        refine gf_RX2_52 dX2_rotate_46 rfl rfl hka ?_
        rw [hz0]
        have hp0 : Rc 0 x.1 = rk kA d := hp0
        refine callVv mX0_takeRight [_] dX2_rotate_49 okc_X0_takeRight ok_246 ⟨by decide, by decide⟩ rfl rfl hkp rfl (Nat.le_of_ble_eq_true rfl) (Nat.le_of_ble_eq_true rfl) (Nat.le_of_ble_eq_true rfl) (c_takeRight x.1 (rk kA b) hkp (rk_K hgb) (fun y h => rk_K hgd y (hp0.symm.trans h))) (fun S1 h1 => ?_)
        subst h1
        refine WP_aload_n dX2_rotate_52 rfl ?_
        refine WP_aload_n dX2_rotate_53 rfl ?_
        have hR1 : tkR 1 Rc x.1 (rk kA b) 1 a = rk kA c := by rw [tkR_s 1 (by decide), va_up_ne _ _ hax, hz1]
        refine callVv mX0_takeLeft [_] dX2_rotate_54 okc_X0_takeLeft ok_241 ⟨by decide, by decide⟩ rfl rfl hka rfl (Nat.le_of_ble_eq_true rfl) (Nat.le_of_ble_eq_true rfl) (Nat.le_of_ble_eq_true rfl) (c_takeLeft a (some x.1) hka (fun y h => by cases h; exact hkp) (fun y h => rk_K hgc y (hR1.symm.trans h))) (fun S1 h1 => ?_)
        subst h1
        refine rot_tail hP hka hkg (hd01_or fs) rfl rfl rfl rfl ⟨rfl, _, _, rfl, ?_⟩
        rw [hR1]
        have hI : (u2 (u2 (u2 Ic 0 x.1 (1 + cntO (Ic 0) (Rc 0 x.1) + cntO (Ic 0) (rk kA b))) 0 a (1 + cntO (u2 Ic 0 x.1 (1 + cntO (Ic 0) (Rc 0 x.1) + cntO (Ic 0) (rk kA b)) 0) (some x.1) + cntO (u2 Ic 0 x.1 (1 + cntO (Ic 0) (Rc 0 x.1) + cntO (Ic 0) (rk kA b)) 0) (rk kA c))) 4 P (u2 (u2 Ic 0 x.1 (1 + cntO (Ic 0) (Rc 0 x.1) + cntO (Ic 0) (rk kA b))) 0 a (1 + cntO (u2 Ic 0 x.1 (1 + cntO (Ic 0) (Rc 0 x.1) + cntO (Ic 0) (rk kA b)) 0) (some x.1) + cntO (u2 Ic 0 x.1 (1 + cntO (Ic 0) (Rc 0 x.1) + cntO (Ic 0) (rk kA b)) 0) (rk kA c)) 4 P + 1)) 0 = va_up (va_up (Ic 0) x.1 (nI (tsz b + 1 + tsz d))) a (nI (tsz b + 1 + tsz c + 1 + tsz d)) := by
          rw [u2_o _ _ _ (by decide), u2_s, u2_s, hp0, cnt_rk (par := none) hgb, cnt_rk (par := none) hgd, n3]
          have e1 : cntO (va_up (Ic 0) x.1 (nI (tsz d + 1 + tsz b))) (some x.1) = nI (tsz d + 1 + tsz b) := va_up_self _ _ _
          have e2 : cntO (va_up (Ic 0) x.1 (nI (tsz d + 1 + tsz b))) (rk kA c) = nI (tsz c) := by
            rw [← cnt_rk (par := none) hgc]
            cases hk : rk kA c with
            | none => rfl
            | some y => exact va_up_ne _ _ (hrc y hk)
          rw [e1, e2, n3, show tsz d + 1 + tsz b = tsz b + 1 + tsz d by omega, show tsz b + 1 + tsz d + 1 + tsz c = tsz b + 1 + tsz c + 1 + tsz d by omega]
        obtain ⟨g1, g2⟩ := rotC (Rc' := rfin (tkR 0 (tkR 1 Rc x.1 (rk kA b)) a (some x.1)) a (pk kA fs) (hd01 fs)) h (rtR_fin false Rc a x.1 (rk kA b) (pk kA fs) (hd01 fs)).symm hI (by rw [u2_o _ _ _ (by decide), u2_o _ _ _ (by decide), u2_o _ _ _ (by decide)])
        exact ⟨g1, g2, by rw [u2_o _ _ _ (by decide), u2_o _ _ _ (by decide), u2_o _ _ _ (by decide)], rot_cnts _ _ _ _ _ _⟩
      · exact absurd (show (1 : Int32) = 0 from h2) (by decide)
    · cases lft
      · exact absurd rfl h2
      · refine WP_aload_n dX2_rotate_28 rfl ?_
        refine WP_aload_n dX2_rotate_29 rfl ?_
        refine gf_RX2_43 dX2_rotate_30 rfl rfl hka ?_
        rw [hz1]
        have hp1 : Rc 1 x.1 = rk kA d := hp1
        refine callVv mX0_takeLeft [_] dX2_rotate_33 okc_X0_takeLeft ok_241 ⟨by decide, by decide⟩ rfl rfl hkp rfl (Nat.le_of_ble_eq_true rfl) (Nat.le_of_ble_eq_true rfl) (Nat.le_of_ble_eq_true rfl) (c_takeLeft x.1 (rk kA c) hkp (rk_K hgc) (fun y h => rk_K hgd y (hp1.symm.trans h))) (fun S1 h1 => ?_)
        subst h1
        refine WP_aload_n dX2_rotate_36 rfl ?_
        refine WP_aload_n dX2_rotate_37 rfl ?_
        have hR1 : tkR 0 Rc x.1 (rk kA c) 0 a = rk kA b := by rw [tkR_s 0 (by decide), va_up_ne _ _ hax, hz0]
        refine callVv mX0_takeRight [_] dX2_rotate_38 okc_X0_takeRight ok_246 ⟨by decide, by decide⟩ rfl rfl hka rfl (Nat.le_of_ble_eq_true rfl) (Nat.le_of_ble_eq_true rfl) (Nat.le_of_ble_eq_true rfl) (c_takeRight a (some x.1) hka (fun y h => by cases h; exact hkp) (fun y h => rk_K hgb y (hR1.symm.trans h))) (fun S1 h1 => ?_)
        subst h1
        refine WP_goto 57 dX2_rotate_41 (by decide) ?_
        refine rot_tail hP hka hkg (hd01_or fs) rfl rfl rfl rfl ⟨rfl, _, _, rfl, ?_⟩
        rw [hR1]
        have hI : (u2 (u2 (u2 Ic 0 x.1 (1 + cntO (Ic 0) (rk kA c) + cntO (Ic 0) (Rc 1 x.1))) 0 a (1 + cntO (u2 Ic 0 x.1 (1 + cntO (Ic 0) (rk kA c) + cntO (Ic 0) (Rc 1 x.1)) 0) (rk kA b) + cntO (u2 Ic 0 x.1 (1 + cntO (Ic 0) (rk kA c) + cntO (Ic 0) (Rc 1 x.1)) 0) (some x.1))) 4 P (u2 (u2 Ic 0 x.1 (1 + cntO (Ic 0) (rk kA c) + cntO (Ic 0) (Rc 1 x.1))) 0 a (1 + cntO (u2 Ic 0 x.1 (1 + cntO (Ic 0) (rk kA c) + cntO (Ic 0) (Rc 1 x.1)) 0) (rk kA b) + cntO (u2 Ic 0 x.1 (1 + cntO (Ic 0) (rk kA c) + cntO (Ic 0) (Rc 1 x.1)) 0) (some x.1)) 4 P + 1)) 0 = va_up (va_up (Ic 0) x.1 (nI (tsz c + 1 + tsz d))) a (nI (tsz b + 1 + tsz c + 1 + tsz d)) := by
          rw [u2_o _ _ _ (by decide), u2_s, u2_s, hp1, cnt_rk (par := none) hgc, cnt_rk (par := none) hgd, n3]
          have e1 : cntO (va_up (Ic 0) x.1 (nI (tsz c + 1 + tsz d))) (some x.1) = nI (tsz c + 1 + tsz d) := va_up_self _ _ _
          have e2 : cntO (va_up (Ic 0) x.1 (nI (tsz c + 1 + tsz d))) (rk kA b) = nI (tsz b) := by
            rw [← cnt_rk (par := none) hgb]
            cases hk : rk kA b with
            | none => rfl
            | some y => exact va_up_ne _ _ (hrb y hk)
          rw [e1, e2, n3, show tsz b + 1 + (tsz c + 1 + tsz d) = tsz b + 1 + tsz c + 1 + tsz d by omega]
        obtain ⟨g1, g2⟩ := rotC (Rc' := rfin (tkR 1 (tkR 0 Rc x.1 (rk kA c)) a (some x.1)) a (pk kA fs) (hd01 fs)) h (rtR_fin true Rc a x.1 (rk kA c) (pk kA fs) (hd01 fs)).symm hI (by rw [u2_o _ _ _ (by decide), u2_o _ _ _ (by decide), u2_o _ _ _ (by decide)])
        exact ⟨g1, g2, by rw [u2_o _ _ _ (by decide), u2_o _ _ _ (by decide), u2_o _ _ _ (by decide)], rot_cnts _ _ _ _ _ _⟩
  · cases h1
theorem stp_cnts (I : Nat → Nat → Int32) (P : Nat) : cnts I (u2 (u2 I 3 P (I 3 P + 1)) 5 P ((u2 I 3 P (I 3 P + 1)) 5 P + 1)) P 1 0 0 := by
  refine ⟨?_, ?_, ?_, ?_⟩
  · simp [u2]
    rfl
  · simp [u2, nI_0]
  · simp [u2]
    rfl
  · simp [u2, nI_0]
/-- the end of a turn: the counts of the step -/
theorem splay_tail {Q : RS → SS → Prop} {P T a k : Nat} {lv : List (Nat × VV)} {F : List Tr} {t : Tr} (hP : isK (mkS L K AN R0 Rc Ic AIc AR Im AIm AL) 2 P) (h : cF L K Rc Ic (t :: F))
    (l0 : lkp lv 0 = some (vr (some P))) (l1 : lkp lv 1 = some (vr (some T))) (l2 : lkp lv 2 = some (vr (some a))) (l3 : lkp lv 3 = some (vi (nI k)))
    (kk : ∀ Ic', cF L K Rc Ic' (t :: F) → Ic' 2 = Ic 2 → cnts Ic Ic' P 1 0 0 → WP G mX2_splay Q 0 0 12 [(0, vr (some P)), (1, vr (some T)), (2, vr (some a)), (3, vi (nI (k + 1)))] [] (mkS L K AN R0 Rc Ic' AIc AR Im AIm AL)) : WP G mX2_splay Q 0 0 78 lv [] (mkS L K AN R0 Rc Ic AIc AR Im AIm AL) := by
  refine WP_lv [(0, vr (some P)), (1, vr (some T)), (2, vr (some a)), (3, vi (nI k))] ?_ ?_
  · intro q hq
    simp only [List.mem_cons, List.not_mem_nil, or_false] at hq
    rcases hq with rfl | rfl | rfl | rfl
    · exact l0
    · exact l1
    · exact l2
    · exact l3
  refine WP_aload_n dX2_splay_78 rfl ?_
  refine WP_dup dX2_splay_79 rfl ?_
  refine gf_RX2_9 dX2_splay_80 rfl rfl hP ?_
  refine WP_iconst (1) dX2_splay_83 (by decide) ?_
  refine WP_iadd dX2_splay_84 ?_
  refine pf_RX2_9 dX2_splay_85 rfl rfl hP ?_
  refine WP_aload_n dX2_splay_88 rfl ?_
  refine WP_dup dX2_splay_89 rfl ?_
  refine gf_RX2_35 dX2_splay_90 rfl rfl hP ?_
  refine WP_iconst (1) dX2_splay_93 (by decide) ?_
  refine WP_iadd dX2_splay_94 ?_
  refine pf_RX2_35 dX2_splay_95 rfl rfl hP ?_
  refine WP_iinc (nI (k + 1)) dX2_splay_98 rfl (nI_1 k) (by decide) rfl ?_
  refine WP_goto 12 dX2_splay_101 (by decide) ?_
  refine WP_lv [(0, vr (some P)), (1, vr (some T)), (2, vr (some a)), (3, vi (nI (k + 1)))] (List.forall_mem_cons.mpr ⟨rfl, List.forall_mem_cons.mpr ⟨rfl, List.forall_mem_cons.mpr ⟨rfl, List.forall_mem_cons.mpr ⟨rfl, fun _ h9 => absurd h9 List.not_mem_nil⟩⟩⟩⟩) ?_
  refine kk _ ?_ ?_ (stp_cnts _ _)
  · refine ⟨fun u hu => cT_frame (fun q _ => ⟨⟨rfl, rfl, rfl⟩, ?_, ?_⟩) (h.1 u hu), h.2⟩
    · rw [u2_o _ _ _ (by decide), u2_o _ _ _ (by decide)]
    · rw [u2_o _ _ _ (by decide), u2_o _ _ _ (by decide)]
  · rw [u2_o _ _ _ (by decide), u2_o _ _ _ (by decide)]
end SPL
