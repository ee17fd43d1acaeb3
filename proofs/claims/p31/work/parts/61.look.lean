/-! ===== one object, looked at through its values ===== -/
theorem ck_7 : okw (.constant RL 7 2147483647) := ⟨List.mem_of_getElem? (i := 129) (by decide +kernel), by decide +kernel⟩
theorem ck_16 : okw (.constant RL 16 (-99999)) := ⟨List.mem_of_getElem? (i := 284) (by decide +kernel), by decide +kernel⟩
theorem shr_c (x c : Int32) (h : c &&& 31 = c) : x >>> (c &&& 31) = x >>> c := by rw [h]
/-- the law's low(v, n) -/
def lwR (v n : Int32) : Int32 := (v &&& 2147483647) - (v &&& 2147483647) / n * n
section RW3
variable {G : GC} {M : MD} {Q : RS → SS → Prop} {k n pc : Nat} {lv : List (Nat × VV)} {st rest : List VV} {S : SS}
theorem WP_irem {x y : Int32} (v : Int32) (dg : decode M.2.1 pc = .ok (.irem, 1)) (hne : ¬ y = 0) (hv : x - x / y * y = v) (kk : WP G M Q k n (pc + 1) lv (vi v :: st) S) : WP G M Q k n pc lv (vi y :: vi x :: st) S := by
  subst hv
  exact fun p e s m args below meth c H locs ls C hh hS hl => lv_irem C.1 C.2.1 dg hne (kk p e s m args below meth c H locs ls C hh hS hl)
theorem WP_ldc {idx : Nat} {v : Int32} (dg : decode M.2.1 pc = .ok (.ldc idx, 2)) (hc : okw (.constant M.1.cls idx v)) (kk : WP G M Q k n (pc + 2) lv (vi v :: st) S) : WP G M Q k n pc lv st S := fun p e s m args below meth c H locs ls C hh hS hl =>
  lv_ldc C.1 C.2.1 C.2.2.2.2.2.1 (cx_ok C hc) dg (kk p e s m args below meth c H locs ls C hh hS hl)
theorem callSXi (Z : MD) {na idx : Nat} (As : List VV) {p : Int32 → SS → Prop} {z : Nat × Nat × Nat × Nat} {tb' : List (Nat × Nat × Nat × Nat)} (dg : decode M.2.1 pc = .ok (.invokestatic idx, 3)) (hz : okS Z na) (htb : Z.2.2.2.2.1 = z :: tb') (hl9 : okw (.methodLink M.1.cls idx Z.1)) (hR : okR M Z)
    (hst : st = As.reverse ++ rest) (hn : As.length = na) (hrest : argsSz rest ≤ 8) (hc : k + Z.2.2.2.2.2.2.1 ≤ M.2.2.2.2.2.2.1) (hsl : n + Z.2.2.2.2.2.2.2 ≤ M.2.2.2.2.2.2.2)
    (hM : MT G Z As S (rI p))
    (kret : ∀ (x : Int32) (S' : SS), p x S' → WP G M Q (k + Z.2.2.2.2.2.2.1) (n + Z.2.2.2.2.2.2.2) (pc + 3) lv (vi x :: rest) S') : WP G M Q k n pc lv st S :=
  WP_callSX Z dg hz htb hl9 hR hst hn hrest hc hsl hM (fun v S' h => by obtain ⟨x, h1, h2⟩ := h; cases h1; exact kret x S' h2) (fun E S' h => absurd h (rI_no E S'))
end RW3
/-! a world of one object: that of E, whose picture is A -/
def oS (E : Nat → Nat) (A : AB) (S : SS) : Prop := ∃ L K AN R0 Rc Ic AIc AR Im AIm AL, S = mkS L K AN R0 Rc Ic AIc AR Im AIm AL ∧ cI E L K AN R0 Rc Ic AIc AR A
def qA (E : Nat → Nat) (A : AB) : RS → SS → Prop := fun r S' => (∃ x : Int32, r = .inl (some (vi x)) ∧ oS E A S') ∨ ∃ X : String, r = .inr X
theorem oS_K {E : Nat → Nat} {A : AB} {S : SS} (h : oS E A S) : isK S 4 (E 0) := by
  obtain ⟨L, K, AN, R0, Rc, Ic, AIc, AR, Im, AIm, AL, rfl, hI⟩ := h
  exact hI.1.1
theorem oS_sz {E : Nat → Nat} {A : AB} {S : SS} (h : oS E A S) : tsz A.1 ≤ 60 := by
  obtain ⟨L, K, AN, R0, Rc, Ic, AIc, AR, Im, AIm, AL, rfl, hI⟩ := h
  have := hI.2.2.2.2.2.2.1
  omega
theorem oS_J {E : Nat → Nat} {A : AB} {L : List Nat} {K AN : Nat → Nat} {R0 : Nat → Nat → Option Nat} {Im AIm : Nat → Nat → Int32} {AL : Nat → Nat → Int64} {S : SS} (h : cJ E L K AN R0 Im AIm AL A S) : oS E A S := by
  obtain ⟨L', K', Rc', Ic', AIc', AR', rfl, -, hI⟩ := h
  exact ⟨L', K', AN, R0, Rc', Ic', AIc', AR', Im, AIm, AL, rfl, hI⟩
section OBS
variable {G : GC} {E : Nat → Nat} {A : AB} {S : SS}
theorem cV_oS {Z : MD} {av : List VV} {v : Int32} (hS : oS E A S) (h : MT G Z av S (cV S v)) : MT G Z av S (rI (fun x S' => x = v ∧ oS E A S')) := h.imp (fun r S' hr => by
  obtain ⟨x, h1, h2, rfl⟩ := hr
  exact ⟨x, h1, h2, hS⟩)
theorem rI_qA {Z : MD} {av : List VV} {v : Int32} (h : MT G Z av S (rI (fun x S' => x = v ∧ oS E A S'))) : MT G Z av S (qA E A) := h.imp (fun r S' hr => by
  obtain ⟨x, h1, -, h2⟩ := hr
  exact Or.inl ⟨x, h1, h2⟩)
theorem cR_qA {Z : MD} {av : List VV} {z : Rz} {exs : List String} {L : List Nat} {K AN : Nat → Nat} {R0 : Nat → Nat → Option Nat} {Im AIm : Nat → Nat → Int32} {AL : Nat → Nat → Int64} (hz : z.2.2 = A) (h : MT G Z av S (cR exs (cJ E L K AN R0 Im AIm AL) z)) : MT G Z av S (qA E A) := h.imp (fun r S' hr => by
  obtain ⟨h1, ⟨-, h2⟩ | ⟨ex, -, -, h2⟩⟩ := hr
  · rw [hz] at h1
    exact Or.inl ⟨_, h2, oS_J h1⟩
  · exact Or.inr ⟨ex, h2⟩)
theorem x_size (hS : oS E A S) : MT G mX4_size [vr (some (E 0))] S (rI (fun x S' => x = nI (tsz A.1) ∧ oS E A S')) := by
  have h9 := hS
  obtain ⟨L, K, AN, R0, Rc, Ic, AIc, AR, Im, AIm, AL, rfl, hI⟩ := h9
  exact cV_oS hS (k_size (t := A.1) (c := A.2.1) (fg := A.2.2.1) (n := A.2.2.2) hI)
theorem x_splays (hS : oS E A S) : MT G mX4_splays [vr (some (E 0))] S (rI (fun x S' => x = A.2.2.2.2.2.2 ∧ oS E A S')) := by
  have h9 := hS
  obtain ⟨L, K, AN, R0, Rc, Ic, AIc, AR, Im, AIm, AL, rfl, hI⟩ := h9
  exact cV_oS hS (k_splays (t := A.1) (c := A.2.1) (fg := A.2.2.1) (n := A.2.2.2) hI)
theorem o_size (hS : oS E A S) : MT G mX4_size [vr (some (E 0))] S (qA E A) := rI_qA (x_size hS)
theorem o_splays (hS : oS E A S) : MT G mX4_splays [vr (some (E 0))] S (qA E A) := rI_qA (x_splays hS)
theorem o_clipped (hS : oS E A S) : MT G mX4_clipped [vr (some (E 0))] S (qA E A) := by
  have h9 := hS
  obtain ⟨L, K, AN, R0, Rc, Ic, AIc, AR, Im, AIm, AL, rfl, hI⟩ := h9
  exact rI_qA (cV_oS hS (k_clipped (t := A.1) (c := A.2.1) (fg := A.2.2.1) (n := A.2.2.2) hI))
theorem o_potential (hS : oS E A S) : MT G mX4_potential [vr (some (E 0))] S (qA E A) := by
  have h9 := hS
  obtain ⟨L, K, AN, R0, Rc, Ic, AIc, AR, Im, AIm, AL, rfl, hI⟩ := h9
  exact rI_qA (cV_oS hS (k_potential (t := A.1) (c := A.2.1) (fg := A.2.2.1) (n := A.2.2.2) hI))
theorem o_root (hS : oS E A S) : MT G mX4_root [vr (some (E 0))] S (qA E A) := by
  have h9 := hS
  obtain ⟨L, K, AN, R0, Rc, Ic, AIc, AR, Im, AIm, AL, rfl, hI⟩ := h9
  exact rI_qA (cV_oS hS (k_root (t := A.1) (c := A.2.1) (fg := A.2.2.1) (n := A.2.2.2) hI))
theorem o_height (hS : oS E A S) : MT G mX4_height [vr (some (E 0))] S (qA E A) := by
  have h9 := hS
  obtain ⟨L, K, AN, R0, Rc, Ic, AIc, AR, Im, AIm, AL, rfl, hI⟩ := h9
  exact rI_qA (cV_oS hS (k_height (t := A.1) (c := A.2.1) (fg := A.2.2.1) (n := A.2.2.2) hI))
theorem o_lastSteps (hS : oS E A S) : MT G mX4_lastSteps [vr (some (E 0))] S (qA E A) := by
  have h9 := hS
  obtain ⟨L, K, AN, R0, Rc, Ic, AIc, AR, Im, AIm, AL, rfl, hI⟩ := h9
  exact rI_qA (cV_oS hS (k_lastSteps (t := A.1) (c := A.2.1) (fg := A.2.2.1) (n := A.2.2.2) hI))
theorem o_lastRotations (hS : oS E A S) : MT G mX4_lastRotations [vr (some (E 0))] S (qA E A) := by
  have h9 := hS
  obtain ⟨L, K, AN, R0, Rc, Ic, AIc, AR, Im, AIm, AL, rfl, hI⟩ := h9
  exact rI_qA (cV_oS hS (k_lastRotations (t := A.1) (c := A.2.1) (fg := A.2.2.1) (n := A.2.2.2) hI))
theorem o_steps (hS : oS E A S) : MT G mX4_steps [vr (some (E 0))] S (qA E A) := by
  have h9 := hS
  obtain ⟨L, K, AN, R0, Rc, Ic, AIc, AR, Im, AIm, AL, rfl, hI⟩ := h9
  exact rI_qA (cV_oS hS (k_steps (t := A.1) (c := A.2.1) (fg := A.2.2.1) (n := A.2.2.2) hI))
theorem o_depth (hS : oS E A S) (x : Int32) : MT G mX4_depth [vr (some (E 0)), vi x] S (qA E A) := by
  have h9 := hS
  obtain ⟨L, K, AN, R0, Rc, Ic, AIc, AR, Im, AIm, AL, rfl, hI⟩ := h9
  exact cR_qA (by unfold aDep; split <;> rfl) (k_depth (t := A.1) (c := A.2.1) (fg := A.2.2.1) (n := A.2.2.2) x hI)
theorem o_subtree (hS : oS E A S) (x : Int32) : MT G mX4_subtree [vr (some (E 0)), vi x] S (qA E A) := by
  have h9 := hS
  obtain ⟨L, K, AN, R0, Rc, Ic, AIc, AR, Im, AIm, AL, rfl, hI⟩ := h9
  exact cR_qA (by unfold aSub; split <;> rfl) (k_subtree (t := A.1) (c := A.2.1) (fg := A.2.2.1) (n := A.2.2.2) x hI)
theorem o_whereIs (hS : oS E A S) (x : Int32) : MT G mX4_whereIs [vr (some (E 0)), vi x] S (qA E A) := by
  have h9 := hS
  obtain ⟨L, K, AN, R0, Rc, Ic, AIc, AR, Im, AIm, AL, rfl, hI⟩ := h9
  exact cR_qA (by unfold aWhe; (repeat' split) <;> rfl) (k_whereIs (t := A.1) (c := A.2.1) (fg := A.2.2.1) (n := A.2.2.2) x hI)
theorem o_plain (hS : oS E A S) (x : Int32) : MT G mX4_plain [vr (some (E 0)), vi x] S (qA E A) := by
  have h9 := hS
  obtain ⟨L, K, AN, R0, Rc, Ic, AIc, AR, Im, AIm, AL, rfl, hI⟩ := h9
  exact cR_qA (by unfold aPla; split <;> rfl) (k_plain (t := A.1) (c := A.2.1) (fg := A.2.2.1) (n := A.2.2.2) x hI)
theorem o_plainSum (hS : oS E A S) (x y : Int32) : MT G mX4_plainSum [vr (some (E 0)), vi x, vi y] S (qA E A) := by
  have h9 := hS
  obtain ⟨L, K, AN, R0, Rc, Ic, AIc, AR, Im, AIm, AL, rfl, hI⟩ := h9
  exact cR_qA (by unfold aPSu; split <;> rfl) (k_plainSum (t := A.1) (c := A.2.1) (fg := A.2.2.1) (n := A.2.2.2) x y hI)
theorem o_child (hS : oS E A S) (x y : Int32) : MT G mX4_child [vr (some (E 0)), vi x, vi y] S (qA E A) := by
  have h9 := hS
  obtain ⟨L, K, AN, R0, Rc, Ic, AIc, AR, Im, AIm, AL, rfl, hI⟩ := h9
  exact cR_qA (by unfold aChi; split <;> rfl) (k_child (t := A.1) (c := A.2.1) (fg := A.2.2.1) (n := A.2.2.2) x y hI)
end OBS
/-! the values -/
def sA (A : AB) (V : List Int32) : Prop := vls A.1 = V ∧ tsz A.2.1 = 0
def sumL (l : List Int32) : Int32 := l.foldr (· + ·) 0
theorem sA_sz {A : AB} {V : List Int32} (h : sA A V) : tsz A.1 = V.length := by rw [← h.1, vls_len]
theorem sumL_app (a b : List Int32) : sumL (a ++ b) = sumL a + sumL b := by
  induction a with
  | nil =>
    show sumL b = 0 + sumL b
    rw [Int32.zero_add]
  | cons x t ih =>
    show x + sumL (t ++ b) = x + sumL t + sumL b
    rw [ih, Int32.add_assoc]
theorem smT_sum (t : Tr) : smT t = sumL (vls t) := by
  induction t with
  | leaf => rfl
  | inner a i v l r ihl ihr =>
    show v + smT l + smT r = sumL (vls (nd a i v l r))
    rw [show vls (nd a i v l r) = vls l ++ v :: vls r by simp [vls, io], sumL_app, ihl, ihr]
    show v + sumL (vls l) + sumL (vls r) = sumL (vls l) + (v + sumL (vls r))
    rw [← Int32.add_assoc, Int32.add_comm v]
theorem vls_spl (t : Tr) (k : Nat) : vls (splT t k).1 = (vls t).take k ∧ vls (splT t k).2 = (vls t).drop k := by
  obtain ⟨h1, h2⟩ := splT_io t k
  unfold vls
  rw [h1, h2]
  exact ⟨List.map_take, List.map_drop⟩
theorem vls_rai (d : Int32) (t : Tr) : vls (rai d t) = (vls t).map (· + d) := by
  unfold vls
  rw [io_rai, List.map_map, List.map_map]
  rfl
theorem s_ins {A : AB} {V : List Int32} {k : Nat} {w : Int32} (p : Nat × Nat) (h : sA A V) (hk : k ≤ V.length) (hV : V.length < 60) (hw : okv w) : (aIns p A (nI k) w).1 = 0 ∧ (aIns p A (nI k) w).2.1 = nI (V.length + 1) ∧ sA (aIns p A (nI k) w).2.2 (V.take k ++ w :: V.drop k) := by
  have hz := sA_sz h
  obtain ⟨t, c, fg, n⟩ := A
  have hz : tsz t = V.length := hz
  have h1 : vls t = V := h.1
  have h2 : tsz c = 0 := h.2
  unfold aIns
  rw [if_pos (inP_nI (by show k < tsz t + 1; omega) (by show tsz t + 1 < 2 ^ 31; omega)), if_pos hw, if_pos (by show tsz t + tsz c < 60; omega), pI_n (by omega)]
  refine ⟨rfl, ?_, ?_, h2⟩
  · show nI (tsz t + 1) = _
    rw [hz]
  · show vls (nd p.1 p.2 w (splT t k).1 (splT t k).2) = _
    rw [show vls (nd p.1 p.2 w (splT t k).1 (splT t k).2) = vls (splT t k).1 ++ w :: vls (splT t k).2 by simp [vls, io], (vls_spl t k).1, (vls_spl t k).2, h1]
theorem s_rai {A : AB} {V : List Int32} {d : Int32} (h : sA A V) (hV0 : 0 < V.length) (hV : V.length ≤ 60) (hw : okv d) : (aRai A (nI 0) (nI V.length) d).1 = 0 ∧ (aRai A (nI 0) (nI V.length) d).2.1 = nI V.length ∧ sA (aRai A (nI 0) (nI V.length) d).2.2 (V.map (· + d)) := by
  have hz := sA_sz h
  obtain ⟨t, c, fg, n⟩ := A
  have hz : tsz t = V.length := hz
  have h1 : vls t = V := h.1
  have h2 : tsz c = 0 := h.2
  unfold aRai
  rw [if_pos (inR_nI (Nat.zero_le _) (by show V.length ≤ tsz t; omega) (by show tsz t < 2 ^ 31; omega)), if_pos hw]
  refine ⟨rfl, ?_, ?_, h2⟩
  · show nI V.length - nI 0 = nI V.length
    rw [nI_sub (Nat.zero_le _)]
    rfl
  · show vls (jn3 ((rgT t (pI (nI 0)) (pI (nI V.length))).1, rai d (rgT t (pI (nI 0)) (pI (nI V.length))).2.1, (rgT t (pI (nI 0)) (pI (nI V.length))).2.2)) = _
    rw [vls3, pI_n (by omega), pI_n (by omega), vls_rai]
    obtain ⟨r1, r2, r3⟩ := rgT_io t 0 V.length hV0
    have e1 : vls (rgT t 0 V.length).1 = [] := by unfold vls; rw [r1]; rfl
    have e2 : vls (rgT t 0 V.length).2.1 = V := by
      refine Eq.trans ?_ h1
      unfold vls
      rw [r2, List.drop_zero, List.take_of_length_le (by rw [io_len]; omega)]
    have e3 : vls (rgT t 0 V.length).2.2 = [] := by
      unfold vls
      rw [r3, List.drop_of_length_le (by rw [io_len]; omega)]
      rfl
    rw [e1, e2, e3]
    simp
theorem s_sum {A : AB} {V : List Int32} {u : Nat} (h : sA A V) (hu0 : 0 < u) (hu : u < V.length) (hV : V.length ≤ 60) : (aSum A (nI 0) (nI u)).1 = 0 ∧ (aSum A (nI 0) (nI u)).2.1 = sumL (V.take u) ∧ (aSum A (nI 0) (nI u)).2.2.2.2.2.2.2.2 = A.2.2.2.2.2.2 + 2 := by
  have hz := sA_sz h
  obtain ⟨t, c, fg, s1, s2, s3, s4⟩ := A
  have hz : tsz t = V.length := hz
  have h1 : vls t = V := h.1
  unfold aSum
  rw [if_pos (inR_nI (Nat.zero_le _) (by show u ≤ tsz t; omega) (by show tsz t < 2 ^ 31; omega))]
  have p0 : pI (nI 0) = 0 := pI_n (by omega)
  have pu : pI (nI u) = u := pI_n (by omega)
  rw [p0, pu]
  refine ⟨rfl, ?_, ?_⟩
  · show smT (rgT t 0 u).2.1 = _
    rw [smT_sum]
    obtain ⟨-, r2, -⟩ := rgT_io t 0 u hu0
    unfold vls
    rw [r2, List.drop_zero, List.map_take, ← h1]
    rfl
  · show (jn3N (rgN (begC (s1, s2, s3, s4)) t (pI (nI 0)) (pI (nI u))) ((rgT t (pI (nI 0)) (pI (nI u))).1, id (rgT t (pI (nI 0)) (pI (nI u))).2.1, (rgT t (pI (nI 0)) (pI (nI u))).2.2)).2.2.2 = s4 + 2
    rw [p0, pu]
    obtain ⟨z1, z2⟩ := rgT_sz t 0 u (by omega) (Nat.zero_le _)
    obtain ⟨r1, -, -⟩ := rgT_io t 0 u hu0
    have e1 : tsz (rgT t 0 u).1 = 0 := by rw [← io_len, r1]; rfl
    have a1 : splC t u = ((upN t u + 1) / 2, upN t u, 1) := by
      unfold splC
      rw [if_neg (by omega), if_neg (by omega)]
    have a2 : splC (splT t u).1 0 = (0, 0, 0) := by
      unfold splC
      split
      · rfl
      · rfl
    have b1 : joinC (rgT t 0 u).1 (rgT t 0 u).2.1 = (0, 0, 0) := by
      unfold joinC
      rw [if_pos e1]
    have b2 : joinT (rgT t 0 u).1 (rgT t 0 u).2.1 = (rgT t 0 u).2.1 := by
      unfold joinT
      rw [if_pos e1]
    have b3 : (joinC (rgT t 0 u).2.1 (rgT t 0 u).2.2).2.2 = 1 := by
      unfold joinC
      rw [if_neg (by omega), if_neg (by omega)]
    unfold jn3N rgN
    rw [if_pos hu0]
    show (addC (addC (addC (addC (begC (s1, s2, s3, s4)) (splC t u)) (splC (splT t u).1 0)) (joinC (rgT t 0 u).1 (rgT t 0 u).2.1)) (joinC (joinT (rgT t 0 u).1 (rgT t 0 u).2.1) (rgT t 0 u).2.2)).2.2.2 = s4 + 2
    rw [b2, a1, a2, b1]
    show s4 + nI 1 + nI 0 + nI 0 + nI (joinC (rgT t 0 u).2.1 (rgT t 0 u).2.2).2.2 = s4 + 2
    rw [b3, nI_0, show nI 1 = 1 by decide, Int32.add_zero, Int32.add_zero, Int32.add_assoc]
    rfl
