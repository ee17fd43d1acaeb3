theorem ok_283 : okw (.native arraycopyName) := ⟨List.mem_of_getElem? (i := 283) (by decide +kernel), by decide +kernel⟩
theorem ok_282 : okw (.static arraycopyName) := ⟨List.mem_of_getElem? (i := 282) (by decide +kernel), by decide +kernel⟩
theorem ok_20 : okw (.initialized "java/lang/System") := ⟨List.mem_of_getElem? (i := 20) (by decide +kernel), by decide +kernel⟩
theorem ok_22 : okw (.initialized "java/lang/Math") := ⟨List.mem_of_getElem? (i := 22) (by decide +kernel), by decide +kernel⟩
theorem ok_82 : okw (.arrayClass .int) := ⟨List.mem_of_getElem? (i := 82) (by decide +kernel), by decide +kernel⟩
theorem ok_30 : okw (.instanceMethod objectInit) := ⟨List.mem_of_getElem? (i := 30) (by decide +kernel), by decide +kernel⟩
theorem ok_31 : okw (.code objectInit ⟨#[0xb1]⟩ 1 none) := ⟨List.mem_of_getElem? (i := 31) (by decide +kernel), by decide +kernel⟩
theorem ok_592 : okw (.static Lib.Math.max.name) := ⟨List.mem_of_getElem? (i := 592) (by decide +kernel), by decide +kernel⟩
theorem ok_593 : okw (.code Lib.Math.max.name Lib.Math.max.code 2 (some .int)) := ⟨List.mem_of_getElem? (i := 593) (by decide +kernel), by decide +kernel⟩
theorem ok_413 : okw (.static Lib.Math.min.name) := ⟨List.mem_of_getElem? (i := 413) (by decide +kernel), by decide +kernel⟩
theorem ok_414 : okw (.code Lib.Math.min.name Lib.Math.min.code 2 (some .int)) := ⟨List.mem_of_getElem? (i := 414) (by decide +kernel), by decide +kernel⟩
theorem ok_29 : okw (.methodLink RX4 1 objectInit) := ⟨List.mem_of_getElem? (i := 29) (by decide +kernel), by decide +kernel⟩
theorem ok_37 : okw (.methodLink RX3 1 objectInit) := ⟨List.mem_of_getElem? (i := 37) (by decide +kernel), by decide +kernel⟩
theorem ok_49 : okw (.methodLink RX2 3 objectInit) := ⟨List.mem_of_getElem? (i := 49) (by decide +kernel), by decide +kernel⟩
theorem ok_74 : okw (.methodLink RX1 3 objectInit) := ⟨List.mem_of_getElem? (i := 74) (by decide +kernel), by decide +kernel⟩
theorem ok_281 : okw (.methodLink RX1 19 arraycopyName) := ⟨List.mem_of_getElem? (i := 281) (by decide +kernel), by decide +kernel⟩
theorem ok_412 : okw (.methodLink RX3 43 Lib.Math.min.name) := ⟨List.mem_of_getElem? (i := 412) (by decide +kernel), by decide +kernel⟩
theorem ok_511 : okw (.methodLink RX0 1 objectInit) := ⟨List.mem_of_getElem? (i := 511) (by decide +kernel), by decide +kernel⟩
theorem ok_591 : okw (.methodLink RX3 58 Lib.Math.max.name) := ⟨List.mem_of_getElem? (i := 591) (by decide +kernel), by decide +kernel⟩
theorem ok_24 : okw (.classLink RL 9 RX4) := ⟨List.mem_of_getElem? (i := 24) (by decide +kernel), by decide +kernel⟩
theorem ok_32 : okw (.classLink RX4 7 RX3) := ⟨List.mem_of_getElem? (i := 32) (by decide +kernel), by decide +kernel⟩
theorem ok_44 : okw (.classLink RX4 25 RX2) := ⟨List.mem_of_getElem? (i := 44) (by decide +kernel), by decide +kernel⟩
theorem ok_67 : okw (.classLink RX4 32 RX0) := ⟨List.mem_of_getElem? (i := 67) (by decide +kernel), by decide +kernel⟩
theorem ok_69 : okw (.classLink RX4 38 RX1) := ⟨List.mem_of_getElem? (i := 69) (by decide +kernel), by decide +kernel⟩
theorem ok_144 : okw (.classLink RL 14 "java/lang/IndexOutOfBoundsException") := ⟨List.mem_of_getElem? (i := 144) (by decide +kernel), by decide +kernel⟩
theorem ok_157 : okw (.classLink RX4 223 "java/lang/IndexOutOfBoundsException") := ⟨List.mem_of_getElem? (i := 157) (by decide +kernel), by decide +kernel⟩
theorem ok_295 : okw (.classLink RL 17 "java/lang/IllegalArgumentException") := ⟨List.mem_of_getElem? (i := 295) (by decide +kernel), by decide +kernel⟩
theorem ok_303 : okw (.classLink RX4 148 "java/lang/IllegalArgumentException") := ⟨List.mem_of_getElem? (i := 303) (by decide +kernel), by decide +kernel⟩
theorem ok_418 : okw (.classLink RL 19 "java/lang/IllegalStateException") := ⟨List.mem_of_getElem? (i := 418) (by decide +kernel), by decide +kernel⟩
theorem ok_423 : okw (.classLink RX4 59 "java/lang/IllegalStateException") := ⟨List.mem_of_getElem? (i := 423) (by decide +kernel), by decide +kernel⟩
theorem nk_34 : Cond.methodLinkNest RX4 9 yX3_init "SplaySequence" ∈ lw_tbl := List.mem_of_getElem? (i := 34) (by decide +kernel)
theorem nk_46 : Cond.methodLinkNest RX4 27 yX2_init "SplaySequence" ∈ lw_tbl := List.mem_of_getElem? (i := 46) (by decide +kernel)
theorem nk_71 : Cond.methodLinkNest RX4 40 yX1_init "SplaySequence" ∈ lw_tbl := List.mem_of_getElem? (i := 71) (by decide +kernel)
/-! ===== arrays, new cells, constructors ===== -/
theorem AG_new {G : GC} {p : Program} {M : MD} {s : State} {m : MethodId} {meth : Method} {c : Code} (C : Cx G p M s m meth c) {q : Nat} (h : s.heap.size ≤ q) : AG G q := ⟨Nat.le_trans C.2.2.2.2.2.2.2.2.2.2.1 h, fun hP => absurd (C.2.2.2.2.2.2.2.2.2.2.2.2 q hP) (Nat.not_lt.mpr h)⟩
section HPR
variable {G : GC} {M : MD} {Q : RS → SS → Prop} {k n pc : Nat} {lv : List (Nat × VV)} {st rest : List VV} {L : List Nat} {K AN : Nat → Nat} {R0 Rc : Nat → Nat → Option Nat} {Ic AIc Im AIm : Nat → Nat → Int32} {AR : Nat → Nat → Option Nat} {AL : Nat → Nat → Int64}
theorem cl_6 (cy : CY) {a : Nat} (h : K a = 6) : cE cy ((L, K, AN, R0), (Rc, Ic, AIc, AR), (Im, AIm), AL) a = .inl (cy.1, AN a, .inl (AIc a)) := by simp [cE, h]
theorem cu_6 (cy : CY) {a : Nat} (h : K a = 6) (f : Nat → Int32) (x : Nat) : va_up (cE cy ((L, K, AN, R0), (Rc, Ic, AIc, AR), (Im, AIm), AL)) a (.inl (cy.1, AN a, .inl (f))) x = cE cy ((L, K, AN, R0), (Rc, Ic, va_up AIc a f, AR), (Im, AIm), AL) x := by
  by_cases hb : x = a
  · subst hb
    simp [va_up, cE, h]
  · simp [va_up, cE, hb]
theorem ald_6 {o : Option Nat} {a : Nat} {i : Int32} (j N9 : Nat) (dg : decode M.2.1 pc = .ok (.iaload, 1)) (ho : o = some a) (hk : isK ((L, K, AN, R0), (Rc, Ic, AIc, AR), (Im, AIm), AL) 6 a) (hN : AN a = N9) (hi : i = nI j) (hj : j < N9) (h31 : N9 < 2 ^ 31) (kk : WP G M Q k n (pc + 1) lv (vi (AIc a j) :: st) ((L, K, AN, R0), (Rc, Ic, AIc, AR), (Im, AIm), AL)) : WP G M Q k n pc lv (vi i :: vr o :: st) ((L, K, AN, R0), (Rc, Ic, AIc, AR), (Im, AIm), AL) := by
  subst ho
  subst hi
  intro p e s m args below meth c H locs ls C hh hS hl
  obtain ⟨j9, hj9⟩ := pool_at G.2.2.2.1 hk.1
  rw [cl_6 _ hk.2] at hj9
  refine va_iald C.1 C.2.1 (cx_K C) hh.1 j9 0 hj9 rfl (vp_in_nI (by rw [hN]; exact hj) (by rw [hN]; exact h31)) dg ?_
  rw [nI_clamp (Nat.lt_trans hj h31)]
  exact kk p e s m args below meth c H locs ls C hh hS hl
theorem ast_6 {o : Option Nat} {a : Nat} {i : Int32} (j N9 : Nat) {x : Int32} (dg : decode M.2.1 pc = .ok (.iastore, 1)) (ho : o = some a) (hk : isK ((L, K, AN, R0), (Rc, Ic, AIc, AR), (Im, AIm), AL) 6 a) (hN : AN a = N9) (hi : i = nI j) (hj : j < N9) (h31 : N9 < 2 ^ 31) (kk : WP G M Q k n (pc + 1) lv st ((L, K, AN, R0), (Rc, Ic, va_up AIc a (upd (AIc a) j x), AR), (Im, AIm), AL)) : WP G M Q k n pc lv (vi x :: vi i :: vr o :: st) ((L, K, AN, R0), (Rc, Ic, AIc, AR), (Im, AIm), AL) := by
  subst ho
  subst hi
  intro p e s m args below meth c H locs ls C hh hS hl
  obtain ⟨j9, hj9⟩ := pool_at G.2.2.2.1 hk.1
  have hj2 := hj9
  rw [cl_6 _ hk.2] at hj9
  have he : (va_pl L (cE G.2.2.2.1 ((L, K, AN, R0), (Rc, Ic, AIc, AR), (Im, AIm), AL))).set j9 (a, .inl (G.2.2.2.1.1, AN a, .inl (upd (AIc a) j x))) = va_pl L (cE G.2.2.2.1 ((L, K, AN, R0), (Rc, Ic, va_up AIc a (upd (AIc a) j x), AR), (Im, AIm), AL)) := (va_pl_set (X := []) hh.2 hk.1 hj2).trans (va_pl_congr (cu_6 _ hk.2 _))
  refine va_iast C.1 C.2.1 (cx_K C) hh.1 hh.2 hS j9 0 hj9 rfl (vp_in_nI (by rw [hN]; exact hj) (by rw [hN]; exact h31)) dg (fun H1 locs1 hP1 hD1 hS1 => ?_)
  rw [nI_clamp (Nat.lt_trans hj h31)] at hP1 hD1
  exact kk p e s m args below meth c H1 locs1 ls C ⟨by rw [← he]; exact hP1, by rw [← he]; exact hD1⟩ hS1 hl
theorem alen_6 {o : Option Nat} {a : Nat} (N9 : Nat) (dg : decode M.2.1 pc = .ok (.arraylength, 1)) (ho : o = some a) (hk : isK ((L, K, AN, R0), (Rc, Ic, AIc, AR), (Im, AIm), AL) 6 a) (hN : AN a = N9) (kk : WP G M Q k n (pc + 1) lv (vi (nI N9) :: st) ((L, K, AN, R0), (Rc, Ic, AIc, AR), (Im, AIm), AL)) : WP G M Q k n pc lv (vr o :: st) ((L, K, AN, R0), (Rc, Ic, AIc, AR), (Im, AIm), AL) := by
  subst ho
  intro p e s m args below meth c H locs ls C hh hS hl
  obtain ⟨j9, hj9⟩ := pool_at G.2.2.2.1 hk.1
  rw [cl_6 _ hk.2] at hj9
  exact va_alen C.1 C.2.1 (cx_K C) hh.1 j9 0 hj9 rfl (v := nI N9) (by rw [← hN]; rfl) dg (kk p e s m args below meth c H locs ls C hh hS hl)
theorem cl_9 (cy : CY) {a : Nat} (h : K a = 9) : cE cy ((L, K, AN, R0), (Rc, Ic, AIc, AR), (Im, AIm), AL) a = .inl (cy.2.2.1, AN a, .inr (.inr (.inr (.inr (AR a))))) := by simp [cE, h]
theorem cu_9 (cy : CY) {a : Nat} (h : K a = 9) (f : Nat → Option Nat) (x : Nat) : va_up (cE cy ((L, K, AN, R0), (Rc, Ic, AIc, AR), (Im, AIm), AL)) a (.inl (cy.2.2.1, AN a, .inr (.inr (.inr (.inr (f)))))) x = cE cy ((L, K, AN, R0), (Rc, Ic, AIc, va_up AR a f), (Im, AIm), AL) x := by
  by_cases hb : x = a
  · subst hb
    simp [va_up, cE, h]
  · simp [va_up, cE, hb]
theorem ald_9 {o : Option Nat} {a : Nat} {i : Int32} (j N9 : Nat) (dg : decode M.2.1 pc = .ok (.aaload, 1)) (ho : o = some a) (hk : isK ((L, K, AN, R0), (Rc, Ic, AIc, AR), (Im, AIm), AL) 9 a) (hN : AN a = N9) (hi : i = nI j) (hj : j < N9) (h31 : N9 < 2 ^ 31) (kk : WP G M Q k n (pc + 1) lv (vr (AR a j) :: st) ((L, K, AN, R0), (Rc, Ic, AIc, AR), (Im, AIm), AL)) : WP G M Q k n pc lv (vi i :: vr o :: st) ((L, K, AN, R0), (Rc, Ic, AIc, AR), (Im, AIm), AL) := by
  subst ho
  subst hi
  intro p e s m args below meth c H locs ls C hh hS hl
  obtain ⟨j9, hj9⟩ := pool_at G.2.2.2.1 hk.1
  rw [cl_9 _ hk.2] at hj9
  refine va_aldq C.1 C.2.1 (cx_K C) hh.1 j9 2 hj9 rfl (vp_in_nI (by rw [hN]; exact hj) (by rw [hN]; exact h31)) dg ?_
  rw [nI_clamp (Nat.lt_trans hj h31)]
  exact kk p e s m args below meth c H locs ls C hh hS hl
theorem ast_9 {o : Option Nat} {a : Nat} {i : Int32} (j N9 : Nat) {x : Option Nat} (dg : decode M.2.1 pc = .ok (.aastore, 1)) (ho : o = some a) (hk : isK ((L, K, AN, R0), (Rc, Ic, AIc, AR), (Im, AIm), AL) 9 a) (hN : AN a = N9) (hi : i = nI j) (hj : j < N9) (h31 : N9 < 2 ^ 31) (hx : ∀ y, x = some y → isK ((L, K, AN, R0), (Rc, Ic, AIc, AR), (Im, AIm), AL) 0 y) (kk : WP G M Q k n (pc + 1) lv st ((L, K, AN, R0), (Rc, Ic, AIc, va_up AR a (va_up (AR a) j x)), (Im, AIm), AL)) : WP G M Q k n pc lv (vr x :: vi i :: vr o :: st) ((L, K, AN, R0), (Rc, Ic, AIc, AR), (Im, AIm), AL) := by
  subst ho
  subst hi
  intro p e s m args below meth c H locs ls C hh hS hl
  obtain ⟨j9, hj9⟩ := pool_at G.2.2.2.1 hk.1
  have hj2 := hj9
  rw [cl_9 _ hk.2] at hj9
  have he : (va_pl L (cE G.2.2.2.1 ((L, K, AN, R0), (Rc, Ic, AIc, AR), (Im, AIm), AL))).set j9 (a, .inl (G.2.2.2.1.2.2.1, AN a, .inr (.inr (.inr (.inr (va_up (AR a) j x)))))) = va_pl L (cE G.2.2.2.1 ((L, K, AN, R0), (Rc, Ic, AIc, va_up AR a (va_up (AR a) j x)), (Im, AIm), AL)) := (va_pl_set (X := []) hh.2 hk.1 hj2).trans (va_pl_congr (cu_9 _ hk.2 _))
  have hin : vp_in (nI j) (AN a) := vp_in_nI (by rw [hN]; exact hj) (by rw [hN]; exact h31)
  cases x with
  | none =>
    refine va_astqN C.1 C.2.1 (cx_K C) hh.1 hh.2 hS j9 2 hj9 rfl hin dg (fun H1 locs1 hP1 hD1 hS1 => ?_)
    rw [nI_clamp (Nat.lt_trans hj h31)] at hP1 hD1
    exact kk p e s m args below meth c H1 locs1 ls C ⟨by rw [← he]; exact hP1, by rw [← he]; exact hD1⟩ hS1 hl
  | some y =>
    have hy := hx y rfl
    obtain ⟨j8, hj8⟩ := pool_at G.2.2.2.1 hy.1
    rw [cl_0 _ hy.2] at hj8
    refine va_astq (r := (RX0, TX0, 5)) C.1 C.2.1 (cx_K C) hh.1 hh.2 hS j9 2 j8 0 hj9 rfl hj8 rfl hin dg (fun H1 locs1 hP1 hD1 hS1 => ?_)
    rw [nI_clamp (Nat.lt_trans hj h31)] at hP1 hD1
    exact kk p e s m args below meth c H1 locs1 ls C ⟨by rw [← he]; exact hP1, by rw [← he]; exact hD1⟩ hS1 hl
theorem alen_9 {o : Option Nat} {a : Nat} (N9 : Nat) (dg : decode M.2.1 pc = .ok (.arraylength, 1)) (ho : o = some a) (hk : isK ((L, K, AN, R0), (Rc, Ic, AIc, AR), (Im, AIm), AL) 9 a) (hN : AN a = N9) (kk : WP G M Q k n (pc + 1) lv (vi (nI N9) :: st) ((L, K, AN, R0), (Rc, Ic, AIc, AR), (Im, AIm), AL)) : WP G M Q k n pc lv (vr o :: st) ((L, K, AN, R0), (Rc, Ic, AIc, AR), (Im, AIm), AL) := by
  subst ho
  intro p e s m args below meth c H locs ls C hh hS hl
  obtain ⟨j9, hj9⟩ := pool_at G.2.2.2.1 hk.1
  rw [cl_9 _ hk.2] at hj9
  exact va_alen C.1 C.2.1 (cx_K C) hh.1 j9 2 hj9 rfl (v := nI N9) (by rw [← hN]; rfl) dg (kk p e s m args below meth c H locs ls C hh hS hl)
theorem WP_copy {idx : Nat} {o0 o1 : Option Nat} {a0 a : Nat} {sp dp nn : Int32} (sp' dp' n' N0 N1 : Nat) (dg : decode M.2.1 pc = .ok (.invokestatic idx, 3)) (hlk : okw (.methodLink M.1.cls idx arraycopyName)) (h0 : o0 = some a0) (h1 : o1 = some a) (hk0 : isK ((L, K, AN, R0), (Rc, Ic, AIc, AR), (Im, AIm), AL) 6 a0) (hk1 : isK ((L, K, AN, R0), (Rc, Ic, AIc, AR), (Im, AIm), AL) 6 a) (hN0 : AN a0 = N0) (hN1 : AN a = N1) (hsp : sp = nI sp') (hdp : dp = nI dp') (hnn : nn = nI n') (hb0 : sp' + n' ≤ N0) (hb1 : dp' + n' ≤ N1) (h31 : N0 < 2 ^ 31) (h32 : N1 < 2 ^ 31) (hd : 2 ≤ M.2.2.2.2.2.1) (hrest : argsSz st ≤ 8)
    (kk : WP G M Q k n (pc + 3) lv st ((L, K, AN, R0), (Rc, Ic, va_up AIc a (va_cpy (AIc a0) (AIc a) sp' dp' n'), AR), (Im, AIm), AL)) : WP G M Q k n pc lv (vi nn :: vi dp :: vr o1 :: vi sp :: vr o0 :: st) ((L, K, AN, R0), (Rc, Ic, AIc, AR), (Im, AIm), AL) := by
  subst h0; subst h1; subst hsp; subst hdp; subst hnn
  intro p e s m args below meth c H locs ls C hh hS hl
  obtain ⟨j0, hj0⟩ := pool_at G.2.2.2.1 hk0.1
  obtain ⟨j1, hj1⟩ := pool_at G.2.2.2.1 hk1.1
  have hj2 := hj1
  rw [cl_6 _ hk0.2] at hj0
  rw [cl_6 _ hk1.2] at hj1
  have he : (va_pl L (cE G.2.2.2.1 ((L, K, AN, R0), (Rc, Ic, AIc, AR), (Im, AIm), AL))).set j1 (a, .inl (G.2.2.2.1.1, AN a, .inl (va_cpy (AIc a0) (AIc a) sp' dp' n'))) = va_pl L (cE G.2.2.2.1 ((L, K, AN, R0), (Rc, Ic, va_up AIc a (va_cpy (AIc a0) (AIc a) sp' dp' n'), AR), (Im, AIm), AL)) := (va_pl_set (X := []) hh.2 hk1.1 hj2).trans (va_pl_congr (cu_6 _ hk1.2 _))
  have c1 : (nI sp').toNatClampNeg = sp' := nI_clamp (by omega)
  have c2 : (nI dp').toNatClampNeg = dp' := nI_clamp (by omega)
  have c3 : (nI n').toNatClampNeg = n' := nI_clamp (by omega)
  refine va_copyi C.1 C.2.1 (C.2.2.2.2.1.trans hl.1.symm) C.2.2.2.2.2.1 (cx_ok C hlk) (cx_ok C ok_283) (cx_ok C ok_282) (cx_ok C ok_20) (cx_K C) hh.1 hh.2 hS j0 j1 0 0 hj0 hj1 rfl rfl rfl
    (nI_pos (by omega)) (nI_pos (by omega)) (nI_pos (by omega)) (by rw [c1, c3, hN0]; exact hb0) (by rw [c2, c3, hN1]; exact hb1) (fun _ _ => rfl) (Nat.le_trans (by decide) hd) (by
      have h9 : nativeFrameWords "java/lang/System" "arraycopy" 5 ≤ 40 := by decide +kernel
      show _ ≤ 30 * M.2.2.2.2.2.1 + rmX
      rw [catSum]
      omega) dg (fun H1 locs1 hP1 hD1 hS1 => ?_)
  rw [c1, c2, c3] at hP1 hD1
  exact kk p e s m args below meth c H1 locs1 ls C ⟨by rw [← he]; exact hP1, by rw [← he]; exact hD1⟩ hS1 hl
theorem oki_0 : okw (.instantiable RX0 5) := ⟨List.mem_of_getElem? (i := 507) (by decide +kernel), by decide +kernel⟩
theorem cn_0 (cy : CY) (q x : Nat) : va_up (cE cy ((L, K, AN, R0), (Rc, Ic, AIc, AR), (Im, AIm), AL)) q (.inr (0, [.null, .null, .null, .int 0, .int 0])) x = cE cy ((L ++ [q], va_up K q 0, AN, R0), (u2 (u2 (u2 Rc 0 q none) 1 q none) 2 q none, u2 (u2 Ic 0 q 0) 1 q 0, AIc, AR), (Im, AIm), AL) x := by
  by_cases hb : x = q
  · subst hb
    simp [va_up, cE, u2, va_rf]
  · simp [va_up, cE, u2, hb]
theorem new_0 {idx : Nat} (dg : decode M.2.1 pc = .ok (.new idx, 3)) (hcl : okw (.classLink M.1.cls idx RX0)) (hc : k + 1 ≤ M.2.2.2.2.2.2.1) (hs : n + 5 ≤ M.2.2.2.2.2.2.2) (kk : ∀ q : Nat, q ∉ L → WP G M Q (k + 1) (n + 5) (pc + 3) lv (vr (some q) :: st) ((L ++ [q], va_up K q 0, AN, R0), (u2 (u2 (u2 Rc 0 q none) 1 q none) 2 q none, u2 (u2 Ic 0 q 0) 1 q 0, AIc, AR), (Im, AIm), AL)) : WP G M Q k n pc lv st ((L, K, AN, R0), (Rc, Ic, AIc, AR), (Im, AIm), AL) := by
  intro p e s m args below meth c H locs ls C hh hS hl
  refine va_new (ci := 0) (fs := [.null, .null, .null, .int 0, .int 0]) (C := RX0) (T := TX0) (N := 5) (Ts := wsX00) C.1 C.2.1 (fun w h => cx_ok C (gd_0 w h)) (fun _ h => h) tyX0 tyX0_ok C.2.2.2.2.2.1 (cx_ok C hcl) (cx_ok C oki_0) (cx_ok C ok_15) (cx_K C) hh.1 hh.2 hS (fun q h => AG_new C h) rfl (by intro j hj; rcases (show j = 0 ∨ j = 1 ∨ j = 2 ∨ j = 3 ∨ j = 4 by omega) with rfl | rfl | rfl | rfl | rfl <;> rfl) hc hs dg (fun q H1 hP1 hD1 hS1 => ?_)
  have hq : q ∉ L := va_pl_fresh2 (X := []) hD1
  have he : va_pl L (cE G.2.2.2.1 ((L, K, AN, R0), (Rc, Ic, AIc, AR), (Im, AIm), AL)) ++ [(q, .inr (0, [.null, .null, .null, .int 0, .int 0]))] = va_pl (L ++ [q]) (cE G.2.2.2.1 ((L ++ [q], va_up K q 0, AN, R0), (u2 (u2 (u2 Rc 0 q none) 1 q none) 2 q none, u2 (u2 Ic 0 q 0) 1 q 0, AIc, AR), (Im, AIm), AL)) := (va_pl_push hq).trans (va_pl_congr (cn_0 _ q))
  exact kk q hq p e s m args below meth c H1 locs ls C ⟨by rw [← he]; exact hP1, by rw [← he]; exact hD1⟩ hS1 hl
theorem oki_1 : okw (.instantiable RX1 2) := ⟨List.mem_of_getElem? (i := 70) (by decide +kernel), by decide +kernel⟩
theorem cn_1 (cy : CY) (q x : Nat) : va_up (cE cy ((L, K, AN, R0), (Rc, Ic, AIc, AR), (Im, AIm), AL)) q (.inr (1, [.null, .int 0])) x = cE cy ((L ++ [q], va_up K q 1, AN, u2 R0 0 q none), (Rc, u2 Ic 2 q 0, AIc, AR), (Im, AIm), AL) x := by
  by_cases hb : x = q
  · subst hb
    simp [va_up, cE, u2, va_rf]
  · simp [va_up, cE, u2, hb]
theorem new_1 {idx : Nat} (dg : decode M.2.1 pc = .ok (.new idx, 3)) (hcl : okw (.classLink M.1.cls idx RX1)) (hc : k + 1 ≤ M.2.2.2.2.2.2.1) (hs : n + 2 ≤ M.2.2.2.2.2.2.2) (kk : ∀ q : Nat, q ∉ L → WP G M Q (k + 1) (n + 2) (pc + 3) lv (vr (some q) :: st) ((L ++ [q], va_up K q 1, AN, u2 R0 0 q none), (Rc, u2 Ic 2 q 0, AIc, AR), (Im, AIm), AL)) : WP G M Q k n pc lv st ((L, K, AN, R0), (Rc, Ic, AIc, AR), (Im, AIm), AL) := by
  intro p e s m args below meth c H locs ls C hh hS hl
  refine va_new (ci := 1) (fs := [.null, .int 0]) (C := RX1) (T := TX1) (N := 2) (Ts := wsX10) C.1 C.2.1 (fun w h => cx_ok C (gd_1 w h)) (fun _ h => h) tyX1 tyX1_ok C.2.2.2.2.2.1 (cx_ok C hcl) (cx_ok C oki_1) (cx_ok C ok_14) (cx_K C) hh.1 hh.2 hS (fun q h => AG_new C h) rfl (by intro j hj; rcases (show j = 0 ∨ j = 1 by omega) with rfl | rfl <;> rfl) hc hs dg (fun q H1 hP1 hD1 hS1 => ?_)
  have hq : q ∉ L := va_pl_fresh2 (X := []) hD1
  have he : va_pl L (cE G.2.2.2.1 ((L, K, AN, R0), (Rc, Ic, AIc, AR), (Im, AIm), AL)) ++ [(q, .inr (1, [.null, .int 0]))] = va_pl (L ++ [q]) (cE G.2.2.2.1 ((L ++ [q], va_up K q 1, AN, u2 R0 0 q none), (Rc, u2 Ic 2 q 0, AIc, AR), (Im, AIm), AL)) := (va_pl_push hq).trans (va_pl_congr (cn_1 _ q))
  exact kk q hq p e s m args below meth c H1 locs ls C ⟨by rw [← he]; exact hP1, by rw [← he]; exact hD1⟩ hS1 hl
theorem oki_2 : okw (.instantiable RX2 4) := ⟨List.mem_of_getElem? (i := 45) (by decide +kernel), by decide +kernel⟩
theorem cn_2 (cy : CY) (q x : Nat) : va_up (cE cy ((L, K, AN, R0), (Rc, Ic, AIc, AR), (Im, AIm), AL)) q (.inr (2, [.int 0, .int 0, .int 0, .int 0])) x = cE cy ((L ++ [q], va_up K q 2, AN, R0), (Rc, u2 (u2 (u2 (u2 Ic 3 q 0) 4 q 0) 5 q 0) 6 q 0, AIc, AR), (Im, AIm), AL) x := by
  by_cases hb : x = q
  · subst hb
    simp [va_up, cE, u2, va_rf]
  · simp [va_up, cE, u2, hb]
theorem new_2 {idx : Nat} (dg : decode M.2.1 pc = .ok (.new idx, 3)) (hcl : okw (.classLink M.1.cls idx RX2)) (hc : k + 1 ≤ M.2.2.2.2.2.2.1) (hs : n + 4 ≤ M.2.2.2.2.2.2.2) (kk : ∀ q : Nat, q ∉ L → WP G M Q (k + 1) (n + 4) (pc + 3) lv (vr (some q) :: st) ((L ++ [q], va_up K q 2, AN, R0), (Rc, u2 (u2 (u2 (u2 Ic 3 q 0) 4 q 0) 5 q 0) 6 q 0, AIc, AR), (Im, AIm), AL)) : WP G M Q k n pc lv st ((L, K, AN, R0), (Rc, Ic, AIc, AR), (Im, AIm), AL) := by
  intro p e s m args below meth c H locs ls C hh hS hl
  refine va_new (ci := 2) (fs := [.int 0, .int 0, .int 0, .int 0]) (C := RX2) (T := TX2) (N := 4) (Ts := wsX20) C.1 C.2.1 (fun w h => cx_ok C (gd_2 w h)) (fun _ h => h) tyX2 tyX2_ok C.2.2.2.2.2.1 (cx_ok C hcl) (cx_ok C oki_2) (cx_ok C ok_13) (cx_K C) hh.1 hh.2 hS (fun q h => AG_new C h) rfl (by intro j hj; rcases (show j = 0 ∨ j = 1 ∨ j = 2 ∨ j = 3 by omega) with rfl | rfl | rfl | rfl <;> rfl) hc hs dg (fun q H1 hP1 hD1 hS1 => ?_)
  have hq : q ∉ L := va_pl_fresh2 (X := []) hD1
  have he : va_pl L (cE G.2.2.2.1 ((L, K, AN, R0), (Rc, Ic, AIc, AR), (Im, AIm), AL)) ++ [(q, .inr (2, [.int 0, .int 0, .int 0, .int 0]))] = va_pl (L ++ [q]) (cE G.2.2.2.1 ((L ++ [q], va_up K q 2, AN, R0), (Rc, u2 (u2 (u2 (u2 Ic 3 q 0) 4 q 0) 5 q 0) 6 q 0, AIc, AR), (Im, AIm), AL)) := (va_pl_push hq).trans (va_pl_congr (cn_2 _ q))
  exact kk q hq p e s m args below meth c H1 locs ls C ⟨by rw [← he]; exact hP1, by rw [← he]; exact hD1⟩ hS1 hl
theorem oki_3 : okw (.instantiable RX3 1) := ⟨List.mem_of_getElem? (i := 33) (by decide +kernel), by decide +kernel⟩
theorem cn_3 (cy : CY) (q x : Nat) : va_up (cE cy ((L, K, AN, R0), (Rc, Ic, AIc, AR), (Im, AIm), AL)) q (.inr (3, [.null])) x = cE cy ((L ++ [q], va_up K q 3, AN, R0), (u2 Rc 3 q none, Ic, AIc, AR), (Im, AIm), AL) x := by
  by_cases hb : x = q
  · subst hb
    simp [va_up, cE, u2, va_rf]
  · simp [va_up, cE, u2, hb]
theorem new_3 {idx : Nat} (dg : decode M.2.1 pc = .ok (.new idx, 3)) (hcl : okw (.classLink M.1.cls idx RX3)) (hc : k + 1 ≤ M.2.2.2.2.2.2.1) (hs : n + 1 ≤ M.2.2.2.2.2.2.2) (kk : ∀ q : Nat, q ∉ L → WP G M Q (k + 1) (n + 1) (pc + 3) lv (vr (some q) :: st) ((L ++ [q], va_up K q 3, AN, R0), (u2 Rc 3 q none, Ic, AIc, AR), (Im, AIm), AL)) : WP G M Q k n pc lv st ((L, K, AN, R0), (Rc, Ic, AIc, AR), (Im, AIm), AL) := by
  intro p e s m args below meth c H locs ls C hh hS hl
  refine va_new (ci := 3) (fs := [.null]) (C := RX3) (T := TX3) (N := 1) (Ts := wsX30) C.1 C.2.1 (fun w h => cx_ok C (gd_3 w h)) (fun _ h => h) tyX3 tyX3_ok C.2.2.2.2.2.1 (cx_ok C hcl) (cx_ok C oki_3) (cx_ok C ok_12) (cx_K C) hh.1 hh.2 hS (fun q h => AG_new C h) rfl (by intro j hj; rcases (show j = 0 by omega) with rfl <;> rfl) hc hs dg (fun q H1 hP1 hD1 hS1 => ?_)
  have hq : q ∉ L := va_pl_fresh2 (X := []) hD1
  have he : va_pl L (cE G.2.2.2.1 ((L, K, AN, R0), (Rc, Ic, AIc, AR), (Im, AIm), AL)) ++ [(q, .inr (3, [.null]))] = va_pl (L ++ [q]) (cE G.2.2.2.1 ((L ++ [q], va_up K q 3, AN, R0), (u2 Rc 3 q none, Ic, AIc, AR), (Im, AIm), AL)) := (va_pl_push hq).trans (va_pl_congr (cn_3 _ q))
  exact kk q hq p e s m args below meth c H1 locs ls C ⟨by rw [← he]; exact hP1, by rw [← he]; exact hD1⟩ hS1 hl
theorem oki_4 : okw (.instantiable RX4 8) := ⟨List.mem_of_getElem? (i := 25) (by decide +kernel), by decide +kernel⟩
theorem cn_4 (cy : CY) (q x : Nat) : va_up (cE cy ((L, K, AN, R0), (Rc, Ic, AIc, AR), (Im, AIm), AL)) q (.inr (4, [.null, .null, .null, .null, .null, .null, .null, .null])) x = cE cy ((L ++ [q], va_up K q 4, AN, u2 (u2 (u2 (u2 (u2 (u2 (u2 (u2 R0 1 q none) 2 q none) 3 q none) 4 q none) 5 q none) 6 q none) 7 q none) 8 q none), (Rc, Ic, AIc, AR), (Im, AIm), AL) x := by
  by_cases hb : x = q
  · subst hb
    simp [va_up, cE, u2, va_rf]
  · simp [va_up, cE, u2, hb]
theorem new_4 {idx : Nat} (dg : decode M.2.1 pc = .ok (.new idx, 3)) (hcl : okw (.classLink M.1.cls idx RX4)) (hc : k + 1 ≤ M.2.2.2.2.2.2.1) (hs : n + 8 ≤ M.2.2.2.2.2.2.2) (kk : ∀ q : Nat, q ∉ L → WP G M Q (k + 1) (n + 8) (pc + 3) lv (vr (some q) :: st) ((L ++ [q], va_up K q 4, AN, u2 (u2 (u2 (u2 (u2 (u2 (u2 (u2 R0 1 q none) 2 q none) 3 q none) 4 q none) 5 q none) 6 q none) 7 q none) 8 q none), (Rc, Ic, AIc, AR), (Im, AIm), AL)) : WP G M Q k n pc lv st ((L, K, AN, R0), (Rc, Ic, AIc, AR), (Im, AIm), AL) := by
  intro p e s m args below meth c H locs ls C hh hS hl
  refine va_new (ci := 4) (fs := [.null, .null, .null, .null, .null, .null, .null, .null]) (C := RX4) (T := TX4) (N := 8) (Ts := wsX40) C.1 C.2.1 (fun w h => cx_ok C (gd_4 w h)) (fun _ h => h) tyX4 tyX4_ok C.2.2.2.2.2.1 (cx_ok C hcl) (cx_ok C oki_4) (cx_ok C ok_11) (cx_K C) hh.1 hh.2 hS (fun q h => AG_new C h) rfl (by intro j hj; rcases (show j = 0 ∨ j = 1 ∨ j = 2 ∨ j = 3 ∨ j = 4 ∨ j = 5 ∨ j = 6 ∨ j = 7 by omega) with rfl | rfl | rfl | rfl | rfl | rfl | rfl | rfl <;> rfl) hc hs dg (fun q H1 hP1 hD1 hS1 => ?_)
  have hq : q ∉ L := va_pl_fresh2 (X := []) hD1
  have he : va_pl L (cE G.2.2.2.1 ((L, K, AN, R0), (Rc, Ic, AIc, AR), (Im, AIm), AL)) ++ [(q, .inr (4, [.null, .null, .null, .null, .null, .null, .null, .null]))] = va_pl (L ++ [q]) (cE G.2.2.2.1 ((L ++ [q], va_up K q 4, AN, u2 (u2 (u2 (u2 (u2 (u2 (u2 (u2 R0 1 q none) 2 q none) 3 q none) 4 q none) 5 q none) 6 q none) 7 q none) 8 q none), (Rc, Ic, AIc, AR), (Im, AIm), AL)) := (va_pl_push hq).trans (va_pl_congr (cn_4 _ q))
  exact kk q hq p e s m args below meth c H1 locs ls C ⟨by rw [← he]; exact hP1, by rw [← he]; exact hD1⟩ hS1 hl
theorem cn_6 (cy : CY) (N9 q x : Nat) : va_up (cE cy ((L, K, AN, R0), (Rc, Ic, AIc, AR), (Im, AIm), AL)) q (.inl (cy.1, N9, .inl (fun _ => 0))) x = cE cy ((L ++ [q], va_up K q 6, va_up AN q N9, R0), (Rc, Ic, va_up AIc q (fun _ => 0), AR), (Im, AIm), AL) x := by
  by_cases hb : x = q
  · subst hb
    simp [va_up, cE]
  · simp [va_up, cE, hb]
theorem newa_6 {i : Int32} (N9 : Nat) (dg : decode M.2.1 pc = .ok (.newarray .int, 2)) (hi : i = nI N9) (h31 : N9 < 2 ^ 20) (hc : k + 1 ≤ M.2.2.2.2.2.2.1) (hs : n + N9 ≤ M.2.2.2.2.2.2.2) (kk : ∀ q : Nat, q ∉ L → WP G M Q (k + 1) (n + N9) (pc + 2) lv (vr (some q) :: st) ((L ++ [q], va_up K q 6, va_up AN q N9, R0), (Rc, Ic, va_up AIc q (fun _ => 0), AR), (Im, AIm), AL)) : WP G M Q k n pc lv (vi i :: st) ((L, K, AN, R0), (Rc, Ic, AIc, AR), (Im, AIm), AL) := by
  subst hi
  intro p e s m args below meth c H locs ls C hh hS hl
  refine va_newa (atype := .int) (ty := .int) (N' := N9) (a0 := (N9, .inl (fun _ => 0))) C.1 C.2.1 (cx_ok C ok_82) rfl (cx_K C) hh.1 hh.2 hS (fun q h => AG_new C h) (fun _ => rfl) (nI_pos (by omega)) (nI_clamp (by omega)) (by show N9 * 4 ≤ 536870912; omega) hc hs dg (fun q cA H1 hK1 hP1 hD1 hS1 => ?_)
  have hA1 := (hK1.2 4 (cA, .int) rfl).2
  have hA2 := (hK1.2 0 (G.2.2.2.1.1, .int) rfl).2
  have hcA : cA = G.2.2.2.1.1 := Option.some.inj (Eq.trans (Eq.symm (show s.vm.findClass _ = some cA from hA1)) hA2)
  subst hcA
  have hq : q ∉ L := va_pl_fresh2 (X := []) hD1
  have he : va_pl L (cE G.2.2.2.1 ((L, K, AN, R0), (Rc, Ic, AIc, AR), (Im, AIm), AL)) ++ [(q, .inl (G.2.2.2.1.1, N9, .inl (fun _ => 0)))] = va_pl (L ++ [q]) (cE G.2.2.2.1 ((L ++ [q], va_up K q 6, va_up AN q N9, R0), (Rc, Ic, va_up AIc q (fun _ => 0), AR), (Im, AIm), AL)) := (va_pl_push hq).trans (va_pl_congr (cn_6 _ N9 q))
  exact kk q hq p e s m args below meth c H1 locs ls C ⟨by rw [← he]; exact hP1, by rw [← he]; exact hD1⟩ hS1 hl
theorem cn_9 (cy : CY) (N9 q x : Nat) : va_up (cE cy ((L, K, AN, R0), (Rc, Ic, AIc, AR), (Im, AIm), AL)) q (.inl (cy.2.2.1, N9, .inr (.inr (.inr (.inr (fun _ => none)))))) x = cE cy ((L ++ [q], va_up K q 9, va_up AN q N9, R0), (Rc, Ic, AIc, va_up AR q (fun _ => none)), (Im, AIm), AL) x := by
  by_cases hb : x = q
  · subst hb
    simp [va_up, cE]
  · simp [va_up, cE, hb]
theorem ao_9 : Cond.arrayOver (.object RX0) ∈ lw_tbl := List.mem_of_getElem? (i := 68) (by decide +kernel)
theorem newa_9 {i : Int32} {idx : Nat} (N9 : Nat) (dg : decode M.2.1 pc = .ok (.anewarray idx, 3)) (hcl : okw (.classLink M.1.cls idx RX0)) (hi : i = nI N9) (h31 : N9 < 2 ^ 20) (hc : k + 1 ≤ M.2.2.2.2.2.2.1) (hs : n + N9 ≤ M.2.2.2.2.2.2.2) (kk : ∀ q : Nat, q ∉ L → WP G M Q (k + 1) (n + N9) (pc + 3) lv (vr (some q) :: st) ((L ++ [q], va_up K q 9, va_up AN q N9, R0), (Rc, Ic, AIc, va_up AR q (fun _ => none)), (Im, AIm), AL)) : WP G M Q k n pc lv (vi i :: st) ((L, K, AN, R0), (Rc, Ic, AIc, AR), (Im, AIm), AL) := by
  subst hi
  intro p e s m args below meth c H locs ls C hh hS hl
  refine va_newq (N' := N9) C.1 C.2.1 C.2.2.2.2.2.1 (cx_ok C hcl) (va_AO.moved C.2.2.2.2.2.2.2.2.2.1.alike (va_AO.of (C.2.2.2.2.2.2.2.2.1.2.1 _ ao_9))) (cx_K C) hh.1 hh.2 hS (fun q h => AG_new C h) (nI_pos (by omega)) (nI_clamp (by omega)) (by omega) hc hs dg (fun q cA H1 hK1 hP1 hD1 hS1 => ?_)
  have hA1 := (hK1.2 4 (cA, .object RX0) rfl).2
  have hA2 := (hK1.2 2 (G.2.2.2.1.2.2.1, .object RX0) rfl).2
  obtain ⟨_, _, _, _, _, h1⟩ := hA1
  obtain ⟨_, _, _, _, _, h2⟩ := hA2
  have hcA : cA = G.2.2.2.1.2.2.1 := Option.some.inj (Eq.trans (Eq.symm h1) h2)
  subst hcA
  have hq : q ∉ L := va_pl_fresh2 (X := []) hD1
  have he : va_pl L (cE G.2.2.2.1 ((L, K, AN, R0), (Rc, Ic, AIc, AR), (Im, AIm), AL)) ++ [(q, .inl (G.2.2.2.1.2.2.1, N9, .inr (.inr (.inr (.inr (fun _ => none))))))] = va_pl (L ++ [q]) (cE G.2.2.2.1 ((L ++ [q], va_up K q 9, va_up AN q N9, R0), (Rc, Ic, AIc, va_up AR q (fun _ => none)), (Im, AIm), AL)) := (va_pl_push hq).trans (va_pl_congr (cn_9 _ N9 q))
  exact kk q hq p e s m args below meth c H1 locs ls C ⟨by rw [← he]; exact hP1, by rw [← he]; exact hD1⟩ hS1 hl
theorem WP_obj {idx a : Nat} {S : SS} (dg : decode M.2.1 pc = .ok (.invokespecial idx, 3)) (hlk : okw (.methodLink M.1.cls idx objectInit)) (hd : 1 ≤ M.2.2.2.2.2.1) (hrest : argsSz st ≤ 8) (kk : WP G M Q k n (pc + 3) lv st S) : WP G M Q k n pc lv (vr (some a) :: st) S := fun p e s m args below meth c H locs ls C hh hS hl =>
  W.objInit C.1 C.2.1 C.2.2.2.2.2.1 (cx_ok C hlk) (cx_ok C ok_30) (cx_ok C ok_31) (g := F0 m pc ls ((vr (some a) :: st).map toV)) rfl (hl.1.trans C.2.2.2.2.1.symm) rfl dg hd (by show 2 * 0 + ((st.map toV).map fun v => v.category).sum + 12 ≤ 30 * M.2.2.2.2.2.1 + rmX; rw [catSum]; omega) (kk p e s m args below meth c H locs ls C hh hS hl)
theorem MT.met {Z : MD} {av : List VV} {S : SS} {Qz : RS → SS → Prop} (h : MT G Z av S Qz) (hq : ∀ E S', ¬ Qz (.inr E) S') : Met G.1 Z.1 [mw Z] (rmOf Z) (PC G av S) (QC G Qz) Z.2.2.2.2.2.2.1 Z.2.2.2.2.2.2.2 (AG G) := by
  intro p e ha hc hk s m args below hf happ hP hK
  obtain ⟨n1, o, h1, h2, h3, h4⟩ := h p e ha hc hk s m args below hf happ hP hK
  refine ⟨n1, o, h1, h2, h3, ?_⟩
  rcases h4 with h4 | ⟨q, e1, E, ce, L, ⟨S', hq', e2⟩, e3⟩
  · exact h4
  · exact absurd hq' (hq E S')
theorem W_afterM {p : Program} {e : Env} {R : Room} {s : State} {m : MethodId} {args : Array Value} {below : List Frame} {meth : Method} {c : Code} {H : Heap} {locs : List Loc} {ls : Array Slot} {mc ms : Nat} {Qz : RS → SS → Prop} {a9 : Array Value} {Qf : State → Prop} {st0 : List Value}
    (hr : va_Run p G.1 e R s m args below meth c H locs k n mc ms (F0 m pc ls st0) (rest.map toV) (QC G Qz a9) (AG G)) (hS : va_S (AG G) s.heap H locs)
    (kret : ∀ (v : Option VV) (S' : SS) (H1 : Heap) (locs1 : List Loc), Qz (.inl v) S' → HH G S' H1 → va_S (AG G) s.heap H1 locs1 → W p G.1 e R s m args below meth c H1 locs1 (k + mc) (n + ms) Qf (F0 m (pc + 3) ls ((v.toList ++ rest).map toV))) :
    W p G.1 e R s m args below meth c H locs k n Qf (F0 m pc ls st0) := by
  intro T hT X
  obtain ⟨v, st₀, t, T', L, h0, X', hL, e1, e2, ⟨v', S', hv, hq, hh', hF⟩, st⟩ := hr T hT X
  cases hv
  obtain ⟨k1, k2, k3⟩ := vx_keep h0 e1 hS (fun _ _ h => h) (fun _ h => h) hL hF
  obtain ⟨t2, a1, b1⟩ := kret v' S' T'.heap (locs ++ L) hq (by rw [e1]; exact hh') k3 T' rfl X'
  refine ⟨t2, st t2 ?_, b1⟩
  cases v' <;> exact a1
theorem WP_callI (Z : MD) {na idx a : Nat} {As : List VV} {S : SS} {Qz : RS → SS → Prop} (dg : decode M.2.1 pc = .ok (.invokespecial idx, 3)) (hz : okw (mw Z) ∧ okw (.instanceMethod Z.1) ∧ okw (.initialized Z.1.cls)) (htb : Z.2.2.2.2.1 = []) (hret : Z.2.2.2.1 = none) (hnm : Z.1.name = "<init>") (hd : (Z.1.cls ≠ "java/lang/invoke/MethodHandle" ∧ Z.1.cls ≠ "java/lang/invoke/VarHandle") ∧ (parseMethodDescriptor Z.1.desc).map (fun d => d.parameters.length) = some na) (hl9 : okw (.methodLink M.1.cls idx Z.1)) (hR : okR M Z)
    (hst : st = As.reverse ++ vr (some a) :: rest) (hn : As.length = na) (hrest : argsSz rest ≤ 8) (hc : k + Z.2.2.2.2.2.2.1 ≤ M.2.2.2.2.2.2.1) (hsl : n + Z.2.2.2.2.2.2.2 ≤ M.2.2.2.2.2.2.2)
    (hM : MT G Z (vr (some a) :: As) S Qz) (hq : ∀ E S', ¬ Qz (.inr E) S')
    (kret : ∀ (v : Option VV) (S' : SS), Qz (.inl v) S' → WP G M Q (k + Z.2.2.2.2.2.2.1) (n + Z.2.2.2.2.2.2.2) (pc + 3) lv (v.toList ++ rest) S') :
    WP G M Q k n pc lv st S := by
  subst hst
  intro p e s m args below meth c H locs ls C hh hS hl
  obtain ⟨z1, z2, z4⟩ := hz
  have hw : mw Z = .code Z.1 Z.2.1 Z.2.2.1 none := by unfold mw; rw [htb, hret]
  have h0 : ((As.reverse ++ vr (some a) :: rest).map toV) = (As.map toV).reverse ++ Value.ref a :: rest.map toV := by
    rw [List.map_append, List.map_reverse]
    rfl
  rw [h0]
  refine W_afterM (mc := Z.2.2.2.2.2.2.1) (ms := Z.2.2.2.2.2.2.2) (rest := rest) (Qz := Qz) (va_runI (y := Z.1) (bytes := Z.2.1) (maxL := Z.2.2.1) (ws := [mw Z]) (rm := rmOf Z) (n := na) (Ts := []) (own := M.1.cls) (nL := M.2.2.1) (As := As.map toV)
    ⟨C.1, C.2.1, C.2.2.2.2.1, C.2.2.2.2.2.1, fun w h => absurd h List.not_mem_nil⟩ (hM.met hq)
    ⟨⟨rfl, rfl, hR.1, okR.loc hR, fun w hw9 a' U hW => by rw [List.mem_singleton.mp hw9]; exact okw_at (s := s) C.2.2.2.2.2.2.2.2.1 (State.WarmedH.trans C.2.2.2.2.2.2.2.2.2.1 hW) z1, by rw [hw]; exact List.mem_singleton.mpr rfl, by rw [← hw]; exact cx_ok C z1, cx_ok C z4, hd.1, nArgs hd.2, cx_ok C hl9⟩, hnm, cx_ok C z2⟩
    ⟨PC_blind, fun U hU hW => PC_of C hh hS hU hW⟩ rfl (by rw [List.length_map]; exact hn) hl.1 rfl (lv_room (by rw [catSum]; exact hrest)) dg ⟨hc, hsl⟩) hS
    (fun v S' H1 locs1 hq hh1 hS1 => kret v S' hq p e s m args below meth c H1 locs1 ls C hh1 hS1 hl)
/-- .. of a nest mate's private constructor -/
theorem WP_callIN (Z : MD) {na idx a : Nat} {host : String} {As : List VV} {S : SS} {Qz : RS → SS → Prop} (dg : decode M.2.1 pc = .ok (.invokespecial idx, 3)) (hz : okw (mw Z) ∧ okw (.instanceMethod Z.1) ∧ okw (.initialized Z.1.cls)) (htb : Z.2.2.2.2.1 = []) (hret : Z.2.2.2.1 = none) (hnm : Z.1.name = "<init>") (hd : (Z.1.cls ≠ "java/lang/invoke/MethodHandle" ∧ Z.1.cls ≠ "java/lang/invoke/VarHandle") ∧ (parseMethodDescriptor Z.1.desc).map (fun d => d.parameters.length) = some na) (hl9 : Cond.methodLinkNest M.1.cls idx Z.1 host ∈ lw_tbl) (hR : okR M Z)
    (hst : st = As.reverse ++ vr (some a) :: rest) (hn : As.length = na) (hrest : argsSz rest ≤ 8) (hc : k + Z.2.2.2.2.2.2.1 ≤ M.2.2.2.2.2.2.1) (hsl : n + Z.2.2.2.2.2.2.2 ≤ M.2.2.2.2.2.2.2)
    (hM : MT G Z (vr (some a) :: As) S Qz) (hq : ∀ E S', ¬ Qz (.inr E) S')
    (kret : ∀ (v : Option VV) (S' : SS), Qz (.inl v) S' → WP G M Q (k + Z.2.2.2.2.2.2.1) (n + Z.2.2.2.2.2.2.2) (pc + 3) lv (v.toList ++ rest) S') :
    WP G M Q k n pc lv st S := by
  subst hst
  intro p e s m args below meth c H locs ls C hh hS hl
  obtain ⟨z1, z2, z4⟩ := hz
  have hw : mw Z = .code Z.1 Z.2.1 Z.2.2.1 none := by unfold mw; rw [htb, hret]
  have h0 : ((As.reverse ++ vr (some a) :: rest).map toV) = (As.map toV).reverse ++ Value.ref a :: rest.map toV := by
    rw [List.map_append, List.map_reverse]
    rfl
  rw [h0]
  refine W_afterM (mc := Z.2.2.2.2.2.2.1) (ms := Z.2.2.2.2.2.2.2) (rest := rest) (Qz := Qz) (va_runIN (y := Z.1) (bytes := Z.2.1) (maxL := Z.2.2.1) (ws := [mw Z]) (rm := rmOf Z) (n := na) (Ts := []) (own := M.1.cls) (host := host) (nL := M.2.2.1) (As := As.map toV)
    ⟨C.1, C.2.1, C.2.2.2.2.1, C.2.2.2.2.2.1, fun w h => absurd h List.not_mem_nil⟩ (hM.met hq)
    ⟨⟨⟨rfl, rfl, hR.1, okR.loc hR, fun w hw9 a' U hW => by rw [List.mem_singleton.mp hw9]; exact okw_at (s := s) C.2.2.2.2.2.2.2.2.1 (State.WarmedH.trans C.2.2.2.2.2.2.2.2.2.1 hW) z1, by rw [hw]; exact List.mem_singleton.mpr rfl⟩, by rw [← hw]; exact cx_ok C z1, cx_ok C z4, hd.1, nArgs hd.2, va_Nw.use rfl (va_Nw.warmM C.2.2.2.2.2.2.2.2.2.1 (va_Nw.of rfl (C.2.2.2.2.2.2.2.2.1.2.1 _ hl9)))⟩, hnm, cx_ok C z2⟩
    ⟨PC_blind, fun U hU hW => PC_of C hh hS hU hW⟩ rfl (by rw [List.length_map]; exact hn) hl.1 rfl (lv_room (by rw [catSum]; exact hrest)) dg ⟨hc, hsl⟩) hS
    (fun v S' H1 locs1 hq hh1 hS1 => kret v S' hq p e s m args below meth c H1 locs1 ls C hh1 hS1 hl)
theorem WP_max {idx : Nat} {x y : Int32} {S : SS} (dg : decode M.2.1 pc = .ok (.invokestatic idx, 3)) (hlk : okw (.methodLink M.1.cls idx Lib.Math.max.name)) (hd : 1 ≤ M.2.2.2.2.2.1) (hrest : argsSz st ≤ 8) (h1 : k ≤ M.2.2.2.2.2.2.1) (h2 : n ≤ M.2.2.2.2.2.2.2) (kk : WP G M Q k n (pc + 3) lv (vi (if x < y then y else x) :: st) S) : WP G M Q k n pc lv (vi y :: vi x :: st) S := fun p e s m args below meth c H locs ls C hh hS hl =>
  va_mmax C.1 C.2.1 (C.2.2.2.2.1.trans hl.1.symm) C.2.2.2.2.2.1 (cx_ok C hlk) (cx_ok C ok_592) (cx_ok C ok_22) (cx_ok C ok_593) hd (by show ((st.map toV).map fun v => v.category).sum + 13 ≤ 30 * M.2.2.2.2.2.1 + rmX; rw [catSum]; omega) h1 h2 dg (kk p e s m args below meth c H locs ls C hh hS hl)
theorem WP_min {idx : Nat} {x y : Int32} {S : SS} (dg : decode M.2.1 pc = .ok (.invokestatic idx, 3)) (hlk : okw (.methodLink M.1.cls idx Lib.Math.min.name)) (hd : 1 ≤ M.2.2.2.2.2.1) (hrest : argsSz st ≤ 8) (h1 : k ≤ M.2.2.2.2.2.2.1) (h2 : n ≤ M.2.2.2.2.2.2.2) (kk : WP G M Q k n (pc + 3) lv (vi (if y < x then y else x) :: st) S) : WP G M Q k n pc lv (vi y :: vi x :: st) S := fun p e s m args below meth c H locs ls C hh hS hl =>
  va_mmin C.1 C.2.1 (C.2.2.2.2.1.trans hl.1.symm) C.2.2.2.2.2.1 (cx_ok C hlk) (cx_ok C ok_413) (cx_ok C ok_22) (cx_ok C ok_414) hd (by show ((st.map toV).map fun v => v.category).sum + 13 ≤ 30 * M.2.2.2.2.2.1 + rmX; rw [catSum]; omega) h1 h2 dg (kk p e s m args below meth c H locs ls C hh hS hl)
end HPR
