/-! ===== the law: its script, its switch ===== -/
section LAW
variable {G : GC} {M : MD} {Q : RS → SS → Prop} {k n pc : Nat} {lv : List (Nat × VV)} {st : List VV} {S : SS}
/-- the script -/
def scX (G : GC) (Ln : Nat) (xs : Nat → Int32) : Prop := va_X G.2.2.2.2 Ln xs G.2.1 G.2.1.heap ∧ G.2.2.2.2 < G.2.1.heap.size
theorem scX_at {Ln : Nat} {xs : Nat → Int32} {p : Program} {s : State} {m : MethodId} {meth : Method} {c : Code} (hX : scX G Ln xs) (C : Cx G p M s m meth c) : va_X G.2.2.2.2 Ln xs s s.heap ∧ G.2.2.2.2 < s.heap.size := by
  obtain ⟨e1, e2⟩ := C.2.2.2.2.2.2.2.2.2.2
  exact ⟨va_X.moved C.2.2.2.2.2.2.2.2.2.1.alike (va_X.kept hX.1 (e2 _ hX.2)), Nat.lt_of_lt_of_le hX.2 e1⟩
theorem WP_sld {Ln j : Nat} {xs : Nat → Int32} {i : Int32} (hX : scX G Ln xs) (dg : decode M.2.1 pc = .ok (.iaload, 1)) (hi : i = nI j) (hj : j < Ln) (hL : Ln < 2 ^ 31) (kk : WP G M Q k n (pc + 1) lv (vi (xs j) :: st) S) : WP G M Q k n pc lv (vi i :: vr (some G.2.2.2.2) :: st) S := by
  intro p e s m args below meth c H locs ls C hh hS hl
  subst hi
  obtain ⟨h1, h2⟩ := scX_at hX C
  have h3 := kk p e s m args below meth c H locs ls C hh hS hl
  refine va_sld C.1 C.2.1 h1 h2 (fun h => Nat.not_le.mpr hX.2 h) hS (vp_in_nI hj hL) dg ?_
  rw [nI_clamp (by omega)]
  exact h3
theorem WP_slen {Ln : Nat} {xs : Nat → Int32} (hX : scX G Ln xs) (dg : decode M.2.1 pc = .ok (.arraylength, 1)) (kk : WP G M Q k n (pc + 1) lv (vi (nI Ln) :: st) S) : WP G M Q k n pc lv (vr (some G.2.2.2.2) :: st) S := by
  intro p e s m args below meth c H locs ls C hh hS hl
  obtain ⟨h1, h2⟩ := scX_at hX C
  exact va_slen C.1 C.2.1 h1 h2 (fun h => Nat.not_le.mpr hX.2 h) hS dg (kk p e s m args below meth c H locs ls C hh hS hl)
theorem WP_tabIn {dflt lo hi : Int} {offs : Array Int} {len : Nat} {x : Int32} {off : Int} (tgt : Nat) (dg : decode M.2.1 pc = .ok (.tableswitch dflt lo hi offs, len)) (h1 : ¬ x.toInt < lo) (h2 : ¬ hi < x.toInt) (ho : offs[(x.toInt - lo).toNat]? = some off) (ht : (pc : Int) + off = (tgt : Int)) (kk : WP G M Q k n tgt lv st S) : WP G M Q k n pc lv (vi x :: st) S := by
  intro p e s m args below meth c H locs ls C hh hS hl
  exact lv_tableIn C.1 C.2.1 dg h1 h2 ho ht (kk p e s m args below meth c H locs ls C hh hS hl)
theorem WP_tabOut {dflt lo hi : Int} {offs : Array Int} {len : Nat} {x : Int32} (tgt : Nat) (dg : decode M.2.1 pc = .ok (.tableswitch dflt lo hi offs, len)) (h : x.toInt < lo ∨ hi < x.toInt) (ht : (pc : Int) + dflt = (tgt : Int)) (kk : WP G M Q k n tgt lv st S) : WP G M Q k n pc lv (vi x :: st) S := by
  intro p e s m args below meth c H locs ls C hh hS hl
  exact lv_tableOut C.1 C.2.1 dg h ht (kk p e s m args below meth c H locs ls C hh hS hl)
end LAW
/-! what grows keeps -/
section GRW
variable {G : GC} {L L' : List Nat} {K K' AN AN' : Nat → Nat} {R0 R0' Rc : Nat → Nat → Option Nat} {Ic AIc Im AIm : Nat → Nat → Int32} {AR : Nat → Nat → Option Nat} {AL : Nat → Nat → Int64} {E W : Nat → Nat} {A : AB}
theorem gk {b kd : Nat} (hg : ∀ a ∈ L, a ∈ L' ∧ K' a = K a) (h : b ∈ L ∧ K b = kd) : b ∈ L' ∧ K' b = kd := ⟨(hg b h.1).1, (hg b h.1).2.trans h.2⟩
theorem mI_grow (hg : ∀ a ∈ L, a ∈ L' ∧ K' a = K a) (hI : mI W L K AN R0 Im AIm A) : mI W L' K' AN R0 Im AIm A := by
  obtain ⟨⟨a0, a1, ⟨⟨b1, c1⟩, ⟨b2, c2⟩, ⟨b3, c3⟩, ⟨b4, c4⟩, ⟨b5, c5⟩, ⟨b6, c6⟩, ⟨b7, c7⟩⟩, a3⟩, h⟩ := hI
  exact ⟨⟨gk hg a0, a1, ⟨⟨gk hg b1, c1⟩, ⟨gk hg b2, c2⟩, ⟨gk hg b3, c3⟩, ⟨gk hg b4, c4⟩, ⟨gk hg b5, c5⟩, ⟨gk hg b6, c6⟩, ⟨gk hg b7, c7⟩⟩, a3⟩, h⟩
theorem cT_gr {t : Tr} (hg : ∀ a ∈ L, a ∈ L' ∧ K' a = K a) (h : cT L K Rc Ic t) : cT L' K' Rc Ic t := ⟨h.1, gN_congr t (fun a i v s hm hp => ⟨gk hg hp.1, hp.2⟩) h.2⟩
theorem cI_grow (hg : ∀ a ∈ L, a ∈ L' ∧ K' a = K a) (hN : ∀ a ∈ L, AN' a = AN a) (hR : ∀ a ∈ L, ∀ j, j < 9 → R0' j a = R0 j a) (hI : cI E L K AN R0 Rc Ic AIc AR A) : cI E L' K' AN' R0' Rc Ic AIc AR A := by
  obtain ⟨⟨a0, ⟨r1, r2, r3, r4, r5, r6, r7, r8⟩, ⟨a2, a3, a4, a5⟩, a6, ⟨a7, a8⟩, ⟨b1, b2, b3, b4⟩, ⟨b5, b6, b7, b8⟩, b9⟩, ⟨hF, hw⟩, h⟩ := hI
  refine ⟨⟨gk hg a0, ⟨?_, ?_, ?_, ?_, ?_, ?_, ?_, ?_⟩, ⟨gk hg a2, gk hg a3, gk hg a4, gk hg a5⟩, gk hg a6, ⟨gk hg a7, (hN _ a7.1).trans a8⟩, ⟨gk hg b1, gk hg b2, (hR _ b1.1 0 (by decide)).trans b3, (hN _ b2.1).trans b4⟩, ⟨gk hg b5, gk hg b6, (hR _ b5.1 0 (by decide)).trans b7, (hN _ b6.1).trans b8⟩, b9⟩, ⟨⟨fun t ht => cT_gr hg (hF.1 t ht), hF.2⟩, hw⟩, h⟩
  all_goals (rw [hR _ a0.1 _ (by decide)]; assumption)
end GRW
section THN
variable {G : GC} {L : List Nat} {K AN : Nat → Nat} {R0 Rc : Nat → Nat → Option Nat} {Ic AIc Im AIm : Nat → Nat → Int32} {AR : Nat → Nat → Option Nat} {AL : Nat → Nat → Int64} {W : Nat → Nat}
theorem m_thrown (m0 : W 0 ∈ L ∧ K (W 0) = 5) : MT G mX5_thrown [vr (some (W 0))] (mkS L K AN R0 Rc Ic AIc AR Im AIm AL) (rI (fun x S' => x = Im 0 (W 0) ∧ S' = mkS L K AN R0 Rc Ic AIc AR Im AIm AL)) := by
  refine MT_of (by decide) rfl (Nat.le_of_ble_eq_true rfl) ?_
  refine WP_aload_n dX5_thrown_0 rfl ?_
  refine gf_RX5_39 dX5_thrown_1 rfl rfl m0 ?_
  refine WP_ireturn dX5_thrown_4 rfl rfl (Nat.le_of_ble_eq_true rfl) (Nat.le_of_ble_eq_true rfl) ?_
  exact ⟨_, rfl, rfl, rfl⟩
end THN
/-- what holds between two calls of the law -/
def jI (E W : Nat → Nat) (O : Nat) (A : AB) : SS → Prop := fun S => ∃ L K AN R0 Rc Ic AIc AR Im AIm AL, S = mkS L K AN R0 Rc Ic AIc AR Im AIm AL ∧ cI E L K AN R0 Rc Ic AIc AR A ∧ mI W L K AN R0 Im AIm A ∧ (O ∈ L ∧ K O = 10) ∧ AN O = 1
