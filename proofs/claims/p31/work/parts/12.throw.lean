/-! ===== throw new E("text") ===== -/
section THR
variable {G : GC} {M : MD} {Q : RS → SS → Prop} {k n pc : Nat} {lv : List (Nat × VV)} {st : List VV} {S : SS}
abbrev exD : List Cond := [.declares (Bundle.initS "java/lang/RuntimeException"), .declares (Bundle.initS "java/lang/Exception"), .declares (Bundle.initS "java/lang/Throwable")]
theorem exD_ok : ∀ w ∈ exD, w ∈ lw_tbl := by decide +kernel
theorem exD_d : ∀ w ∈ exD, ∃ x, w = Cond.declares x := by
  intro w hw
  rcases List.mem_cons.mp hw with rfl | hw
  · exact ⟨_, rfl⟩
  · rcases List.mem_cons.mp hw with rfl | hw
    · exact ⟨_, rfl⟩
    · exact ⟨_, List.mem_singleton.mp hw⟩
abbrev exN : List String := ["java/lang/RuntimeException", "java/lang/Exception"]
theorem sr_225 : Cond.stringRef RX4 225 "no such position" ∈ lw_tbl := List.mem_of_getElem? (i := 198) (by decide +kernel)
theorem sx_225 (hG : G0 G) : (Cond.exactly (.string RX4 225) "java/lang/String").before #[Value.ref G.2.2.2.2.1] G.2.1 = true := flat_of_before _ hG.2.2.2 _ (by decide +kernel)
theorem sr_232 : Cond.stringRef RX4 232 "a value or an amount is out of range" ∈ lw_tbl := List.mem_of_getElem? (i := 312) (by decide +kernel)
theorem sx_232 (hG : G0 G) : (Cond.exactly (.string RX4 232) "java/lang/String").before #[Value.ref G.2.2.2.2.1] G.2.1 = true := flat_of_before _ hG.2.2.2 _ (by decide +kernel)
theorem sr_228 : Cond.stringRef RX4 228 "no such range" ∈ lw_tbl := List.mem_of_getElem? (i := 337) (by decide +kernel)
theorem sx_228 (hG : G0 G) : (Cond.exactly (.string RX4 228) "java/lang/String").before #[Value.ref G.2.2.2.2.1] G.2.1 = true := flat_of_before _ hG.2.2.2 _ (by decide +kernel)
theorem sr_150 : Cond.stringRef RX4 150 "an empty range has no least value" ∈ lw_tbl := List.mem_of_getElem? (i := 407) (by decide +kernel)
theorem sx_150 (hG : G0 G) : (Cond.exactly (.string RX4 150) "java/lang/String").before #[Value.ref G.2.2.2.2.1] G.2.1 = true := flat_of_before _ hG.2.2.2 _ (by decide +kernel)
theorem sr_156 : Cond.stringRef RX4 156 "the clipboard is not empty" ∈ lw_tbl := List.mem_of_getElem? (i := 432) (by decide +kernel)
theorem sx_156 (hG : G0 G) : (Cond.exactly (.string RX4 156) "java/lang/String").before #[Value.ref G.2.2.2.2.1] G.2.1 = true := flat_of_before _ hG.2.2.2 _ (by decide +kernel)
theorem sr_230 : Cond.stringRef RX4 230 "no such finger" ∈ lw_tbl := List.mem_of_getElem? (i := 470) (by decide +kernel)
theorem sx_230 (hG : G0 G) : (Cond.exactly (.string RX4 230) "java/lang/String").before #[Value.ref G.2.2.2.2.1] G.2.1 = true := flat_of_before _ hG.2.2.2 _ (by decide +kernel)
theorem sr_176 : Cond.stringRef RX4 176 "the finger is not on a node of the sequence" ∈ lw_tbl := List.mem_of_getElem? (i := 497) (by decide +kernel)
theorem sx_176 (hG : G0 G) : (Cond.exactly (.string RX4 176) "java/lang/String").before #[Value.ref G.2.2.2.2.1] G.2.1 = true := flat_of_before _ hG.2.2.2 _ (by decide +kernel)
theorem sr_178 : Cond.stringRef RX4 178 "there is no such new position" ∈ lw_tbl := List.mem_of_getElem? (i := 498) (by decide +kernel)
theorem sx_178 (hG : G0 G) : (Cond.exactly (.string RX4 178) "java/lang/String").before #[Value.ref G.2.2.2.2.1] G.2.1 = true := flat_of_before _ hG.2.2.2 _ (by decide +kernel)
theorem sr_61 : Cond.stringRef RX4 61 "the sequence and the clipboard are full" ∈ lw_tbl := List.mem_of_getElem? (i := 506) (by decide +kernel)
theorem sx_61 (hG : G0 G) : (Cond.exactly (.string RX4 61) "java/lang/String").before #[Value.ref G.2.2.2.2.1] G.2.1 = true := flat_of_before _ hG.2.2.2 _ (by decide +kernel)
theorem cst_O : Cond.castable "java/lang/IndexOutOfBoundsException" "java/lang/IndexOutOfBoundsException" ∈ lw_tbl := List.mem_of_getElem? (i := 159) (by decide +kernel)
theorem tw_O : ∀ w ∈ vx_atS RX4 227 "java/lang/IndexOutOfBoundsException" exN, (w ∈ lw_tbl ∧ goodWord w = true) ∨ w = .castable "java/lang/IndexOutOfBoundsException" "java/lang/IndexOutOfBoundsException" ∨ w ∈ exD := by decide +kernel
theorem to_O : ∀ w ∈ Cond.classLink RX4 223 "java/lang/IndexOutOfBoundsException" :: Cond.initialized "java/lang/IndexOutOfBoundsException" :: vx_atS RX4 227 "java/lang/IndexOutOfBoundsException" exN, vx_ot w = true := by decide +kernel
theorem ok_19 : okw (.initialized "java/lang/IndexOutOfBoundsException") := ⟨List.mem_of_getElem? (i := 19) (by decide +kernel), by decide +kernel⟩
theorem cst_A : Cond.castable "java/lang/IllegalArgumentException" "java/lang/IllegalArgumentException" ∈ lw_tbl := List.mem_of_getElem? (i := 305) (by decide +kernel)
theorem tw_A : ∀ w ∈ vx_atS RX4 152 "java/lang/IllegalArgumentException" exN, (w ∈ lw_tbl ∧ goodWord w = true) ∨ w = .castable "java/lang/IllegalArgumentException" "java/lang/IllegalArgumentException" ∨ w ∈ exD := by decide +kernel
theorem to_A : ∀ w ∈ Cond.classLink RX4 148 "java/lang/IllegalArgumentException" :: Cond.initialized "java/lang/IllegalArgumentException" :: vx_atS RX4 152 "java/lang/IllegalArgumentException" exN, vx_ot w = true := by decide +kernel
theorem ok_21 : okw (.initialized "java/lang/IllegalArgumentException") := ⟨List.mem_of_getElem? (i := 21) (by decide +kernel), by decide +kernel⟩
theorem cst_S : Cond.castable "java/lang/IllegalStateException" "java/lang/IllegalStateException" ∈ lw_tbl := List.mem_of_getElem? (i := 425) (by decide +kernel)
theorem tw_S : ∀ w ∈ vx_atS RX4 63 "java/lang/IllegalStateException" exN, (w ∈ lw_tbl ∧ goodWord w = true) ∨ w = .castable "java/lang/IllegalStateException" "java/lang/IllegalStateException" ∨ w ∈ exD := by decide +kernel
theorem to_S : ∀ w ∈ Cond.classLink RX4 59 "java/lang/IllegalStateException" :: Cond.initialized "java/lang/IllegalStateException" :: vx_atS RX4 63 "java/lang/IllegalStateException" exN, vx_ot w = true := by decide +kernel
theorem ok_23 : okw (.initialized "java/lang/IllegalStateException") := ⟨List.mem_of_getElem? (i := 23) (by decide +kernel), by decide +kernel⟩
theorem zq_UNASSIGNED_STACK (hG : G0 G) : vx_Zq Bundle.tN "UNASSIGNED_STACK" Bundle.steD (AG G) G.2.1 G.2.1.heap := vx_Zqof (hG.2.1 _ (List.mem_of_getElem? (i := 184) (by decide +kernel))) (hG.2.1 _ (List.mem_of_getElem? (i := 16) (by decide +kernel))) (flat_of_before _ hG.2.2.2 _ (by decide +kernel)) (fun a h h9 => Nat.not_le.mpr h h9.1)
theorem cz_UNASSIGNED_STACK {p : Program} {s : State} {m : MethodId} {meth : Method} {c : Code} (C : Cx G p M s m meth c) : vx_Zq Bundle.tN "UNASSIGNED_STACK" Bundle.steD (AG G) s s.heap := vx_Zq.moved C.2.2.2.2.2.2.2.2.2.1.alike (vx_Zq.kept (zq_UNASSIGNED_STACK C.2.2.2.2.2.2.2.2.1) (fun a h _ => C.2.2.2.2.2.2.2.2.2.2.2.1 a h))
theorem zq_SUPPRESSED_SENTINEL (hG : G0 G) : vx_Zq Bundle.tN "SUPPRESSED_SENTINEL" Bundle.listD (AG G) G.2.1 G.2.1.heap := vx_Zqof (hG.2.1 _ (List.mem_of_getElem? (i := 186) (by decide +kernel))) (hG.2.1 _ (List.mem_of_getElem? (i := 16) (by decide +kernel))) (flat_of_before _ hG.2.2.2 _ (by decide +kernel)) (fun a h h9 => Nat.not_le.mpr h h9.1)
theorem cz_SUPPRESSED_SENTINEL {p : Program} {s : State} {m : MethodId} {meth : Method} {c : Code} (C : Cx G p M s m meth c) : vx_Zq Bundle.tN "SUPPRESSED_SENTINEL" Bundle.listD (AG G) s s.heap := vx_Zq.moved C.2.2.2.2.2.2.2.2.2.1.alike (vx_Zq.kept (zq_SUPPRESSED_SENTINEL C.2.2.2.2.2.2.2.2.1) (fun a h _ => C.2.2.2.2.2.2.2.2.2.2.2.1 a h))
theorem WP_throw (cls text : String) (ik is ic : Nat) (hM : M.1.cls = RX4) (htb : M.2.2.2.2.1 = []) (hfit : Bundle.fit cls = true)
    (hkl : okw (.classLink RX4 ik cls)) (hkl2 : okw (.initialized cls)) (hsr : Cond.stringRef RX4 is text ∈ lw_tbl) (hsx : G0 G → (Cond.exactly (.string RX4 is) "java/lang/String").before #[Value.ref G.2.2.2.2.1] G.2.1 = true)
    (htw : ∀ w ∈ vx_atS RX4 ic cls exN, (w ∈ lw_tbl ∧ goodWord w = true) ∨ w = .castable cls cls ∨ w ∈ exD) (hto : ∀ w ∈ Cond.classLink RX4 ik cls :: Cond.initialized cls :: vx_atS RX4 ic cls exN, vx_ot w = true) (hcst : Cond.castable cls cls ∈ lw_tbl)
    (d0 : decode M.2.1 pc = .ok (.new ik, 3)) (d3 : decode M.2.1 (pc + 3) = .ok (.dup, 1)) (d4 : decode M.2.1 (pc + 4) = .ok (.ldc is, 2)) (d6 : decode M.2.1 (pc + 6) = .ok (.invokespecial ic, 3)) (d9 : decode M.2.1 (pc + 9) = .ok (.athrow, 1))
    (hd : 6 ≤ M.2.2.2.2.2.1) (hrest : argsSz st ≤ 8) (hc : k + 1 ≤ M.2.2.2.2.2.2.1) (hs : n + 6 ≤ M.2.2.2.2.2.2.2) (hq : Q (.inr cls) S) : WP G M Q k n pc lv st S := by
  intro p e s m args below meth c H locs ls C hh hS hl
  have hG := C.2.2.2.2.2.2.2.2.1
  have hW := C.2.2.2.2.2.2.2.2.2.1
  have hown := C.2.2.2.2.2.1
  rw [hM] at hown
  have htl : G.1.stackTraces = false := by
    unfold Launch.stackTraces
    rw [hG.1]
    decide +kernel
  obtain ⟨sa, _, _, _, q1, _⟩ := Cond.exactly_spec (hsx hG)
  have hR : vk_R RX4 is text sa s := vk_R.warm hW (vk_R.of (A := #[Value.ref G.2.2.2.2.1]) (hG.2.1 _ hsr) q1)
  refine vx_throwS (ik := ik) (is := is) (ic := ic) (names := exN) (A := AG G) C.1 C.2.1 htl hown hfit (by decide) (cx_ok C hkl) (cx_ok C hkl2) hR (fun w hw => ?_) hto (cz_UNASSIGNED_STACK C) (cz_SUPPRESSED_SENTINEL C) hS (hl.1.trans C.2.2.2.2.1.symm) d0 d3 d4 d6 d9 (fun x hx => ?_) (by show 2 + 3 < M.2.2.2.2.2.1; omega) (by
      show _ ≤ 30 * M.2.2.2.2.2.1 + rmX
      rw [catSum]
      show argsSz st + (13 * (2 + 1) + 43) ≤ 30 * M.2.2.2.2.2.1 + rmX
      omega) hc hs C.2.2.2.1 (fun t hA h1 h2 => ⟨S, hq, ⟨hh.1.kept (fun j q hj => h2 q.1 (hh.1 j q hj).lt), hh.2⟩, ⟨Nat.le_trans hS.1 h1, fun q g1 g2 => (h2 q (Nat.lt_of_lt_of_le g1 hS.1)).trans (hS.2.1 q g1 g2)⟩⟩) hS.2.2 hc hs
  · rcases htw w hw with ⟨h1, h2⟩ | h | h
    · exact cx_w C h1 h2
    · rw [h]
      exact va_Nw.use rfl (va_Nw.warmC hW (va_Nw.of rfl (hG.2.1 _ hcst)))
    · obtain ⟨x, rfl⟩ := exD_d w h
      exact va_Nw.use rfl (va_Nw.warmD hW (va_Nw.of rfl (hG.2.1 _ (exD_ok _ h))))
  · have h9 := C.2.2.2.2.2.2.2.1
    rw [htb] at h9
    rw [h9] at hx
    cases hx
end THR
