/-! ===== getfield, putfield ===== -/
section FLD
variable {G : GC} {M : MD} {Q : RS → SS → Prop} {k n pc : Nat} {lv : List (Nat × VV)} {st : List VV} {L : List Nat} {K AN : Nat → Nat} {R0 Rc : Nat → Nat → Option Nat} {Ic AIc Im AIm : Nat → Nat → Int32} {AR : Nat → Nat → Option Nat} {AL : Nat → Nat → Int64}
theorem ok_528 : okw (.lays "SplaySequence$Node" "SplaySequence$Node" "left" "LSplaySequence$Node;") := ⟨List.mem_of_getElem? (i := 528) (by decide +kernel), by decide +kernel⟩
theorem ok_530 : okw (.lays "SplaySequence$Node" "SplaySequence$Node" "right" "LSplaySequence$Node;") := ⟨List.mem_of_getElem? (i := 530) (by decide +kernel), by decide +kernel⟩
theorem ok_532 : okw (.lays "SplaySequence$Node" "SplaySequence$Node" "parent" "LSplaySequence$Node;") := ⟨List.mem_of_getElem? (i := 532) (by decide +kernel), by decide +kernel⟩
theorem ok_534 : okw (.lays "SplaySequence$Node" "SplaySequence$Node" "count" "I") := ⟨List.mem_of_getElem? (i := 534) (by decide +kernel), by decide +kernel⟩
theorem ok_536 : okw (.lays "SplaySequence$Node" "SplaySequence$Node" "value" "I") := ⟨List.mem_of_getElem? (i := 536) (by decide +kernel), by decide +kernel⟩
theorem gd_0 : ∀ w ∈ wsX00, okw w := List.forall_mem_cons.mpr ⟨ok_528, List.forall_mem_cons.mpr ⟨ok_530, List.forall_mem_cons.mpr ⟨ok_532, List.forall_mem_cons.mpr ⟨ok_534, List.forall_mem_cons.mpr ⟨ok_536, fun _ h => absurd h List.not_mem_nil⟩⟩⟩⟩⟩
theorem ok_77 : okw (.laysFinal "SplaySequence$Row" "SplaySequence$Row" "values" "[I") := ⟨List.mem_of_getElem? (i := 77) (by decide +kernel), by decide +kernel⟩
theorem ok_79 : okw (.lays "SplaySequence$Row" "SplaySequence$Row" "length" "I") := ⟨List.mem_of_getElem? (i := 79) (by decide +kernel), by decide +kernel⟩
theorem gd_1 : ∀ w ∈ wsX10, okw w := List.forall_mem_cons.mpr ⟨ok_77, List.forall_mem_cons.mpr ⟨ok_79, fun _ h => absurd h List.not_mem_nil⟩⟩
theorem ok_58 : okw (.lays "SplaySequence$Splayer" "SplaySequence$Splayer" "callSteps" "I") := ⟨List.mem_of_getElem? (i := 58) (by decide +kernel), by decide +kernel⟩
theorem ok_60 : okw (.lays "SplaySequence$Splayer" "SplaySequence$Splayer" "callRotations" "I") := ⟨List.mem_of_getElem? (i := 60) (by decide +kernel), by decide +kernel⟩
theorem ok_62 : okw (.lays "SplaySequence$Splayer" "SplaySequence$Splayer" "allSteps" "I") := ⟨List.mem_of_getElem? (i := 62) (by decide +kernel), by decide +kernel⟩
theorem ok_64 : okw (.lays "SplaySequence$Splayer" "SplaySequence$Splayer" "allSplays" "I") := ⟨List.mem_of_getElem? (i := 64) (by decide +kernel), by decide +kernel⟩
theorem gd_2 : ∀ w ∈ wsX20, okw w := List.forall_mem_cons.mpr ⟨ok_58, List.forall_mem_cons.mpr ⟨ok_60, List.forall_mem_cons.mpr ⟨ok_62, List.forall_mem_cons.mpr ⟨ok_64, fun _ h => absurd h List.not_mem_nil⟩⟩⟩⟩
theorem ok_41 : okw (.lays "SplaySequence$Tree" "SplaySequence$Tree" "root" "LSplaySequence$Node;") := ⟨List.mem_of_getElem? (i := 41) (by decide +kernel), by decide +kernel⟩
theorem gd_3 : ∀ w ∈ wsX30, okw w := List.forall_mem_cons.mpr ⟨ok_41, fun _ h => absurd h List.not_mem_nil⟩
theorem ok_91 : okw (.laysFinal "SplaySequence" "SplaySequence" "sequence" "LSplaySequence$Tree;") := ⟨List.mem_of_getElem? (i := 91) (by decide +kernel), by decide +kernel⟩
theorem ok_93 : okw (.laysFinal "SplaySequence" "SplaySequence" "clipboard" "LSplaySequence$Tree;") := ⟨List.mem_of_getElem? (i := 93) (by decide +kernel), by decide +kernel⟩
theorem ok_95 : okw (.laysFinal "SplaySequence" "SplaySequence" "range" "LSplaySequence$Tree;") := ⟨List.mem_of_getElem? (i := 95) (by decide +kernel), by decide +kernel⟩
theorem ok_97 : okw (.laysFinal "SplaySequence" "SplaySequence" "tail" "LSplaySequence$Tree;") := ⟨List.mem_of_getElem? (i := 97) (by decide +kernel), by decide +kernel⟩
theorem ok_99 : okw (.laysFinal "SplaySequence" "SplaySequence" "splayer" "LSplaySequence$Splayer;") := ⟨List.mem_of_getElem? (i := 99) (by decide +kernel), by decide +kernel⟩
theorem ok_101 : okw (.laysFinal "SplaySequence" "SplaySequence" "fingers" "[LSplaySequence$Node;") := ⟨List.mem_of_getElem? (i := 101) (by decide +kernel), by decide +kernel⟩
theorem ok_103 : okw (.laysFinal "SplaySequence" "SplaySequence" "row" "LSplaySequence$Row;") := ⟨List.mem_of_getElem? (i := 103) (by decide +kernel), by decide +kernel⟩
theorem ok_105 : okw (.laysFinal "SplaySequence" "SplaySequence" "clippedRow" "LSplaySequence$Row;") := ⟨List.mem_of_getElem? (i := 105) (by decide +kernel), by decide +kernel⟩
theorem gd_4 : ∀ w ∈ wsX40, okw w := List.forall_mem_cons.mpr ⟨ok_91, List.forall_mem_cons.mpr ⟨ok_93, List.forall_mem_cons.mpr ⟨ok_95, List.forall_mem_cons.mpr ⟨ok_97, List.forall_mem_cons.mpr ⟨ok_99, List.forall_mem_cons.mpr ⟨ok_101, List.forall_mem_cons.mpr ⟨ok_103, List.forall_mem_cons.mpr ⟨ok_105, fun _ h => absurd h List.not_mem_nil⟩⟩⟩⟩⟩⟩⟩⟩
theorem cx_nf {S : SS} {p : Program} {s : State} {m : MethodId} {meth : Method} {c : Code} {args : Array Value} (C : Cx G p M s m meth c) {a : String} {i : Nat} {b d h e : String} (hw : Cond.fieldLinkNest a i b d h e ∈ lw_tbl) : (Cond.fieldLinkNest a i b d h e).before args s = true := va_Nw.use rfl (va_Nw.warmF C.2.2.2.2.2.2.2.2.2.1 (va_Nw.of rfl (C.2.2.2.2.2.2.2.2.1.2.1 _ hw)))
theorem cx_K {p : Program} {s : State} {m : MethodId} {meth : Method} {c : Code} (C : Cx G p M s m meth c) : va_K G.2.2.1 vwCl (tysOf G.2.2.2.1) s := va_K.moved C.2.2.2.2.2.2.2.2.2.1.alike C.2.2.2.2.2.2.2.2.1.2.2.1
theorem cl_0 (cy : CY) {a : Nat} (h : K a = 0) : cE cy ((L, K, AN, R0), (Rc, Ic, AIc, AR), (Im, AIm), AL) a = .inr (0, [va_rf (Rc 0 a), va_rf (Rc 1 a), va_rf (Rc 2 a), .int (Ic 0 a), .int (Ic 1 a)]) := by simp [cE, h]
theorem cu_0_0 (cy : CY) {a : Nat} (h : K a = 0) (v : Option Nat) (x : Nat) : va_up (cE cy ((L, K, AN, R0), (Rc, Ic, AIc, AR), (Im, AIm), AL)) a (.inr (0, [va_rf (v), va_rf (Rc 1 a), va_rf (Rc 2 a), .int (Ic 0 a), .int (Ic 1 a)])) x = cE cy ((L, K, AN, R0), (u2 Rc 0 a v, Ic, AIc, AR), (Im, AIm), AL) x := by
  by_cases hb : x = a
  · subst hb
    simp [va_up, cE, u2, h]
  · simp [va_up, cE, u2, hb]
theorem cu_0_1 (cy : CY) {a : Nat} (h : K a = 0) (v : Option Nat) (x : Nat) : va_up (cE cy ((L, K, AN, R0), (Rc, Ic, AIc, AR), (Im, AIm), AL)) a (.inr (0, [va_rf (Rc 0 a), va_rf (v), va_rf (Rc 2 a), .int (Ic 0 a), .int (Ic 1 a)])) x = cE cy ((L, K, AN, R0), (u2 Rc 1 a v, Ic, AIc, AR), (Im, AIm), AL) x := by
  by_cases hb : x = a
  · subst hb
    simp [va_up, cE, u2, h]
  · simp [va_up, cE, u2, hb]
theorem cu_0_2 (cy : CY) {a : Nat} (h : K a = 0) (v : Option Nat) (x : Nat) : va_up (cE cy ((L, K, AN, R0), (Rc, Ic, AIc, AR), (Im, AIm), AL)) a (.inr (0, [va_rf (Rc 0 a), va_rf (Rc 1 a), va_rf (v), .int (Ic 0 a), .int (Ic 1 a)])) x = cE cy ((L, K, AN, R0), (u2 Rc 2 a v, Ic, AIc, AR), (Im, AIm), AL) x := by
  by_cases hb : x = a
  · subst hb
    simp [va_up, cE, u2, h]
  · simp [va_up, cE, u2, hb]
theorem cu_0_3 (cy : CY) {a : Nat} (h : K a = 0) (v : Int32) (x : Nat) : va_up (cE cy ((L, K, AN, R0), (Rc, Ic, AIc, AR), (Im, AIm), AL)) a (.inr (0, [va_rf (Rc 0 a), va_rf (Rc 1 a), va_rf (Rc 2 a), .int (v), .int (Ic 1 a)])) x = cE cy ((L, K, AN, R0), (Rc, u2 Ic 0 a v, AIc, AR), (Im, AIm), AL) x := by
  by_cases hb : x = a
  · subst hb
    simp [va_up, cE, u2, h]
  · simp [va_up, cE, u2, hb]
theorem cu_0_4 (cy : CY) {a : Nat} (h : K a = 0) (v : Int32) (x : Nat) : va_up (cE cy ((L, K, AN, R0), (Rc, Ic, AIc, AR), (Im, AIm), AL)) a (.inr (0, [va_rf (Rc 0 a), va_rf (Rc 1 a), va_rf (Rc 2 a), .int (Ic 0 a), .int (v)])) x = cE cy ((L, K, AN, R0), (Rc, u2 Ic 1 a v, AIc, AR), (Im, AIm), AL) x := by
  by_cases hb : x = a
  · subst hb
    simp [va_up, cE, u2, h]
  · simp [va_up, cE, u2, hb]
theorem cl_1 (cy : CY) {a : Nat} (h : K a = 1) : cE cy ((L, K, AN, R0), (Rc, Ic, AIc, AR), (Im, AIm), AL) a = .inr (1, [va_rf (R0 0 a), .int (Ic 2 a)]) := by simp [cE, h]
theorem cu_1_0 (cy : CY) {a : Nat} (h : K a = 1) (v : Option Nat) (x : Nat) : va_up (cE cy ((L, K, AN, R0), (Rc, Ic, AIc, AR), (Im, AIm), AL)) a (.inr (1, [va_rf (v), .int (Ic 2 a)])) x = cE cy ((L, K, AN, u2 R0 0 a v), (Rc, Ic, AIc, AR), (Im, AIm), AL) x := by
  by_cases hb : x = a
  · subst hb
    simp [va_up, cE, u2, h]
  · simp [va_up, cE, u2, hb]
theorem cu_1_1 (cy : CY) {a : Nat} (h : K a = 1) (v : Int32) (x : Nat) : va_up (cE cy ((L, K, AN, R0), (Rc, Ic, AIc, AR), (Im, AIm), AL)) a (.inr (1, [va_rf (R0 0 a), .int (v)])) x = cE cy ((L, K, AN, R0), (Rc, u2 Ic 2 a v, AIc, AR), (Im, AIm), AL) x := by
  by_cases hb : x = a
  · subst hb
    simp [va_up, cE, u2, h]
  · simp [va_up, cE, u2, hb]
theorem cl_2 (cy : CY) {a : Nat} (h : K a = 2) : cE cy ((L, K, AN, R0), (Rc, Ic, AIc, AR), (Im, AIm), AL) a = .inr (2, [.int (Ic 3 a), .int (Ic 4 a), .int (Ic 5 a), .int (Ic 6 a)]) := by simp [cE, h]
theorem cu_2_0 (cy : CY) {a : Nat} (h : K a = 2) (v : Int32) (x : Nat) : va_up (cE cy ((L, K, AN, R0), (Rc, Ic, AIc, AR), (Im, AIm), AL)) a (.inr (2, [.int (v), .int (Ic 4 a), .int (Ic 5 a), .int (Ic 6 a)])) x = cE cy ((L, K, AN, R0), (Rc, u2 Ic 3 a v, AIc, AR), (Im, AIm), AL) x := by
  by_cases hb : x = a
  · subst hb
    simp [va_up, cE, u2, h]
  · simp [va_up, cE, u2, hb]
theorem cu_2_1 (cy : CY) {a : Nat} (h : K a = 2) (v : Int32) (x : Nat) : va_up (cE cy ((L, K, AN, R0), (Rc, Ic, AIc, AR), (Im, AIm), AL)) a (.inr (2, [.int (Ic 3 a), .int (v), .int (Ic 5 a), .int (Ic 6 a)])) x = cE cy ((L, K, AN, R0), (Rc, u2 Ic 4 a v, AIc, AR), (Im, AIm), AL) x := by
  by_cases hb : x = a
  · subst hb
    simp [va_up, cE, u2, h]
  · simp [va_up, cE, u2, hb]
theorem cu_2_2 (cy : CY) {a : Nat} (h : K a = 2) (v : Int32) (x : Nat) : va_up (cE cy ((L, K, AN, R0), (Rc, Ic, AIc, AR), (Im, AIm), AL)) a (.inr (2, [.int (Ic 3 a), .int (Ic 4 a), .int (v), .int (Ic 6 a)])) x = cE cy ((L, K, AN, R0), (Rc, u2 Ic 5 a v, AIc, AR), (Im, AIm), AL) x := by
  by_cases hb : x = a
  · subst hb
    simp [va_up, cE, u2, h]
  · simp [va_up, cE, u2, hb]
theorem cu_2_3 (cy : CY) {a : Nat} (h : K a = 2) (v : Int32) (x : Nat) : va_up (cE cy ((L, K, AN, R0), (Rc, Ic, AIc, AR), (Im, AIm), AL)) a (.inr (2, [.int (Ic 3 a), .int (Ic 4 a), .int (Ic 5 a), .int (v)])) x = cE cy ((L, K, AN, R0), (Rc, u2 Ic 6 a v, AIc, AR), (Im, AIm), AL) x := by
  by_cases hb : x = a
  · subst hb
    simp [va_up, cE, u2, h]
  · simp [va_up, cE, u2, hb]
theorem cl_3 (cy : CY) {a : Nat} (h : K a = 3) : cE cy ((L, K, AN, R0), (Rc, Ic, AIc, AR), (Im, AIm), AL) a = .inr (3, [va_rf (Rc 3 a)]) := by simp [cE, h]
theorem cu_3_0 (cy : CY) {a : Nat} (h : K a = 3) (v : Option Nat) (x : Nat) : va_up (cE cy ((L, K, AN, R0), (Rc, Ic, AIc, AR), (Im, AIm), AL)) a (.inr (3, [va_rf (v)])) x = cE cy ((L, K, AN, R0), (u2 Rc 3 a v, Ic, AIc, AR), (Im, AIm), AL) x := by
  by_cases hb : x = a
  · subst hb
    simp [va_up, cE, u2, h]
  · simp [va_up, cE, u2, hb]
theorem cl_4 (cy : CY) {a : Nat} (h : K a = 4) : cE cy ((L, K, AN, R0), (Rc, Ic, AIc, AR), (Im, AIm), AL) a = .inr (4, [va_rf (R0 1 a), va_rf (R0 2 a), va_rf (R0 3 a), va_rf (R0 4 a), va_rf (R0 5 a), va_rf (R0 6 a), va_rf (R0 7 a), va_rf (R0 8 a)]) := by simp [cE, h]
theorem cu_4_0 (cy : CY) {a : Nat} (h : K a = 4) (v : Option Nat) (x : Nat) : va_up (cE cy ((L, K, AN, R0), (Rc, Ic, AIc, AR), (Im, AIm), AL)) a (.inr (4, [va_rf (v), va_rf (R0 2 a), va_rf (R0 3 a), va_rf (R0 4 a), va_rf (R0 5 a), va_rf (R0 6 a), va_rf (R0 7 a), va_rf (R0 8 a)])) x = cE cy ((L, K, AN, u2 R0 1 a v), (Rc, Ic, AIc, AR), (Im, AIm), AL) x := by
  by_cases hb : x = a
  · subst hb
    simp [va_up, cE, u2, h]
  · simp [va_up, cE, u2, hb]
theorem cu_4_1 (cy : CY) {a : Nat} (h : K a = 4) (v : Option Nat) (x : Nat) : va_up (cE cy ((L, K, AN, R0), (Rc, Ic, AIc, AR), (Im, AIm), AL)) a (.inr (4, [va_rf (R0 1 a), va_rf (v), va_rf (R0 3 a), va_rf (R0 4 a), va_rf (R0 5 a), va_rf (R0 6 a), va_rf (R0 7 a), va_rf (R0 8 a)])) x = cE cy ((L, K, AN, u2 R0 2 a v), (Rc, Ic, AIc, AR), (Im, AIm), AL) x := by
  by_cases hb : x = a
  · subst hb
    simp [va_up, cE, u2, h]
  · simp [va_up, cE, u2, hb]
theorem cu_4_2 (cy : CY) {a : Nat} (h : K a = 4) (v : Option Nat) (x : Nat) : va_up (cE cy ((L, K, AN, R0), (Rc, Ic, AIc, AR), (Im, AIm), AL)) a (.inr (4, [va_rf (R0 1 a), va_rf (R0 2 a), va_rf (v), va_rf (R0 4 a), va_rf (R0 5 a), va_rf (R0 6 a), va_rf (R0 7 a), va_rf (R0 8 a)])) x = cE cy ((L, K, AN, u2 R0 3 a v), (Rc, Ic, AIc, AR), (Im, AIm), AL) x := by
  by_cases hb : x = a
  · subst hb
    simp [va_up, cE, u2, h]
  · simp [va_up, cE, u2, hb]
theorem cu_4_3 (cy : CY) {a : Nat} (h : K a = 4) (v : Option Nat) (x : Nat) : va_up (cE cy ((L, K, AN, R0), (Rc, Ic, AIc, AR), (Im, AIm), AL)) a (.inr (4, [va_rf (R0 1 a), va_rf (R0 2 a), va_rf (R0 3 a), va_rf (v), va_rf (R0 5 a), va_rf (R0 6 a), va_rf (R0 7 a), va_rf (R0 8 a)])) x = cE cy ((L, K, AN, u2 R0 4 a v), (Rc, Ic, AIc, AR), (Im, AIm), AL) x := by
  by_cases hb : x = a
  · subst hb
    simp [va_up, cE, u2, h]
  · simp [va_up, cE, u2, hb]
theorem cu_4_4 (cy : CY) {a : Nat} (h : K a = 4) (v : Option Nat) (x : Nat) : va_up (cE cy ((L, K, AN, R0), (Rc, Ic, AIc, AR), (Im, AIm), AL)) a (.inr (4, [va_rf (R0 1 a), va_rf (R0 2 a), va_rf (R0 3 a), va_rf (R0 4 a), va_rf (v), va_rf (R0 6 a), va_rf (R0 7 a), va_rf (R0 8 a)])) x = cE cy ((L, K, AN, u2 R0 5 a v), (Rc, Ic, AIc, AR), (Im, AIm), AL) x := by
  by_cases hb : x = a
  · subst hb
    simp [va_up, cE, u2, h]
  · simp [va_up, cE, u2, hb]
theorem cu_4_5 (cy : CY) {a : Nat} (h : K a = 4) (v : Option Nat) (x : Nat) : va_up (cE cy ((L, K, AN, R0), (Rc, Ic, AIc, AR), (Im, AIm), AL)) a (.inr (4, [va_rf (R0 1 a), va_rf (R0 2 a), va_rf (R0 3 a), va_rf (R0 4 a), va_rf (R0 5 a), va_rf (v), va_rf (R0 7 a), va_rf (R0 8 a)])) x = cE cy ((L, K, AN, u2 R0 6 a v), (Rc, Ic, AIc, AR), (Im, AIm), AL) x := by
  by_cases hb : x = a
  · subst hb
    simp [va_up, cE, u2, h]
  · simp [va_up, cE, u2, hb]
theorem cu_4_6 (cy : CY) {a : Nat} (h : K a = 4) (v : Option Nat) (x : Nat) : va_up (cE cy ((L, K, AN, R0), (Rc, Ic, AIc, AR), (Im, AIm), AL)) a (.inr (4, [va_rf (R0 1 a), va_rf (R0 2 a), va_rf (R0 3 a), va_rf (R0 4 a), va_rf (R0 5 a), va_rf (R0 6 a), va_rf (v), va_rf (R0 8 a)])) x = cE cy ((L, K, AN, u2 R0 7 a v), (Rc, Ic, AIc, AR), (Im, AIm), AL) x := by
  by_cases hb : x = a
  · subst hb
    simp [va_up, cE, u2, h]
  · simp [va_up, cE, u2, hb]
theorem cu_4_7 (cy : CY) {a : Nat} (h : K a = 4) (v : Option Nat) (x : Nat) : va_up (cE cy ((L, K, AN, R0), (Rc, Ic, AIc, AR), (Im, AIm), AL)) a (.inr (4, [va_rf (R0 1 a), va_rf (R0 2 a), va_rf (R0 3 a), va_rf (R0 4 a), va_rf (R0 5 a), va_rf (R0 6 a), va_rf (R0 7 a), va_rf (v)])) x = cE cy ((L, K, AN, u2 R0 8 a v), (Rc, Ic, AIc, AR), (Im, AIm), AL) x := by
  by_cases hb : x = a
  · subst hb
    simp [va_up, cE, u2, h]
  · simp [va_up, cE, u2, hb]
theorem ok_38 : okw (.fieldLink RX3 7 RX3 "root" "LSplaySequence$Node;") := ⟨List.mem_of_getElem? (i := 38) (by decide +kernel), by decide +kernel⟩
/-- getfield root of SplaySequence$Tree -/
theorem gf_RX3_7 {o : Option Nat} {a : Nat} (dg : decode M.2.1 pc = .ok (.getfield 7, 3)) (hM : M.1.cls = RX3) (ho : o = some a) (hk : isK ((L, K, AN, R0), (Rc, Ic, AIc, AR), (Im, AIm), AL) 3 a) (kk : WP G M Q k n (pc + 3) lv (vr (Rc 3 a) :: st) ((L, K, AN, R0), (Rc, Ic, AIc, AR), (Im, AIm), AL)) : WP G M Q k n pc lv (vr o :: st) ((L, K, AN, R0), (Rc, Ic, AIc, AR), (Im, AIm), AL) := by
  subst ho
  intro p e s m args below meth c H locs ls C hh hS hl
  obtain ⟨j, hj⟩ := pool_at G.2.2.2.1 hk.1
  rw [cl_3 _ hk.2] at hj
  have hown := C.2.2.2.2.2.1
  rw [hM] at hown
  exact va_get (C := RX3) (T := TX3) (N := 1) (Ts := wsX30) C.1 C.2.1 (fun w h => cx_ok C (gd_3 w h)) (fun _ h => h) hown (cx_K C) hh.1 j hj rfl 0 (by decide) (cx_ok C ok_38) (fun _ h => h) rfl dg (kk p e s m args below meth c H locs ls C hh hS hl)
/-- putfield root of SplaySequence$Tree -/
theorem pf_RX3_7 {o : Option Nat} {a : Nat} {v : Option Nat} (dg : decode M.2.1 pc = .ok (.putfield 7, 3)) (hM : M.1.cls = RX3) (ho : o = some a) (hk : isK ((L, K, AN, R0), (Rc, Ic, AIc, AR), (Im, AIm), AL) 3 a) (kk : WP G M Q k n (pc + 3) lv st ((L, K, AN, R0), (u2 Rc 3 a v, Ic, AIc, AR), (Im, AIm), AL)) : WP G M Q k n pc lv (vr v :: vr o :: st) ((L, K, AN, R0), (Rc, Ic, AIc, AR), (Im, AIm), AL) := by
  subst ho
  intro p e s m args below meth c H locs ls C hh hS hl
  obtain ⟨j, hj⟩ := pool_at G.2.2.2.1 hk.1
  have hj2 := hj
  rw [cl_3 _ hk.2] at hj
  have hown := C.2.2.2.2.2.1
  rw [hM] at hown
  have he : (va_pl L (cE G.2.2.2.1 ((L, K, AN, R0), (Rc, Ic, AIc, AR), (Im, AIm), AL))).set j (a, .inr (3, [va_rf (v)])) = va_pl L (cE G.2.2.2.1 ((L, K, AN, R0), (u2 Rc 3 a v, Ic, AIc, AR), (Im, AIm), AL)) := (va_pl_set (X := []) hh.2 hk.1 hj2).trans (va_pl_congr (cu_3_0 _ hk.2 v))
  have hn : narrow (tyX3 0) (va_rf v) = va_rf v := by cases v <;> rfl
  have hf : fits (tyX3 0) (va_rf v) = true := by cases v <;> rfl
  exact va_put (C := RX3) (T := TX3) (N := 1) (Ts := wsX30) C.1 C.2.1 (fun w h => cx_ok C (gd_3 w h)) (fun _ h => h) tyX3 tyX3_ok nmX3 hown (cx_K C) hh.1 hh.2 hS j hj rfl 0 (by decide) (cx_ok C ok_38) (fun _ h => h) rfl (tyX3_ok 0 (by decide)) hn hf (by show 0 < 1; decide) dg (fun H1 locs1 hP1 hD1 hS1 => kk p e s m args below meth c H1 locs1 ls C ⟨by rw [← he]; exact hP1, by rw [← he]; exact hD1⟩ hS1 hl)
theorem ok_50 : okw (.fieldLink RX2 9 RX2 "callSteps" "I") := ⟨List.mem_of_getElem? (i := 50) (by decide +kernel), by decide +kernel⟩
/-- getfield callSteps of SplaySequence$Splayer -/
theorem gf_RX2_9 {o : Option Nat} {a : Nat} (dg : decode M.2.1 pc = .ok (.getfield 9, 3)) (hM : M.1.cls = RX2) (ho : o = some a) (hk : isK ((L, K, AN, R0), (Rc, Ic, AIc, AR), (Im, AIm), AL) 2 a) (kk : WP G M Q k n (pc + 3) lv (vi (Ic 3 a) :: st) ((L, K, AN, R0), (Rc, Ic, AIc, AR), (Im, AIm), AL)) : WP G M Q k n pc lv (vr o :: st) ((L, K, AN, R0), (Rc, Ic, AIc, AR), (Im, AIm), AL) := by
  subst ho
  intro p e s m args below meth c H locs ls C hh hS hl
  obtain ⟨j, hj⟩ := pool_at G.2.2.2.1 hk.1
  rw [cl_2 _ hk.2] at hj
  have hown := C.2.2.2.2.2.1
  rw [hM] at hown
  exact va_get (C := RX2) (T := TX2) (N := 4) (Ts := wsX20) C.1 C.2.1 (fun w h => cx_ok C (gd_2 w h)) (fun _ h => h) hown (cx_K C) hh.1 j hj rfl 0 (by decide) (cx_ok C ok_50) (fun _ h => h) rfl dg (kk p e s m args below meth c H locs ls C hh hS hl)
/-- putfield callSteps of SplaySequence$Splayer -/
theorem pf_RX2_9 {o : Option Nat} {a : Nat} {v : Int32} (dg : decode M.2.1 pc = .ok (.putfield 9, 3)) (hM : M.1.cls = RX2) (ho : o = some a) (hk : isK ((L, K, AN, R0), (Rc, Ic, AIc, AR), (Im, AIm), AL) 2 a) (kk : WP G M Q k n (pc + 3) lv st ((L, K, AN, R0), (Rc, u2 Ic 3 a v, AIc, AR), (Im, AIm), AL)) : WP G M Q k n pc lv (vi v :: vr o :: st) ((L, K, AN, R0), (Rc, Ic, AIc, AR), (Im, AIm), AL) := by
  subst ho
  intro p e s m args below meth c H locs ls C hh hS hl
  obtain ⟨j, hj⟩ := pool_at G.2.2.2.1 hk.1
  have hj2 := hj
  rw [cl_2 _ hk.2] at hj
  have hown := C.2.2.2.2.2.1
  rw [hM] at hown
  have he : (va_pl L (cE G.2.2.2.1 ((L, K, AN, R0), (Rc, Ic, AIc, AR), (Im, AIm), AL))).set j (a, .inr (2, [.int (v), .int (Ic 4 a), .int (Ic 5 a), .int (Ic 6 a)])) = va_pl L (cE G.2.2.2.1 ((L, K, AN, R0), (Rc, u2 Ic 3 a v, AIc, AR), (Im, AIm), AL)) := (va_pl_set (X := []) hh.2 hk.1 hj2).trans (va_pl_congr (cu_2_0 _ hk.2 v))
  have hn : narrow (tyX2 0) (.int v) = .int v := rfl
  have hf : fits (tyX2 0) (.int v) = true := rfl
  exact va_put (C := RX2) (T := TX2) (N := 4) (Ts := wsX20) C.1 C.2.1 (fun w h => cx_ok C (gd_2 w h)) (fun _ h => h) tyX2 tyX2_ok nmX2 hown (cx_K C) hh.1 hh.2 hS j hj rfl 0 (by decide) (cx_ok C ok_50) (fun _ h => h) rfl (tyX2_ok 0 (by decide)) hn hf (by show 0 < 4; decide) dg (fun H1 locs1 hP1 hD1 hS1 => kk p e s m args below meth c H1 locs1 ls C ⟨by rw [← he]; exact hP1, by rw [← he]; exact hD1⟩ hS1 hl)
theorem ok_52 : okw (.fieldLink RX2 15 RX2 "callRotations" "I") := ⟨List.mem_of_getElem? (i := 52) (by decide +kernel), by decide +kernel⟩
/-- getfield callRotations of SplaySequence$Splayer -/
theorem gf_RX2_15 {o : Option Nat} {a : Nat} (dg : decode M.2.1 pc = .ok (.getfield 15, 3)) (hM : M.1.cls = RX2) (ho : o = some a) (hk : isK ((L, K, AN, R0), (Rc, Ic, AIc, AR), (Im, AIm), AL) 2 a) (kk : WP G M Q k n (pc + 3) lv (vi (Ic 4 a) :: st) ((L, K, AN, R0), (Rc, Ic, AIc, AR), (Im, AIm), AL)) : WP G M Q k n pc lv (vr o :: st) ((L, K, AN, R0), (Rc, Ic, AIc, AR), (Im, AIm), AL) := by
  subst ho
  intro p e s m args below meth c H locs ls C hh hS hl
  obtain ⟨j, hj⟩ := pool_at G.2.2.2.1 hk.1
  rw [cl_2 _ hk.2] at hj
  have hown := C.2.2.2.2.2.1
  rw [hM] at hown
  exact va_get (C := RX2) (T := TX2) (N := 4) (Ts := wsX20) C.1 C.2.1 (fun w h => cx_ok C (gd_2 w h)) (fun _ h => h) hown (cx_K C) hh.1 j hj rfl 1 (by decide) (cx_ok C ok_52) (fun _ h => h) rfl dg (kk p e s m args below meth c H locs ls C hh hS hl)
/-- putfield callRotations of SplaySequence$Splayer -/
theorem pf_RX2_15 {o : Option Nat} {a : Nat} {v : Int32} (dg : decode M.2.1 pc = .ok (.putfield 15, 3)) (hM : M.1.cls = RX2) (ho : o = some a) (hk : isK ((L, K, AN, R0), (Rc, Ic, AIc, AR), (Im, AIm), AL) 2 a) (kk : WP G M Q k n (pc + 3) lv st ((L, K, AN, R0), (Rc, u2 Ic 4 a v, AIc, AR), (Im, AIm), AL)) : WP G M Q k n pc lv (vi v :: vr o :: st) ((L, K, AN, R0), (Rc, Ic, AIc, AR), (Im, AIm), AL) := by
  subst ho
  intro p e s m args below meth c H locs ls C hh hS hl
  obtain ⟨j, hj⟩ := pool_at G.2.2.2.1 hk.1
  have hj2 := hj
  rw [cl_2 _ hk.2] at hj
  have hown := C.2.2.2.2.2.1
  rw [hM] at hown
  have he : (va_pl L (cE G.2.2.2.1 ((L, K, AN, R0), (Rc, Ic, AIc, AR), (Im, AIm), AL))).set j (a, .inr (2, [.int (Ic 3 a), .int (v), .int (Ic 5 a), .int (Ic 6 a)])) = va_pl L (cE G.2.2.2.1 ((L, K, AN, R0), (Rc, u2 Ic 4 a v, AIc, AR), (Im, AIm), AL)) := (va_pl_set (X := []) hh.2 hk.1 hj2).trans (va_pl_congr (cu_2_1 _ hk.2 v))
  have hn : narrow (tyX2 1) (.int v) = .int v := rfl
  have hf : fits (tyX2 1) (.int v) = true := rfl
  exact va_put (C := RX2) (T := TX2) (N := 4) (Ts := wsX20) C.1 C.2.1 (fun w h => cx_ok C (gd_2 w h)) (fun _ h => h) tyX2 tyX2_ok nmX2 hown (cx_K C) hh.1 hh.2 hS j hj rfl 1 (by decide) (cx_ok C ok_52) (fun _ h => h) rfl (tyX2_ok 1 (by decide)) hn hf (by show 1 < 4; decide) dg (fun H1 locs1 hP1 hD1 hS1 => kk p e s m args below meth c H1 locs1 ls C ⟨by rw [← he]; exact hP1, by rw [← he]; exact hD1⟩ hS1 hl)
theorem ok_54 : okw (.fieldLink RX2 35 RX2 "allSteps" "I") := ⟨List.mem_of_getElem? (i := 54) (by decide +kernel), by decide +kernel⟩
/-- getfield allSteps of SplaySequence$Splayer -/
theorem gf_RX2_35 {o : Option Nat} {a : Nat} (dg : decode M.2.1 pc = .ok (.getfield 35, 3)) (hM : M.1.cls = RX2) (ho : o = some a) (hk : isK ((L, K, AN, R0), (Rc, Ic, AIc, AR), (Im, AIm), AL) 2 a) (kk : WP G M Q k n (pc + 3) lv (vi (Ic 5 a) :: st) ((L, K, AN, R0), (Rc, Ic, AIc, AR), (Im, AIm), AL)) : WP G M Q k n pc lv (vr o :: st) ((L, K, AN, R0), (Rc, Ic, AIc, AR), (Im, AIm), AL) := by
  subst ho
  intro p e s m args below meth c H locs ls C hh hS hl
  obtain ⟨j, hj⟩ := pool_at G.2.2.2.1 hk.1
  rw [cl_2 _ hk.2] at hj
  have hown := C.2.2.2.2.2.1
  rw [hM] at hown
  exact va_get (C := RX2) (T := TX2) (N := 4) (Ts := wsX20) C.1 C.2.1 (fun w h => cx_ok C (gd_2 w h)) (fun _ h => h) hown (cx_K C) hh.1 j hj rfl 2 (by decide) (cx_ok C ok_54) (fun _ h => h) rfl dg (kk p e s m args below meth c H locs ls C hh hS hl)
/-- putfield allSteps of SplaySequence$Splayer -/
theorem pf_RX2_35 {o : Option Nat} {a : Nat} {v : Int32} (dg : decode M.2.1 pc = .ok (.putfield 35, 3)) (hM : M.1.cls = RX2) (ho : o = some a) (hk : isK ((L, K, AN, R0), (Rc, Ic, AIc, AR), (Im, AIm), AL) 2 a) (kk : WP G M Q k n (pc + 3) lv st ((L, K, AN, R0), (Rc, u2 Ic 5 a v, AIc, AR), (Im, AIm), AL)) : WP G M Q k n pc lv (vi v :: vr o :: st) ((L, K, AN, R0), (Rc, Ic, AIc, AR), (Im, AIm), AL) := by
  subst ho
  intro p e s m args below meth c H locs ls C hh hS hl
  obtain ⟨j, hj⟩ := pool_at G.2.2.2.1 hk.1
  have hj2 := hj
  rw [cl_2 _ hk.2] at hj
  have hown := C.2.2.2.2.2.1
  rw [hM] at hown
  have he : (va_pl L (cE G.2.2.2.1 ((L, K, AN, R0), (Rc, Ic, AIc, AR), (Im, AIm), AL))).set j (a, .inr (2, [.int (Ic 3 a), .int (Ic 4 a), .int (v), .int (Ic 6 a)])) = va_pl L (cE G.2.2.2.1 ((L, K, AN, R0), (Rc, u2 Ic 5 a v, AIc, AR), (Im, AIm), AL)) := (va_pl_set (X := []) hh.2 hk.1 hj2).trans (va_pl_congr (cu_2_2 _ hk.2 v))
  have hn : narrow (tyX2 2) (.int v) = .int v := rfl
  have hf : fits (tyX2 2) (.int v) = true := rfl
  exact va_put (C := RX2) (T := TX2) (N := 4) (Ts := wsX20) C.1 C.2.1 (fun w h => cx_ok C (gd_2 w h)) (fun _ h => h) tyX2 tyX2_ok nmX2 hown (cx_K C) hh.1 hh.2 hS j hj rfl 2 (by decide) (cx_ok C ok_54) (fun _ h => h) rfl (tyX2_ok 2 (by decide)) hn hf (by show 2 < 4; decide) dg (fun H1 locs1 hP1 hD1 hS1 => kk p e s m args below meth c H1 locs1 ls C ⟨by rw [← he]; exact hP1, by rw [← he]; exact hD1⟩ hS1 hl)
theorem ok_56 : okw (.fieldLink RX2 18 RX2 "allSplays" "I") := ⟨List.mem_of_getElem? (i := 56) (by decide +kernel), by decide +kernel⟩
/-- getfield allSplays of SplaySequence$Splayer -/
theorem gf_RX2_18 {o : Option Nat} {a : Nat} (dg : decode M.2.1 pc = .ok (.getfield 18, 3)) (hM : M.1.cls = RX2) (ho : o = some a) (hk : isK ((L, K, AN, R0), (Rc, Ic, AIc, AR), (Im, AIm), AL) 2 a) (kk : WP G M Q k n (pc + 3) lv (vi (Ic 6 a) :: st) ((L, K, AN, R0), (Rc, Ic, AIc, AR), (Im, AIm), AL)) : WP G M Q k n pc lv (vr o :: st) ((L, K, AN, R0), (Rc, Ic, AIc, AR), (Im, AIm), AL) := by
  subst ho
  intro p e s m args below meth c H locs ls C hh hS hl
  obtain ⟨j, hj⟩ := pool_at G.2.2.2.1 hk.1
  rw [cl_2 _ hk.2] at hj
  have hown := C.2.2.2.2.2.1
  rw [hM] at hown
  exact va_get (C := RX2) (T := TX2) (N := 4) (Ts := wsX20) C.1 C.2.1 (fun w h => cx_ok C (gd_2 w h)) (fun _ h => h) hown (cx_K C) hh.1 j hj rfl 3 (by decide) (cx_ok C ok_56) (fun _ h => h) rfl dg (kk p e s m args below meth c H locs ls C hh hS hl)
/-- putfield allSplays of SplaySequence$Splayer -/
theorem pf_RX2_18 {o : Option Nat} {a : Nat} {v : Int32} (dg : decode M.2.1 pc = .ok (.putfield 18, 3)) (hM : M.1.cls = RX2) (ho : o = some a) (hk : isK ((L, K, AN, R0), (Rc, Ic, AIc, AR), (Im, AIm), AL) 2 a) (kk : WP G M Q k n (pc + 3) lv st ((L, K, AN, R0), (Rc, u2 Ic 6 a v, AIc, AR), (Im, AIm), AL)) : WP G M Q k n pc lv (vi v :: vr o :: st) ((L, K, AN, R0), (Rc, Ic, AIc, AR), (Im, AIm), AL) := by
  subst ho
  intro p e s m args below meth c H locs ls C hh hS hl
  obtain ⟨j, hj⟩ := pool_at G.2.2.2.1 hk.1
  have hj2 := hj
  rw [cl_2 _ hk.2] at hj
  have hown := C.2.2.2.2.2.1
  rw [hM] at hown
  have he : (va_pl L (cE G.2.2.2.1 ((L, K, AN, R0), (Rc, Ic, AIc, AR), (Im, AIm), AL))).set j (a, .inr (2, [.int (Ic 3 a), .int (Ic 4 a), .int (Ic 5 a), .int (v)])) = va_pl L (cE G.2.2.2.1 ((L, K, AN, R0), (Rc, u2 Ic 6 a v, AIc, AR), (Im, AIm), AL)) := (va_pl_set (X := []) hh.2 hk.1 hj2).trans (va_pl_congr (cu_2_3 _ hk.2 v))
  have hn : narrow (tyX2 3) (.int v) = .int v := rfl
  have hf : fits (tyX2 3) (.int v) = true := rfl
  exact va_put (C := RX2) (T := TX2) (N := 4) (Ts := wsX20) C.1 C.2.1 (fun w h => cx_ok C (gd_2 w h)) (fun _ h => h) tyX2 tyX2_ok nmX2 hown (cx_K C) hh.1 hh.2 hS j hj rfl 3 (by decide) (cx_ok C ok_56) (fun _ h => h) rfl (tyX2_ok 3 (by decide)) hn hf (by show 3 < 4; decide) dg (fun H1 locs1 hP1 hD1 hS1 => kk p e s m args below meth c H1 locs1 ls C ⟨by rw [← he]; exact hP1, by rw [← he]; exact hD1⟩ hS1 hl)
theorem ok_75 : okw (.fieldLink RX1 9 RX1 "values" "[I") := ⟨List.mem_of_getElem? (i := 75) (by decide +kernel), by decide +kernel⟩
/-- getfield values of SplaySequence$Row -/
theorem gf_RX1_9 {o : Option Nat} {a : Nat} (dg : decode M.2.1 pc = .ok (.getfield 9, 3)) (hM : M.1.cls = RX1) (ho : o = some a) (hk : isK ((L, K, AN, R0), (Rc, Ic, AIc, AR), (Im, AIm), AL) 1 a) (kk : WP G M Q k n (pc + 3) lv (vr (R0 0 a) :: st) ((L, K, AN, R0), (Rc, Ic, AIc, AR), (Im, AIm), AL)) : WP G M Q k n pc lv (vr o :: st) ((L, K, AN, R0), (Rc, Ic, AIc, AR), (Im, AIm), AL) := by
  subst ho
  intro p e s m args below meth c H locs ls C hh hS hl
  obtain ⟨j, hj⟩ := pool_at G.2.2.2.1 hk.1
  rw [cl_1 _ hk.2] at hj
  have hown := C.2.2.2.2.2.1
  rw [hM] at hown
  exact va_get (C := RX1) (T := TX1) (N := 2) (Ts := wsX10) C.1 C.2.1 (fun w h => cx_ok C (gd_1 w h)) (fun _ h => h) hown (cx_K C) hh.1 j hj rfl 0 (by decide) (cx_ok C ok_75) (fun _ h => h) rfl dg (kk p e s m args below meth c H locs ls C hh hS hl)
/-- putfield values of SplaySequence$Row -/
theorem pf_RX1_9 {o : Option Nat} {a : Nat} {v : Option Nat} (dg : decode M.2.1 pc = .ok (.putfield 9, 3)) (hM : M.1.cls = RX1) (hI : M.1.name = "<init>") (ho : o = some a) (hk : isK ((L, K, AN, R0), (Rc, Ic, AIc, AR), (Im, AIm), AL) 1 a) (kk : WP G M Q k n (pc + 3) lv st ((L, K, AN, u2 R0 0 a v), (Rc, Ic, AIc, AR), (Im, AIm), AL)) : WP G M Q k n pc lv (vr v :: vr o :: st) ((L, K, AN, R0), (Rc, Ic, AIc, AR), (Im, AIm), AL) := by
  subst ho
  intro p e s m args below meth c H locs ls C hh hS hl
  obtain ⟨j, hj⟩ := pool_at G.2.2.2.1 hk.1
  have hj2 := hj
  rw [cl_1 _ hk.2] at hj
  have hown := C.2.2.2.2.2.1
  rw [hM] at hown
  have he : (va_pl L (cE G.2.2.2.1 ((L, K, AN, R0), (Rc, Ic, AIc, AR), (Im, AIm), AL))).set j (a, .inr (1, [va_rf (v), .int (Ic 2 a)])) = va_pl L (cE G.2.2.2.1 ((L, K, AN, u2 R0 0 a v), (Rc, Ic, AIc, AR), (Im, AIm), AL)) := (va_pl_set (X := []) hh.2 hk.1 hj2).trans (va_pl_congr (cu_1_0 _ hk.2 v))
  have hn : narrow (tyX1 0) (va_rf v) = va_rf v := by cases v <;> rfl
  have hf : fits (tyX1 0) (va_rf v) = true := by cases v <;> rfl
  exact va_putF (C := RX1) (T := TX1) (N := 2) (Ts := wsX10) C.1 C.2.1 (fun w h => cx_ok C (gd_1 w h)) (fun _ h => h) tyX1 tyX1_ok nmX1 hown (cx_K C) hh.1 hh.2 hS j hj rfl 0 (by decide) (cx_ok C ok_75) (fun _ h => h) rfl (C.2.2.2.2.2.2.1.trans hI) rfl (tyX1_ok 0 (by decide)) hn hf (by show 0 < 2; decide) dg (fun H1 locs1 hP1 hD1 hS1 => kk p e s m args below meth c H1 locs1 ls C ⟨by rw [← he]; exact hP1, by rw [← he]; exact hD1⟩ hS1 hl)
theorem ok_76 : okw (.fieldLink RX1 15 RX1 "length" "I") := ⟨List.mem_of_getElem? (i := 76) (by decide +kernel), by decide +kernel⟩
/-- getfield length of SplaySequence$Row -/
theorem gf_RX1_15 {o : Option Nat} {a : Nat} (dg : decode M.2.1 pc = .ok (.getfield 15, 3)) (hM : M.1.cls = RX1) (ho : o = some a) (hk : isK ((L, K, AN, R0), (Rc, Ic, AIc, AR), (Im, AIm), AL) 1 a) (kk : WP G M Q k n (pc + 3) lv (vi (Ic 2 a) :: st) ((L, K, AN, R0), (Rc, Ic, AIc, AR), (Im, AIm), AL)) : WP G M Q k n pc lv (vr o :: st) ((L, K, AN, R0), (Rc, Ic, AIc, AR), (Im, AIm), AL) := by
  subst ho
  intro p e s m args below meth c H locs ls C hh hS hl
  obtain ⟨j, hj⟩ := pool_at G.2.2.2.1 hk.1
  rw [cl_1 _ hk.2] at hj
  have hown := C.2.2.2.2.2.1
  rw [hM] at hown
  exact va_get (C := RX1) (T := TX1) (N := 2) (Ts := wsX10) C.1 C.2.1 (fun w h => cx_ok C (gd_1 w h)) (fun _ h => h) hown (cx_K C) hh.1 j hj rfl 1 (by decide) (cx_ok C ok_76) (fun _ h => h) rfl dg (kk p e s m args below meth c H locs ls C hh hS hl)
/-- putfield length of SplaySequence$Row -/
theorem pf_RX1_15 {o : Option Nat} {a : Nat} {v : Int32} (dg : decode M.2.1 pc = .ok (.putfield 15, 3)) (hM : M.1.cls = RX1) (ho : o = some a) (hk : isK ((L, K, AN, R0), (Rc, Ic, AIc, AR), (Im, AIm), AL) 1 a) (kk : WP G M Q k n (pc + 3) lv st ((L, K, AN, R0), (Rc, u2 Ic 2 a v, AIc, AR), (Im, AIm), AL)) : WP G M Q k n pc lv (vi v :: vr o :: st) ((L, K, AN, R0), (Rc, Ic, AIc, AR), (Im, AIm), AL) := by
  subst ho
  intro p e s m args below meth c H locs ls C hh hS hl
  obtain ⟨j, hj⟩ := pool_at G.2.2.2.1 hk.1
  have hj2 := hj
  rw [cl_1 _ hk.2] at hj
  have hown := C.2.2.2.2.2.1
  rw [hM] at hown
  have he : (va_pl L (cE G.2.2.2.1 ((L, K, AN, R0), (Rc, Ic, AIc, AR), (Im, AIm), AL))).set j (a, .inr (1, [va_rf (R0 0 a), .int (v)])) = va_pl L (cE G.2.2.2.1 ((L, K, AN, R0), (Rc, u2 Ic 2 a v, AIc, AR), (Im, AIm), AL)) := (va_pl_set (X := []) hh.2 hk.1 hj2).trans (va_pl_congr (cu_1_1 _ hk.2 v))
  have hn : narrow (tyX1 1) (.int v) = .int v := rfl
  have hf : fits (tyX1 1) (.int v) = true := rfl
  exact va_put (C := RX1) (T := TX1) (N := 2) (Ts := wsX10) C.1 C.2.1 (fun w h => cx_ok C (gd_1 w h)) (fun _ h => h) tyX1 tyX1_ok nmX1 hown (cx_K C) hh.1 hh.2 hS j hj rfl 1 (by decide) (cx_ok C ok_76) (fun _ h => h) rfl (tyX1_ok 1 (by decide)) hn hf (by show 1 < 2; decide) dg (fun H1 locs1 hP1 hD1 hS1 => kk p e s m args below meth c H1 locs1 ls C ⟨by rw [← he]; exact hP1, by rw [← he]; exact hD1⟩ hS1 hl)
theorem ok_83 : okw (.fieldLink RX4 10 RX4 "sequence" "LSplaySequence$Tree;") := ⟨List.mem_of_getElem? (i := 83) (by decide +kernel), by decide +kernel⟩
/-- getfield sequence of SplaySequence -/
theorem gf_RX4_10 {o : Option Nat} {a : Nat} (dg : decode M.2.1 pc = .ok (.getfield 10, 3)) (hM : M.1.cls = RX4) (ho : o = some a) (hk : isK ((L, K, AN, R0), (Rc, Ic, AIc, AR), (Im, AIm), AL) 4 a) (kk : WP G M Q k n (pc + 3) lv (vr (R0 1 a) :: st) ((L, K, AN, R0), (Rc, Ic, AIc, AR), (Im, AIm), AL)) : WP G M Q k n pc lv (vr o :: st) ((L, K, AN, R0), (Rc, Ic, AIc, AR), (Im, AIm), AL) := by
  subst ho
  intro p e s m args below meth c H locs ls C hh hS hl
  obtain ⟨j, hj⟩ := pool_at G.2.2.2.1 hk.1
  rw [cl_4 _ hk.2] at hj
  have hown := C.2.2.2.2.2.1
  rw [hM] at hown
  exact va_get (C := RX4) (T := TX4) (N := 8) (Ts := wsX40) C.1 C.2.1 (fun w h => cx_ok C (gd_4 w h)) (fun _ h => h) hown (cx_K C) hh.1 j hj rfl 0 (by decide) (cx_ok C ok_83) (fun _ h => h) rfl dg (kk p e s m args below meth c H locs ls C hh hS hl)
/-- putfield sequence of SplaySequence -/
theorem pf_RX4_10 {o : Option Nat} {a : Nat} {v : Option Nat} (dg : decode M.2.1 pc = .ok (.putfield 10, 3)) (hM : M.1.cls = RX4) (hI : M.1.name = "<init>") (ho : o = some a) (hk : isK ((L, K, AN, R0), (Rc, Ic, AIc, AR), (Im, AIm), AL) 4 a) (kk : WP G M Q k n (pc + 3) lv st ((L, K, AN, u2 R0 1 a v), (Rc, Ic, AIc, AR), (Im, AIm), AL)) : WP G M Q k n pc lv (vr v :: vr o :: st) ((L, K, AN, R0), (Rc, Ic, AIc, AR), (Im, AIm), AL) := by
  subst ho
  intro p e s m args below meth c H locs ls C hh hS hl
  obtain ⟨j, hj⟩ := pool_at G.2.2.2.1 hk.1
  have hj2 := hj
  rw [cl_4 _ hk.2] at hj
  have hown := C.2.2.2.2.2.1
  rw [hM] at hown
  have he : (va_pl L (cE G.2.2.2.1 ((L, K, AN, R0), (Rc, Ic, AIc, AR), (Im, AIm), AL))).set j (a, .inr (4, [va_rf (v), va_rf (R0 2 a), va_rf (R0 3 a), va_rf (R0 4 a), va_rf (R0 5 a), va_rf (R0 6 a), va_rf (R0 7 a), va_rf (R0 8 a)])) = va_pl L (cE G.2.2.2.1 ((L, K, AN, u2 R0 1 a v), (Rc, Ic, AIc, AR), (Im, AIm), AL)) := (va_pl_set (X := []) hh.2 hk.1 hj2).trans (va_pl_congr (cu_4_0 _ hk.2 v))
  have hn : narrow (tyX4 0) (va_rf v) = va_rf v := by cases v <;> rfl
  have hf : fits (tyX4 0) (va_rf v) = true := by cases v <;> rfl
  exact va_putF (C := RX4) (T := TX4) (N := 8) (Ts := wsX40) C.1 C.2.1 (fun w h => cx_ok C (gd_4 w h)) (fun _ h => h) tyX4 tyX4_ok nmX4 hown (cx_K C) hh.1 hh.2 hS j hj rfl 0 (by decide) (cx_ok C ok_83) (fun _ h => h) rfl (C.2.2.2.2.2.2.1.trans hI) rfl (tyX4_ok 0 (by decide)) hn hf (by show 0 < 8; decide) dg (fun H1 locs1 hP1 hD1 hS1 => kk p e s m args below meth c H1 locs1 ls C ⟨by rw [← he]; exact hP1, by rw [← he]; exact hD1⟩ hS1 hl)
theorem ok_84 : okw (.fieldLink RX4 16 RX4 "clipboard" "LSplaySequence$Tree;") := ⟨List.mem_of_getElem? (i := 84) (by decide +kernel), by decide +kernel⟩
/-- getfield clipboard of SplaySequence -/
theorem gf_RX4_16 {o : Option Nat} {a : Nat} (dg : decode M.2.1 pc = .ok (.getfield 16, 3)) (hM : M.1.cls = RX4) (ho : o = some a) (hk : isK ((L, K, AN, R0), (Rc, Ic, AIc, AR), (Im, AIm), AL) 4 a) (kk : WP G M Q k n (pc + 3) lv (vr (R0 2 a) :: st) ((L, K, AN, R0), (Rc, Ic, AIc, AR), (Im, AIm), AL)) : WP G M Q k n pc lv (vr o :: st) ((L, K, AN, R0), (Rc, Ic, AIc, AR), (Im, AIm), AL) := by
  subst ho
  intro p e s m args below meth c H locs ls C hh hS hl
  obtain ⟨j, hj⟩ := pool_at G.2.2.2.1 hk.1
  rw [cl_4 _ hk.2] at hj
  have hown := C.2.2.2.2.2.1
  rw [hM] at hown
  exact va_get (C := RX4) (T := TX4) (N := 8) (Ts := wsX40) C.1 C.2.1 (fun w h => cx_ok C (gd_4 w h)) (fun _ h => h) hown (cx_K C) hh.1 j hj rfl 1 (by decide) (cx_ok C ok_84) (fun _ h => h) rfl dg (kk p e s m args below meth c H locs ls C hh hS hl)
/-- putfield clipboard of SplaySequence -/
theorem pf_RX4_16 {o : Option Nat} {a : Nat} {v : Option Nat} (dg : decode M.2.1 pc = .ok (.putfield 16, 3)) (hM : M.1.cls = RX4) (hI : M.1.name = "<init>") (ho : o = some a) (hk : isK ((L, K, AN, R0), (Rc, Ic, AIc, AR), (Im, AIm), AL) 4 a) (kk : WP G M Q k n (pc + 3) lv st ((L, K, AN, u2 R0 2 a v), (Rc, Ic, AIc, AR), (Im, AIm), AL)) : WP G M Q k n pc lv (vr v :: vr o :: st) ((L, K, AN, R0), (Rc, Ic, AIc, AR), (Im, AIm), AL) := by
  subst ho
  intro p e s m args below meth c H locs ls C hh hS hl
  obtain ⟨j, hj⟩ := pool_at G.2.2.2.1 hk.1
  have hj2 := hj
  rw [cl_4 _ hk.2] at hj
  have hown := C.2.2.2.2.2.1
  rw [hM] at hown
  have he : (va_pl L (cE G.2.2.2.1 ((L, K, AN, R0), (Rc, Ic, AIc, AR), (Im, AIm), AL))).set j (a, .inr (4, [va_rf (R0 1 a), va_rf (v), va_rf (R0 3 a), va_rf (R0 4 a), va_rf (R0 5 a), va_rf (R0 6 a), va_rf (R0 7 a), va_rf (R0 8 a)])) = va_pl L (cE G.2.2.2.1 ((L, K, AN, u2 R0 2 a v), (Rc, Ic, AIc, AR), (Im, AIm), AL)) := (va_pl_set (X := []) hh.2 hk.1 hj2).trans (va_pl_congr (cu_4_1 _ hk.2 v))
  have hn : narrow (tyX4 1) (va_rf v) = va_rf v := by cases v <;> rfl
  have hf : fits (tyX4 1) (va_rf v) = true := by cases v <;> rfl
  exact va_putF (C := RX4) (T := TX4) (N := 8) (Ts := wsX40) C.1 C.2.1 (fun w h => cx_ok C (gd_4 w h)) (fun _ h => h) tyX4 tyX4_ok nmX4 hown (cx_K C) hh.1 hh.2 hS j hj rfl 1 (by decide) (cx_ok C ok_84) (fun _ h => h) rfl (C.2.2.2.2.2.2.1.trans hI) rfl (tyX4_ok 1 (by decide)) hn hf (by show 1 < 8; decide) dg (fun H1 locs1 hP1 hD1 hS1 => kk p e s m args below meth c H1 locs1 ls C ⟨by rw [← he]; exact hP1, by rw [← he]; exact hD1⟩ hS1 hl)
theorem ok_85 : okw (.fieldLink RX4 19 RX4 "range" "LSplaySequence$Tree;") := ⟨List.mem_of_getElem? (i := 85) (by decide +kernel), by decide +kernel⟩
/-- getfield range of SplaySequence -/
theorem gf_RX4_19 {o : Option Nat} {a : Nat} (dg : decode M.2.1 pc = .ok (.getfield 19, 3)) (hM : M.1.cls = RX4) (ho : o = some a) (hk : isK ((L, K, AN, R0), (Rc, Ic, AIc, AR), (Im, AIm), AL) 4 a) (kk : WP G M Q k n (pc + 3) lv (vr (R0 3 a) :: st) ((L, K, AN, R0), (Rc, Ic, AIc, AR), (Im, AIm), AL)) : WP G M Q k n pc lv (vr o :: st) ((L, K, AN, R0), (Rc, Ic, AIc, AR), (Im, AIm), AL) := by
  subst ho
  intro p e s m args below meth c H locs ls C hh hS hl
  obtain ⟨j, hj⟩ := pool_at G.2.2.2.1 hk.1
  rw [cl_4 _ hk.2] at hj
  have hown := C.2.2.2.2.2.1
  rw [hM] at hown
  exact va_get (C := RX4) (T := TX4) (N := 8) (Ts := wsX40) C.1 C.2.1 (fun w h => cx_ok C (gd_4 w h)) (fun _ h => h) hown (cx_K C) hh.1 j hj rfl 2 (by decide) (cx_ok C ok_85) (fun _ h => h) rfl dg (kk p e s m args below meth c H locs ls C hh hS hl)
/-- putfield range of SplaySequence -/
theorem pf_RX4_19 {o : Option Nat} {a : Nat} {v : Option Nat} (dg : decode M.2.1 pc = .ok (.putfield 19, 3)) (hM : M.1.cls = RX4) (hI : M.1.name = "<init>") (ho : o = some a) (hk : isK ((L, K, AN, R0), (Rc, Ic, AIc, AR), (Im, AIm), AL) 4 a) (kk : WP G M Q k n (pc + 3) lv st ((L, K, AN, u2 R0 3 a v), (Rc, Ic, AIc, AR), (Im, AIm), AL)) : WP G M Q k n pc lv (vr v :: vr o :: st) ((L, K, AN, R0), (Rc, Ic, AIc, AR), (Im, AIm), AL) := by
  subst ho
  intro p e s m args below meth c H locs ls C hh hS hl
  obtain ⟨j, hj⟩ := pool_at G.2.2.2.1 hk.1
  have hj2 := hj
  rw [cl_4 _ hk.2] at hj
  have hown := C.2.2.2.2.2.1
  rw [hM] at hown
  have he : (va_pl L (cE G.2.2.2.1 ((L, K, AN, R0), (Rc, Ic, AIc, AR), (Im, AIm), AL))).set j (a, .inr (4, [va_rf (R0 1 a), va_rf (R0 2 a), va_rf (v), va_rf (R0 4 a), va_rf (R0 5 a), va_rf (R0 6 a), va_rf (R0 7 a), va_rf (R0 8 a)])) = va_pl L (cE G.2.2.2.1 ((L, K, AN, u2 R0 3 a v), (Rc, Ic, AIc, AR), (Im, AIm), AL)) := (va_pl_set (X := []) hh.2 hk.1 hj2).trans (va_pl_congr (cu_4_2 _ hk.2 v))
  have hn : narrow (tyX4 2) (va_rf v) = va_rf v := by cases v <;> rfl
  have hf : fits (tyX4 2) (va_rf v) = true := by cases v <;> rfl
  exact va_putF (C := RX4) (T := TX4) (N := 8) (Ts := wsX40) C.1 C.2.1 (fun w h => cx_ok C (gd_4 w h)) (fun _ h => h) tyX4 tyX4_ok nmX4 hown (cx_K C) hh.1 hh.2 hS j hj rfl 2 (by decide) (cx_ok C ok_85) (fun _ h => h) rfl (C.2.2.2.2.2.2.1.trans hI) rfl (tyX4_ok 2 (by decide)) hn hf (by show 2 < 8; decide) dg (fun H1 locs1 hP1 hD1 hS1 => kk p e s m args below meth c H1 locs1 ls C ⟨by rw [← he]; exact hP1, by rw [← he]; exact hD1⟩ hS1 hl)
theorem ok_86 : okw (.fieldLink RX4 22 RX4 "tail" "LSplaySequence$Tree;") := ⟨List.mem_of_getElem? (i := 86) (by decide +kernel), by decide +kernel⟩
/-- getfield tail of SplaySequence -/
theorem gf_RX4_22 {o : Option Nat} {a : Nat} (dg : decode M.2.1 pc = .ok (.getfield 22, 3)) (hM : M.1.cls = RX4) (ho : o = some a) (hk : isK ((L, K, AN, R0), (Rc, Ic, AIc, AR), (Im, AIm), AL) 4 a) (kk : WP G M Q k n (pc + 3) lv (vr (R0 4 a) :: st) ((L, K, AN, R0), (Rc, Ic, AIc, AR), (Im, AIm), AL)) : WP G M Q k n pc lv (vr o :: st) ((L, K, AN, R0), (Rc, Ic, AIc, AR), (Im, AIm), AL) := by
  subst ho
  intro p e s m args below meth c H locs ls C hh hS hl
  obtain ⟨j, hj⟩ := pool_at G.2.2.2.1 hk.1
  rw [cl_4 _ hk.2] at hj
  have hown := C.2.2.2.2.2.1
  rw [hM] at hown
  exact va_get (C := RX4) (T := TX4) (N := 8) (Ts := wsX40) C.1 C.2.1 (fun w h => cx_ok C (gd_4 w h)) (fun _ h => h) hown (cx_K C) hh.1 j hj rfl 3 (by decide) (cx_ok C ok_86) (fun _ h => h) rfl dg (kk p e s m args below meth c H locs ls C hh hS hl)
/-- putfield tail of SplaySequence -/
theorem pf_RX4_22 {o : Option Nat} {a : Nat} {v : Option Nat} (dg : decode M.2.1 pc = .ok (.putfield 22, 3)) (hM : M.1.cls = RX4) (hI : M.1.name = "<init>") (ho : o = some a) (hk : isK ((L, K, AN, R0), (Rc, Ic, AIc, AR), (Im, AIm), AL) 4 a) (kk : WP G M Q k n (pc + 3) lv st ((L, K, AN, u2 R0 4 a v), (Rc, Ic, AIc, AR), (Im, AIm), AL)) : WP G M Q k n pc lv (vr v :: vr o :: st) ((L, K, AN, R0), (Rc, Ic, AIc, AR), (Im, AIm), AL) := by
  subst ho
  intro p e s m args below meth c H locs ls C hh hS hl
  obtain ⟨j, hj⟩ := pool_at G.2.2.2.1 hk.1
  have hj2 := hj
  rw [cl_4 _ hk.2] at hj
  have hown := C.2.2.2.2.2.1
  rw [hM] at hown
  have he : (va_pl L (cE G.2.2.2.1 ((L, K, AN, R0), (Rc, Ic, AIc, AR), (Im, AIm), AL))).set j (a, .inr (4, [va_rf (R0 1 a), va_rf (R0 2 a), va_rf (R0 3 a), va_rf (v), va_rf (R0 5 a), va_rf (R0 6 a), va_rf (R0 7 a), va_rf (R0 8 a)])) = va_pl L (cE G.2.2.2.1 ((L, K, AN, u2 R0 4 a v), (Rc, Ic, AIc, AR), (Im, AIm), AL)) := (va_pl_set (X := []) hh.2 hk.1 hj2).trans (va_pl_congr (cu_4_3 _ hk.2 v))
  have hn : narrow (tyX4 3) (va_rf v) = va_rf v := by cases v <;> rfl
  have hf : fits (tyX4 3) (va_rf v) = true := by cases v <;> rfl
  exact va_putF (C := RX4) (T := TX4) (N := 8) (Ts := wsX40) C.1 C.2.1 (fun w h => cx_ok C (gd_4 w h)) (fun _ h => h) tyX4 tyX4_ok nmX4 hown (cx_K C) hh.1 hh.2 hS j hj rfl 3 (by decide) (cx_ok C ok_86) (fun _ h => h) rfl (C.2.2.2.2.2.2.1.trans hI) rfl (tyX4_ok 3 (by decide)) hn hf (by show 3 < 8; decide) dg (fun H1 locs1 hP1 hD1 hS1 => kk p e s m args below meth c H1 locs1 ls C ⟨by rw [← he]; exact hP1, by rw [← he]; exact hD1⟩ hS1 hl)
theorem ok_87 : okw (.fieldLink RX4 28 RX4 "splayer" "LSplaySequence$Splayer;") := ⟨List.mem_of_getElem? (i := 87) (by decide +kernel), by decide +kernel⟩
/-- getfield splayer of SplaySequence -/
theorem gf_RX4_28 {o : Option Nat} {a : Nat} (dg : decode M.2.1 pc = .ok (.getfield 28, 3)) (hM : M.1.cls = RX4) (ho : o = some a) (hk : isK ((L, K, AN, R0), (Rc, Ic, AIc, AR), (Im, AIm), AL) 4 a) (kk : WP G M Q k n (pc + 3) lv (vr (R0 5 a) :: st) ((L, K, AN, R0), (Rc, Ic, AIc, AR), (Im, AIm), AL)) : WP G M Q k n pc lv (vr o :: st) ((L, K, AN, R0), (Rc, Ic, AIc, AR), (Im, AIm), AL) := by
  subst ho
  intro p e s m args below meth c H locs ls C hh hS hl
  obtain ⟨j, hj⟩ := pool_at G.2.2.2.1 hk.1
  rw [cl_4 _ hk.2] at hj
  have hown := C.2.2.2.2.2.1
  rw [hM] at hown
  exact va_get (C := RX4) (T := TX4) (N := 8) (Ts := wsX40) C.1 C.2.1 (fun w h => cx_ok C (gd_4 w h)) (fun _ h => h) hown (cx_K C) hh.1 j hj rfl 4 (by decide) (cx_ok C ok_87) (fun _ h => h) rfl dg (kk p e s m args below meth c H locs ls C hh hS hl)
/-- putfield splayer of SplaySequence -/
theorem pf_RX4_28 {o : Option Nat} {a : Nat} {v : Option Nat} (dg : decode M.2.1 pc = .ok (.putfield 28, 3)) (hM : M.1.cls = RX4) (hI : M.1.name = "<init>") (ho : o = some a) (hk : isK ((L, K, AN, R0), (Rc, Ic, AIc, AR), (Im, AIm), AL) 4 a) (kk : WP G M Q k n (pc + 3) lv st ((L, K, AN, u2 R0 5 a v), (Rc, Ic, AIc, AR), (Im, AIm), AL)) : WP G M Q k n pc lv (vr v :: vr o :: st) ((L, K, AN, R0), (Rc, Ic, AIc, AR), (Im, AIm), AL) := by
  subst ho
  intro p e s m args below meth c H locs ls C hh hS hl
  obtain ⟨j, hj⟩ := pool_at G.2.2.2.1 hk.1
  have hj2 := hj
  rw [cl_4 _ hk.2] at hj
  have hown := C.2.2.2.2.2.1
  rw [hM] at hown
  have he : (va_pl L (cE G.2.2.2.1 ((L, K, AN, R0), (Rc, Ic, AIc, AR), (Im, AIm), AL))).set j (a, .inr (4, [va_rf (R0 1 a), va_rf (R0 2 a), va_rf (R0 3 a), va_rf (R0 4 a), va_rf (v), va_rf (R0 6 a), va_rf (R0 7 a), va_rf (R0 8 a)])) = va_pl L (cE G.2.2.2.1 ((L, K, AN, u2 R0 5 a v), (Rc, Ic, AIc, AR), (Im, AIm), AL)) := (va_pl_set (X := []) hh.2 hk.1 hj2).trans (va_pl_congr (cu_4_4 _ hk.2 v))
  have hn : narrow (tyX4 4) (va_rf v) = va_rf v := by cases v <;> rfl
  have hf : fits (tyX4 4) (va_rf v) = true := by cases v <;> rfl
  exact va_putF (C := RX4) (T := TX4) (N := 8) (Ts := wsX40) C.1 C.2.1 (fun w h => cx_ok C (gd_4 w h)) (fun _ h => h) tyX4 tyX4_ok nmX4 hown (cx_K C) hh.1 hh.2 hS j hj rfl 4 (by decide) (cx_ok C ok_87) (fun _ h => h) rfl (C.2.2.2.2.2.2.1.trans hI) rfl (tyX4_ok 4 (by decide)) hn hf (by show 4 < 8; decide) dg (fun H1 locs1 hP1 hD1 hS1 => kk p e s m args below meth c H1 locs1 ls C ⟨by rw [← he]; exact hP1, by rw [← he]; exact hD1⟩ hS1 hl)
theorem ok_88 : okw (.fieldLink RX4 34 RX4 "fingers" "[LSplaySequence$Node;") := ⟨List.mem_of_getElem? (i := 88) (by decide +kernel), by decide +kernel⟩
/-- getfield fingers of SplaySequence -/
theorem gf_RX4_34 {o : Option Nat} {a : Nat} (dg : decode M.2.1 pc = .ok (.getfield 34, 3)) (hM : M.1.cls = RX4) (ho : o = some a) (hk : isK ((L, K, AN, R0), (Rc, Ic, AIc, AR), (Im, AIm), AL) 4 a) (kk : WP G M Q k n (pc + 3) lv (vr (R0 6 a) :: st) ((L, K, AN, R0), (Rc, Ic, AIc, AR), (Im, AIm), AL)) : WP G M Q k n pc lv (vr o :: st) ((L, K, AN, R0), (Rc, Ic, AIc, AR), (Im, AIm), AL) := by
  subst ho
  intro p e s m args below meth c H locs ls C hh hS hl
  obtain ⟨j, hj⟩ := pool_at G.2.2.2.1 hk.1
  rw [cl_4 _ hk.2] at hj
  have hown := C.2.2.2.2.2.1
  rw [hM] at hown
  exact va_get (C := RX4) (T := TX4) (N := 8) (Ts := wsX40) C.1 C.2.1 (fun w h => cx_ok C (gd_4 w h)) (fun _ h => h) hown (cx_K C) hh.1 j hj rfl 5 (by decide) (cx_ok C ok_88) (fun _ h => h) rfl dg (kk p e s m args below meth c H locs ls C hh hS hl)
/-- putfield fingers of SplaySequence -/
theorem pf_RX4_34 {o : Option Nat} {a : Nat} {v : Option Nat} (dg : decode M.2.1 pc = .ok (.putfield 34, 3)) (hM : M.1.cls = RX4) (hI : M.1.name = "<init>") (ho : o = some a) (hk : isK ((L, K, AN, R0), (Rc, Ic, AIc, AR), (Im, AIm), AL) 4 a) (kk : WP G M Q k n (pc + 3) lv st ((L, K, AN, u2 R0 6 a v), (Rc, Ic, AIc, AR), (Im, AIm), AL)) : WP G M Q k n pc lv (vr v :: vr o :: st) ((L, K, AN, R0), (Rc, Ic, AIc, AR), (Im, AIm), AL) := by
  subst ho
  intro p e s m args below meth c H locs ls C hh hS hl
  obtain ⟨j, hj⟩ := pool_at G.2.2.2.1 hk.1
  have hj2 := hj
  rw [cl_4 _ hk.2] at hj
  have hown := C.2.2.2.2.2.1
  rw [hM] at hown
  have he : (va_pl L (cE G.2.2.2.1 ((L, K, AN, R0), (Rc, Ic, AIc, AR), (Im, AIm), AL))).set j (a, .inr (4, [va_rf (R0 1 a), va_rf (R0 2 a), va_rf (R0 3 a), va_rf (R0 4 a), va_rf (R0 5 a), va_rf (v), va_rf (R0 7 a), va_rf (R0 8 a)])) = va_pl L (cE G.2.2.2.1 ((L, K, AN, u2 R0 6 a v), (Rc, Ic, AIc, AR), (Im, AIm), AL)) := (va_pl_set (X := []) hh.2 hk.1 hj2).trans (va_pl_congr (cu_4_5 _ hk.2 v))
  have hn : narrow (tyX4 5) (va_rf v) = va_rf v := by cases v <;> rfl
  have hf : fits (tyX4 5) (va_rf v) = true := by cases v <;> rfl
  exact va_putF (C := RX4) (T := TX4) (N := 8) (Ts := wsX40) C.1 C.2.1 (fun w h => cx_ok C (gd_4 w h)) (fun _ h => h) tyX4 tyX4_ok nmX4 hown (cx_K C) hh.1 hh.2 hS j hj rfl 5 (by decide) (cx_ok C ok_88) (fun _ h => h) rfl (C.2.2.2.2.2.2.1.trans hI) rfl (tyX4_ok 5 (by decide)) hn hf (by show 5 < 8; decide) dg (fun H1 locs1 hP1 hD1 hS1 => kk p e s m args below meth c H1 locs1 ls C ⟨by rw [← he]; exact hP1, by rw [← he]; exact hD1⟩ hS1 hl)
theorem ok_89 : okw (.fieldLink RX4 41 RX4 "row" "LSplaySequence$Row;") := ⟨List.mem_of_getElem? (i := 89) (by decide +kernel), by decide +kernel⟩
/-- getfield row of SplaySequence -/
theorem gf_RX4_41 {o : Option Nat} {a : Nat} (dg : decode M.2.1 pc = .ok (.getfield 41, 3)) (hM : M.1.cls = RX4) (ho : o = some a) (hk : isK ((L, K, AN, R0), (Rc, Ic, AIc, AR), (Im, AIm), AL) 4 a) (kk : WP G M Q k n (pc + 3) lv (vr (R0 7 a) :: st) ((L, K, AN, R0), (Rc, Ic, AIc, AR), (Im, AIm), AL)) : WP G M Q k n pc lv (vr o :: st) ((L, K, AN, R0), (Rc, Ic, AIc, AR), (Im, AIm), AL) := by
  subst ho
  intro p e s m args below meth c H locs ls C hh hS hl
  obtain ⟨j, hj⟩ := pool_at G.2.2.2.1 hk.1
  rw [cl_4 _ hk.2] at hj
  have hown := C.2.2.2.2.2.1
  rw [hM] at hown
  exact va_get (C := RX4) (T := TX4) (N := 8) (Ts := wsX40) C.1 C.2.1 (fun w h => cx_ok C (gd_4 w h)) (fun _ h => h) hown (cx_K C) hh.1 j hj rfl 6 (by decide) (cx_ok C ok_89) (fun _ h => h) rfl dg (kk p e s m args below meth c H locs ls C hh hS hl)
/-- putfield row of SplaySequence -/
theorem pf_RX4_41 {o : Option Nat} {a : Nat} {v : Option Nat} (dg : decode M.2.1 pc = .ok (.putfield 41, 3)) (hM : M.1.cls = RX4) (hI : M.1.name = "<init>") (ho : o = some a) (hk : isK ((L, K, AN, R0), (Rc, Ic, AIc, AR), (Im, AIm), AL) 4 a) (kk : WP G M Q k n (pc + 3) lv st ((L, K, AN, u2 R0 7 a v), (Rc, Ic, AIc, AR), (Im, AIm), AL)) : WP G M Q k n pc lv (vr v :: vr o :: st) ((L, K, AN, R0), (Rc, Ic, AIc, AR), (Im, AIm), AL) := by
  subst ho
  intro p e s m args below meth c H locs ls C hh hS hl
  obtain ⟨j, hj⟩ := pool_at G.2.2.2.1 hk.1
  have hj2 := hj
  rw [cl_4 _ hk.2] at hj
  have hown := C.2.2.2.2.2.1
  rw [hM] at hown
  have he : (va_pl L (cE G.2.2.2.1 ((L, K, AN, R0), (Rc, Ic, AIc, AR), (Im, AIm), AL))).set j (a, .inr (4, [va_rf (R0 1 a), va_rf (R0 2 a), va_rf (R0 3 a), va_rf (R0 4 a), va_rf (R0 5 a), va_rf (R0 6 a), va_rf (v), va_rf (R0 8 a)])) = va_pl L (cE G.2.2.2.1 ((L, K, AN, u2 R0 7 a v), (Rc, Ic, AIc, AR), (Im, AIm), AL)) := (va_pl_set (X := []) hh.2 hk.1 hj2).trans (va_pl_congr (cu_4_6 _ hk.2 v))
  have hn : narrow (tyX4 6) (va_rf v) = va_rf v := by cases v <;> rfl
  have hf : fits (tyX4 6) (va_rf v) = true := by cases v <;> rfl
  exact va_putF (C := RX4) (T := TX4) (N := 8) (Ts := wsX40) C.1 C.2.1 (fun w h => cx_ok C (gd_4 w h)) (fun _ h => h) tyX4 tyX4_ok nmX4 hown (cx_K C) hh.1 hh.2 hS j hj rfl 6 (by decide) (cx_ok C ok_89) (fun _ h => h) rfl (C.2.2.2.2.2.2.1.trans hI) rfl (tyX4_ok 6 (by decide)) hn hf (by show 6 < 8; decide) dg (fun H1 locs1 hP1 hD1 hS1 => kk p e s m args below meth c H1 locs1 ls C ⟨by rw [← he]; exact hP1, by rw [← he]; exact hD1⟩ hS1 hl)
theorem ok_90 : okw (.fieldLink RX4 45 RX4 "clippedRow" "LSplaySequence$Row;") := ⟨List.mem_of_getElem? (i := 90) (by decide +kernel), by decide +kernel⟩
/-- getfield clippedRow of SplaySequence -/
theorem gf_RX4_45 {o : Option Nat} {a : Nat} (dg : decode M.2.1 pc = .ok (.getfield 45, 3)) (hM : M.1.cls = RX4) (ho : o = some a) (hk : isK ((L, K, AN, R0), (Rc, Ic, AIc, AR), (Im, AIm), AL) 4 a) (kk : WP G M Q k n (pc + 3) lv (vr (R0 8 a) :: st) ((L, K, AN, R0), (Rc, Ic, AIc, AR), (Im, AIm), AL)) : WP G M Q k n pc lv (vr o :: st) ((L, K, AN, R0), (Rc, Ic, AIc, AR), (Im, AIm), AL) := by
  subst ho
  intro p e s m args below meth c H locs ls C hh hS hl
  obtain ⟨j, hj⟩ := pool_at G.2.2.2.1 hk.1
  rw [cl_4 _ hk.2] at hj
  have hown := C.2.2.2.2.2.1
  rw [hM] at hown
  exact va_get (C := RX4) (T := TX4) (N := 8) (Ts := wsX40) C.1 C.2.1 (fun w h => cx_ok C (gd_4 w h)) (fun _ h => h) hown (cx_K C) hh.1 j hj rfl 7 (by decide) (cx_ok C ok_90) (fun _ h => h) rfl dg (kk p e s m args below meth c H locs ls C hh hS hl)
/-- putfield clippedRow of SplaySequence -/
theorem pf_RX4_45 {o : Option Nat} {a : Nat} {v : Option Nat} (dg : decode M.2.1 pc = .ok (.putfield 45, 3)) (hM : M.1.cls = RX4) (hI : M.1.name = "<init>") (ho : o = some a) (hk : isK ((L, K, AN, R0), (Rc, Ic, AIc, AR), (Im, AIm), AL) 4 a) (kk : WP G M Q k n (pc + 3) lv st ((L, K, AN, u2 R0 8 a v), (Rc, Ic, AIc, AR), (Im, AIm), AL)) : WP G M Q k n pc lv (vr v :: vr o :: st) ((L, K, AN, R0), (Rc, Ic, AIc, AR), (Im, AIm), AL) := by
  subst ho
  intro p e s m args below meth c H locs ls C hh hS hl
  obtain ⟨j, hj⟩ := pool_at G.2.2.2.1 hk.1
  have hj2 := hj
  rw [cl_4 _ hk.2] at hj
  have hown := C.2.2.2.2.2.1
  rw [hM] at hown
  have he : (va_pl L (cE G.2.2.2.1 ((L, K, AN, R0), (Rc, Ic, AIc, AR), (Im, AIm), AL))).set j (a, .inr (4, [va_rf (R0 1 a), va_rf (R0 2 a), va_rf (R0 3 a), va_rf (R0 4 a), va_rf (R0 5 a), va_rf (R0 6 a), va_rf (R0 7 a), va_rf (v)])) = va_pl L (cE G.2.2.2.1 ((L, K, AN, u2 R0 8 a v), (Rc, Ic, AIc, AR), (Im, AIm), AL)) := (va_pl_set (X := []) hh.2 hk.1 hj2).trans (va_pl_congr (cu_4_7 _ hk.2 v))
  have hn : narrow (tyX4 7) (va_rf v) = va_rf v := by cases v <;> rfl
  have hf : fits (tyX4 7) (va_rf v) = true := by cases v <;> rfl
  exact va_putF (C := RX4) (T := TX4) (N := 8) (Ts := wsX40) C.1 C.2.1 (fun w h => cx_ok C (gd_4 w h)) (fun _ h => h) tyX4 tyX4_ok nmX4 hown (cx_K C) hh.1 hh.2 hS j hj rfl 7 (by decide) (cx_ok C ok_90) (fun _ h => h) rfl (C.2.2.2.2.2.2.1.trans hI) rfl (tyX4_ok 7 (by decide)) hn hf (by show 7 < 8; decide) dg (fun H1 locs1 hP1 hD1 hS1 => kk p e s m args below meth c H1 locs1 ls C ⟨by rw [← he]; exact hP1, by rw [← he]; exact hD1⟩ hS1 hl)
theorem ok_512 : okw (.fieldLink RX0 20 RX0 "left" "LSplaySequence$Node;") := ⟨List.mem_of_getElem? (i := 512) (by decide +kernel), by decide +kernel⟩
/-- getfield left of SplaySequence$Node -/
theorem gf_RX0_20 {o : Option Nat} {a : Nat} (dg : decode M.2.1 pc = .ok (.getfield 20, 3)) (hM : M.1.cls = RX0) (ho : o = some a) (hk : isK ((L, K, AN, R0), (Rc, Ic, AIc, AR), (Im, AIm), AL) 0 a) (kk : WP G M Q k n (pc + 3) lv (vr (Rc 0 a) :: st) ((L, K, AN, R0), (Rc, Ic, AIc, AR), (Im, AIm), AL)) : WP G M Q k n pc lv (vr o :: st) ((L, K, AN, R0), (Rc, Ic, AIc, AR), (Im, AIm), AL) := by
  subst ho
  intro p e s m args below meth c H locs ls C hh hS hl
  obtain ⟨j, hj⟩ := pool_at G.2.2.2.1 hk.1
  rw [cl_0 _ hk.2] at hj
  have hown := C.2.2.2.2.2.1
  rw [hM] at hown
  exact va_get (C := RX0) (T := TX0) (N := 5) (Ts := wsX00) C.1 C.2.1 (fun w h => cx_ok C (gd_0 w h)) (fun _ h => h) hown (cx_K C) hh.1 j hj rfl 0 (by decide) (cx_ok C ok_512) (fun _ h => h) rfl dg (kk p e s m args below meth c H locs ls C hh hS hl)
/-- putfield left of SplaySequence$Node -/
theorem pf_RX0_20 {o : Option Nat} {a : Nat} {v : Option Nat} (dg : decode M.2.1 pc = .ok (.putfield 20, 3)) (hM : M.1.cls = RX0) (ho : o = some a) (hk : isK ((L, K, AN, R0), (Rc, Ic, AIc, AR), (Im, AIm), AL) 0 a) (kk : WP G M Q k n (pc + 3) lv st ((L, K, AN, R0), (u2 Rc 0 a v, Ic, AIc, AR), (Im, AIm), AL)) : WP G M Q k n pc lv (vr v :: vr o :: st) ((L, K, AN, R0), (Rc, Ic, AIc, AR), (Im, AIm), AL) := by
  subst ho
  intro p e s m args below meth c H locs ls C hh hS hl
  obtain ⟨j, hj⟩ := pool_at G.2.2.2.1 hk.1
  have hj2 := hj
  rw [cl_0 _ hk.2] at hj
  have hown := C.2.2.2.2.2.1
  rw [hM] at hown
  have he : (va_pl L (cE G.2.2.2.1 ((L, K, AN, R0), (Rc, Ic, AIc, AR), (Im, AIm), AL))).set j (a, .inr (0, [va_rf (v), va_rf (Rc 1 a), va_rf (Rc 2 a), .int (Ic 0 a), .int (Ic 1 a)])) = va_pl L (cE G.2.2.2.1 ((L, K, AN, R0), (u2 Rc 0 a v, Ic, AIc, AR), (Im, AIm), AL)) := (va_pl_set (X := []) hh.2 hk.1 hj2).trans (va_pl_congr (cu_0_0 _ hk.2 v))
  have hn : narrow (tyX0 0) (va_rf v) = va_rf v := by cases v <;> rfl
  have hf : fits (tyX0 0) (va_rf v) = true := by cases v <;> rfl
  exact va_put (C := RX0) (T := TX0) (N := 5) (Ts := wsX00) C.1 C.2.1 (fun w h => cx_ok C (gd_0 w h)) (fun _ h => h) tyX0 tyX0_ok nmX0 hown (cx_K C) hh.1 hh.2 hS j hj rfl 0 (by decide) (cx_ok C ok_512) (fun _ h => h) rfl (tyX0_ok 0 (by decide)) hn hf (by show 0 < 5; decide) dg (fun H1 locs1 hP1 hD1 hS1 => kk p e s m args below meth c H1 locs1 ls C ⟨by rw [← he]; exact hP1, by rw [← he]; exact hD1⟩ hS1 hl)
theorem ok_517 : okw (.fieldLink RX0 27 RX0 "right" "LSplaySequence$Node;") := ⟨List.mem_of_getElem? (i := 517) (by decide +kernel), by decide +kernel⟩
/-- getfield right of SplaySequence$Node -/
theorem gf_RX0_27 {o : Option Nat} {a : Nat} (dg : decode M.2.1 pc = .ok (.getfield 27, 3)) (hM : M.1.cls = RX0) (ho : o = some a) (hk : isK ((L, K, AN, R0), (Rc, Ic, AIc, AR), (Im, AIm), AL) 0 a) (kk : WP G M Q k n (pc + 3) lv (vr (Rc 1 a) :: st) ((L, K, AN, R0), (Rc, Ic, AIc, AR), (Im, AIm), AL)) : WP G M Q k n pc lv (vr o :: st) ((L, K, AN, R0), (Rc, Ic, AIc, AR), (Im, AIm), AL) := by
  subst ho
  intro p e s m args below meth c H locs ls C hh hS hl
  obtain ⟨j, hj⟩ := pool_at G.2.2.2.1 hk.1
  rw [cl_0 _ hk.2] at hj
  have hown := C.2.2.2.2.2.1
  rw [hM] at hown
  exact va_get (C := RX0) (T := TX0) (N := 5) (Ts := wsX00) C.1 C.2.1 (fun w h => cx_ok C (gd_0 w h)) (fun _ h => h) hown (cx_K C) hh.1 j hj rfl 1 (by decide) (cx_ok C ok_517) (fun _ h => h) rfl dg (kk p e s m args below meth c H locs ls C hh hS hl)
/-- putfield right of SplaySequence$Node -/
theorem pf_RX0_27 {o : Option Nat} {a : Nat} {v : Option Nat} (dg : decode M.2.1 pc = .ok (.putfield 27, 3)) (hM : M.1.cls = RX0) (ho : o = some a) (hk : isK ((L, K, AN, R0), (Rc, Ic, AIc, AR), (Im, AIm), AL) 0 a) (kk : WP G M Q k n (pc + 3) lv st ((L, K, AN, R0), (u2 Rc 1 a v, Ic, AIc, AR), (Im, AIm), AL)) : WP G M Q k n pc lv (vr v :: vr o :: st) ((L, K, AN, R0), (Rc, Ic, AIc, AR), (Im, AIm), AL) := by
  subst ho
  intro p e s m args below meth c H locs ls C hh hS hl
  obtain ⟨j, hj⟩ := pool_at G.2.2.2.1 hk.1
  have hj2 := hj
  rw [cl_0 _ hk.2] at hj
  have hown := C.2.2.2.2.2.1
  rw [hM] at hown
  have he : (va_pl L (cE G.2.2.2.1 ((L, K, AN, R0), (Rc, Ic, AIc, AR), (Im, AIm), AL))).set j (a, .inr (0, [va_rf (Rc 0 a), va_rf (v), va_rf (Rc 2 a), .int (Ic 0 a), .int (Ic 1 a)])) = va_pl L (cE G.2.2.2.1 ((L, K, AN, R0), (u2 Rc 1 a v, Ic, AIc, AR), (Im, AIm), AL)) := (va_pl_set (X := []) hh.2 hk.1 hj2).trans (va_pl_congr (cu_0_1 _ hk.2 v))
  have hn : narrow (tyX0 1) (va_rf v) = va_rf v := by cases v <;> rfl
  have hf : fits (tyX0 1) (va_rf v) = true := by cases v <;> rfl
  exact va_put (C := RX0) (T := TX0) (N := 5) (Ts := wsX00) C.1 C.2.1 (fun w h => cx_ok C (gd_0 w h)) (fun _ h => h) tyX0 tyX0_ok nmX0 hown (cx_K C) hh.1 hh.2 hS j hj rfl 1 (by decide) (cx_ok C ok_517) (fun _ h => h) rfl (tyX0_ok 1 (by decide)) hn hf (by show 1 < 5; decide) dg (fun H1 locs1 hP1 hD1 hS1 => kk p e s m args below meth c H1 locs1 ls C ⟨by rw [← he]; exact hP1, by rw [← he]; exact hD1⟩ hS1 hl)
theorem ok_520 : okw (.fieldLink RX0 16 RX0 "parent" "LSplaySequence$Node;") := ⟨List.mem_of_getElem? (i := 520) (by decide +kernel), by decide +kernel⟩
/-- getfield parent of SplaySequence$Node -/
theorem gf_RX0_16 {o : Option Nat} {a : Nat} (dg : decode M.2.1 pc = .ok (.getfield 16, 3)) (hM : M.1.cls = RX0) (ho : o = some a) (hk : isK ((L, K, AN, R0), (Rc, Ic, AIc, AR), (Im, AIm), AL) 0 a) (kk : WP G M Q k n (pc + 3) lv (vr (Rc 2 a) :: st) ((L, K, AN, R0), (Rc, Ic, AIc, AR), (Im, AIm), AL)) : WP G M Q k n pc lv (vr o :: st) ((L, K, AN, R0), (Rc, Ic, AIc, AR), (Im, AIm), AL) := by
  subst ho
  intro p e s m args below meth c H locs ls C hh hS hl
  obtain ⟨j, hj⟩ := pool_at G.2.2.2.1 hk.1
  rw [cl_0 _ hk.2] at hj
  have hown := C.2.2.2.2.2.1
  rw [hM] at hown
  exact va_get (C := RX0) (T := TX0) (N := 5) (Ts := wsX00) C.1 C.2.1 (fun w h => cx_ok C (gd_0 w h)) (fun _ h => h) hown (cx_K C) hh.1 j hj rfl 2 (by decide) (cx_ok C ok_520) (fun _ h => h) rfl dg (kk p e s m args below meth c H locs ls C hh hS hl)
/-- putfield parent of SplaySequence$Node -/
theorem pf_RX0_16 {o : Option Nat} {a : Nat} {v : Option Nat} (dg : decode M.2.1 pc = .ok (.putfield 16, 3)) (hM : M.1.cls = RX0) (ho : o = some a) (hk : isK ((L, K, AN, R0), (Rc, Ic, AIc, AR), (Im, AIm), AL) 0 a) (kk : WP G M Q k n (pc + 3) lv st ((L, K, AN, R0), (u2 Rc 2 a v, Ic, AIc, AR), (Im, AIm), AL)) : WP G M Q k n pc lv (vr v :: vr o :: st) ((L, K, AN, R0), (Rc, Ic, AIc, AR), (Im, AIm), AL) := by
  subst ho
  intro p e s m args below meth c H locs ls C hh hS hl
  obtain ⟨j, hj⟩ := pool_at G.2.2.2.1 hk.1
  have hj2 := hj
  rw [cl_0 _ hk.2] at hj
  have hown := C.2.2.2.2.2.1
  rw [hM] at hown
  have he : (va_pl L (cE G.2.2.2.1 ((L, K, AN, R0), (Rc, Ic, AIc, AR), (Im, AIm), AL))).set j (a, .inr (0, [va_rf (Rc 0 a), va_rf (Rc 1 a), va_rf (v), .int (Ic 0 a), .int (Ic 1 a)])) = va_pl L (cE G.2.2.2.1 ((L, K, AN, R0), (u2 Rc 2 a v, Ic, AIc, AR), (Im, AIm), AL)) := (va_pl_set (X := []) hh.2 hk.1 hj2).trans (va_pl_congr (cu_0_2 _ hk.2 v))
  have hn : narrow (tyX0 2) (va_rf v) = va_rf v := by cases v <;> rfl
  have hf : fits (tyX0 2) (va_rf v) = true := by cases v <;> rfl
  exact va_put (C := RX0) (T := TX0) (N := 5) (Ts := wsX00) C.1 C.2.1 (fun w h => cx_ok C (gd_0 w h)) (fun _ h => h) tyX0 tyX0_ok nmX0 hown (cx_K C) hh.1 hh.2 hS j hj rfl 2 (by decide) (cx_ok C ok_520) (fun _ h => h) rfl (tyX0_ok 2 (by decide)) hn hf (by show 2 < 5; decide) dg (fun H1 locs1 hP1 hD1 hS1 => kk p e s m args below meth c H1 locs1 ls C ⟨by rw [← he]; exact hP1, by rw [← he]; exact hD1⟩ hS1 hl)
theorem ok_522 : okw (.fieldLink RX0 7 RX0 "count" "I") := ⟨List.mem_of_getElem? (i := 522) (by decide +kernel), by decide +kernel⟩
/-- getfield count of SplaySequence$Node -/
theorem gf_RX0_7 {o : Option Nat} {a : Nat} (dg : decode M.2.1 pc = .ok (.getfield 7, 3)) (hM : M.1.cls = RX0) (ho : o = some a) (hk : isK ((L, K, AN, R0), (Rc, Ic, AIc, AR), (Im, AIm), AL) 0 a) (kk : WP G M Q k n (pc + 3) lv (vi (Ic 0 a) :: st) ((L, K, AN, R0), (Rc, Ic, AIc, AR), (Im, AIm), AL)) : WP G M Q k n pc lv (vr o :: st) ((L, K, AN, R0), (Rc, Ic, AIc, AR), (Im, AIm), AL) := by
  subst ho
  intro p e s m args below meth c H locs ls C hh hS hl
  obtain ⟨j, hj⟩ := pool_at G.2.2.2.1 hk.1
  rw [cl_0 _ hk.2] at hj
  have hown := C.2.2.2.2.2.1
  rw [hM] at hown
  exact va_get (C := RX0) (T := TX0) (N := 5) (Ts := wsX00) C.1 C.2.1 (fun w h => cx_ok C (gd_0 w h)) (fun _ h => h) hown (cx_K C) hh.1 j hj rfl 3 (by decide) (cx_ok C ok_522) (fun _ h => h) rfl dg (kk p e s m args below meth c H locs ls C hh hS hl)
/-- putfield count of SplaySequence$Node -/
theorem pf_RX0_7 {o : Option Nat} {a : Nat} {v : Int32} (dg : decode M.2.1 pc = .ok (.putfield 7, 3)) (hM : M.1.cls = RX0) (ho : o = some a) (hk : isK ((L, K, AN, R0), (Rc, Ic, AIc, AR), (Im, AIm), AL) 0 a) (kk : WP G M Q k n (pc + 3) lv st ((L, K, AN, R0), (Rc, u2 Ic 0 a v, AIc, AR), (Im, AIm), AL)) : WP G M Q k n pc lv (vi v :: vr o :: st) ((L, K, AN, R0), (Rc, Ic, AIc, AR), (Im, AIm), AL) := by
  subst ho
  intro p e s m args below meth c H locs ls C hh hS hl
  obtain ⟨j, hj⟩ := pool_at G.2.2.2.1 hk.1
  have hj2 := hj
  rw [cl_0 _ hk.2] at hj
  have hown := C.2.2.2.2.2.1
  rw [hM] at hown
  have he : (va_pl L (cE G.2.2.2.1 ((L, K, AN, R0), (Rc, Ic, AIc, AR), (Im, AIm), AL))).set j (a, .inr (0, [va_rf (Rc 0 a), va_rf (Rc 1 a), va_rf (Rc 2 a), .int (v), .int (Ic 1 a)])) = va_pl L (cE G.2.2.2.1 ((L, K, AN, R0), (Rc, u2 Ic 0 a v, AIc, AR), (Im, AIm), AL)) := (va_pl_set (X := []) hh.2 hk.1 hj2).trans (va_pl_congr (cu_0_3 _ hk.2 v))
  have hn : narrow (tyX0 3) (.int v) = .int v := rfl
  have hf : fits (tyX0 3) (.int v) = true := rfl
  exact va_put (C := RX0) (T := TX0) (N := 5) (Ts := wsX00) C.1 C.2.1 (fun w h => cx_ok C (gd_0 w h)) (fun _ h => h) tyX0 tyX0_ok nmX0 hown (cx_K C) hh.1 hh.2 hS j hj rfl 3 (by decide) (cx_ok C ok_522) (fun _ h => h) rfl (tyX0_ok 3 (by decide)) hn hf (by show 3 < 5; decide) dg (fun H1 locs1 hP1 hD1 hS1 => kk p e s m args below meth c H1 locs1 ls C ⟨by rw [← he]; exact hP1, by rw [← he]; exact hD1⟩ hS1 hl)
theorem ok_525 : okw (.fieldLink RX0 13 RX0 "value" "I") := ⟨List.mem_of_getElem? (i := 525) (by decide +kernel), by decide +kernel⟩
/-- getfield value of SplaySequence$Node -/
theorem gf_RX0_13 {o : Option Nat} {a : Nat} (dg : decode M.2.1 pc = .ok (.getfield 13, 3)) (hM : M.1.cls = RX0) (ho : o = some a) (hk : isK ((L, K, AN, R0), (Rc, Ic, AIc, AR), (Im, AIm), AL) 0 a) (kk : WP G M Q k n (pc + 3) lv (vi (Ic 1 a) :: st) ((L, K, AN, R0), (Rc, Ic, AIc, AR), (Im, AIm), AL)) : WP G M Q k n pc lv (vr o :: st) ((L, K, AN, R0), (Rc, Ic, AIc, AR), (Im, AIm), AL) := by
  subst ho
  intro p e s m args below meth c H locs ls C hh hS hl
  obtain ⟨j, hj⟩ := pool_at G.2.2.2.1 hk.1
  rw [cl_0 _ hk.2] at hj
  have hown := C.2.2.2.2.2.1
  rw [hM] at hown
  exact va_get (C := RX0) (T := TX0) (N := 5) (Ts := wsX00) C.1 C.2.1 (fun w h => cx_ok C (gd_0 w h)) (fun _ h => h) hown (cx_K C) hh.1 j hj rfl 4 (by decide) (cx_ok C ok_525) (fun _ h => h) rfl dg (kk p e s m args below meth c H locs ls C hh hS hl)
/-- putfield value of SplaySequence$Node -/
theorem pf_RX0_13 {o : Option Nat} {a : Nat} {v : Int32} (dg : decode M.2.1 pc = .ok (.putfield 13, 3)) (hM : M.1.cls = RX0) (ho : o = some a) (hk : isK ((L, K, AN, R0), (Rc, Ic, AIc, AR), (Im, AIm), AL) 0 a) (kk : WP G M Q k n (pc + 3) lv st ((L, K, AN, R0), (Rc, u2 Ic 1 a v, AIc, AR), (Im, AIm), AL)) : WP G M Q k n pc lv (vi v :: vr o :: st) ((L, K, AN, R0), (Rc, Ic, AIc, AR), (Im, AIm), AL) := by
  subst ho
  intro p e s m args below meth c H locs ls C hh hS hl
  obtain ⟨j, hj⟩ := pool_at G.2.2.2.1 hk.1
  have hj2 := hj
  rw [cl_0 _ hk.2] at hj
  have hown := C.2.2.2.2.2.1
  rw [hM] at hown
  have he : (va_pl L (cE G.2.2.2.1 ((L, K, AN, R0), (Rc, Ic, AIc, AR), (Im, AIm), AL))).set j (a, .inr (0, [va_rf (Rc 0 a), va_rf (Rc 1 a), va_rf (Rc 2 a), .int (Ic 0 a), .int (v)])) = va_pl L (cE G.2.2.2.1 ((L, K, AN, R0), (Rc, u2 Ic 1 a v, AIc, AR), (Im, AIm), AL)) := (va_pl_set (X := []) hh.2 hk.1 hj2).trans (va_pl_congr (cu_0_4 _ hk.2 v))
  have hn : narrow (tyX0 4) (.int v) = .int v := rfl
  have hf : fits (tyX0 4) (.int v) = true := rfl
  exact va_put (C := RX0) (T := TX0) (N := 5) (Ts := wsX00) C.1 C.2.1 (fun w h => cx_ok C (gd_0 w h)) (fun _ h => h) tyX0 tyX0_ok nmX0 hown (cx_K C) hh.1 hh.2 hS j hj rfl 4 (by decide) (cx_ok C ok_525) (fun _ h => h) rfl (tyX0_ok 4 (by decide)) hn hf (by show 4 < 5; decide) dg (fun H1 locs1 hP1 hD1 hS1 => kk p e s m args below meth c H1 locs1 ls C ⟨by rw [← he]; exact hP1, by rw [← he]; exact hD1⟩ hS1 hl)
theorem nk_39 : Cond.fieldLinkNest RX4 86 RX3 "root" "LSplaySequence$Node;" "SplaySequence" ∈ lw_tbl := List.mem_of_getElem? (i := 39) (by decide +kernel)
/-- getfield root of SplaySequence$Tree -/
theorem gf_RX4_86 {o : Option Nat} {a : Nat} (dg : decode M.2.1 pc = .ok (.getfield 86, 3)) (hM : M.1.cls = RX4) (ho : o = some a) (hk : isK ((L, K, AN, R0), (Rc, Ic, AIc, AR), (Im, AIm), AL) 3 a) (kk : WP G M Q k n (pc + 3) lv (vr (Rc 3 a) :: st) ((L, K, AN, R0), (Rc, Ic, AIc, AR), (Im, AIm), AL)) : WP G M Q k n pc lv (vr o :: st) ((L, K, AN, R0), (Rc, Ic, AIc, AR), (Im, AIm), AL) := by
  subst ho
  intro p e s m args below meth c H locs ls C hh hS hl
  obtain ⟨j, hj⟩ := pool_at G.2.2.2.1 hk.1
  rw [cl_3 _ hk.2] at hj
  have hown := C.2.2.2.2.2.1
  rw [hM] at hown
  exact va_getN (C := RX3) (T := TX3) (N := 1) (Ts := wsX30) C.1 C.2.1 (fun w h => cx_ok C (gd_3 w h)) (fun _ h => h) hown (cx_K C) hh.1 j hj rfl 0 (by decide) (cx_nf (S := ((L, K, AN, R0), (Rc, Ic, AIc, AR), (Im, AIm), AL)) C nk_39) (fun _ h => h) rfl dg (kk p e s m args below meth c H locs ls C hh hS hl)
/-- putfield root of SplaySequence$Tree -/
theorem pf_RX4_86 {o : Option Nat} {a : Nat} {v : Option Nat} (dg : decode M.2.1 pc = .ok (.putfield 86, 3)) (hM : M.1.cls = RX4) (ho : o = some a) (hk : isK ((L, K, AN, R0), (Rc, Ic, AIc, AR), (Im, AIm), AL) 3 a) (kk : WP G M Q k n (pc + 3) lv st ((L, K, AN, R0), (u2 Rc 3 a v, Ic, AIc, AR), (Im, AIm), AL)) : WP G M Q k n pc lv (vr v :: vr o :: st) ((L, K, AN, R0), (Rc, Ic, AIc, AR), (Im, AIm), AL) := by
  subst ho
  intro p e s m args below meth c H locs ls C hh hS hl
  obtain ⟨j, hj⟩ := pool_at G.2.2.2.1 hk.1
  have hj2 := hj
  rw [cl_3 _ hk.2] at hj
  have hown := C.2.2.2.2.2.1
  rw [hM] at hown
  have he : (va_pl L (cE G.2.2.2.1 ((L, K, AN, R0), (Rc, Ic, AIc, AR), (Im, AIm), AL))).set j (a, .inr (3, [va_rf (v)])) = va_pl L (cE G.2.2.2.1 ((L, K, AN, R0), (u2 Rc 3 a v, Ic, AIc, AR), (Im, AIm), AL)) := (va_pl_set (X := []) hh.2 hk.1 hj2).trans (va_pl_congr (cu_3_0 _ hk.2 v))
  have hn : narrow (tyX3 0) (va_rf v) = va_rf v := by cases v <;> rfl
  have hf : fits (tyX3 0) (va_rf v) = true := by cases v <;> rfl
  exact va_putN (C := RX3) (T := TX3) (N := 1) (Ts := wsX30) C.1 C.2.1 (fun w h => cx_ok C (gd_3 w h)) (fun _ h => h) tyX3 tyX3_ok nmX3 hown (cx_K C) hh.1 hh.2 hS j hj rfl 0 (by decide) (cx_nf (S := ((L, K, AN, R0), (Rc, Ic, AIc, AR), (Im, AIm), AL)) C nk_39) (fun _ h => h) rfl (tyX3_ok 0 (by decide)) hn hf (by show 0 < 1; decide) dg (fun H1 locs1 hP1 hD1 hS1 => kk p e s m args below meth c H1 locs1 ls C ⟨by rw [← he]; exact hP1, by rw [← he]; exact hD1⟩ hS1 hl)
theorem nk_40 : Cond.fieldLinkNest RX2 38 RX3 "root" "LSplaySequence$Node;" "SplaySequence" ∈ lw_tbl := List.mem_of_getElem? (i := 40) (by decide +kernel)
/-- getfield root of SplaySequence$Tree -/
theorem gf_RX2_38 {o : Option Nat} {a : Nat} (dg : decode M.2.1 pc = .ok (.getfield 38, 3)) (hM : M.1.cls = RX2) (ho : o = some a) (hk : isK ((L, K, AN, R0), (Rc, Ic, AIc, AR), (Im, AIm), AL) 3 a) (kk : WP G M Q k n (pc + 3) lv (vr (Rc 3 a) :: st) ((L, K, AN, R0), (Rc, Ic, AIc, AR), (Im, AIm), AL)) : WP G M Q k n pc lv (vr o :: st) ((L, K, AN, R0), (Rc, Ic, AIc, AR), (Im, AIm), AL) := by
  subst ho
  intro p e s m args below meth c H locs ls C hh hS hl
  obtain ⟨j, hj⟩ := pool_at G.2.2.2.1 hk.1
  rw [cl_3 _ hk.2] at hj
  have hown := C.2.2.2.2.2.1
  rw [hM] at hown
  exact va_getN (C := RX3) (T := TX3) (N := 1) (Ts := wsX30) C.1 C.2.1 (fun w h => cx_ok C (gd_3 w h)) (fun _ h => h) hown (cx_K C) hh.1 j hj rfl 0 (by decide) (cx_nf (S := ((L, K, AN, R0), (Rc, Ic, AIc, AR), (Im, AIm), AL)) C nk_40) (fun _ h => h) rfl dg (kk p e s m args below meth c H locs ls C hh hS hl)
/-- putfield root of SplaySequence$Tree -/
theorem pf_RX2_38 {o : Option Nat} {a : Nat} {v : Option Nat} (dg : decode M.2.1 pc = .ok (.putfield 38, 3)) (hM : M.1.cls = RX2) (ho : o = some a) (hk : isK ((L, K, AN, R0), (Rc, Ic, AIc, AR), (Im, AIm), AL) 3 a) (kk : WP G M Q k n (pc + 3) lv st ((L, K, AN, R0), (u2 Rc 3 a v, Ic, AIc, AR), (Im, AIm), AL)) : WP G M Q k n pc lv (vr v :: vr o :: st) ((L, K, AN, R0), (Rc, Ic, AIc, AR), (Im, AIm), AL) := by
  subst ho
  intro p e s m args below meth c H locs ls C hh hS hl
  obtain ⟨j, hj⟩ := pool_at G.2.2.2.1 hk.1
  have hj2 := hj
  rw [cl_3 _ hk.2] at hj
  have hown := C.2.2.2.2.2.1
  rw [hM] at hown
  have he : (va_pl L (cE G.2.2.2.1 ((L, K, AN, R0), (Rc, Ic, AIc, AR), (Im, AIm), AL))).set j (a, .inr (3, [va_rf (v)])) = va_pl L (cE G.2.2.2.1 ((L, K, AN, R0), (u2 Rc 3 a v, Ic, AIc, AR), (Im, AIm), AL)) := (va_pl_set (X := []) hh.2 hk.1 hj2).trans (va_pl_congr (cu_3_0 _ hk.2 v))
  have hn : narrow (tyX3 0) (va_rf v) = va_rf v := by cases v <;> rfl
  have hf : fits (tyX3 0) (va_rf v) = true := by cases v <;> rfl
  exact va_putN (C := RX3) (T := TX3) (N := 1) (Ts := wsX30) C.1 C.2.1 (fun w h => cx_ok C (gd_3 w h)) (fun _ h => h) tyX3 tyX3_ok nmX3 hown (cx_K C) hh.1 hh.2 hS j hj rfl 0 (by decide) (cx_nf (S := ((L, K, AN, R0), (Rc, Ic, AIc, AR), (Im, AIm), AL)) C nk_40) (fun _ h => h) rfl (tyX3_ok 0 (by decide)) hn hf (by show 0 < 1; decide) dg (fun H1 locs1 hP1 hD1 hS1 => kk p e s m args below meth c H1 locs1 ls C ⟨by rw [← he]; exact hP1, by rw [← he]; exact hD1⟩ hS1 hl)
theorem nk_51 : Cond.fieldLinkNest RX4 180 RX2 "callSteps" "I" "SplaySequence" ∈ lw_tbl := List.mem_of_getElem? (i := 51) (by decide +kernel)
/-- getfield callSteps of SplaySequence$Splayer -/
theorem gf_RX4_180 {o : Option Nat} {a : Nat} (dg : decode M.2.1 pc = .ok (.getfield 180, 3)) (hM : M.1.cls = RX4) (ho : o = some a) (hk : isK ((L, K, AN, R0), (Rc, Ic, AIc, AR), (Im, AIm), AL) 2 a) (kk : WP G M Q k n (pc + 3) lv (vi (Ic 3 a) :: st) ((L, K, AN, R0), (Rc, Ic, AIc, AR), (Im, AIm), AL)) : WP G M Q k n pc lv (vr o :: st) ((L, K, AN, R0), (Rc, Ic, AIc, AR), (Im, AIm), AL) := by
  subst ho
  intro p e s m args below meth c H locs ls C hh hS hl
  obtain ⟨j, hj⟩ := pool_at G.2.2.2.1 hk.1
  rw [cl_2 _ hk.2] at hj
  have hown := C.2.2.2.2.2.1
  rw [hM] at hown
  exact va_getN (C := RX2) (T := TX2) (N := 4) (Ts := wsX20) C.1 C.2.1 (fun w h => cx_ok C (gd_2 w h)) (fun _ h => h) hown (cx_K C) hh.1 j hj rfl 0 (by decide) (cx_nf (S := ((L, K, AN, R0), (Rc, Ic, AIc, AR), (Im, AIm), AL)) C nk_51) (fun _ h => h) rfl dg (kk p e s m args below meth c H locs ls C hh hS hl)
/-- putfield callSteps of SplaySequence$Splayer -/
theorem pf_RX4_180 {o : Option Nat} {a : Nat} {v : Int32} (dg : decode M.2.1 pc = .ok (.putfield 180, 3)) (hM : M.1.cls = RX4) (ho : o = some a) (hk : isK ((L, K, AN, R0), (Rc, Ic, AIc, AR), (Im, AIm), AL) 2 a) (kk : WP G M Q k n (pc + 3) lv st ((L, K, AN, R0), (Rc, u2 Ic 3 a v, AIc, AR), (Im, AIm), AL)) : WP G M Q k n pc lv (vi v :: vr o :: st) ((L, K, AN, R0), (Rc, Ic, AIc, AR), (Im, AIm), AL) := by
  subst ho
  intro p e s m args below meth c H locs ls C hh hS hl
  obtain ⟨j, hj⟩ := pool_at G.2.2.2.1 hk.1
  have hj2 := hj
  rw [cl_2 _ hk.2] at hj
  have hown := C.2.2.2.2.2.1
  rw [hM] at hown
  have he : (va_pl L (cE G.2.2.2.1 ((L, K, AN, R0), (Rc, Ic, AIc, AR), (Im, AIm), AL))).set j (a, .inr (2, [.int (v), .int (Ic 4 a), .int (Ic 5 a), .int (Ic 6 a)])) = va_pl L (cE G.2.2.2.1 ((L, K, AN, R0), (Rc, u2 Ic 3 a v, AIc, AR), (Im, AIm), AL)) := (va_pl_set (X := []) hh.2 hk.1 hj2).trans (va_pl_congr (cu_2_0 _ hk.2 v))
  have hn : narrow (tyX2 0) (.int v) = .int v := rfl
  have hf : fits (tyX2 0) (.int v) = true := rfl
  exact va_putN (C := RX2) (T := TX2) (N := 4) (Ts := wsX20) C.1 C.2.1 (fun w h => cx_ok C (gd_2 w h)) (fun _ h => h) tyX2 tyX2_ok nmX2 hown (cx_K C) hh.1 hh.2 hS j hj rfl 0 (by decide) (cx_nf (S := ((L, K, AN, R0), (Rc, Ic, AIc, AR), (Im, AIm), AL)) C nk_51) (fun _ h => h) rfl (tyX2_ok 0 (by decide)) hn hf (by show 0 < 4; decide) dg (fun H1 locs1 hP1 hD1 hS1 => kk p e s m args below meth c H1 locs1 ls C ⟨by rw [← he]; exact hP1, by rw [← he]; exact hD1⟩ hS1 hl)
theorem nk_53 : Cond.fieldLinkNest RX4 183 RX2 "callRotations" "I" "SplaySequence" ∈ lw_tbl := List.mem_of_getElem? (i := 53) (by decide +kernel)
/-- getfield callRotations of SplaySequence$Splayer -/
theorem gf_RX4_183 {o : Option Nat} {a : Nat} (dg : decode M.2.1 pc = .ok (.getfield 183, 3)) (hM : M.1.cls = RX4) (ho : o = some a) (hk : isK ((L, K, AN, R0), (Rc, Ic, AIc, AR), (Im, AIm), AL) 2 a) (kk : WP G M Q k n (pc + 3) lv (vi (Ic 4 a) :: st) ((L, K, AN, R0), (Rc, Ic, AIc, AR), (Im, AIm), AL)) : WP G M Q k n pc lv (vr o :: st) ((L, K, AN, R0), (Rc, Ic, AIc, AR), (Im, AIm), AL) := by
  subst ho
  intro p e s m args below meth c H locs ls C hh hS hl
  obtain ⟨j, hj⟩ := pool_at G.2.2.2.1 hk.1
  rw [cl_2 _ hk.2] at hj
  have hown := C.2.2.2.2.2.1
  rw [hM] at hown
  exact va_getN (C := RX2) (T := TX2) (N := 4) (Ts := wsX20) C.1 C.2.1 (fun w h => cx_ok C (gd_2 w h)) (fun _ h => h) hown (cx_K C) hh.1 j hj rfl 1 (by decide) (cx_nf (S := ((L, K, AN, R0), (Rc, Ic, AIc, AR), (Im, AIm), AL)) C nk_53) (fun _ h => h) rfl dg (kk p e s m args below meth c H locs ls C hh hS hl)
/-- putfield callRotations of SplaySequence$Splayer -/
theorem pf_RX4_183 {o : Option Nat} {a : Nat} {v : Int32} (dg : decode M.2.1 pc = .ok (.putfield 183, 3)) (hM : M.1.cls = RX4) (ho : o = some a) (hk : isK ((L, K, AN, R0), (Rc, Ic, AIc, AR), (Im, AIm), AL) 2 a) (kk : WP G M Q k n (pc + 3) lv st ((L, K, AN, R0), (Rc, u2 Ic 4 a v, AIc, AR), (Im, AIm), AL)) : WP G M Q k n pc lv (vi v :: vr o :: st) ((L, K, AN, R0), (Rc, Ic, AIc, AR), (Im, AIm), AL) := by
  subst ho
  intro p e s m args below meth c H locs ls C hh hS hl
  obtain ⟨j, hj⟩ := pool_at G.2.2.2.1 hk.1
  have hj2 := hj
  rw [cl_2 _ hk.2] at hj
  have hown := C.2.2.2.2.2.1
  rw [hM] at hown
  have he : (va_pl L (cE G.2.2.2.1 ((L, K, AN, R0), (Rc, Ic, AIc, AR), (Im, AIm), AL))).set j (a, .inr (2, [.int (Ic 3 a), .int (v), .int (Ic 5 a), .int (Ic 6 a)])) = va_pl L (cE G.2.2.2.1 ((L, K, AN, R0), (Rc, u2 Ic 4 a v, AIc, AR), (Im, AIm), AL)) := (va_pl_set (X := []) hh.2 hk.1 hj2).trans (va_pl_congr (cu_2_1 _ hk.2 v))
  have hn : narrow (tyX2 1) (.int v) = .int v := rfl
  have hf : fits (tyX2 1) (.int v) = true := rfl
  exact va_putN (C := RX2) (T := TX2) (N := 4) (Ts := wsX20) C.1 C.2.1 (fun w h => cx_ok C (gd_2 w h)) (fun _ h => h) tyX2 tyX2_ok nmX2 hown (cx_K C) hh.1 hh.2 hS j hj rfl 1 (by decide) (cx_nf (S := ((L, K, AN, R0), (Rc, Ic, AIc, AR), (Im, AIm), AL)) C nk_53) (fun _ h => h) rfl (tyX2_ok 1 (by decide)) hn hf (by show 1 < 4; decide) dg (fun H1 locs1 hP1 hD1 hS1 => kk p e s m args below meth c H1 locs1 ls C ⟨by rw [← he]; exact hP1, by rw [← he]; exact hD1⟩ hS1 hl)
theorem nk_55 : Cond.fieldLinkNest RX4 186 RX2 "allSteps" "I" "SplaySequence" ∈ lw_tbl := List.mem_of_getElem? (i := 55) (by decide +kernel)
/-- getfield allSteps of SplaySequence$Splayer -/
theorem gf_RX4_186 {o : Option Nat} {a : Nat} (dg : decode M.2.1 pc = .ok (.getfield 186, 3)) (hM : M.1.cls = RX4) (ho : o = some a) (hk : isK ((L, K, AN, R0), (Rc, Ic, AIc, AR), (Im, AIm), AL) 2 a) (kk : WP G M Q k n (pc + 3) lv (vi (Ic 5 a) :: st) ((L, K, AN, R0), (Rc, Ic, AIc, AR), (Im, AIm), AL)) : WP G M Q k n pc lv (vr o :: st) ((L, K, AN, R0), (Rc, Ic, AIc, AR), (Im, AIm), AL) := by
  subst ho
  intro p e s m args below meth c H locs ls C hh hS hl
  obtain ⟨j, hj⟩ := pool_at G.2.2.2.1 hk.1
  rw [cl_2 _ hk.2] at hj
  have hown := C.2.2.2.2.2.1
  rw [hM] at hown
  exact va_getN (C := RX2) (T := TX2) (N := 4) (Ts := wsX20) C.1 C.2.1 (fun w h => cx_ok C (gd_2 w h)) (fun _ h => h) hown (cx_K C) hh.1 j hj rfl 2 (by decide) (cx_nf (S := ((L, K, AN, R0), (Rc, Ic, AIc, AR), (Im, AIm), AL)) C nk_55) (fun _ h => h) rfl dg (kk p e s m args below meth c H locs ls C hh hS hl)
/-- putfield allSteps of SplaySequence$Splayer -/
theorem pf_RX4_186 {o : Option Nat} {a : Nat} {v : Int32} (dg : decode M.2.1 pc = .ok (.putfield 186, 3)) (hM : M.1.cls = RX4) (ho : o = some a) (hk : isK ((L, K, AN, R0), (Rc, Ic, AIc, AR), (Im, AIm), AL) 2 a) (kk : WP G M Q k n (pc + 3) lv st ((L, K, AN, R0), (Rc, u2 Ic 5 a v, AIc, AR), (Im, AIm), AL)) : WP G M Q k n pc lv (vi v :: vr o :: st) ((L, K, AN, R0), (Rc, Ic, AIc, AR), (Im, AIm), AL) := by
  subst ho
  intro p e s m args below meth c H locs ls C hh hS hl
  obtain ⟨j, hj⟩ := pool_at G.2.2.2.1 hk.1
  have hj2 := hj
  rw [cl_2 _ hk.2] at hj
  have hown := C.2.2.2.2.2.1
  rw [hM] at hown
  have he : (va_pl L (cE G.2.2.2.1 ((L, K, AN, R0), (Rc, Ic, AIc, AR), (Im, AIm), AL))).set j (a, .inr (2, [.int (Ic 3 a), .int (Ic 4 a), .int (v), .int (Ic 6 a)])) = va_pl L (cE G.2.2.2.1 ((L, K, AN, R0), (Rc, u2 Ic 5 a v, AIc, AR), (Im, AIm), AL)) := (va_pl_set (X := []) hh.2 hk.1 hj2).trans (va_pl_congr (cu_2_2 _ hk.2 v))
  have hn : narrow (tyX2 2) (.int v) = .int v := rfl
  have hf : fits (tyX2 2) (.int v) = true := rfl
  exact va_putN (C := RX2) (T := TX2) (N := 4) (Ts := wsX20) C.1 C.2.1 (fun w h => cx_ok C (gd_2 w h)) (fun _ h => h) tyX2 tyX2_ok nmX2 hown (cx_K C) hh.1 hh.2 hS j hj rfl 2 (by decide) (cx_nf (S := ((L, K, AN, R0), (Rc, Ic, AIc, AR), (Im, AIm), AL)) C nk_55) (fun _ h => h) rfl (tyX2_ok 2 (by decide)) hn hf (by show 2 < 4; decide) dg (fun H1 locs1 hP1 hD1 hS1 => kk p e s m args below meth c H1 locs1 ls C ⟨by rw [← he]; exact hP1, by rw [← he]; exact hD1⟩ hS1 hl)
theorem nk_57 : Cond.fieldLinkNest RX4 189 RX2 "allSplays" "I" "SplaySequence" ∈ lw_tbl := List.mem_of_getElem? (i := 57) (by decide +kernel)
/-- getfield allSplays of SplaySequence$Splayer -/
theorem gf_RX4_189 {o : Option Nat} {a : Nat} (dg : decode M.2.1 pc = .ok (.getfield 189, 3)) (hM : M.1.cls = RX4) (ho : o = some a) (hk : isK ((L, K, AN, R0), (Rc, Ic, AIc, AR), (Im, AIm), AL) 2 a) (kk : WP G M Q k n (pc + 3) lv (vi (Ic 6 a) :: st) ((L, K, AN, R0), (Rc, Ic, AIc, AR), (Im, AIm), AL)) : WP G M Q k n pc lv (vr o :: st) ((L, K, AN, R0), (Rc, Ic, AIc, AR), (Im, AIm), AL) := by
  subst ho
  intro p e s m args below meth c H locs ls C hh hS hl
  obtain ⟨j, hj⟩ := pool_at G.2.2.2.1 hk.1
  rw [cl_2 _ hk.2] at hj
  have hown := C.2.2.2.2.2.1
  rw [hM] at hown
  exact va_getN (C := RX2) (T := TX2) (N := 4) (Ts := wsX20) C.1 C.2.1 (fun w h => cx_ok C (gd_2 w h)) (fun _ h => h) hown (cx_K C) hh.1 j hj rfl 3 (by decide) (cx_nf (S := ((L, K, AN, R0), (Rc, Ic, AIc, AR), (Im, AIm), AL)) C nk_57) (fun _ h => h) rfl dg (kk p e s m args below meth c H locs ls C hh hS hl)
/-- putfield allSplays of SplaySequence$Splayer -/
theorem pf_RX4_189 {o : Option Nat} {a : Nat} {v : Int32} (dg : decode M.2.1 pc = .ok (.putfield 189, 3)) (hM : M.1.cls = RX4) (ho : o = some a) (hk : isK ((L, K, AN, R0), (Rc, Ic, AIc, AR), (Im, AIm), AL) 2 a) (kk : WP G M Q k n (pc + 3) lv st ((L, K, AN, R0), (Rc, u2 Ic 6 a v, AIc, AR), (Im, AIm), AL)) : WP G M Q k n pc lv (vi v :: vr o :: st) ((L, K, AN, R0), (Rc, Ic, AIc, AR), (Im, AIm), AL) := by
  subst ho
  intro p e s m args below meth c H locs ls C hh hS hl
  obtain ⟨j, hj⟩ := pool_at G.2.2.2.1 hk.1
  have hj2 := hj
  rw [cl_2 _ hk.2] at hj
  have hown := C.2.2.2.2.2.1
  rw [hM] at hown
  have he : (va_pl L (cE G.2.2.2.1 ((L, K, AN, R0), (Rc, Ic, AIc, AR), (Im, AIm), AL))).set j (a, .inr (2, [.int (Ic 3 a), .int (Ic 4 a), .int (Ic 5 a), .int (v)])) = va_pl L (cE G.2.2.2.1 ((L, K, AN, R0), (Rc, u2 Ic 6 a v, AIc, AR), (Im, AIm), AL)) := (va_pl_set (X := []) hh.2 hk.1 hj2).trans (va_pl_congr (cu_2_3 _ hk.2 v))
  have hn : narrow (tyX2 3) (.int v) = .int v := rfl
  have hf : fits (tyX2 3) (.int v) = true := rfl
  exact va_putN (C := RX2) (T := TX2) (N := 4) (Ts := wsX20) C.1 C.2.1 (fun w h => cx_ok C (gd_2 w h)) (fun _ h => h) tyX2 tyX2_ok nmX2 hown (cx_K C) hh.1 hh.2 hS j hj rfl 3 (by decide) (cx_nf (S := ((L, K, AN, R0), (Rc, Ic, AIc, AR), (Im, AIm), AL)) C nk_57) (fun _ h => h) rfl (tyX2_ok 3 (by decide)) hn hf (by show 3 < 4; decide) dg (fun H1 locs1 hP1 hD1 hS1 => kk p e s m args below meth c H1 locs1 ls C ⟨by rw [← he]; exact hP1, by rw [← he]; exact hD1⟩ hS1 hl)
theorem nk_513 : Cond.fieldLinkNest RX3 19 RX0 "left" "LSplaySequence$Node;" "SplaySequence" ∈ lw_tbl := List.mem_of_getElem? (i := 513) (by decide +kernel)
/-- getfield left of SplaySequence$Node -/
theorem gf_RX3_19 {o : Option Nat} {a : Nat} (dg : decode M.2.1 pc = .ok (.getfield 19, 3)) (hM : M.1.cls = RX3) (ho : o = some a) (hk : isK ((L, K, AN, R0), (Rc, Ic, AIc, AR), (Im, AIm), AL) 0 a) (kk : WP G M Q k n (pc + 3) lv (vr (Rc 0 a) :: st) ((L, K, AN, R0), (Rc, Ic, AIc, AR), (Im, AIm), AL)) : WP G M Q k n pc lv (vr o :: st) ((L, K, AN, R0), (Rc, Ic, AIc, AR), (Im, AIm), AL) := by
  subst ho
  intro p e s m args below meth c H locs ls C hh hS hl
  obtain ⟨j, hj⟩ := pool_at G.2.2.2.1 hk.1
  rw [cl_0 _ hk.2] at hj
  have hown := C.2.2.2.2.2.1
  rw [hM] at hown
  exact va_getN (C := RX0) (T := TX0) (N := 5) (Ts := wsX00) C.1 C.2.1 (fun w h => cx_ok C (gd_0 w h)) (fun _ h => h) hown (cx_K C) hh.1 j hj rfl 0 (by decide) (cx_nf (S := ((L, K, AN, R0), (Rc, Ic, AIc, AR), (Im, AIm), AL)) C nk_513) (fun _ h => h) rfl dg (kk p e s m args below meth c H locs ls C hh hS hl)
/-- putfield left of SplaySequence$Node -/
theorem pf_RX3_19 {o : Option Nat} {a : Nat} {v : Option Nat} (dg : decode M.2.1 pc = .ok (.putfield 19, 3)) (hM : M.1.cls = RX3) (ho : o = some a) (hk : isK ((L, K, AN, R0), (Rc, Ic, AIc, AR), (Im, AIm), AL) 0 a) (kk : WP G M Q k n (pc + 3) lv st ((L, K, AN, R0), (u2 Rc 0 a v, Ic, AIc, AR), (Im, AIm), AL)) : WP G M Q k n pc lv (vr v :: vr o :: st) ((L, K, AN, R0), (Rc, Ic, AIc, AR), (Im, AIm), AL) := by
  subst ho
  intro p e s m args below meth c H locs ls C hh hS hl
  obtain ⟨j, hj⟩ := pool_at G.2.2.2.1 hk.1
  have hj2 := hj
  rw [cl_0 _ hk.2] at hj
  have hown := C.2.2.2.2.2.1
  rw [hM] at hown
  have he : (va_pl L (cE G.2.2.2.1 ((L, K, AN, R0), (Rc, Ic, AIc, AR), (Im, AIm), AL))).set j (a, .inr (0, [va_rf (v), va_rf (Rc 1 a), va_rf (Rc 2 a), .int (Ic 0 a), .int (Ic 1 a)])) = va_pl L (cE G.2.2.2.1 ((L, K, AN, R0), (u2 Rc 0 a v, Ic, AIc, AR), (Im, AIm), AL)) := (va_pl_set (X := []) hh.2 hk.1 hj2).trans (va_pl_congr (cu_0_0 _ hk.2 v))
  have hn : narrow (tyX0 0) (va_rf v) = va_rf v := by cases v <;> rfl
  have hf : fits (tyX0 0) (va_rf v) = true := by cases v <;> rfl
  exact va_putN (C := RX0) (T := TX0) (N := 5) (Ts := wsX00) C.1 C.2.1 (fun w h => cx_ok C (gd_0 w h)) (fun _ h => h) tyX0 tyX0_ok nmX0 hown (cx_K C) hh.1 hh.2 hS j hj rfl 0 (by decide) (cx_nf (S := ((L, K, AN, R0), (Rc, Ic, AIc, AR), (Im, AIm), AL)) C nk_513) (fun _ h => h) rfl (tyX0_ok 0 (by decide)) hn hf (by show 0 < 5; decide) dg (fun H1 locs1 hP1 hD1 hS1 => kk p e s m args below meth c H1 locs1 ls C ⟨by rw [← he]; exact hP1, by rw [← he]; exact hD1⟩ hS1 hl)
theorem nk_514 : Cond.fieldLinkNest RX2 52 RX0 "left" "LSplaySequence$Node;" "SplaySequence" ∈ lw_tbl := List.mem_of_getElem? (i := 514) (by decide +kernel)
/-- getfield left of SplaySequence$Node -/
theorem gf_RX2_52 {o : Option Nat} {a : Nat} (dg : decode M.2.1 pc = .ok (.getfield 52, 3)) (hM : M.1.cls = RX2) (ho : o = some a) (hk : isK ((L, K, AN, R0), (Rc, Ic, AIc, AR), (Im, AIm), AL) 0 a) (kk : WP G M Q k n (pc + 3) lv (vr (Rc 0 a) :: st) ((L, K, AN, R0), (Rc, Ic, AIc, AR), (Im, AIm), AL)) : WP G M Q k n pc lv (vr o :: st) ((L, K, AN, R0), (Rc, Ic, AIc, AR), (Im, AIm), AL) := by
  subst ho
  intro p e s m args below meth c H locs ls C hh hS hl
  obtain ⟨j, hj⟩ := pool_at G.2.2.2.1 hk.1
  rw [cl_0 _ hk.2] at hj
  have hown := C.2.2.2.2.2.1
  rw [hM] at hown
  exact va_getN (C := RX0) (T := TX0) (N := 5) (Ts := wsX00) C.1 C.2.1 (fun w h => cx_ok C (gd_0 w h)) (fun _ h => h) hown (cx_K C) hh.1 j hj rfl 0 (by decide) (cx_nf (S := ((L, K, AN, R0), (Rc, Ic, AIc, AR), (Im, AIm), AL)) C nk_514) (fun _ h => h) rfl dg (kk p e s m args below meth c H locs ls C hh hS hl)
/-- putfield left of SplaySequence$Node -/
theorem pf_RX2_52 {o : Option Nat} {a : Nat} {v : Option Nat} (dg : decode M.2.1 pc = .ok (.putfield 52, 3)) (hM : M.1.cls = RX2) (ho : o = some a) (hk : isK ((L, K, AN, R0), (Rc, Ic, AIc, AR), (Im, AIm), AL) 0 a) (kk : WP G M Q k n (pc + 3) lv st ((L, K, AN, R0), (u2 Rc 0 a v, Ic, AIc, AR), (Im, AIm), AL)) : WP G M Q k n pc lv (vr v :: vr o :: st) ((L, K, AN, R0), (Rc, Ic, AIc, AR), (Im, AIm), AL) := by
  subst ho
  intro p e s m args below meth c H locs ls C hh hS hl
  obtain ⟨j, hj⟩ := pool_at G.2.2.2.1 hk.1
  have hj2 := hj
  rw [cl_0 _ hk.2] at hj
  have hown := C.2.2.2.2.2.1
  rw [hM] at hown
  have he : (va_pl L (cE G.2.2.2.1 ((L, K, AN, R0), (Rc, Ic, AIc, AR), (Im, AIm), AL))).set j (a, .inr (0, [va_rf (v), va_rf (Rc 1 a), va_rf (Rc 2 a), .int (Ic 0 a), .int (Ic 1 a)])) = va_pl L (cE G.2.2.2.1 ((L, K, AN, R0), (u2 Rc 0 a v, Ic, AIc, AR), (Im, AIm), AL)) := (va_pl_set (X := []) hh.2 hk.1 hj2).trans (va_pl_congr (cu_0_0 _ hk.2 v))
  have hn : narrow (tyX0 0) (va_rf v) = va_rf v := by cases v <;> rfl
  have hf : fits (tyX0 0) (va_rf v) = true := by cases v <;> rfl
  exact va_putN (C := RX0) (T := TX0) (N := 5) (Ts := wsX00) C.1 C.2.1 (fun w h => cx_ok C (gd_0 w h)) (fun _ h => h) tyX0 tyX0_ok nmX0 hown (cx_K C) hh.1 hh.2 hS j hj rfl 0 (by decide) (cx_nf (S := ((L, K, AN, R0), (Rc, Ic, AIc, AR), (Im, AIm), AL)) C nk_514) (fun _ h => h) rfl (tyX0_ok 0 (by decide)) hn hf (by show 0 < 5; decide) dg (fun H1 locs1 hP1 hD1 hS1 => kk p e s m args below meth c H1 locs1 ls C ⟨by rw [← he]; exact hP1, by rw [← he]; exact hD1⟩ hS1 hl)
theorem nk_515 : Cond.fieldLinkNest RX4 210 RX0 "left" "LSplaySequence$Node;" "SplaySequence" ∈ lw_tbl := List.mem_of_getElem? (i := 515) (by decide +kernel)
/-- getfield left of SplaySequence$Node -/
theorem gf_RX4_210 {o : Option Nat} {a : Nat} (dg : decode M.2.1 pc = .ok (.getfield 210, 3)) (hM : M.1.cls = RX4) (ho : o = some a) (hk : isK ((L, K, AN, R0), (Rc, Ic, AIc, AR), (Im, AIm), AL) 0 a) (kk : WP G M Q k n (pc + 3) lv (vr (Rc 0 a) :: st) ((L, K, AN, R0), (Rc, Ic, AIc, AR), (Im, AIm), AL)) : WP G M Q k n pc lv (vr o :: st) ((L, K, AN, R0), (Rc, Ic, AIc, AR), (Im, AIm), AL) := by
  subst ho
  intro p e s m args below meth c H locs ls C hh hS hl
  obtain ⟨j, hj⟩ := pool_at G.2.2.2.1 hk.1
  rw [cl_0 _ hk.2] at hj
  have hown := C.2.2.2.2.2.1
  rw [hM] at hown
  exact va_getN (C := RX0) (T := TX0) (N := 5) (Ts := wsX00) C.1 C.2.1 (fun w h => cx_ok C (gd_0 w h)) (fun _ h => h) hown (cx_K C) hh.1 j hj rfl 0 (by decide) (cx_nf (S := ((L, K, AN, R0), (Rc, Ic, AIc, AR), (Im, AIm), AL)) C nk_515) (fun _ h => h) rfl dg (kk p e s m args below meth c H locs ls C hh hS hl)
/-- putfield left of SplaySequence$Node -/
theorem pf_RX4_210 {o : Option Nat} {a : Nat} {v : Option Nat} (dg : decode M.2.1 pc = .ok (.putfield 210, 3)) (hM : M.1.cls = RX4) (ho : o = some a) (hk : isK ((L, K, AN, R0), (Rc, Ic, AIc, AR), (Im, AIm), AL) 0 a) (kk : WP G M Q k n (pc + 3) lv st ((L, K, AN, R0), (u2 Rc 0 a v, Ic, AIc, AR), (Im, AIm), AL)) : WP G M Q k n pc lv (vr v :: vr o :: st) ((L, K, AN, R0), (Rc, Ic, AIc, AR), (Im, AIm), AL) := by
  subst ho
  intro p e s m args below meth c H locs ls C hh hS hl
  obtain ⟨j, hj⟩ := pool_at G.2.2.2.1 hk.1
  have hj2 := hj
  rw [cl_0 _ hk.2] at hj
  have hown := C.2.2.2.2.2.1
  rw [hM] at hown
  have he : (va_pl L (cE G.2.2.2.1 ((L, K, AN, R0), (Rc, Ic, AIc, AR), (Im, AIm), AL))).set j (a, .inr (0, [va_rf (v), va_rf (Rc 1 a), va_rf (Rc 2 a), .int (Ic 0 a), .int (Ic 1 a)])) = va_pl L (cE G.2.2.2.1 ((L, K, AN, R0), (u2 Rc 0 a v, Ic, AIc, AR), (Im, AIm), AL)) := (va_pl_set (X := []) hh.2 hk.1 hj2).trans (va_pl_congr (cu_0_0 _ hk.2 v))
  have hn : narrow (tyX0 0) (va_rf v) = va_rf v := by cases v <;> rfl
  have hf : fits (tyX0 0) (va_rf v) = true := by cases v <;> rfl
  exact va_putN (C := RX0) (T := TX0) (N := 5) (Ts := wsX00) C.1 C.2.1 (fun w h => cx_ok C (gd_0 w h)) (fun _ h => h) tyX0 tyX0_ok nmX0 hown (cx_K C) hh.1 hh.2 hS j hj rfl 0 (by decide) (cx_nf (S := ((L, K, AN, R0), (Rc, Ic, AIc, AR), (Im, AIm), AL)) C nk_515) (fun _ h => h) rfl (tyX0_ok 0 (by decide)) hn hf (by show 0 < 5; decide) dg (fun H1 locs1 hP1 hD1 hS1 => kk p e s m args below meth c H1 locs1 ls C ⟨by rw [← he]; exact hP1, by rw [← he]; exact hD1⟩ hS1 hl)
theorem nk_516 : Cond.fieldLinkNest RX3 22 RX0 "right" "LSplaySequence$Node;" "SplaySequence" ∈ lw_tbl := List.mem_of_getElem? (i := 516) (by decide +kernel)
/-- getfield right of SplaySequence$Node -/
theorem gf_RX3_22 {o : Option Nat} {a : Nat} (dg : decode M.2.1 pc = .ok (.getfield 22, 3)) (hM : M.1.cls = RX3) (ho : o = some a) (hk : isK ((L, K, AN, R0), (Rc, Ic, AIc, AR), (Im, AIm), AL) 0 a) (kk : WP G M Q k n (pc + 3) lv (vr (Rc 1 a) :: st) ((L, K, AN, R0), (Rc, Ic, AIc, AR), (Im, AIm), AL)) : WP G M Q k n pc lv (vr o :: st) ((L, K, AN, R0), (Rc, Ic, AIc, AR), (Im, AIm), AL) := by
  subst ho
  intro p e s m args below meth c H locs ls C hh hS hl
  obtain ⟨j, hj⟩ := pool_at G.2.2.2.1 hk.1
  rw [cl_0 _ hk.2] at hj
  have hown := C.2.2.2.2.2.1
  rw [hM] at hown
  exact va_getN (C := RX0) (T := TX0) (N := 5) (Ts := wsX00) C.1 C.2.1 (fun w h => cx_ok C (gd_0 w h)) (fun _ h => h) hown (cx_K C) hh.1 j hj rfl 1 (by decide) (cx_nf (S := ((L, K, AN, R0), (Rc, Ic, AIc, AR), (Im, AIm), AL)) C nk_516) (fun _ h => h) rfl dg (kk p e s m args below meth c H locs ls C hh hS hl)
/-- putfield right of SplaySequence$Node -/
theorem pf_RX3_22 {o : Option Nat} {a : Nat} {v : Option Nat} (dg : decode M.2.1 pc = .ok (.putfield 22, 3)) (hM : M.1.cls = RX3) (ho : o = some a) (hk : isK ((L, K, AN, R0), (Rc, Ic, AIc, AR), (Im, AIm), AL) 0 a) (kk : WP G M Q k n (pc + 3) lv st ((L, K, AN, R0), (u2 Rc 1 a v, Ic, AIc, AR), (Im, AIm), AL)) : WP G M Q k n pc lv (vr v :: vr o :: st) ((L, K, AN, R0), (Rc, Ic, AIc, AR), (Im, AIm), AL) := by
  subst ho
  intro p e s m args below meth c H locs ls C hh hS hl
  obtain ⟨j, hj⟩ := pool_at G.2.2.2.1 hk.1
  have hj2 := hj
  rw [cl_0 _ hk.2] at hj
  have hown := C.2.2.2.2.2.1
  rw [hM] at hown
  have he : (va_pl L (cE G.2.2.2.1 ((L, K, AN, R0), (Rc, Ic, AIc, AR), (Im, AIm), AL))).set j (a, .inr (0, [va_rf (Rc 0 a), va_rf (v), va_rf (Rc 2 a), .int (Ic 0 a), .int (Ic 1 a)])) = va_pl L (cE G.2.2.2.1 ((L, K, AN, R0), (u2 Rc 1 a v, Ic, AIc, AR), (Im, AIm), AL)) := (va_pl_set (X := []) hh.2 hk.1 hj2).trans (va_pl_congr (cu_0_1 _ hk.2 v))
  have hn : narrow (tyX0 1) (va_rf v) = va_rf v := by cases v <;> rfl
  have hf : fits (tyX0 1) (va_rf v) = true := by cases v <;> rfl
  exact va_putN (C := RX0) (T := TX0) (N := 5) (Ts := wsX00) C.1 C.2.1 (fun w h => cx_ok C (gd_0 w h)) (fun _ h => h) tyX0 tyX0_ok nmX0 hown (cx_K C) hh.1 hh.2 hS j hj rfl 1 (by decide) (cx_nf (S := ((L, K, AN, R0), (Rc, Ic, AIc, AR), (Im, AIm), AL)) C nk_516) (fun _ h => h) rfl (tyX0_ok 1 (by decide)) hn hf (by show 1 < 5; decide) dg (fun H1 locs1 hP1 hD1 hS1 => kk p e s m args below meth c H1 locs1 ls C ⟨by rw [← he]; exact hP1, by rw [← he]; exact hD1⟩ hS1 hl)
theorem nk_518 : Cond.fieldLinkNest RX2 43 RX0 "right" "LSplaySequence$Node;" "SplaySequence" ∈ lw_tbl := List.mem_of_getElem? (i := 518) (by decide +kernel)
/-- getfield right of SplaySequence$Node -/
theorem gf_RX2_43 {o : Option Nat} {a : Nat} (dg : decode M.2.1 pc = .ok (.getfield 43, 3)) (hM : M.1.cls = RX2) (ho : o = some a) (hk : isK ((L, K, AN, R0), (Rc, Ic, AIc, AR), (Im, AIm), AL) 0 a) (kk : WP G M Q k n (pc + 3) lv (vr (Rc 1 a) :: st) ((L, K, AN, R0), (Rc, Ic, AIc, AR), (Im, AIm), AL)) : WP G M Q k n pc lv (vr o :: st) ((L, K, AN, R0), (Rc, Ic, AIc, AR), (Im, AIm), AL) := by
  subst ho
  intro p e s m args below meth c H locs ls C hh hS hl
  obtain ⟨j, hj⟩ := pool_at G.2.2.2.1 hk.1
  rw [cl_0 _ hk.2] at hj
  have hown := C.2.2.2.2.2.1
  rw [hM] at hown
  exact va_getN (C := RX0) (T := TX0) (N := 5) (Ts := wsX00) C.1 C.2.1 (fun w h => cx_ok C (gd_0 w h)) (fun _ h => h) hown (cx_K C) hh.1 j hj rfl 1 (by decide) (cx_nf (S := ((L, K, AN, R0), (Rc, Ic, AIc, AR), (Im, AIm), AL)) C nk_518) (fun _ h => h) rfl dg (kk p e s m args below meth c H locs ls C hh hS hl)
/-- putfield right of SplaySequence$Node -/
theorem pf_RX2_43 {o : Option Nat} {a : Nat} {v : Option Nat} (dg : decode M.2.1 pc = .ok (.putfield 43, 3)) (hM : M.1.cls = RX2) (ho : o = some a) (hk : isK ((L, K, AN, R0), (Rc, Ic, AIc, AR), (Im, AIm), AL) 0 a) (kk : WP G M Q k n (pc + 3) lv st ((L, K, AN, R0), (u2 Rc 1 a v, Ic, AIc, AR), (Im, AIm), AL)) : WP G M Q k n pc lv (vr v :: vr o :: st) ((L, K, AN, R0), (Rc, Ic, AIc, AR), (Im, AIm), AL) := by
  subst ho
  intro p e s m args below meth c H locs ls C hh hS hl
  obtain ⟨j, hj⟩ := pool_at G.2.2.2.1 hk.1
  have hj2 := hj
  rw [cl_0 _ hk.2] at hj
  have hown := C.2.2.2.2.2.1
  rw [hM] at hown
  have he : (va_pl L (cE G.2.2.2.1 ((L, K, AN, R0), (Rc, Ic, AIc, AR), (Im, AIm), AL))).set j (a, .inr (0, [va_rf (Rc 0 a), va_rf (v), va_rf (Rc 2 a), .int (Ic 0 a), .int (Ic 1 a)])) = va_pl L (cE G.2.2.2.1 ((L, K, AN, R0), (u2 Rc 1 a v, Ic, AIc, AR), (Im, AIm), AL)) := (va_pl_set (X := []) hh.2 hk.1 hj2).trans (va_pl_congr (cu_0_1 _ hk.2 v))
  have hn : narrow (tyX0 1) (va_rf v) = va_rf v := by cases v <;> rfl
  have hf : fits (tyX0 1) (va_rf v) = true := by cases v <;> rfl
  exact va_putN (C := RX0) (T := TX0) (N := 5) (Ts := wsX00) C.1 C.2.1 (fun w h => cx_ok C (gd_0 w h)) (fun _ h => h) tyX0 tyX0_ok nmX0 hown (cx_K C) hh.1 hh.2 hS j hj rfl 1 (by decide) (cx_nf (S := ((L, K, AN, R0), (Rc, Ic, AIc, AR), (Im, AIm), AL)) C nk_518) (fun _ h => h) rfl (tyX0_ok 1 (by decide)) hn hf (by show 1 < 5; decide) dg (fun H1 locs1 hP1 hD1 hS1 => kk p e s m args below meth c H1 locs1 ls C ⟨by rw [← he]; exact hP1, by rw [← he]; exact hD1⟩ hS1 hl)
theorem nk_519 : Cond.fieldLinkNest RX4 207 RX0 "right" "LSplaySequence$Node;" "SplaySequence" ∈ lw_tbl := List.mem_of_getElem? (i := 519) (by decide +kernel)
/-- getfield right of SplaySequence$Node -/
theorem gf_RX4_207 {o : Option Nat} {a : Nat} (dg : decode M.2.1 pc = .ok (.getfield 207, 3)) (hM : M.1.cls = RX4) (ho : o = some a) (hk : isK ((L, K, AN, R0), (Rc, Ic, AIc, AR), (Im, AIm), AL) 0 a) (kk : WP G M Q k n (pc + 3) lv (vr (Rc 1 a) :: st) ((L, K, AN, R0), (Rc, Ic, AIc, AR), (Im, AIm), AL)) : WP G M Q k n pc lv (vr o :: st) ((L, K, AN, R0), (Rc, Ic, AIc, AR), (Im, AIm), AL) := by
  subst ho
  intro p e s m args below meth c H locs ls C hh hS hl
  obtain ⟨j, hj⟩ := pool_at G.2.2.2.1 hk.1
  rw [cl_0 _ hk.2] at hj
  have hown := C.2.2.2.2.2.1
  rw [hM] at hown
  exact va_getN (C := RX0) (T := TX0) (N := 5) (Ts := wsX00) C.1 C.2.1 (fun w h => cx_ok C (gd_0 w h)) (fun _ h => h) hown (cx_K C) hh.1 j hj rfl 1 (by decide) (cx_nf (S := ((L, K, AN, R0), (Rc, Ic, AIc, AR), (Im, AIm), AL)) C nk_519) (fun _ h => h) rfl dg (kk p e s m args below meth c H locs ls C hh hS hl)
/-- putfield right of SplaySequence$Node -/
theorem pf_RX4_207 {o : Option Nat} {a : Nat} {v : Option Nat} (dg : decode M.2.1 pc = .ok (.putfield 207, 3)) (hM : M.1.cls = RX4) (ho : o = some a) (hk : isK ((L, K, AN, R0), (Rc, Ic, AIc, AR), (Im, AIm), AL) 0 a) (kk : WP G M Q k n (pc + 3) lv st ((L, K, AN, R0), (u2 Rc 1 a v, Ic, AIc, AR), (Im, AIm), AL)) : WP G M Q k n pc lv (vr v :: vr o :: st) ((L, K, AN, R0), (Rc, Ic, AIc, AR), (Im, AIm), AL) := by
  subst ho
  intro p e s m args below meth c H locs ls C hh hS hl
  obtain ⟨j, hj⟩ := pool_at G.2.2.2.1 hk.1
  have hj2 := hj
  rw [cl_0 _ hk.2] at hj
  have hown := C.2.2.2.2.2.1
  rw [hM] at hown
  have he : (va_pl L (cE G.2.2.2.1 ((L, K, AN, R0), (Rc, Ic, AIc, AR), (Im, AIm), AL))).set j (a, .inr (0, [va_rf (Rc 0 a), va_rf (v), va_rf (Rc 2 a), .int (Ic 0 a), .int (Ic 1 a)])) = va_pl L (cE G.2.2.2.1 ((L, K, AN, R0), (u2 Rc 1 a v, Ic, AIc, AR), (Im, AIm), AL)) := (va_pl_set (X := []) hh.2 hk.1 hj2).trans (va_pl_congr (cu_0_1 _ hk.2 v))
  have hn : narrow (tyX0 1) (va_rf v) = va_rf v := by cases v <;> rfl
  have hf : fits (tyX0 1) (va_rf v) = true := by cases v <;> rfl
  exact va_putN (C := RX0) (T := TX0) (N := 5) (Ts := wsX00) C.1 C.2.1 (fun w h => cx_ok C (gd_0 w h)) (fun _ h => h) tyX0 tyX0_ok nmX0 hown (cx_K C) hh.1 hh.2 hS j hj rfl 1 (by decide) (cx_nf (S := ((L, K, AN, R0), (Rc, Ic, AIc, AR), (Im, AIm), AL)) C nk_519) (fun _ h => h) rfl (tyX0_ok 1 (by decide)) hn hf (by show 1 < 5; decide) dg (fun H1 locs1 hP1 hD1 hS1 => kk p e s m args below meth c H1 locs1 ls C ⟨by rw [← he]; exact hP1, by rw [← he]; exact hD1⟩ hS1 hl)
theorem nk_521 : Cond.fieldLinkNest RX2 21 RX0 "parent" "LSplaySequence$Node;" "SplaySequence" ∈ lw_tbl := List.mem_of_getElem? (i := 521) (by decide +kernel)
/-- getfield parent of SplaySequence$Node -/
theorem gf_RX2_21 {o : Option Nat} {a : Nat} (dg : decode M.2.1 pc = .ok (.getfield 21, 3)) (hM : M.1.cls = RX2) (ho : o = some a) (hk : isK ((L, K, AN, R0), (Rc, Ic, AIc, AR), (Im, AIm), AL) 0 a) (kk : WP G M Q k n (pc + 3) lv (vr (Rc 2 a) :: st) ((L, K, AN, R0), (Rc, Ic, AIc, AR), (Im, AIm), AL)) : WP G M Q k n pc lv (vr o :: st) ((L, K, AN, R0), (Rc, Ic, AIc, AR), (Im, AIm), AL) := by
  subst ho
  intro p e s m args below meth c H locs ls C hh hS hl
  obtain ⟨j, hj⟩ := pool_at G.2.2.2.1 hk.1
  rw [cl_0 _ hk.2] at hj
  have hown := C.2.2.2.2.2.1
  rw [hM] at hown
  exact va_getN (C := RX0) (T := TX0) (N := 5) (Ts := wsX00) C.1 C.2.1 (fun w h => cx_ok C (gd_0 w h)) (fun _ h => h) hown (cx_K C) hh.1 j hj rfl 2 (by decide) (cx_nf (S := ((L, K, AN, R0), (Rc, Ic, AIc, AR), (Im, AIm), AL)) C nk_521) (fun _ h => h) rfl dg (kk p e s m args below meth c H locs ls C hh hS hl)
/-- putfield parent of SplaySequence$Node -/
theorem pf_RX2_21 {o : Option Nat} {a : Nat} {v : Option Nat} (dg : decode M.2.1 pc = .ok (.putfield 21, 3)) (hM : M.1.cls = RX2) (ho : o = some a) (hk : isK ((L, K, AN, R0), (Rc, Ic, AIc, AR), (Im, AIm), AL) 0 a) (kk : WP G M Q k n (pc + 3) lv st ((L, K, AN, R0), (u2 Rc 2 a v, Ic, AIc, AR), (Im, AIm), AL)) : WP G M Q k n pc lv (vr v :: vr o :: st) ((L, K, AN, R0), (Rc, Ic, AIc, AR), (Im, AIm), AL) := by
  subst ho
  intro p e s m args below meth c H locs ls C hh hS hl
  obtain ⟨j, hj⟩ := pool_at G.2.2.2.1 hk.1
  have hj2 := hj
  rw [cl_0 _ hk.2] at hj
  have hown := C.2.2.2.2.2.1
  rw [hM] at hown
  have he : (va_pl L (cE G.2.2.2.1 ((L, K, AN, R0), (Rc, Ic, AIc, AR), (Im, AIm), AL))).set j (a, .inr (0, [va_rf (Rc 0 a), va_rf (Rc 1 a), va_rf (v), .int (Ic 0 a), .int (Ic 1 a)])) = va_pl L (cE G.2.2.2.1 ((L, K, AN, R0), (u2 Rc 2 a v, Ic, AIc, AR), (Im, AIm), AL)) := (va_pl_set (X := []) hh.2 hk.1 hj2).trans (va_pl_congr (cu_0_2 _ hk.2 v))
  have hn : narrow (tyX0 2) (va_rf v) = va_rf v := by cases v <;> rfl
  have hf : fits (tyX0 2) (va_rf v) = true := by cases v <;> rfl
  exact va_putN (C := RX0) (T := TX0) (N := 5) (Ts := wsX00) C.1 C.2.1 (fun w h => cx_ok C (gd_0 w h)) (fun _ h => h) tyX0 tyX0_ok nmX0 hown (cx_K C) hh.1 hh.2 hS j hj rfl 2 (by decide) (cx_nf (S := ((L, K, AN, R0), (Rc, Ic, AIc, AR), (Im, AIm), AL)) C nk_521) (fun _ h => h) rfl (tyX0_ok 2 (by decide)) hn hf (by show 2 < 5; decide) dg (fun H1 locs1 hP1 hD1 hS1 => kk p e s m args below meth c H1 locs1 ls C ⟨by rw [← he]; exact hP1, by rw [← he]; exact hD1⟩ hS1 hl)
theorem nk_523 : Cond.fieldLinkNest RX3 49 RX0 "count" "I" "SplaySequence" ∈ lw_tbl := List.mem_of_getElem? (i := 523) (by decide +kernel)
/-- getfield count of SplaySequence$Node -/
theorem gf_RX3_49 {o : Option Nat} {a : Nat} (dg : decode M.2.1 pc = .ok (.getfield 49, 3)) (hM : M.1.cls = RX3) (ho : o = some a) (hk : isK ((L, K, AN, R0), (Rc, Ic, AIc, AR), (Im, AIm), AL) 0 a) (kk : WP G M Q k n (pc + 3) lv (vi (Ic 0 a) :: st) ((L, K, AN, R0), (Rc, Ic, AIc, AR), (Im, AIm), AL)) : WP G M Q k n pc lv (vr o :: st) ((L, K, AN, R0), (Rc, Ic, AIc, AR), (Im, AIm), AL) := by
  subst ho
  intro p e s m args below meth c H locs ls C hh hS hl
  obtain ⟨j, hj⟩ := pool_at G.2.2.2.1 hk.1
  rw [cl_0 _ hk.2] at hj
  have hown := C.2.2.2.2.2.1
  rw [hM] at hown
  exact va_getN (C := RX0) (T := TX0) (N := 5) (Ts := wsX00) C.1 C.2.1 (fun w h => cx_ok C (gd_0 w h)) (fun _ h => h) hown (cx_K C) hh.1 j hj rfl 3 (by decide) (cx_nf (S := ((L, K, AN, R0), (Rc, Ic, AIc, AR), (Im, AIm), AL)) C nk_523) (fun _ h => h) rfl dg (kk p e s m args below meth c H locs ls C hh hS hl)
/-- putfield count of SplaySequence$Node -/
theorem pf_RX3_49 {o : Option Nat} {a : Nat} {v : Int32} (dg : decode M.2.1 pc = .ok (.putfield 49, 3)) (hM : M.1.cls = RX3) (ho : o = some a) (hk : isK ((L, K, AN, R0), (Rc, Ic, AIc, AR), (Im, AIm), AL) 0 a) (kk : WP G M Q k n (pc + 3) lv st ((L, K, AN, R0), (Rc, u2 Ic 0 a v, AIc, AR), (Im, AIm), AL)) : WP G M Q k n pc lv (vi v :: vr o :: st) ((L, K, AN, R0), (Rc, Ic, AIc, AR), (Im, AIm), AL) := by
  subst ho
  intro p e s m args below meth c H locs ls C hh hS hl
  obtain ⟨j, hj⟩ := pool_at G.2.2.2.1 hk.1
  have hj2 := hj
  rw [cl_0 _ hk.2] at hj
  have hown := C.2.2.2.2.2.1
  rw [hM] at hown
  have he : (va_pl L (cE G.2.2.2.1 ((L, K, AN, R0), (Rc, Ic, AIc, AR), (Im, AIm), AL))).set j (a, .inr (0, [va_rf (Rc 0 a), va_rf (Rc 1 a), va_rf (Rc 2 a), .int (v), .int (Ic 1 a)])) = va_pl L (cE G.2.2.2.1 ((L, K, AN, R0), (Rc, u2 Ic 0 a v, AIc, AR), (Im, AIm), AL)) := (va_pl_set (X := []) hh.2 hk.1 hj2).trans (va_pl_congr (cu_0_3 _ hk.2 v))
  have hn : narrow (tyX0 3) (.int v) = .int v := rfl
  have hf : fits (tyX0 3) (.int v) = true := rfl
  exact va_putN (C := RX0) (T := TX0) (N := 5) (Ts := wsX00) C.1 C.2.1 (fun w h => cx_ok C (gd_0 w h)) (fun _ h => h) tyX0 tyX0_ok nmX0 hown (cx_K C) hh.1 hh.2 hS j hj rfl 3 (by decide) (cx_nf (S := ((L, K, AN, R0), (Rc, Ic, AIc, AR), (Im, AIm), AL)) C nk_523) (fun _ h => h) rfl (tyX0_ok 3 (by decide)) hn hf (by show 3 < 5; decide) dg (fun H1 locs1 hP1 hD1 hS1 => kk p e s m args below meth c H1 locs1 ls C ⟨by rw [← he]; exact hP1, by rw [← he]; exact hD1⟩ hS1 hl)
theorem nk_524 : Cond.fieldLinkNest RX4 205 RX0 "count" "I" "SplaySequence" ∈ lw_tbl := List.mem_of_getElem? (i := 524) (by decide +kernel)
/-- getfield count of SplaySequence$Node -/
theorem gf_RX4_205 {o : Option Nat} {a : Nat} (dg : decode M.2.1 pc = .ok (.getfield 205, 3)) (hM : M.1.cls = RX4) (ho : o = some a) (hk : isK ((L, K, AN, R0), (Rc, Ic, AIc, AR), (Im, AIm), AL) 0 a) (kk : WP G M Q k n (pc + 3) lv (vi (Ic 0 a) :: st) ((L, K, AN, R0), (Rc, Ic, AIc, AR), (Im, AIm), AL)) : WP G M Q k n pc lv (vr o :: st) ((L, K, AN, R0), (Rc, Ic, AIc, AR), (Im, AIm), AL) := by
  subst ho
  intro p e s m args below meth c H locs ls C hh hS hl
  obtain ⟨j, hj⟩ := pool_at G.2.2.2.1 hk.1
  rw [cl_0 _ hk.2] at hj
  have hown := C.2.2.2.2.2.1
  rw [hM] at hown
  exact va_getN (C := RX0) (T := TX0) (N := 5) (Ts := wsX00) C.1 C.2.1 (fun w h => cx_ok C (gd_0 w h)) (fun _ h => h) hown (cx_K C) hh.1 j hj rfl 3 (by decide) (cx_nf (S := ((L, K, AN, R0), (Rc, Ic, AIc, AR), (Im, AIm), AL)) C nk_524) (fun _ h => h) rfl dg (kk p e s m args below meth c H locs ls C hh hS hl)
/-- putfield count of SplaySequence$Node -/
theorem pf_RX4_205 {o : Option Nat} {a : Nat} {v : Int32} (dg : decode M.2.1 pc = .ok (.putfield 205, 3)) (hM : M.1.cls = RX4) (ho : o = some a) (hk : isK ((L, K, AN, R0), (Rc, Ic, AIc, AR), (Im, AIm), AL) 0 a) (kk : WP G M Q k n (pc + 3) lv st ((L, K, AN, R0), (Rc, u2 Ic 0 a v, AIc, AR), (Im, AIm), AL)) : WP G M Q k n pc lv (vi v :: vr o :: st) ((L, K, AN, R0), (Rc, Ic, AIc, AR), (Im, AIm), AL) := by
  subst ho
  intro p e s m args below meth c H locs ls C hh hS hl
  obtain ⟨j, hj⟩ := pool_at G.2.2.2.1 hk.1
  have hj2 := hj
  rw [cl_0 _ hk.2] at hj
  have hown := C.2.2.2.2.2.1
  rw [hM] at hown
  have he : (va_pl L (cE G.2.2.2.1 ((L, K, AN, R0), (Rc, Ic, AIc, AR), (Im, AIm), AL))).set j (a, .inr (0, [va_rf (Rc 0 a), va_rf (Rc 1 a), va_rf (Rc 2 a), .int (v), .int (Ic 1 a)])) = va_pl L (cE G.2.2.2.1 ((L, K, AN, R0), (Rc, u2 Ic 0 a v, AIc, AR), (Im, AIm), AL)) := (va_pl_set (X := []) hh.2 hk.1 hj2).trans (va_pl_congr (cu_0_3 _ hk.2 v))
  have hn : narrow (tyX0 3) (.int v) = .int v := rfl
  have hf : fits (tyX0 3) (.int v) = true := rfl
  exact va_putN (C := RX0) (T := TX0) (N := 5) (Ts := wsX00) C.1 C.2.1 (fun w h => cx_ok C (gd_0 w h)) (fun _ h => h) tyX0 tyX0_ok nmX0 hown (cx_K C) hh.1 hh.2 hS j hj rfl 3 (by decide) (cx_nf (S := ((L, K, AN, R0), (Rc, Ic, AIc, AR), (Im, AIm), AL)) C nk_524) (fun _ h => h) rfl (tyX0_ok 3 (by decide)) hn hf (by show 3 < 5; decide) dg (fun H1 locs1 hP1 hD1 hS1 => kk p e s m args below meth c H1 locs1 ls C ⟨by rw [← he]; exact hP1, by rw [← he]; exact hD1⟩ hS1 hl)
theorem nk_526 : Cond.fieldLinkNest RX4 118 RX0 "value" "I" "SplaySequence" ∈ lw_tbl := List.mem_of_getElem? (i := 526) (by decide +kernel)
/-- getfield value of SplaySequence$Node -/
theorem gf_RX4_118 {o : Option Nat} {a : Nat} (dg : decode M.2.1 pc = .ok (.getfield 118, 3)) (hM : M.1.cls = RX4) (ho : o = some a) (hk : isK ((L, K, AN, R0), (Rc, Ic, AIc, AR), (Im, AIm), AL) 0 a) (kk : WP G M Q k n (pc + 3) lv (vi (Ic 1 a) :: st) ((L, K, AN, R0), (Rc, Ic, AIc, AR), (Im, AIm), AL)) : WP G M Q k n pc lv (vr o :: st) ((L, K, AN, R0), (Rc, Ic, AIc, AR), (Im, AIm), AL) := by
  subst ho
  intro p e s m args below meth c H locs ls C hh hS hl
  obtain ⟨j, hj⟩ := pool_at G.2.2.2.1 hk.1
  rw [cl_0 _ hk.2] at hj
  have hown := C.2.2.2.2.2.1
  rw [hM] at hown
  exact va_getN (C := RX0) (T := TX0) (N := 5) (Ts := wsX00) C.1 C.2.1 (fun w h => cx_ok C (gd_0 w h)) (fun _ h => h) hown (cx_K C) hh.1 j hj rfl 4 (by decide) (cx_nf (S := ((L, K, AN, R0), (Rc, Ic, AIc, AR), (Im, AIm), AL)) C nk_526) (fun _ h => h) rfl dg (kk p e s m args below meth c H locs ls C hh hS hl)
/-- putfield value of SplaySequence$Node -/
theorem pf_RX4_118 {o : Option Nat} {a : Nat} {v : Int32} (dg : decode M.2.1 pc = .ok (.putfield 118, 3)) (hM : M.1.cls = RX4) (ho : o = some a) (hk : isK ((L, K, AN, R0), (Rc, Ic, AIc, AR), (Im, AIm), AL) 0 a) (kk : WP G M Q k n (pc + 3) lv st ((L, K, AN, R0), (Rc, u2 Ic 1 a v, AIc, AR), (Im, AIm), AL)) : WP G M Q k n pc lv (vi v :: vr o :: st) ((L, K, AN, R0), (Rc, Ic, AIc, AR), (Im, AIm), AL) := by
  subst ho
  intro p e s m args below meth c H locs ls C hh hS hl
  obtain ⟨j, hj⟩ := pool_at G.2.2.2.1 hk.1
  have hj2 := hj
  rw [cl_0 _ hk.2] at hj
  have hown := C.2.2.2.2.2.1
  rw [hM] at hown
  have he : (va_pl L (cE G.2.2.2.1 ((L, K, AN, R0), (Rc, Ic, AIc, AR), (Im, AIm), AL))).set j (a, .inr (0, [va_rf (Rc 0 a), va_rf (Rc 1 a), va_rf (Rc 2 a), .int (Ic 0 a), .int (v)])) = va_pl L (cE G.2.2.2.1 ((L, K, AN, R0), (Rc, u2 Ic 1 a v, AIc, AR), (Im, AIm), AL)) := (va_pl_set (X := []) hh.2 hk.1 hj2).trans (va_pl_congr (cu_0_4 _ hk.2 v))
  have hn : narrow (tyX0 4) (.int v) = .int v := rfl
  have hf : fits (tyX0 4) (.int v) = true := rfl
  exact va_putN (C := RX0) (T := TX0) (N := 5) (Ts := wsX00) C.1 C.2.1 (fun w h => cx_ok C (gd_0 w h)) (fun _ h => h) tyX0 tyX0_ok nmX0 hown (cx_K C) hh.1 hh.2 hS j hj rfl 4 (by decide) (cx_nf (S := ((L, K, AN, R0), (Rc, Ic, AIc, AR), (Im, AIm), AL)) C nk_526) (fun _ h => h) rfl (tyX0_ok 4 (by decide)) hn hf (by show 4 < 5; decide) dg (fun H1 locs1 hP1 hD1 hS1 => kk p e s m args below meth c H1 locs1 ls C ⟨by rw [← he]; exact hP1, by rw [← he]; exact hD1⟩ hS1 hl)
theorem nk_527 : Cond.fieldLinkNest RX3 39 RX0 "value" "I" "SplaySequence" ∈ lw_tbl := List.mem_of_getElem? (i := 527) (by decide +kernel)
/-- getfield value of SplaySequence$Node -/
theorem gf_RX3_39 {o : Option Nat} {a : Nat} (dg : decode M.2.1 pc = .ok (.getfield 39, 3)) (hM : M.1.cls = RX3) (ho : o = some a) (hk : isK ((L, K, AN, R0), (Rc, Ic, AIc, AR), (Im, AIm), AL) 0 a) (kk : WP G M Q k n (pc + 3) lv (vi (Ic 1 a) :: st) ((L, K, AN, R0), (Rc, Ic, AIc, AR), (Im, AIm), AL)) : WP G M Q k n pc lv (vr o :: st) ((L, K, AN, R0), (Rc, Ic, AIc, AR), (Im, AIm), AL) := by
  subst ho
  intro p e s m args below meth c H locs ls C hh hS hl
  obtain ⟨j, hj⟩ := pool_at G.2.2.2.1 hk.1
  rw [cl_0 _ hk.2] at hj
  have hown := C.2.2.2.2.2.1
  rw [hM] at hown
  exact va_getN (C := RX0) (T := TX0) (N := 5) (Ts := wsX00) C.1 C.2.1 (fun w h => cx_ok C (gd_0 w h)) (fun _ h => h) hown (cx_K C) hh.1 j hj rfl 4 (by decide) (cx_nf (S := ((L, K, AN, R0), (Rc, Ic, AIc, AR), (Im, AIm), AL)) C nk_527) (fun _ h => h) rfl dg (kk p e s m args below meth c H locs ls C hh hS hl)
/-- putfield value of SplaySequence$Node -/
theorem pf_RX3_39 {o : Option Nat} {a : Nat} {v : Int32} (dg : decode M.2.1 pc = .ok (.putfield 39, 3)) (hM : M.1.cls = RX3) (ho : o = some a) (hk : isK ((L, K, AN, R0), (Rc, Ic, AIc, AR), (Im, AIm), AL) 0 a) (kk : WP G M Q k n (pc + 3) lv st ((L, K, AN, R0), (Rc, u2 Ic 1 a v, AIc, AR), (Im, AIm), AL)) : WP G M Q k n pc lv (vi v :: vr o :: st) ((L, K, AN, R0), (Rc, Ic, AIc, AR), (Im, AIm), AL) := by
  subst ho
  intro p e s m args below meth c H locs ls C hh hS hl
  obtain ⟨j, hj⟩ := pool_at G.2.2.2.1 hk.1
  have hj2 := hj
  rw [cl_0 _ hk.2] at hj
  have hown := C.2.2.2.2.2.1
  rw [hM] at hown
  have he : (va_pl L (cE G.2.2.2.1 ((L, K, AN, R0), (Rc, Ic, AIc, AR), (Im, AIm), AL))).set j (a, .inr (0, [va_rf (Rc 0 a), va_rf (Rc 1 a), va_rf (Rc 2 a), .int (Ic 0 a), .int (v)])) = va_pl L (cE G.2.2.2.1 ((L, K, AN, R0), (Rc, u2 Ic 1 a v, AIc, AR), (Im, AIm), AL)) := (va_pl_set (X := []) hh.2 hk.1 hj2).trans (va_pl_congr (cu_0_4 _ hk.2 v))
  have hn : narrow (tyX0 4) (.int v) = .int v := rfl
  have hf : fits (tyX0 4) (.int v) = true := rfl
  exact va_putN (C := RX0) (T := TX0) (N := 5) (Ts := wsX00) C.1 C.2.1 (fun w h => cx_ok C (gd_0 w h)) (fun _ h => h) tyX0 tyX0_ok nmX0 hown (cx_K C) hh.1 hh.2 hS j hj rfl 4 (by decide) (cx_nf (S := ((L, K, AN, R0), (Rc, Ic, AIc, AR), (Im, AIm), AL)) C nk_527) (fun _ h => h) rfl (tyX0_ok 4 (by decide)) hn hf (by show 4 < 5; decide) dg (fun H1 locs1 hP1 hD1 hS1 => kk p e s m args below meth c H1 locs1 ls C ⟨by rw [← he]; exact hP1, by rw [← he]; exact hD1⟩ hS1 hl)
end FLD
