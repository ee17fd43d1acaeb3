/-! ===== getfield, putfield ===== -/
section FLD
variable {G : GC} {M : MD} {Q : RS → SS → Prop} {k n pc : Nat} {lv : List (Nat × VV)} {st : List VV} {L : List Nat} {K AN : Nat → Nat} {R0 Rc : Nat → Nat → Option Nat} {Ic AIc Im AIm : Nat → Nat → Int32} {AR : Nat → Nat → Option Nat} {AL : Nat → Nat → Int64}
theorem ok_389 : okw (.lays "SplaySequence$Node" "SplaySequence$Node" "left" "LSplaySequence$Node;") := ⟨List.mem_of_getElem? (i := 389) (by decide +kernel), by decide +kernel⟩
theorem ok_391 : okw (.lays "SplaySequence$Node" "SplaySequence$Node" "right" "LSplaySequence$Node;") := ⟨List.mem_of_getElem? (i := 391) (by decide +kernel), by decide +kernel⟩
theorem ok_393 : okw (.lays "SplaySequence$Node" "SplaySequence$Node" "parent" "LSplaySequence$Node;") := ⟨List.mem_of_getElem? (i := 393) (by decide +kernel), by decide +kernel⟩
theorem ok_395 : okw (.lays "SplaySequence$Node" "SplaySequence$Node" "count" "I") := ⟨List.mem_of_getElem? (i := 395) (by decide +kernel), by decide +kernel⟩
theorem ok_397 : okw (.lays "SplaySequence$Node" "SplaySequence$Node" "value" "I") := ⟨List.mem_of_getElem? (i := 397) (by decide +kernel), by decide +kernel⟩
theorem gd_0 : ∀ w ∈ wsX00, okw w := List.forall_mem_cons.mpr ⟨ok_389, List.forall_mem_cons.mpr ⟨ok_391, List.forall_mem_cons.mpr ⟨ok_393, List.forall_mem_cons.mpr ⟨ok_395, List.forall_mem_cons.mpr ⟨ok_397, fun _ h => absurd h List.not_mem_nil⟩⟩⟩⟩⟩
theorem ok_104 : okw (.laysFinal "SplaySequence$Row" "SplaySequence$Row" "values" "[I") := ⟨List.mem_of_getElem? (i := 104) (by decide +kernel), by decide +kernel⟩
theorem ok_106 : okw (.lays "SplaySequence$Row" "SplaySequence$Row" "length" "I") := ⟨List.mem_of_getElem? (i := 106) (by decide +kernel), by decide +kernel⟩
theorem gd_1 : ∀ w ∈ wsX10, okw w := List.forall_mem_cons.mpr ⟨ok_104, List.forall_mem_cons.mpr ⟨ok_106, fun _ h => absurd h List.not_mem_nil⟩⟩
theorem ok_85 : okw (.lays "SplaySequence$Splayer" "SplaySequence$Splayer" "callSteps" "I") := ⟨List.mem_of_getElem? (i := 85) (by decide +kernel), by decide +kernel⟩
theorem ok_87 : okw (.lays "SplaySequence$Splayer" "SplaySequence$Splayer" "callRotations" "I") := ⟨List.mem_of_getElem? (i := 87) (by decide +kernel), by decide +kernel⟩
theorem ok_89 : okw (.lays "SplaySequence$Splayer" "SplaySequence$Splayer" "allSteps" "I") := ⟨List.mem_of_getElem? (i := 89) (by decide +kernel), by decide +kernel⟩
theorem ok_91 : okw (.lays "SplaySequence$Splayer" "SplaySequence$Splayer" "allSplays" "I") := ⟨List.mem_of_getElem? (i := 91) (by decide +kernel), by decide +kernel⟩
theorem gd_2 : ∀ w ∈ wsX20, okw w := List.forall_mem_cons.mpr ⟨ok_85, List.forall_mem_cons.mpr ⟨ok_87, List.forall_mem_cons.mpr ⟨ok_89, List.forall_mem_cons.mpr ⟨ok_91, fun _ h => absurd h List.not_mem_nil⟩⟩⟩⟩
theorem ok_68 : okw (.lays "SplaySequence$Tree" "SplaySequence$Tree" "root" "LSplaySequence$Node;") := ⟨List.mem_of_getElem? (i := 68) (by decide +kernel), by decide +kernel⟩
theorem gd_3 : ∀ w ∈ wsX30, okw w := List.forall_mem_cons.mpr ⟨ok_68, fun _ h => absurd h List.not_mem_nil⟩
theorem ok_118 : okw (.laysFinal "SplaySequence" "SplaySequence" "sequence" "LSplaySequence$Tree;") := ⟨List.mem_of_getElem? (i := 118) (by decide +kernel), by decide +kernel⟩
theorem ok_120 : okw (.laysFinal "SplaySequence" "SplaySequence" "clipboard" "LSplaySequence$Tree;") := ⟨List.mem_of_getElem? (i := 120) (by decide +kernel), by decide +kernel⟩
theorem ok_122 : okw (.laysFinal "SplaySequence" "SplaySequence" "range" "LSplaySequence$Tree;") := ⟨List.mem_of_getElem? (i := 122) (by decide +kernel), by decide +kernel⟩
theorem ok_124 : okw (.laysFinal "SplaySequence" "SplaySequence" "tail" "LSplaySequence$Tree;") := ⟨List.mem_of_getElem? (i := 124) (by decide +kernel), by decide +kernel⟩
theorem ok_126 : okw (.laysFinal "SplaySequence" "SplaySequence" "splayer" "LSplaySequence$Splayer;") := ⟨List.mem_of_getElem? (i := 126) (by decide +kernel), by decide +kernel⟩
theorem ok_128 : okw (.laysFinal "SplaySequence" "SplaySequence" "fingers" "[LSplaySequence$Node;") := ⟨List.mem_of_getElem? (i := 128) (by decide +kernel), by decide +kernel⟩
theorem ok_130 : okw (.laysFinal "SplaySequence" "SplaySequence" "row" "LSplaySequence$Row;") := ⟨List.mem_of_getElem? (i := 130) (by decide +kernel), by decide +kernel⟩
theorem ok_132 : okw (.laysFinal "SplaySequence" "SplaySequence" "clippedRow" "LSplaySequence$Row;") := ⟨List.mem_of_getElem? (i := 132) (by decide +kernel), by decide +kernel⟩
theorem gd_4 : ∀ w ∈ wsX40, okw w := List.forall_mem_cons.mpr ⟨ok_118, List.forall_mem_cons.mpr ⟨ok_120, List.forall_mem_cons.mpr ⟨ok_122, List.forall_mem_cons.mpr ⟨ok_124, List.forall_mem_cons.mpr ⟨ok_126, List.forall_mem_cons.mpr ⟨ok_128, List.forall_mem_cons.mpr ⟨ok_130, List.forall_mem_cons.mpr ⟨ok_132, fun _ h => absurd h List.not_mem_nil⟩⟩⟩⟩⟩⟩⟩⟩
theorem ok_676 : okw (.lays "SplaySequenceModel" "SplaySequenceModel" "thrown" "I") := ⟨List.mem_of_getElem? (i := 676) (by decide +kernel), by decide +kernel⟩
theorem ok_678 : okw (.lays "SplaySequenceModel" "SplaySequenceModel" "tree" "I") := ⟨List.mem_of_getElem? (i := 678) (by decide +kernel), by decide +kernel⟩
theorem ok_680 : okw (.lays "SplaySequenceModel" "SplaySequenceModel" "clip" "I") := ⟨List.mem_of_getElem? (i := 680) (by decide +kernel), by decide +kernel⟩
theorem ok_682 : okw (.laysFinal "SplaySequenceModel" "SplaySequenceModel" "values" "[I") := ⟨List.mem_of_getElem? (i := 682) (by decide +kernel), by decide +kernel⟩
theorem ok_684 : okw (.laysFinal "SplaySequenceModel" "SplaySequenceModel" "left" "[I") := ⟨List.mem_of_getElem? (i := 684) (by decide +kernel), by decide +kernel⟩
theorem ok_686 : okw (.laysFinal "SplaySequenceModel" "SplaySequenceModel" "right" "[I") := ⟨List.mem_of_getElem? (i := 686) (by decide +kernel), by decide +kernel⟩
theorem ok_688 : okw (.laysFinal "SplaySequenceModel" "SplaySequenceModel" "parent" "[I") := ⟨List.mem_of_getElem? (i := 688) (by decide +kernel), by decide +kernel⟩
theorem ok_690 : okw (.laysFinal "SplaySequenceModel" "SplaySequenceModel" "isThere" "[Z") := ⟨List.mem_of_getElem? (i := 690) (by decide +kernel), by decide +kernel⟩
theorem ok_692 : okw (.laysFinal "SplaySequenceModel" "SplaySequenceModel" "fingers" "[I") := ⟨List.mem_of_getElem? (i := 692) (by decide +kernel), by decide +kernel⟩
theorem ok_694 : okw (.laysFinal "SplaySequenceModel" "SplaySequenceModel" "order" "[I") := ⟨List.mem_of_getElem? (i := 694) (by decide +kernel), by decide +kernel⟩
theorem ok_696 : okw (.lays "SplaySequenceModel" "SplaySequenceModel" "many" "I") := ⟨List.mem_of_getElem? (i := 696) (by decide +kernel), by decide +kernel⟩
theorem ok_698 : okw (.lays "SplaySequenceModel" "SplaySequenceModel" "first" "I") := ⟨List.mem_of_getElem? (i := 698) (by decide +kernel), by decide +kernel⟩
theorem ok_700 : okw (.lays "SplaySequenceModel" "SplaySequenceModel" "second" "I") := ⟨List.mem_of_getElem? (i := 700) (by decide +kernel), by decide +kernel⟩
theorem ok_702 : okw (.lays "SplaySequenceModel" "SplaySequenceModel" "latestSteps" "I") := ⟨List.mem_of_getElem? (i := 702) (by decide +kernel), by decide +kernel⟩
theorem ok_704 : okw (.lays "SplaySequenceModel" "SplaySequenceModel" "latestRotations" "I") := ⟨List.mem_of_getElem? (i := 704) (by decide +kernel), by decide +kernel⟩
theorem ok_706 : okw (.lays "SplaySequenceModel" "SplaySequenceModel" "allSteps" "I") := ⟨List.mem_of_getElem? (i := 706) (by decide +kernel), by decide +kernel⟩
theorem ok_708 : okw (.lays "SplaySequenceModel" "SplaySequenceModel" "allSplays" "I") := ⟨List.mem_of_getElem? (i := 708) (by decide +kernel), by decide +kernel⟩
theorem ok_710 : okw (.lays "SplaySequenceModel" "SplaySequenceModel" "ahead" "I") := ⟨List.mem_of_getElem? (i := 710) (by decide +kernel), by decide +kernel⟩
theorem ok_712 : okw (.lays "SplaySequenceModel" "SplaySequenceModel" "range" "I") := ⟨List.mem_of_getElem? (i := 712) (by decide +kernel), by decide +kernel⟩
theorem ok_714 : okw (.lays "SplaySequenceModel" "SplaySequenceModel" "behind" "I") := ⟨List.mem_of_getElem? (i := 714) (by decide +kernel), by decide +kernel⟩
theorem gd_5 : ∀ w ∈ wsX50, okw w := List.forall_mem_cons.mpr ⟨ok_676, List.forall_mem_cons.mpr ⟨ok_678, List.forall_mem_cons.mpr ⟨ok_680, List.forall_mem_cons.mpr ⟨ok_682, List.forall_mem_cons.mpr ⟨ok_684, List.forall_mem_cons.mpr ⟨ok_686, List.forall_mem_cons.mpr ⟨ok_688, List.forall_mem_cons.mpr ⟨ok_690, List.forall_mem_cons.mpr ⟨ok_692, List.forall_mem_cons.mpr ⟨ok_694, List.forall_mem_cons.mpr ⟨ok_696, List.forall_mem_cons.mpr ⟨ok_698, List.forall_mem_cons.mpr ⟨ok_700, List.forall_mem_cons.mpr ⟨ok_702, List.forall_mem_cons.mpr ⟨ok_704, List.forall_mem_cons.mpr ⟨ok_706, List.forall_mem_cons.mpr ⟨ok_708, List.forall_mem_cons.mpr ⟨ok_710, List.forall_mem_cons.mpr ⟨ok_712, List.forall_mem_cons.mpr ⟨ok_714, fun _ h => absurd h List.not_mem_nil⟩⟩⟩⟩⟩⟩⟩⟩⟩⟩⟩⟩⟩⟩⟩⟩⟩⟩⟩⟩
theorem cx_nf {S : SS} {p : Program} {s : State} {m : MethodId} {meth : Method} {c : Code} {args : Array Value} (C : Cx G p M s m meth c) {a : String} {i : Nat} {b d h e : String} (hw : Cond.fieldLinkNest a i b d h e ∈ lw_tbl) : (Cond.fieldLinkNest a i b d h e).before args s = true := va_Nw.use rfl (va_Nw.warmF C.2.2.2.2.2.2.2.2.2.1 (va_Nw.of rfl (C.2.2.2.2.2.2.2.2.1.2.1 _ hw)))
theorem cx_K {p : Program} {s : State} {m : MethodId} {meth : Method} {c : Code} (C : Cx G p M s m meth c) : va_K G.2.2.1 vwCl (tysOf G.2.2.2.1) s := va_K.moved C.2.2.2.2.2.2.2.2.2.1.alike C.2.2.2.2.2.2.2.2.1.2.2.1
theorem cl_0 (cy : CY) {a : Nat} (h : K a = 0) : cE cy ((L, K, AN, R0), (Rc, Ic, AIc, AR), (Im, AIm), AL) a = .inr (0, [va_rf (Rc 0 a), va_rf (Rc 1 a), va_rf (Rc 2 a), .int (Ic 0 a), .int (Ic 1 a)]) := by simp [cE, h]
theorem cu_0_0 (cy : CY) {a : Nat} (h : K a = 0) (v : Option Nat) (x : Nat) : va_up (cE cy ((L, K, AN, R0), (Rc, Ic, AIc, AR), (Im, AIm), AL)) a (.inr (0, [va_rf (v), va_rf (Rc 1 a), va_rf (Rc 2 a), .int (Ic 0 a), .int (Ic 1 a)])) x = cE cy ((L, K, AN, R0), (u2 Rc 0 a v, Ic, AIc, AR), (Im, AIm), AL) x := by
  by_cases hb : x = a
  · subst hb
    simp [va_up, cE, u2, h]
  · simp [va_up, cE, u2, hb]
theorem cu_0_1 (cy : CY) {a : Nat} (h : K a = 0) (v : Option Nat) (x : Nat) : va_up (cE cy ((L, K, AN, R0), (Rc, Ic, AIc, AR), (Im, AIm), AL)) a (.inr (0, [va_rf (Rc 0 a), va_rf (v), va_rf (Rc 2 a), .int (Ic 0 a), .int (Ic 1 a)])) x = cE cy ((L, K, AN, R0), (u2 Rc 1 a v, Ic, AIc, AR), (Im, AIm), AL) x := by
  by_cases hb : x = a
  · subst hb
    simp [va_up, cE, u2, h]
  · simp [va_up, cE, u2, hb]
theorem cu_0_2 (cy : CY) {a : Nat} (h : K a = 0) (v : Option Nat) (x : Nat) : va_up (cE cy ((L, K, AN, R0), (Rc, Ic, AIc, AR), (Im, AIm), AL)) a (.inr (0, [va_rf (Rc 0 a), va_rf (Rc 1 a), va_rf (v), .int (Ic 0 a), .int (Ic 1 a)])) x = cE cy ((L, K, AN, R0), (u2 Rc 2 a v, Ic, AIc, AR), (Im, AIm), AL) x := by
  by_cases hb : x = a
  · subst hb
    simp [va_up, cE, u2, h]
  · simp [va_up, cE, u2, hb]
theorem cu_0_3 (cy : CY) {a : Nat} (h : K a = 0) (v : Int32) (x : Nat) : va_up (cE cy ((L, K, AN, R0), (Rc, Ic, AIc, AR), (Im, AIm), AL)) a (.inr (0, [va_rf (Rc 0 a), va_rf (Rc 1 a), va_rf (Rc 2 a), .int (v), .int (Ic 1 a)])) x = cE cy ((L, K, AN, R0), (Rc, u2 Ic 0 a v, AIc, AR), (Im, AIm), AL) x := by
  by_cases hb : x = a
  · subst hb
    simp [va_up, cE, u2, h]
  · simp [va_up, cE, u2, hb]
theorem cu_0_4 (cy : CY) {a : Nat} (h : K a = 0) (v : Int32) (x : Nat) : va_up (cE cy ((L, K, AN, R0), (Rc, Ic, AIc, AR), (Im, AIm), AL)) a (.inr (0, [va_rf (Rc 0 a), va_rf (Rc 1 a), va_rf (Rc 2 a), .int (Ic 0 a), .int (v)])) x = cE cy ((L, K, AN, R0), (Rc, u2 Ic 1 a v, AIc, AR), (Im, AIm), AL) x := by
  by_cases hb : x = a
  · subst hb
    simp [va_up, cE, u2, h]
  · simp [va_up, cE, u2, hb]
theorem cl_1 (cy : CY) {a : Nat} (h : K a = 1) : cE cy ((L, K, AN, R0), (Rc, Ic, AIc, AR), (Im, AIm), AL) a = .inr (1, [va_rf (R0 0 a), .int (Ic 2 a)]) := by simp [cE, h]
theorem cu_1_0 (cy : CY) {a : Nat} (h : K a = 1) (v : Option Nat) (x : Nat) : va_up (cE cy ((L, K, AN, R0), (Rc, Ic, AIc, AR), (Im, AIm), AL)) a (.inr (1, [va_rf (v), .int (Ic 2 a)])) x = cE cy ((L, K, AN, u2 R0 0 a v), (Rc, Ic, AIc, AR), (Im, AIm), AL) x := by
  by_cases hb : x = a
  · subst hb
    simp [va_up, cE, u2, h]
  · simp [va_up, cE, u2, hb]
theorem cu_1_1 (cy : CY) {a : Nat} (h : K a = 1) (v : Int32) (x : Nat) : va_up (cE cy ((L, K, AN, R0), (Rc, Ic, AIc, AR), (Im, AIm), AL)) a (.inr (1, [va_rf (R0 0 a), .int (v)])) x = cE cy ((L, K, AN, R0), (Rc, u2 Ic 2 a v, AIc, AR), (Im, AIm), AL) x := by
  by_cases hb : x = a
  · subst hb
    simp [va_up, cE, u2, h]
  · simp [va_up, cE, u2, hb]
theorem cl_2 (cy : CY) {a : Nat} (h : K a = 2) : cE cy ((L, K, AN, R0), (Rc, Ic, AIc, AR), (Im, AIm), AL) a = .inr (2, [.int (Ic 3 a), .int (Ic 4 a), .int (Ic 5 a), .int (Ic 6 a)]) := by simp [cE, h]
theorem cu_2_0 (cy : CY) {a : Nat} (h : K a = 2) (v : Int32) (x : Nat) : va_up (cE cy ((L, K, AN, R0), (Rc, Ic, AIc, AR), (Im, AIm), AL)) a (.inr (2, [.int (v), .int (Ic 4 a), .int (Ic 5 a), .int (Ic 6 a)])) x = cE cy ((L, K, AN, R0), (Rc, u2 Ic 3 a v, AIc, AR), (Im, AIm), AL) x := by
  by_cases hb : x = a
  · subst hb
    simp [va_up, cE, u2, h]
  · simp [va_up, cE, u2, hb]
theorem cu_2_1 (cy : CY) {a : Nat} (h : K a = 2) (v : Int32) (x : Nat) : va_up (cE cy ((L, K, AN, R0), (Rc, Ic, AIc, AR), (Im, AIm), AL)) a (.inr (2, [.int (Ic 3 a), .int (v), .int (Ic 5 a), .int (Ic 6 a)])) x = cE cy ((L, K, AN, R0), (Rc, u2 Ic 4 a v, AIc, AR), (Im, AIm), AL) x := by
  by_cases hb : x = a
  · subst hb
    simp [va_up, cE, u2, h]
  · simp [va_up, cE, u2, hb]
theorem cu_2_2 (cy : CY) {a : Nat} (h : K a = 2) (v : Int32) (x : Nat) : va_up (cE cy ((L, K, AN, R0), (Rc, Ic, AIc, AR), (Im, AIm), AL)) a (.inr (2, [.int (Ic 3 a), .int (Ic 4 a), .int (v), .int (Ic 6 a)])) x = cE cy ((L, K, AN, R0), (Rc, u2 Ic 5 a v, AIc, AR), (Im, AIm), AL) x := by
  by_cases hb : x = a
  · subst hb
    simp [va_up, cE, u2, h]
  · simp [va_up, cE, u2, hb]
theorem cu_2_3 (cy : CY) {a : Nat} (h : K a = 2) (v : Int32) (x : Nat) : va_up (cE cy ((L, K, AN, R0), (Rc, Ic, AIc, AR), (Im, AIm), AL)) a (.inr (2, [.int (Ic 3 a), .int (Ic 4 a), .int (Ic 5 a), .int (v)])) x = cE cy ((L, K, AN, R0), (Rc, u2 Ic 6 a v, AIc, AR), (Im, AIm), AL) x := by
  by_cases hb : x = a
  · subst hb
    simp [va_up, cE, u2, h]
  · simp [va_up, cE, u2, hb]
theorem cl_3 (cy : CY) {a : Nat} (h : K a = 3) : cE cy ((L, K, AN, R0), (Rc, Ic, AIc, AR), (Im, AIm), AL) a = .inr (3, [va_rf (Rc 3 a)]) := by simp [cE, h]
theorem cu_3_0 (cy : CY) {a : Nat} (h : K a = 3) (v : Option Nat) (x : Nat) : va_up (cE cy ((L, K, AN, R0), (Rc, Ic, AIc, AR), (Im, AIm), AL)) a (.inr (3, [va_rf (v)])) x = cE cy ((L, K, AN, R0), (u2 Rc 3 a v, Ic, AIc, AR), (Im, AIm), AL) x := by
  by_cases hb : x = a
  · subst hb
    simp [va_up, cE, u2, h]
  · simp [va_up, cE, u2, hb]
theorem cl_4 (cy : CY) {a : Nat} (h : K a = 4) : cE cy ((L, K, AN, R0), (Rc, Ic, AIc, AR), (Im, AIm), AL) a = .inr (4, [va_rf (R0 1 a), va_rf (R0 2 a), va_rf (R0 3 a), va_rf (R0 4 a), va_rf (R0 5 a), va_rf (R0 6 a), va_rf (R0 7 a), va_rf (R0 8 a)]) := by simp [cE, h]
theorem cu_4_0 (cy : CY) {a : Nat} (h : K a = 4) (v : Option Nat) (x : Nat) : va_up (cE cy ((L, K, AN, R0), (Rc, Ic, AIc, AR), (Im, AIm), AL)) a (.inr (4, [va_rf (v), va_rf (R0 2 a), va_rf (R0 3 a), va_rf (R0 4 a), va_rf (R0 5 a), va_rf (R0 6 a), va_rf (R0 7 a), va_rf (R0 8 a)])) x = cE cy ((L, K, AN, u2 R0 1 a v), (Rc, Ic, AIc, AR), (Im, AIm), AL) x := by
  by_cases hb : x = a
  · subst hb
    simp [va_up, cE, u2, h]
  · simp [va_up, cE, u2, hb]
theorem cu_4_1 (cy : CY) {a : Nat} (h : K a = 4) (v : Option Nat) (x : Nat) : va_up (cE cy ((L, K, AN, R0), (Rc, Ic, AIc, AR), (Im, AIm), AL)) a (.inr (4, [va_rf (R0 1 a), va_rf (v), va_rf (R0 3 a), va_rf (R0 4 a), va_rf (R0 5 a), va_rf (R0 6 a), va_rf (R0 7 a), va_rf (R0 8 a)])) x = cE cy ((L, K, AN, u2 R0 2 a v), (Rc, Ic, AIc, AR), (Im, AIm), AL) x := by
  by_cases hb : x = a
  · subst hb
    simp [va_up, cE, u2, h]
  · simp [va_up, cE, u2, hb]
theorem cu_4_2 (cy : CY) {a : Nat} (h : K a = 4) (v : Option Nat) (x : Nat) : va_up (cE cy ((L, K, AN, R0), (Rc, Ic, AIc, AR), (Im, AIm), AL)) a (.inr (4, [va_rf (R0 1 a), va_rf (R0 2 a), va_rf (v), va_rf (R0 4 a), va_rf (R0 5 a), va_rf (R0 6 a), va_rf (R0 7 a), va_rf (R0 8 a)])) x = cE cy ((L, K, AN, u2 R0 3 a v), (Rc, Ic, AIc, AR), (Im, AIm), AL) x := by
  by_cases hb : x = a
  · subst hb
    simp [va_up, cE, u2, h]
  · simp [va_up, cE, u2, hb]
theorem cu_4_3 (cy : CY) {a : Nat} (h : K a = 4) (v : Option Nat) (x : Nat) : va_up (cE cy ((L, K, AN, R0), (Rc, Ic, AIc, AR), (Im, AIm), AL)) a (.inr (4, [va_rf (R0 1 a), va_rf (R0 2 a), va_rf (R0 3 a), va_rf (v), va_rf (R0 5 a), va_rf (R0 6 a), va_rf (R0 7 a), va_rf (R0 8 a)])) x = cE cy ((L, K, AN, u2 R0 4 a v), (Rc, Ic, AIc, AR), (Im, AIm), AL) x := by
  by_cases hb : x = a
  · subst hb
    simp [va_up, cE, u2, h]
  · simp [va_up, cE, u2, hb]
theorem cu_4_4 (cy : CY) {a : Nat} (h : K a = 4) (v : Option Nat) (x : Nat) : va_up (cE cy ((L, K, AN, R0), (Rc, Ic, AIc, AR), (Im, AIm), AL)) a (.inr (4, [va_rf (R0 1 a), va_rf (R0 2 a), va_rf (R0 3 a), va_rf (R0 4 a), va_rf (v), va_rf (R0 6 a), va_rf (R0 7 a), va_rf (R0 8 a)])) x = cE cy ((L, K, AN, u2 R0 5 a v), (Rc, Ic, AIc, AR), (Im, AIm), AL) x := by
  by_cases hb : x = a
  · subst hb
    simp [va_up, cE, u2, h]
  · simp [va_up, cE, u2, hb]
theorem cu_4_5 (cy : CY) {a : Nat} (h : K a = 4) (v : Option Nat) (x : Nat) : va_up (cE cy ((L, K, AN, R0), (Rc, Ic, AIc, AR), (Im, AIm), AL)) a (.inr (4, [va_rf (R0 1 a), va_rf (R0 2 a), va_rf (R0 3 a), va_rf (R0 4 a), va_rf (R0 5 a), va_rf (v), va_rf (R0 7 a), va_rf (R0 8 a)])) x = cE cy ((L, K, AN, u2 R0 6 a v), (Rc, Ic, AIc, AR), (Im, AIm), AL) x := by
  by_cases hb : x = a
  · subst hb
    simp [va_up, cE, u2, h]
  · simp [va_up, cE, u2, hb]
theorem cu_4_6 (cy : CY) {a : Nat} (h : K a = 4) (v : Option Nat) (x : Nat) : va_up (cE cy ((L, K, AN, R0), (Rc, Ic, AIc, AR), (Im, AIm), AL)) a (.inr (4, [va_rf (R0 1 a), va_rf (R0 2 a), va_rf (R0 3 a), va_rf (R0 4 a), va_rf (R0 5 a), va_rf (R0 6 a), va_rf (v), va_rf (R0 8 a)])) x = cE cy ((L, K, AN, u2 R0 7 a v), (Rc, Ic, AIc, AR), (Im, AIm), AL) x := by
  by_cases hb : x = a
  · subst hb
    simp [va_up, cE, u2, h]
  · simp [va_up, cE, u2, hb]
theorem cu_4_7 (cy : CY) {a : Nat} (h : K a = 4) (v : Option Nat) (x : Nat) : va_up (cE cy ((L, K, AN, R0), (Rc, Ic, AIc, AR), (Im, AIm), AL)) a (.inr (4, [va_rf (R0 1 a), va_rf (R0 2 a), va_rf (R0 3 a), va_rf (R0 4 a), va_rf (R0 5 a), va_rf (R0 6 a), va_rf (R0 7 a), va_rf (v)])) x = cE cy ((L, K, AN, u2 R0 8 a v), (Rc, Ic, AIc, AR), (Im, AIm), AL) x := by
  by_cases hb : x = a
  · subst hb
    simp [va_up, cE, u2, h]
  · simp [va_up, cE, u2, hb]
theorem cl_5 (cy : CY) {a : Nat} (h : K a = 5) : cE cy ((L, K, AN, R0), (Rc, Ic, AIc, AR), (Im, AIm), AL) a = .inr (5, [.int (Im 0 a), .int (Im 1 a), .int (Im 2 a), va_rf (R0 9 a), va_rf (R0 10 a), va_rf (R0 11 a), va_rf (R0 12 a), va_rf (R0 13 a), va_rf (R0 14 a), va_rf (R0 15 a), .int (Im 3 a), .int (Im 4 a), .int (Im 5 a), .int (Im 6 a), .int (Im 7 a), .int (Im 8 a), .int (Im 9 a), .int (Im 10 a), .int (Im 11 a), .int (Im 12 a)]) := by simp [cE, h]
theorem cu_5_0 (cy : CY) {a : Nat} (h : K a = 5) (v : Int32) (x : Nat) : va_up (cE cy ((L, K, AN, R0), (Rc, Ic, AIc, AR), (Im, AIm), AL)) a (.inr (5, [.int (v), .int (Im 1 a), .int (Im 2 a), va_rf (R0 9 a), va_rf (R0 10 a), va_rf (R0 11 a), va_rf (R0 12 a), va_rf (R0 13 a), va_rf (R0 14 a), va_rf (R0 15 a), .int (Im 3 a), .int (Im 4 a), .int (Im 5 a), .int (Im 6 a), .int (Im 7 a), .int (Im 8 a), .int (Im 9 a), .int (Im 10 a), .int (Im 11 a), .int (Im 12 a)])) x = cE cy ((L, K, AN, R0), (Rc, Ic, AIc, AR), (u2 Im 0 a v, AIm), AL) x := by
  by_cases hb : x = a
  · subst hb
    simp [va_up, cE, u2, h]
  · simp [va_up, cE, u2, hb]
theorem cu_5_1 (cy : CY) {a : Nat} (h : K a = 5) (v : Int32) (x : Nat) : va_up (cE cy ((L, K, AN, R0), (Rc, Ic, AIc, AR), (Im, AIm), AL)) a (.inr (5, [.int (Im 0 a), .int (v), .int (Im 2 a), va_rf (R0 9 a), va_rf (R0 10 a), va_rf (R0 11 a), va_rf (R0 12 a), va_rf (R0 13 a), va_rf (R0 14 a), va_rf (R0 15 a), .int (Im 3 a), .int (Im 4 a), .int (Im 5 a), .int (Im 6 a), .int (Im 7 a), .int (Im 8 a), .int (Im 9 a), .int (Im 10 a), .int (Im 11 a), .int (Im 12 a)])) x = cE cy ((L, K, AN, R0), (Rc, Ic, AIc, AR), (u2 Im 1 a v, AIm), AL) x := by
  by_cases hb : x = a
  · subst hb
    simp [va_up, cE, u2, h]
  · simp [va_up, cE, u2, hb]
theorem cu_5_2 (cy : CY) {a : Nat} (h : K a = 5) (v : Int32) (x : Nat) : va_up (cE cy ((L, K, AN, R0), (Rc, Ic, AIc, AR), (Im, AIm), AL)) a (.inr (5, [.int (Im 0 a), .int (Im 1 a), .int (v), va_rf (R0 9 a), va_rf (R0 10 a), va_rf (R0 11 a), va_rf (R0 12 a), va_rf (R0 13 a), va_rf (R0 14 a), va_rf (R0 15 a), .int (Im 3 a), .int (Im 4 a), .int (Im 5 a), .int (Im 6 a), .int (Im 7 a), .int (Im 8 a), .int (Im 9 a), .int (Im 10 a), .int (Im 11 a), .int (Im 12 a)])) x = cE cy ((L, K, AN, R0), (Rc, Ic, AIc, AR), (u2 Im 2 a v, AIm), AL) x := by
  by_cases hb : x = a
  · subst hb
    simp [va_up, cE, u2, h]
  · simp [va_up, cE, u2, hb]
theorem cu_5_3 (cy : CY) {a : Nat} (h : K a = 5) (v : Option Nat) (x : Nat) : va_up (cE cy ((L, K, AN, R0), (Rc, Ic, AIc, AR), (Im, AIm), AL)) a (.inr (5, [.int (Im 0 a), .int (Im 1 a), .int (Im 2 a), va_rf (v), va_rf (R0 10 a), va_rf (R0 11 a), va_rf (R0 12 a), va_rf (R0 13 a), va_rf (R0 14 a), va_rf (R0 15 a), .int (Im 3 a), .int (Im 4 a), .int (Im 5 a), .int (Im 6 a), .int (Im 7 a), .int (Im 8 a), .int (Im 9 a), .int (Im 10 a), .int (Im 11 a), .int (Im 12 a)])) x = cE cy ((L, K, AN, u2 R0 9 a v), (Rc, Ic, AIc, AR), (Im, AIm), AL) x := by
  by_cases hb : x = a
  · subst hb
    simp [va_up, cE, u2, h]
  · simp [va_up, cE, u2, hb]
theorem cu_5_4 (cy : CY) {a : Nat} (h : K a = 5) (v : Option Nat) (x : Nat) : va_up (cE cy ((L, K, AN, R0), (Rc, Ic, AIc, AR), (Im, AIm), AL)) a (.inr (5, [.int (Im 0 a), .int (Im 1 a), .int (Im 2 a), va_rf (R0 9 a), va_rf (v), va_rf (R0 11 a), va_rf (R0 12 a), va_rf (R0 13 a), va_rf (R0 14 a), va_rf (R0 15 a), .int (Im 3 a), .int (Im 4 a), .int (Im 5 a), .int (Im 6 a), .int (Im 7 a), .int (Im 8 a), .int (Im 9 a), .int (Im 10 a), .int (Im 11 a), .int (Im 12 a)])) x = cE cy ((L, K, AN, u2 R0 10 a v), (Rc, Ic, AIc, AR), (Im, AIm), AL) x := by
  by_cases hb : x = a
  · subst hb
    simp [va_up, cE, u2, h]
  · simp [va_up, cE, u2, hb]
theorem cu_5_5 (cy : CY) {a : Nat} (h : K a = 5) (v : Option Nat) (x : Nat) : va_up (cE cy ((L, K, AN, R0), (Rc, Ic, AIc, AR), (Im, AIm), AL)) a (.inr (5, [.int (Im 0 a), .int (Im 1 a), .int (Im 2 a), va_rf (R0 9 a), va_rf (R0 10 a), va_rf (v), va_rf (R0 12 a), va_rf (R0 13 a), va_rf (R0 14 a), va_rf (R0 15 a), .int (Im 3 a), .int (Im 4 a), .int (Im 5 a), .int (Im 6 a), .int (Im 7 a), .int (Im 8 a), .int (Im 9 a), .int (Im 10 a), .int (Im 11 a), .int (Im 12 a)])) x = cE cy ((L, K, AN, u2 R0 11 a v), (Rc, Ic, AIc, AR), (Im, AIm), AL) x := by
  by_cases hb : x = a
  · subst hb
    simp [va_up, cE, u2, h]
  · simp [va_up, cE, u2, hb]
theorem cu_5_6 (cy : CY) {a : Nat} (h : K a = 5) (v : Option Nat) (x : Nat) : va_up (cE cy ((L, K, AN, R0), (Rc, Ic, AIc, AR), (Im, AIm), AL)) a (.inr (5, [.int (Im 0 a), .int (Im 1 a), .int (Im 2 a), va_rf (R0 9 a), va_rf (R0 10 a), va_rf (R0 11 a), va_rf (v), va_rf (R0 13 a), va_rf (R0 14 a), va_rf (R0 15 a), .int (Im 3 a), .int (Im 4 a), .int (Im 5 a), .int (Im 6 a), .int (Im 7 a), .int (Im 8 a), .int (Im 9 a), .int (Im 10 a), .int (Im 11 a), .int (Im 12 a)])) x = cE cy ((L, K, AN, u2 R0 12 a v), (Rc, Ic, AIc, AR), (Im, AIm), AL) x := by
  by_cases hb : x = a
  · subst hb
    simp [va_up, cE, u2, h]
  · simp [va_up, cE, u2, hb]
theorem cu_5_7 (cy : CY) {a : Nat} (h : K a = 5) (v : Option Nat) (x : Nat) : va_up (cE cy ((L, K, AN, R0), (Rc, Ic, AIc, AR), (Im, AIm), AL)) a (.inr (5, [.int (Im 0 a), .int (Im 1 a), .int (Im 2 a), va_rf (R0 9 a), va_rf (R0 10 a), va_rf (R0 11 a), va_rf (R0 12 a), va_rf (v), va_rf (R0 14 a), va_rf (R0 15 a), .int (Im 3 a), .int (Im 4 a), .int (Im 5 a), .int (Im 6 a), .int (Im 7 a), .int (Im 8 a), .int (Im 9 a), .int (Im 10 a), .int (Im 11 a), .int (Im 12 a)])) x = cE cy ((L, K, AN, u2 R0 13 a v), (Rc, Ic, AIc, AR), (Im, AIm), AL) x := by
  by_cases hb : x = a
  · subst hb
    simp [va_up, cE, u2, h]
  · simp [va_up, cE, u2, hb]
theorem cu_5_8 (cy : CY) {a : Nat} (h : K a = 5) (v : Option Nat) (x : Nat) : va_up (cE cy ((L, K, AN, R0), (Rc, Ic, AIc, AR), (Im, AIm), AL)) a (.inr (5, [.int (Im 0 a), .int (Im 1 a), .int (Im 2 a), va_rf (R0 9 a), va_rf (R0 10 a), va_rf (R0 11 a), va_rf (R0 12 a), va_rf (R0 13 a), va_rf (v), va_rf (R0 15 a), .int (Im 3 a), .int (Im 4 a), .int (Im 5 a), .int (Im 6 a), .int (Im 7 a), .int (Im 8 a), .int (Im 9 a), .int (Im 10 a), .int (Im 11 a), .int (Im 12 a)])) x = cE cy ((L, K, AN, u2 R0 14 a v), (Rc, Ic, AIc, AR), (Im, AIm), AL) x := by
  by_cases hb : x = a
  · subst hb
    simp [va_up, cE, u2, h]
  · simp [va_up, cE, u2, hb]
theorem cu_5_9 (cy : CY) {a : Nat} (h : K a = 5) (v : Option Nat) (x : Nat) : va_up (cE cy ((L, K, AN, R0), (Rc, Ic, AIc, AR), (Im, AIm), AL)) a (.inr (5, [.int (Im 0 a), .int (Im 1 a), .int (Im 2 a), va_rf (R0 9 a), va_rf (R0 10 a), va_rf (R0 11 a), va_rf (R0 12 a), va_rf (R0 13 a), va_rf (R0 14 a), va_rf (v), .int (Im 3 a), .int (Im 4 a), .int (Im 5 a), .int (Im 6 a), .int (Im 7 a), .int (Im 8 a), .int (Im 9 a), .int (Im 10 a), .int (Im 11 a), .int (Im 12 a)])) x = cE cy ((L, K, AN, u2 R0 15 a v), (Rc, Ic, AIc, AR), (Im, AIm), AL) x := by
  by_cases hb : x = a
  · subst hb
    simp [va_up, cE, u2, h]
  · simp [va_up, cE, u2, hb]
theorem cu_5_10 (cy : CY) {a : Nat} (h : K a = 5) (v : Int32) (x : Nat) : va_up (cE cy ((L, K, AN, R0), (Rc, Ic, AIc, AR), (Im, AIm), AL)) a (.inr (5, [.int (Im 0 a), .int (Im 1 a), .int (Im 2 a), va_rf (R0 9 a), va_rf (R0 10 a), va_rf (R0 11 a), va_rf (R0 12 a), va_rf (R0 13 a), va_rf (R0 14 a), va_rf (R0 15 a), .int (v), .int (Im 4 a), .int (Im 5 a), .int (Im 6 a), .int (Im 7 a), .int (Im 8 a), .int (Im 9 a), .int (Im 10 a), .int (Im 11 a), .int (Im 12 a)])) x = cE cy ((L, K, AN, R0), (Rc, Ic, AIc, AR), (u2 Im 3 a v, AIm), AL) x := by
  by_cases hb : x = a
  · subst hb
    simp [va_up, cE, u2, h]
  · simp [va_up, cE, u2, hb]
theorem cu_5_11 (cy : CY) {a : Nat} (h : K a = 5) (v : Int32) (x : Nat) : va_up (cE cy ((L, K, AN, R0), (Rc, Ic, AIc, AR), (Im, AIm), AL)) a (.inr (5, [.int (Im 0 a), .int (Im 1 a), .int (Im 2 a), va_rf (R0 9 a), va_rf (R0 10 a), va_rf (R0 11 a), va_rf (R0 12 a), va_rf (R0 13 a), va_rf (R0 14 a), va_rf (R0 15 a), .int (Im 3 a), .int (v), .int (Im 5 a), .int (Im 6 a), .int (Im 7 a), .int (Im 8 a), .int (Im 9 a), .int (Im 10 a), .int (Im 11 a), .int (Im 12 a)])) x = cE cy ((L, K, AN, R0), (Rc, Ic, AIc, AR), (u2 Im 4 a v, AIm), AL) x := by
  by_cases hb : x = a
  · subst hb
    simp [va_up, cE, u2, h]
  · simp [va_up, cE, u2, hb]
theorem cu_5_12 (cy : CY) {a : Nat} (h : K a = 5) (v : Int32) (x : Nat) : va_up (cE cy ((L, K, AN, R0), (Rc, Ic, AIc, AR), (Im, AIm), AL)) a (.inr (5, [.int (Im 0 a), .int (Im 1 a), .int (Im 2 a), va_rf (R0 9 a), va_rf (R0 10 a), va_rf (R0 11 a), va_rf (R0 12 a), va_rf (R0 13 a), va_rf (R0 14 a), va_rf (R0 15 a), .int (Im 3 a), .int (Im 4 a), .int (v), .int (Im 6 a), .int (Im 7 a), .int (Im 8 a), .int (Im 9 a), .int (Im 10 a), .int (Im 11 a), .int (Im 12 a)])) x = cE cy ((L, K, AN, R0), (Rc, Ic, AIc, AR), (u2 Im 5 a v, AIm), AL) x := by
  by_cases hb : x = a
  · subst hb
    simp [va_up, cE, u2, h]
  · simp [va_up, cE, u2, hb]
theorem cu_5_13 (cy : CY) {a : Nat} (h : K a = 5) (v : Int32) (x : Nat) : va_up (cE cy ((L, K, AN, R0), (Rc, Ic, AIc, AR), (Im, AIm), AL)) a (.inr (5, [.int (Im 0 a), .int (Im 1 a), .int (Im 2 a), va_rf (R0 9 a), va_rf (R0 10 a), va_rf (R0 11 a), va_rf (R0 12 a), va_rf (R0 13 a), va_rf (R0 14 a), va_rf (R0 15 a), .int (Im 3 a), .int (Im 4 a), .int (Im 5 a), .int (v), .int (Im 7 a), .int (Im 8 a), .int (Im 9 a), .int (Im 10 a), .int (Im 11 a), .int (Im 12 a)])) x = cE cy ((L, K, AN, R0), (Rc, Ic, AIc, AR), (u2 Im 6 a v, AIm), AL) x := by
  by_cases hb : x = a
  · subst hb
    simp [va_up, cE, u2, h]
  · simp [va_up, cE, u2, hb]
theorem cu_5_14 (cy : CY) {a : Nat} (h : K a = 5) (v : Int32) (x : Nat) : va_up (cE cy ((L, K, AN, R0), (Rc, Ic, AIc, AR), (Im, AIm), AL)) a (.inr (5, [.int (Im 0 a), .int (Im 1 a), .int (Im 2 a), va_rf (R0 9 a), va_rf (R0 10 a), va_rf (R0 11 a), va_rf (R0 12 a), va_rf (R0 13 a), va_rf (R0 14 a), va_rf (R0 15 a), .int (Im 3 a), .int (Im 4 a), .int (Im 5 a), .int (Im 6 a), .int (v), .int (Im 8 a), .int (Im 9 a), .int (Im 10 a), .int (Im 11 a), .int (Im 12 a)])) x = cE cy ((L, K, AN, R0), (Rc, Ic, AIc, AR), (u2 Im 7 a v, AIm), AL) x := by
  by_cases hb : x = a
  · subst hb
    simp [va_up, cE, u2, h]
  · simp [va_up, cE, u2, hb]
theorem cu_5_15 (cy : CY) {a : Nat} (h : K a = 5) (v : Int32) (x : Nat) : va_up (cE cy ((L, K, AN, R0), (Rc, Ic, AIc, AR), (Im, AIm), AL)) a (.inr (5, [.int (Im 0 a), .int (Im 1 a), .int (Im 2 a), va_rf (R0 9 a), va_rf (R0 10 a), va_rf (R0 11 a), va_rf (R0 12 a), va_rf (R0 13 a), va_rf (R0 14 a), va_rf (R0 15 a), .int (Im 3 a), .int (Im 4 a), .int (Im 5 a), .int (Im 6 a), .int (Im 7 a), .int (v), .int (Im 9 a), .int (Im 10 a), .int (Im 11 a), .int (Im 12 a)])) x = cE cy ((L, K, AN, R0), (Rc, Ic, AIc, AR), (u2 Im 8 a v, AIm), AL) x := by
  by_cases hb : x = a
  · subst hb
    simp [va_up, cE, u2, h]
  · simp [va_up, cE, u2, hb]
theorem cu_5_16 (cy : CY) {a : Nat} (h : K a = 5) (v : Int32) (x : Nat) : va_up (cE cy ((L, K, AN, R0), (Rc, Ic, AIc, AR), (Im, AIm), AL)) a (.inr (5, [.int (Im 0 a), .int (Im 1 a), .int (Im 2 a), va_rf (R0 9 a), va_rf (R0 10 a), va_rf (R0 11 a), va_rf (R0 12 a), va_rf (R0 13 a), va_rf (R0 14 a), va_rf (R0 15 a), .int (Im 3 a), .int (Im 4 a), .int (Im 5 a), .int (Im 6 a), .int (Im 7 a), .int (Im 8 a), .int (v), .int (Im 10 a), .int (Im 11 a), .int (Im 12 a)])) x = cE cy ((L, K, AN, R0), (Rc, Ic, AIc, AR), (u2 Im 9 a v, AIm), AL) x := by
  by_cases hb : x = a
  · subst hb
    simp [va_up, cE, u2, h]
  · simp [va_up, cE, u2, hb]
theorem cu_5_17 (cy : CY) {a : Nat} (h : K a = 5) (v : Int32) (x : Nat) : va_up (cE cy ((L, K, AN, R0), (Rc, Ic, AIc, AR), (Im, AIm), AL)) a (.inr (5, [.int (Im 0 a), .int (Im 1 a), .int (Im 2 a), va_rf (R0 9 a), va_rf (R0 10 a), va_rf (R0 11 a), va_rf (R0 12 a), va_rf (R0 13 a), va_rf (R0 14 a), va_rf (R0 15 a), .int (Im 3 a), .int (Im 4 a), .int (Im 5 a), .int (Im 6 a), .int (Im 7 a), .int (Im 8 a), .int (Im 9 a), .int (v), .int (Im 11 a), .int (Im 12 a)])) x = cE cy ((L, K, AN, R0), (Rc, Ic, AIc, AR), (u2 Im 10 a v, AIm), AL) x := by
  by_cases hb : x = a
  · subst hb
    simp [va_up, cE, u2, h]
  · simp [va_up, cE, u2, hb]
theorem cu_5_18 (cy : CY) {a : Nat} (h : K a = 5) (v : Int32) (x : Nat) : va_up (cE cy ((L, K, AN, R0), (Rc, Ic, AIc, AR), (Im, AIm), AL)) a (.inr (5, [.int (Im 0 a), .int (Im 1 a), .int (Im 2 a), va_rf (R0 9 a), va_rf (R0 10 a), va_rf (R0 11 a), va_rf (R0 12 a), va_rf (R0 13 a), va_rf (R0 14 a), va_rf (R0 15 a), .int (Im 3 a), .int (Im 4 a), .int (Im 5 a), .int (Im 6 a), .int (Im 7 a), .int (Im 8 a), .int (Im 9 a), .int (Im 10 a), .int (v), .int (Im 12 a)])) x = cE cy ((L, K, AN, R0), (Rc, Ic, AIc, AR), (u2 Im 11 a v, AIm), AL) x := by
  by_cases hb : x = a
  · subst hb
    simp [va_up, cE, u2, h]
  · simp [va_up, cE, u2, hb]
theorem cu_5_19 (cy : CY) {a : Nat} (h : K a = 5) (v : Int32) (x : Nat) : va_up (cE cy ((L, K, AN, R0), (Rc, Ic, AIc, AR), (Im, AIm), AL)) a (.inr (5, [.int (Im 0 a), .int (Im 1 a), .int (Im 2 a), va_rf (R0 9 a), va_rf (R0 10 a), va_rf (R0 11 a), va_rf (R0 12 a), va_rf (R0 13 a), va_rf (R0 14 a), va_rf (R0 15 a), .int (Im 3 a), .int (Im 4 a), .int (Im 5 a), .int (Im 6 a), .int (Im 7 a), .int (Im 8 a), .int (Im 9 a), .int (Im 10 a), .int (Im 11 a), .int (v)])) x = cE cy ((L, K, AN, R0), (Rc, Ic, AIc, AR), (u2 Im 12 a v, AIm), AL) x := by
  by_cases hb : x = a
  · subst hb
    simp [va_up, cE, u2, h]
  · simp [va_up, cE, u2, hb]
theorem ok_65 : okw (.fieldLink RX3 7 RX3 "root" "LSplaySequence$Node;") := ⟨List.mem_of_getElem? (i := 65) (by decide +kernel), by decide +kernel⟩
/-- getfield root of SplaySequence$Tree -/
theorem gf_RX3_7 {o : Option Nat} {a : Nat} (dg : decode M.2.1 pc = .ok (.getfield 7, 3)) (hM : M.1.cls = RX3) (ho : o = some a) (hk : isK ((L, K, AN, R0), (Rc, Ic, AIc, AR), (Im, AIm), AL) 3 a) (kk : WP G M Q k n (pc + 3) lv (vr (Rc 3 a) :: st) ((L, K, AN, R0), (Rc, Ic, AIc, AR), (Im, AIm), AL)) : WP G M Q k n pc lv (vr o :: st) ((L, K, AN, R0), (Rc, Ic, AIc, AR), (Im, AIm), AL) := by
  subst ho
  intro p e s m args below meth c H locs ls C hh hS hl
  obtain ⟨j, hj⟩ := pool_at G.2.2.2.1 hk.1
  rw [cl_3 _ hk.2] at hj
  have hown := C.2.2.2.2.2.1
  rw [hM] at hown
  exact va_get (C := RX3) (T := TX3) (N := 1) (Ts := wsX30) C.1 C.2.1 (fun w h => cx_ok C (gd_3 w h)) (fun _ h => h) hown (cx_K C) hh.1 j hj rfl 0 (by decide) (cx_ok C ok_65) (fun _ h => h) rfl dg (kk p e s m args below meth c H locs ls C hh hS hl)
/-- putfield root of SplaySequence$Tree -/
theorem pf_RX3_7 {o : Option Nat} {a : Nat} {v : Option Nat} (dg : decode M.2.1 pc = .ok (.putfield 7, 3)) (hM : M.1.cls = RX3) (ho : o = some a) (hk : isK ((L, K, AN, R0), (Rc, Ic, AIc, AR), (Im, AIm), AL) 3 a) (kk : WP G M Q k n (pc + 3) lv st ((L, K, AN, R0), (u2 Rc 3 a v, Ic, AIc, AR), (Im, AIm), AL)) : WP G M Q k n pc lv (vr v :: vr o :: st) ((L, K, AN, R0), (Rc, Ic, AIc, AR), (Im, AIm), AL) := by
  subst ho
  intro p e s m args below meth c H locs ls C hh hS hl
  obtain ⟨j, hj⟩ := pool_at G.2.2.2.1 hk.1
  have hj2 := hj
  rw [cl_3 _ hk.2] at hj
  have hown := C.2.2.2.2.2.1
  rw [hM] at hown
  have he : (va_pl L (cE G.2.2.2.1 ((L, K, AN, R0), (Rc, Ic, AIc, AR), (Im, AIm), AL))).set j (a, .inr (3, [va_rf (v)])) = va_pl L (cE G.2.2.2.1 ((L, K, AN, R0), (u2 Rc 3 a v, Ic, AIc, AR), (Im, AIm), AL)) := (va_pl_set (X := []) hh.2 hk.1 hj2).trans (va_pl_congr (cu_3_0 _ hk.2 v))
  have hn : narrow (tyX3 0) (va_rf v) = va_rf v := by cases v <;> rfl
  have hf : fits (tyX3 0) (va_rf v) = true := by cases v <;> rfl
  exact va_put (C := RX3) (T := TX3) (N := 1) (Ts := wsX30) C.1 C.2.1 (fun w h => cx_ok C (gd_3 w h)) (fun _ h => h) tyX3 tyX3_ok nmX3 hown (cx_K C) hh.1 hh.2 hS j hj rfl 0 (by decide) (cx_ok C ok_65) (fun _ h => h) rfl (tyX3_ok 0 (by decide)) hn hf (by show 0 < 1; decide) dg (fun H1 locs1 hP1 hD1 hS1 => kk p e s m args below meth c H1 locs1 ls C ⟨by rw [← he]; exact hP1, by rw [← he]; exact hD1⟩ hS1 hl)
theorem ok_77 : okw (.fieldLink RX2 9 RX2 "callSteps" "I") := ⟨List.mem_of_getElem? (i := 77) (by decide +kernel), by decide +kernel⟩
/-- getfield callSteps of SplaySequence$Splayer -/
theorem gf_RX2_9 {o : Option Nat} {a : Nat} (dg : decode M.2.1 pc = .ok (.getfield 9, 3)) (hM : M.1.cls = RX2) (ho : o = some a) (hk : isK ((L, K, AN, R0), (Rc, Ic, AIc, AR), (Im, AIm), AL) 2 a) (kk : WP G M Q k n (pc + 3) lv (vi (Ic 3 a) :: st) ((L, K, AN, R0), (Rc, Ic, AIc, AR), (Im, AIm), AL)) : WP G M Q k n pc lv (vr o :: st) ((L, K, AN, R0), (Rc, Ic, AIc, AR), (Im, AIm), AL) := by
  subst ho
  intro p e s m args below meth c H locs ls C hh hS hl
  obtain ⟨j, hj⟩ := pool_at G.2.2.2.1 hk.1
  rw [cl_2 _ hk.2] at hj
  have hown := C.2.2.2.2.2.1
  rw [hM] at hown
  exact va_get (C := RX2) (T := TX2) (N := 4) (Ts := wsX20) C.1 C.2.1 (fun w h => cx_ok C (gd_2 w h)) (fun _ h => h) hown (cx_K C) hh.1 j hj rfl 0 (by decide) (cx_ok C ok_77) (fun _ h => h) rfl dg (kk p e s m args below meth c H locs ls C hh hS hl)
/-- putfield callSteps of SplaySequence$Splayer -/
theorem pf_RX2_9 {o : Option Nat} {a : Nat} {v : Int32} (dg : decode M.2.1 pc = .ok (.putfield 9, 3)) (hM : M.1.cls = RX2) (ho : o = some a) (hk : isK ((L, K, AN, R0), (Rc, Ic, AIc, AR), (Im, AIm), AL) 2 a) (kk : WP G M Q k n (pc + 3) lv st ((L, K, AN, R0), (Rc, u2 Ic 3 a v, AIc, AR), (Im, AIm), AL)) : WP G M Q k n pc lv (vi v :: vr o :: st) ((L, K, AN, R0), (Rc, Ic, AIc, AR), (Im, AIm), AL) := by
  subst ho
  intro p e s m args below meth c H locs ls C hh hS hl
  obtain ⟨j, hj⟩ := pool_at G.2.2.2.1 hk.1
  have hj2 := hj
  rw [cl_2 _ hk.2] at hj
  have hown := C.2.2.2.2.2.1
  rw [hM] at hown
  have he : (va_pl L (cE G.2.2.2.1 ((L, K, AN, R0), (Rc, Ic, AIc, AR), (Im, AIm), AL))).set j (a, .inr (2, [.int (v), .int (Ic 4 a), .int (Ic 5 a), .int (Ic 6 a)])) = va_pl L (cE G.2.2.2.1 ((L, K, AN, R0), (Rc, u2 Ic 3 a v, AIc, AR), (Im, AIm), AL)) := (va_pl_set (X := []) hh.2 hk.1 hj2).trans (va_pl_congr (cu_2_0 _ hk.2 v))
  have hn : narrow (tyX2 0) (.int v) = .int v := rfl
  have hf : fits (tyX2 0) (.int v) = true := rfl
  exact va_put (C := RX2) (T := TX2) (N := 4) (Ts := wsX20) C.1 C.2.1 (fun w h => cx_ok C (gd_2 w h)) (fun _ h => h) tyX2 tyX2_ok nmX2 hown (cx_K C) hh.1 hh.2 hS j hj rfl 0 (by decide) (cx_ok C ok_77) (fun _ h => h) rfl (tyX2_ok 0 (by decide)) hn hf (by show 0 < 4; decide) dg (fun H1 locs1 hP1 hD1 hS1 => kk p e s m args below meth c H1 locs1 ls C ⟨by rw [← he]; exact hP1, by rw [← he]; exact hD1⟩ hS1 hl)
theorem ok_79 : okw (.fieldLink RX2 15 RX2 "callRotations" "I") := ⟨List.mem_of_getElem? (i := 79) (by decide +kernel), by decide +kernel⟩
/-- getfield callRotations of SplaySequence$Splayer -/
theorem gf_RX2_15 {o : Option Nat} {a : Nat} (dg : decode M.2.1 pc = .ok (.getfield 15, 3)) (hM : M.1.cls = RX2) (ho : o = some a) (hk : isK ((L, K, AN, R0), (Rc, Ic, AIc, AR), (Im, AIm), AL) 2 a) (kk : WP G M Q k n (pc + 3) lv (vi (Ic 4 a) :: st) ((L, K, AN, R0), (Rc, Ic, AIc, AR), (Im, AIm), AL)) : WP G M Q k n pc lv (vr o :: st) ((L, K, AN, R0), (Rc, Ic, AIc, AR), (Im, AIm), AL) := by
  subst ho
  intro p e s m args below meth c H locs ls C hh hS hl
  obtain ⟨j, hj⟩ := pool_at G.2.2.2.1 hk.1
  rw [cl_2 _ hk.2] at hj
  have hown := C.2.2.2.2.2.1
  rw [hM] at hown
  exact va_get (C := RX2) (T := TX2) (N := 4) (Ts := wsX20) C.1 C.2.1 (fun w h => cx_ok C (gd_2 w h)) (fun _ h => h) hown (cx_K C) hh.1 j hj rfl 1 (by decide) (cx_ok C ok_79) (fun _ h => h) rfl dg (kk p e s m args below meth c H locs ls C hh hS hl)
/-- putfield callRotations of SplaySequence$Splayer -/
theorem pf_RX2_15 {o : Option Nat} {a : Nat} {v : Int32} (dg : decode M.2.1 pc = .ok (.putfield 15, 3)) (hM : M.1.cls = RX2) (ho : o = some a) (hk : isK ((L, K, AN, R0), (Rc, Ic, AIc, AR), (Im, AIm), AL) 2 a) (kk : WP G M Q k n (pc + 3) lv st ((L, K, AN, R0), (Rc, u2 Ic 4 a v, AIc, AR), (Im, AIm), AL)) : WP G M Q k n pc lv (vi v :: vr o :: st) ((L, K, AN, R0), (Rc, Ic, AIc, AR), (Im, AIm), AL) := by
  subst ho
  intro p e s m args below meth c H locs ls C hh hS hl
  obtain ⟨j, hj⟩ := pool_at G.2.2.2.1 hk.1
  have hj2 := hj
  rw [cl_2 _ hk.2] at hj
  have hown := C.2.2.2.2.2.1
  rw [hM] at hown
  have he : (va_pl L (cE G.2.2.2.1 ((L, K, AN, R0), (Rc, Ic, AIc, AR), (Im, AIm), AL))).set j (a, .inr (2, [.int (Ic 3 a), .int (v), .int (Ic 5 a), .int (Ic 6 a)])) = va_pl L (cE G.2.2.2.1 ((L, K, AN, R0), (Rc, u2 Ic 4 a v, AIc, AR), (Im, AIm), AL)) := (va_pl_set (X := []) hh.2 hk.1 hj2).trans (va_pl_congr (cu_2_1 _ hk.2 v))
  have hn : narrow (tyX2 1) (.int v) = .int v := rfl
  have hf : fits (tyX2 1) (.int v) = true := rfl
  exact va_put (C := RX2) (T := TX2) (N := 4) (Ts := wsX20) C.1 C.2.1 (fun w h => cx_ok C (gd_2 w h)) (fun _ h => h) tyX2 tyX2_ok nmX2 hown (cx_K C) hh.1 hh.2 hS j hj rfl 1 (by decide) (cx_ok C ok_79) (fun _ h => h) rfl (tyX2_ok 1 (by decide)) hn hf (by show 1 < 4; decide) dg (fun H1 locs1 hP1 hD1 hS1 => kk p e s m args below meth c H1 locs1 ls C ⟨by rw [← he]; exact hP1, by rw [← he]; exact hD1⟩ hS1 hl)
theorem ok_81 : okw (.fieldLink RX2 35 RX2 "allSteps" "I") := ⟨List.mem_of_getElem? (i := 81) (by decide +kernel), by decide +kernel⟩
/-- getfield allSteps of SplaySequence$Splayer -/
theorem gf_RX2_35 {o : Option Nat} {a : Nat} (dg : decode M.2.1 pc = .ok (.getfield 35, 3)) (hM : M.1.cls = RX2) (ho : o = some a) (hk : isK ((L, K, AN, R0), (Rc, Ic, AIc, AR), (Im, AIm), AL) 2 a) (kk : WP G M Q k n (pc + 3) lv (vi (Ic 5 a) :: st) ((L, K, AN, R0), (Rc, Ic, AIc, AR), (Im, AIm), AL)) : WP G M Q k n pc lv (vr o :: st) ((L, K, AN, R0), (Rc, Ic, AIc, AR), (Im, AIm), AL) := by
  subst ho
  intro p e s m args below meth c H locs ls C hh hS hl
  obtain ⟨j, hj⟩ := pool_at G.2.2.2.1 hk.1
  rw [cl_2 _ hk.2] at hj
  have hown := C.2.2.2.2.2.1
  rw [hM] at hown
  exact va_get (C := RX2) (T := TX2) (N := 4) (Ts := wsX20) C.1 C.2.1 (fun w h => cx_ok C (gd_2 w h)) (fun _ h => h) hown (cx_K C) hh.1 j hj rfl 2 (by decide) (cx_ok C ok_81) (fun _ h => h) rfl dg (kk p e s m args below meth c H locs ls C hh hS hl)
/-- putfield allSteps of SplaySequence$Splayer -/
theorem pf_RX2_35 {o : Option Nat} {a : Nat} {v : Int32} (dg : decode M.2.1 pc = .ok (.putfield 35, 3)) (hM : M.1.cls = RX2) (ho : o = some a) (hk : isK ((L, K, AN, R0), (Rc, Ic, AIc, AR), (Im, AIm), AL) 2 a) (kk : WP G M Q k n (pc + 3) lv st ((L, K, AN, R0), (Rc, u2 Ic 5 a v, AIc, AR), (Im, AIm), AL)) : WP G M Q k n pc lv (vi v :: vr o :: st) ((L, K, AN, R0), (Rc, Ic, AIc, AR), (Im, AIm), AL) := by
  subst ho
  intro p e s m args below meth c H locs ls C hh hS hl
  obtain ⟨j, hj⟩ := pool_at G.2.2.2.1 hk.1
  have hj2 := hj
  rw [cl_2 _ hk.2] at hj
  have hown := C.2.2.2.2.2.1
  rw [hM] at hown
  have he : (va_pl L (cE G.2.2.2.1 ((L, K, AN, R0), (Rc, Ic, AIc, AR), (Im, AIm), AL))).set j (a, .inr (2, [.int (Ic 3 a), .int (Ic 4 a), .int (v), .int (Ic 6 a)])) = va_pl L (cE G.2.2.2.1 ((L, K, AN, R0), (Rc, u2 Ic 5 a v, AIc, AR), (Im, AIm), AL)) := (va_pl_set (X := []) hh.2 hk.1 hj2).trans (va_pl_congr (cu_2_2 _ hk.2 v))
  have hn : narrow (tyX2 2) (.int v) = .int v := rfl
  have hf : fits (tyX2 2) (.int v) = true := rfl
  exact va_put (C := RX2) (T := TX2) (N := 4) (Ts := wsX20) C.1 C.2.1 (fun w h => cx_ok C (gd_2 w h)) (fun _ h => h) tyX2 tyX2_ok nmX2 hown (cx_K C) hh.1 hh.2 hS j hj rfl 2 (by decide) (cx_ok C ok_81) (fun _ h => h) rfl (tyX2_ok 2 (by decide)) hn hf (by show 2 < 4; decide) dg (fun H1 locs1 hP1 hD1 hS1 => kk p e s m args below meth c H1 locs1 ls C ⟨by rw [← he]; exact hP1, by rw [← he]; exact hD1⟩ hS1 hl)
theorem ok_83 : okw (.fieldLink RX2 18 RX2 "allSplays" "I") := ⟨List.mem_of_getElem? (i := 83) (by decide +kernel), by decide +kernel⟩
/-- getfield allSplays of SplaySequence$Splayer -/
theorem gf_RX2_18 {o : Option Nat} {a : Nat} (dg : decode M.2.1 pc = .ok (.getfield 18, 3)) (hM : M.1.cls = RX2) (ho : o = some a) (hk : isK ((L, K, AN, R0), (Rc, Ic, AIc, AR), (Im, AIm), AL) 2 a) (kk : WP G M Q k n (pc + 3) lv (vi (Ic 6 a) :: st) ((L, K, AN, R0), (Rc, Ic, AIc, AR), (Im, AIm), AL)) : WP G M Q k n pc lv (vr o :: st) ((L, K, AN, R0), (Rc, Ic, AIc, AR), (Im, AIm), AL) := by
  subst ho
  intro p e s m args below meth c H locs ls C hh hS hl
  obtain ⟨j, hj⟩ := pool_at G.2.2.2.1 hk.1
  rw [cl_2 _ hk.2] at hj
  have hown := C.2.2.2.2.2.1
  rw [hM] at hown
  exact va_get (C := RX2) (T := TX2) (N := 4) (Ts := wsX20) C.1 C.2.1 (fun w h => cx_ok C (gd_2 w h)) (fun _ h => h) hown (cx_K C) hh.1 j hj rfl 3 (by decide) (cx_ok C ok_83) (fun _ h => h) rfl dg (kk p e s m args below meth c H locs ls C hh hS hl)
/-- putfield allSplays of SplaySequence$Splayer -/
theorem pf_RX2_18 {o : Option Nat} {a : Nat} {v : Int32} (dg : decode M.2.1 pc = .ok (.putfield 18, 3)) (hM : M.1.cls = RX2) (ho : o = some a) (hk : isK ((L, K, AN, R0), (Rc, Ic, AIc, AR), (Im, AIm), AL) 2 a) (kk : WP G M Q k n (pc + 3) lv st ((L, K, AN, R0), (Rc, u2 Ic 6 a v, AIc, AR), (Im, AIm), AL)) : WP G M Q k n pc lv (vi v :: vr o :: st) ((L, K, AN, R0), (Rc, Ic, AIc, AR), (Im, AIm), AL) := by
  subst ho
  intro p e s m args below meth c H locs ls C hh hS hl
  obtain ⟨j, hj⟩ := pool_at G.2.2.2.1 hk.1
  have hj2 := hj
  rw [cl_2 _ hk.2] at hj
  have hown := C.2.2.2.2.2.1
  rw [hM] at hown
  have he : (va_pl L (cE G.2.2.2.1 ((L, K, AN, R0), (Rc, Ic, AIc, AR), (Im, AIm), AL))).set j (a, .inr (2, [.int (Ic 3 a), .int (Ic 4 a), .int (Ic 5 a), .int (v)])) = va_pl L (cE G.2.2.2.1 ((L, K, AN, R0), (Rc, u2 Ic 6 a v, AIc, AR), (Im, AIm), AL)) := (va_pl_set (X := []) hh.2 hk.1 hj2).trans (va_pl_congr (cu_2_3 _ hk.2 v))
  have hn : narrow (tyX2 3) (.int v) = .int v := rfl
  have hf : fits (tyX2 3) (.int v) = true := rfl
  exact va_put (C := RX2) (T := TX2) (N := 4) (Ts := wsX20) C.1 C.2.1 (fun w h => cx_ok C (gd_2 w h)) (fun _ h => h) tyX2 tyX2_ok nmX2 hown (cx_K C) hh.1 hh.2 hS j hj rfl 3 (by decide) (cx_ok C ok_83) (fun _ h => h) rfl (tyX2_ok 3 (by decide)) hn hf (by show 3 < 4; decide) dg (fun H1 locs1 hP1 hD1 hS1 => kk p e s m args below meth c H1 locs1 ls C ⟨by rw [← he]; exact hP1, by rw [← he]; exact hD1⟩ hS1 hl)
theorem ok_102 : okw (.fieldLink RX1 9 RX1 "values" "[I") := ⟨List.mem_of_getElem? (i := 102) (by decide +kernel), by decide +kernel⟩
/-- getfield values of SplaySequence$Row -/
theorem gf_RX1_9 {o : Option Nat} {a : Nat} (dg : decode M.2.1 pc = .ok (.getfield 9, 3)) (hM : M.1.cls = RX1) (ho : o = some a) (hk : isK ((L, K, AN, R0), (Rc, Ic, AIc, AR), (Im, AIm), AL) 1 a) (kk : WP G M Q k n (pc + 3) lv (vr (R0 0 a) :: st) ((L, K, AN, R0), (Rc, Ic, AIc, AR), (Im, AIm), AL)) : WP G M Q k n pc lv (vr o :: st) ((L, K, AN, R0), (Rc, Ic, AIc, AR), (Im, AIm), AL) := by
  subst ho
  intro p e s m args below meth c H locs ls C hh hS hl
  obtain ⟨j, hj⟩ := pool_at G.2.2.2.1 hk.1
  rw [cl_1 _ hk.2] at hj
  have hown := C.2.2.2.2.2.1
  rw [hM] at hown
  exact va_get (C := RX1) (T := TX1) (N := 2) (Ts := wsX10) C.1 C.2.1 (fun w h => cx_ok C (gd_1 w h)) (fun _ h => h) hown (cx_K C) hh.1 j hj rfl 0 (by decide) (cx_ok C ok_102) (fun _ h => h) rfl dg (kk p e s m args below meth c H locs ls C hh hS hl)
/-- putfield values of SplaySequence$Row -/
theorem pf_RX1_9 {o : Option Nat} {a : Nat} {v : Option Nat} (dg : decode M.2.1 pc = .ok (.putfield 9, 3)) (hM : M.1.cls = RX1) (hI : M.1.name = "<init>") (ho : o = some a) (hk : isK ((L, K, AN, R0), (Rc, Ic, AIc, AR), (Im, AIm), AL) 1 a) (kk : WP G M Q k n (pc + 3) lv st ((L, K, AN, u2 R0 0 a v), (Rc, Ic, AIc, AR), (Im, AIm), AL)) : WP G M Q k n pc lv (vr v :: vr o :: st) ((L, K, AN, R0), (Rc, Ic, AIc, AR), (Im, AIm), AL) := by
  subst ho
  intro p e s m args below meth c H locs ls C hh hS hl
  obtain ⟨j, hj⟩ := pool_at G.2.2.2.1 hk.1
  have hj2 := hj
  rw [cl_1 _ hk.2] at hj
  have hown := C.2.2.2.2.2.1
  rw [hM] at hown
  have he : (va_pl L (cE G.2.2.2.1 ((L, K, AN, R0), (Rc, Ic, AIc, AR), (Im, AIm), AL))).set j (a, .inr (1, [va_rf (v), .int (Ic 2 a)])) = va_pl L (cE G.2.2.2.1 ((L, K, AN, u2 R0 0 a v), (Rc, Ic, AIc, AR), (Im, AIm), AL)) := (va_pl_set (X := []) hh.2 hk.1 hj2).trans (va_pl_congr (cu_1_0 _ hk.2 v))
  have hn : narrow (tyX1 0) (va_rf v) = va_rf v := by cases v <;> rfl
  have hf : fits (tyX1 0) (va_rf v) = true := by cases v <;> rfl
  exact va_putF (C := RX1) (T := TX1) (N := 2) (Ts := wsX10) C.1 C.2.1 (fun w h => cx_ok C (gd_1 w h)) (fun _ h => h) tyX1 tyX1_ok nmX1 hown (cx_K C) hh.1 hh.2 hS j hj rfl 0 (by decide) (cx_ok C ok_102) (fun _ h => h) rfl (C.2.2.2.2.2.2.1.trans hI) rfl (tyX1_ok 0 (by decide)) hn hf (by show 0 < 2; decide) dg (fun H1 locs1 hP1 hD1 hS1 => kk p e s m args below meth c H1 locs1 ls C ⟨by rw [← he]; exact hP1, by rw [← he]; exact hD1⟩ hS1 hl)
theorem ok_103 : okw (.fieldLink RX1 15 RX1 "length" "I") := ⟨List.mem_of_getElem? (i := 103) (by decide +kernel), by decide +kernel⟩
/-- getfield length of SplaySequence$Row -/
theorem gf_RX1_15 {o : Option Nat} {a : Nat} (dg : decode M.2.1 pc = .ok (.getfield 15, 3)) (hM : M.1.cls = RX1) (ho : o = some a) (hk : isK ((L, K, AN, R0), (Rc, Ic, AIc, AR), (Im, AIm), AL) 1 a) (kk : WP G M Q k n (pc + 3) lv (vi (Ic 2 a) :: st) ((L, K, AN, R0), (Rc, Ic, AIc, AR), (Im, AIm), AL)) : WP G M Q k n pc lv (vr o :: st) ((L, K, AN, R0), (Rc, Ic, AIc, AR), (Im, AIm), AL) := by
  subst ho
  intro p e s m args below meth c H locs ls C hh hS hl
  obtain ⟨j, hj⟩ := pool_at G.2.2.2.1 hk.1
  rw [cl_1 _ hk.2] at hj
  have hown := C.2.2.2.2.2.1
  rw [hM] at hown
  exact va_get (C := RX1) (T := TX1) (N := 2) (Ts := wsX10) C.1 C.2.1 (fun w h => cx_ok C (gd_1 w h)) (fun _ h => h) hown (cx_K C) hh.1 j hj rfl 1 (by decide) (cx_ok C ok_103) (fun _ h => h) rfl dg (kk p e s m args below meth c H locs ls C hh hS hl)
/-- putfield length of SplaySequence$Row -/
theorem pf_RX1_15 {o : Option Nat} {a : Nat} {v : Int32} (dg : decode M.2.1 pc = .ok (.putfield 15, 3)) (hM : M.1.cls = RX1) (ho : o = some a) (hk : isK ((L, K, AN, R0), (Rc, Ic, AIc, AR), (Im, AIm), AL) 1 a) (kk : WP G M Q k n (pc + 3) lv st ((L, K, AN, R0), (Rc, u2 Ic 2 a v, AIc, AR), (Im, AIm), AL)) : WP G M Q k n pc lv (vi v :: vr o :: st) ((L, K, AN, R0), (Rc, Ic, AIc, AR), (Im, AIm), AL) := by
  subst ho
  intro p e s m args below meth c H locs ls C hh hS hl
  obtain ⟨j, hj⟩ := pool_at G.2.2.2.1 hk.1
  have hj2 := hj
  rw [cl_1 _ hk.2] at hj
  have hown := C.2.2.2.2.2.1
  rw [hM] at hown
  have he : (va_pl L (cE G.2.2.2.1 ((L, K, AN, R0), (Rc, Ic, AIc, AR), (Im, AIm), AL))).set j (a, .inr (1, [va_rf (R0 0 a), .int (v)])) = va_pl L (cE G.2.2.2.1 ((L, K, AN, R0), (Rc, u2 Ic 2 a v, AIc, AR), (Im, AIm), AL)) := (va_pl_set (X := []) hh.2 hk.1 hj2).trans (va_pl_congr (cu_1_1 _ hk.2 v))
  have hn : narrow (tyX1 1) (.int v) = .int v := rfl
  have hf : fits (tyX1 1) (.int v) = true := rfl
  exact va_put (C := RX1) (T := TX1) (N := 2) (Ts := wsX10) C.1 C.2.1 (fun w h => cx_ok C (gd_1 w h)) (fun _ h => h) tyX1 tyX1_ok nmX1 hown (cx_K C) hh.1 hh.2 hS j hj rfl 1 (by decide) (cx_ok C ok_103) (fun _ h => h) rfl (tyX1_ok 1 (by decide)) hn hf (by show 1 < 2; decide) dg (fun H1 locs1 hP1 hD1 hS1 => kk p e s m args below meth c H1 locs1 ls C ⟨by rw [← he]; exact hP1, by rw [← he]; exact hD1⟩ hS1 hl)
theorem ok_110 : okw (.fieldLink RX4 10 RX4 "sequence" "LSplaySequence$Tree;") := ⟨List.mem_of_getElem? (i := 110) (by decide +kernel), by decide +kernel⟩
/-- getfield sequence of SplaySequence -/
theorem gf_RX4_10 {o : Option Nat} {a : Nat} (dg : decode M.2.1 pc = .ok (.getfield 10, 3)) (hM : M.1.cls = RX4) (ho : o = some a) (hk : isK ((L, K, AN, R0), (Rc, Ic, AIc, AR), (Im, AIm), AL) 4 a) (kk : WP G M Q k n (pc + 3) lv (vr (R0 1 a) :: st) ((L, K, AN, R0), (Rc, Ic, AIc, AR), (Im, AIm), AL)) : WP G M Q k n pc lv (vr o :: st) ((L, K, AN, R0), (Rc, Ic, AIc, AR), (Im, AIm), AL) := by
  subst ho
  intro p e s m args below meth c H locs ls C hh hS hl
  obtain ⟨j, hj⟩ := pool_at G.2.2.2.1 hk.1
  rw [cl_4 _ hk.2] at hj
  have hown := C.2.2.2.2.2.1
  rw [hM] at hown
  exact va_get (C := RX4) (T := TX4) (N := 8) (Ts := wsX40) C.1 C.2.1 (fun w h => cx_ok C (gd_4 w h)) (fun _ h => h) hown (cx_K C) hh.1 j hj rfl 0 (by decide) (cx_ok C ok_110) (fun _ h => h) rfl dg (kk p e s m args below meth c H locs ls C hh hS hl)
/-- putfield sequence of SplaySequence -/
theorem pf_RX4_10 {o : Option Nat} {a : Nat} {v : Option Nat} (dg : decode M.2.1 pc = .ok (.putfield 10, 3)) (hM : M.1.cls = RX4) (hI : M.1.name = "<init>") (ho : o = some a) (hk : isK ((L, K, AN, R0), (Rc, Ic, AIc, AR), (Im, AIm), AL) 4 a) (kk : WP G M Q k n (pc + 3) lv st ((L, K, AN, u2 R0 1 a v), (Rc, Ic, AIc, AR), (Im, AIm), AL)) : WP G M Q k n pc lv (vr v :: vr o :: st) ((L, K, AN, R0), (Rc, Ic, AIc, AR), (Im, AIm), AL) := by
  subst ho
  intro p e s m args below meth c H locs ls C hh hS hl
  obtain ⟨j, hj⟩ := pool_at G.2.2.2.1 hk.1
  have hj2 := hj
  rw [cl_4 _ hk.2] at hj
  have hown := C.2.2.2.2.2.1
  rw [hM] at hown
  have he : (va_pl L (cE G.2.2.2.1 ((L, K, AN, R0), (Rc, Ic, AIc, AR), (Im, AIm), AL))).set j (a, .inr (4, [va_rf (v), va_rf (R0 2 a), va_rf (R0 3 a), va_rf (R0 4 a), va_rf (R0 5 a), va_rf (R0 6 a), va_rf (R0 7 a), va_rf (R0 8 a)])) = va_pl L (cE G.2.2.2.1 ((L, K, AN, u2 R0 1 a v), (Rc, Ic, AIc, AR), (Im, AIm), AL)) := (va_pl_set (X := []) hh.2 hk.1 hj2).trans (va_pl_congr (cu_4_0 _ hk.2 v))
  have hn : narrow (tyX4 0) (va_rf v) = va_rf v := by cases v <;> rfl
  have hf : fits (tyX4 0) (va_rf v) = true := by cases v <;> rfl
  exact va_putF (C := RX4) (T := TX4) (N := 8) (Ts := wsX40) C.1 C.2.1 (fun w h => cx_ok C (gd_4 w h)) (fun _ h => h) tyX4 tyX4_ok nmX4 hown (cx_K C) hh.1 hh.2 hS j hj rfl 0 (by decide) (cx_ok C ok_110) (fun _ h => h) rfl (C.2.2.2.2.2.2.1.trans hI) rfl (tyX4_ok 0 (by decide)) hn hf (by show 0 < 8; decide) dg (fun H1 locs1 hP1 hD1 hS1 => kk p e s m args below meth c H1 locs1 ls C ⟨by rw [← he]; exact hP1, by rw [← he]; exact hD1⟩ hS1 hl)
theorem ok_111 : okw (.fieldLink RX4 16 RX4 "clipboard" "LSplaySequence$Tree;") := ⟨List.mem_of_getElem? (i := 111) (by decide +kernel), by decide +kernel⟩
/-- getfield clipboard of SplaySequence -/
theorem gf_RX4_16 {o : Option Nat} {a : Nat} (dg : decode M.2.1 pc = .ok (.getfield 16, 3)) (hM : M.1.cls = RX4) (ho : o = some a) (hk : isK ((L, K, AN, R0), (Rc, Ic, AIc, AR), (Im, AIm), AL) 4 a) (kk : WP G M Q k n (pc + 3) lv (vr (R0 2 a) :: st) ((L, K, AN, R0), (Rc, Ic, AIc, AR), (Im, AIm), AL)) : WP G M Q k n pc lv (vr o :: st) ((L, K, AN, R0), (Rc, Ic, AIc, AR), (Im, AIm), AL) := by
  subst ho
  intro p e s m args below meth c H locs ls C hh hS hl
  obtain ⟨j, hj⟩ := pool_at G.2.2.2.1 hk.1
  rw [cl_4 _ hk.2] at hj
  have hown := C.2.2.2.2.2.1
  rw [hM] at hown
  exact va_get (C := RX4) (T := TX4) (N := 8) (Ts := wsX40) C.1 C.2.1 (fun w h => cx_ok C (gd_4 w h)) (fun _ h => h) hown (cx_K C) hh.1 j hj rfl 1 (by decide) (cx_ok C ok_111) (fun _ h => h) rfl dg (kk p e s m args below meth c H locs ls C hh hS hl)
/-- putfield clipboard of SplaySequence -/
theorem pf_RX4_16 {o : Option Nat} {a : Nat} {v : Option Nat} (dg : decode M.2.1 pc = .ok (.putfield 16, 3)) (hM : M.1.cls = RX4) (hI : M.1.name = "<init>") (ho : o = some a) (hk : isK ((L, K, AN, R0), (Rc, Ic, AIc, AR), (Im, AIm), AL) 4 a) (kk : WP G M Q k n (pc + 3) lv st ((L, K, AN, u2 R0 2 a v), (Rc, Ic, AIc, AR), (Im, AIm), AL)) : WP G M Q k n pc lv (vr v :: vr o :: st) ((L, K, AN, R0), (Rc, Ic, AIc, AR), (Im, AIm), AL) := by
  subst ho
  intro p e s m args below meth c H locs ls C hh hS hl
  obtain ⟨j, hj⟩ := pool_at G.2.2.2.1 hk.1
  have hj2 := hj
  rw [cl_4 _ hk.2] at hj
  have hown := C.2.2.2.2.2.1
  rw [hM] at hown
  have he : (va_pl L (cE G.2.2.2.1 ((L, K, AN, R0), (Rc, Ic, AIc, AR), (Im, AIm), AL))).set j (a, .inr (4, [va_rf (R0 1 a), va_rf (v), va_rf (R0 3 a), va_rf (R0 4 a), va_rf (R0 5 a), va_rf (R0 6 a), va_rf (R0 7 a), va_rf (R0 8 a)])) = va_pl L (cE G.2.2.2.1 ((L, K, AN, u2 R0 2 a v), (Rc, Ic, AIc, AR), (Im, AIm), AL)) := (va_pl_set (X := []) hh.2 hk.1 hj2).trans (va_pl_congr (cu_4_1 _ hk.2 v))
  have hn : narrow (tyX4 1) (va_rf v) = va_rf v := by cases v <;> rfl
  have hf : fits (tyX4 1) (va_rf v) = true := by cases v <;> rfl
  exact va_putF (C := RX4) (T := TX4) (N := 8) (Ts := wsX40) C.1 C.2.1 (fun w h => cx_ok C (gd_4 w h)) (fun _ h => h) tyX4 tyX4_ok nmX4 hown (cx_K C) hh.1 hh.2 hS j hj rfl 1 (by decide) (cx_ok C ok_111) (fun _ h => h) rfl (C.2.2.2.2.2.2.1.trans hI) rfl (tyX4_ok 1 (by decide)) hn hf (by show 1 < 8; decide) dg (fun H1 locs1 hP1 hD1 hS1 => kk p e s m args below meth c H1 locs1 ls C ⟨by rw [← he]; exact hP1, by rw [← he]; exact hD1⟩ hS1 hl)
theorem ok_112 : okw (.fieldLink RX4 19 RX4 "range" "LSplaySequence$Tree;") := ⟨List.mem_of_getElem? (i := 112) (by decide +kernel), by decide +kernel⟩
/-- getfield range of SplaySequence -/
theorem gf_RX4_19 {o : Option Nat} {a : Nat} (dg : decode M.2.1 pc = .ok (.getfield 19, 3)) (hM : M.1.cls = RX4) (ho : o = some a) (hk : isK ((L, K, AN, R0), (Rc, Ic, AIc, AR), (Im, AIm), AL) 4 a) (kk : WP G M Q k n (pc + 3) lv (vr (R0 3 a) :: st) ((L, K, AN, R0), (Rc, Ic, AIc, AR), (Im, AIm), AL)) : WP G M Q k n pc lv (vr o :: st) ((L, K, AN, R0), (Rc, Ic, AIc, AR), (Im, AIm), AL) := by
  subst ho
  intro p e s m args below meth c H locs ls C hh hS hl
  obtain ⟨j, hj⟩ := pool_at G.2.2.2.1 hk.1
  rw [cl_4 _ hk.2] at hj
  have hown := C.2.2.2.2.2.1
  rw [hM] at hown
  exact va_get (C := RX4) (T := TX4) (N := 8) (Ts := wsX40) C.1 C.2.1 (fun w h => cx_ok C (gd_4 w h)) (fun _ h => h) hown (cx_K C) hh.1 j hj rfl 2 (by decide) (cx_ok C ok_112) (fun _ h => h) rfl dg (kk p e s m args below meth c H locs ls C hh hS hl)
/-- putfield range of SplaySequence -/
theorem pf_RX4_19 {o : Option Nat} {a : Nat} {v : Option Nat} (dg : decode M.2.1 pc = .ok (.putfield 19, 3)) (hM : M.1.cls = RX4) (hI : M.1.name = "<init>") (ho : o = some a) (hk : isK ((L, K, AN, R0), (Rc, Ic, AIc, AR), (Im, AIm), AL) 4 a) (kk : WP G M Q k n (pc + 3) lv st ((L, K, AN, u2 R0 3 a v), (Rc, Ic, AIc, AR), (Im, AIm), AL)) : WP G M Q k n pc lv (vr v :: vr o :: st) ((L, K, AN, R0), (Rc, Ic, AIc, AR), (Im, AIm), AL) := by
  subst ho
  intro p e s m args below meth c H locs ls C hh hS hl
  obtain ⟨j, hj⟩ := pool_at G.2.2.2.1 hk.1
  have hj2 := hj
  rw [cl_4 _ hk.2] at hj
  have hown := C.2.2.2.2.2.1
  rw [hM] at hown
  have he : (va_pl L (cE G.2.2.2.1 ((L, K, AN, R0), (Rc, Ic, AIc, AR), (Im, AIm), AL))).set j (a, .inr (4, [va_rf (R0 1 a), va_rf (R0 2 a), va_rf (v), va_rf (R0 4 a), va_rf (R0 5 a), va_rf (R0 6 a), va_rf (R0 7 a), va_rf (R0 8 a)])) = va_pl L (cE G.2.2.2.1 ((L, K, AN, u2 R0 3 a v), (Rc, Ic, AIc, AR), (Im, AIm), AL)) := (va_pl_set (X := []) hh.2 hk.1 hj2).trans (va_pl_congr (cu_4_2 _ hk.2 v))
  have hn : narrow (tyX4 2) (va_rf v) = va_rf v := by cases v <;> rfl
  have hf : fits (tyX4 2) (va_rf v) = true := by cases v <;> rfl
  exact va_putF (C := RX4) (T := TX4) (N := 8) (Ts := wsX40) C.1 C.2.1 (fun w h => cx_ok C (gd_4 w h)) (fun _ h => h) tyX4 tyX4_ok nmX4 hown (cx_K C) hh.1 hh.2 hS j hj rfl 2 (by decide) (cx_ok C ok_112) (fun _ h => h) rfl (C.2.2.2.2.2.2.1.trans hI) rfl (tyX4_ok 2 (by decide)) hn hf (by show 2 < 8; decide) dg (fun H1 locs1 hP1 hD1 hS1 => kk p e s m args below meth c H1 locs1 ls C ⟨by rw [← he]; exact hP1, by rw [← he]; exact hD1⟩ hS1 hl)
theorem ok_113 : okw (.fieldLink RX4 22 RX4 "tail" "LSplaySequence$Tree;") := ⟨List.mem_of_getElem? (i := 113) (by decide +kernel), by decide +kernel⟩
/-- getfield tail of SplaySequence -/
theorem gf_RX4_22 {o : Option Nat} {a : Nat} (dg : decode M.2.1 pc = .ok (.getfield 22, 3)) (hM : M.1.cls = RX4) (ho : o = some a) (hk : isK ((L, K, AN, R0), (Rc, Ic, AIc, AR), (Im, AIm), AL) 4 a) (kk : WP G M Q k n (pc + 3) lv (vr (R0 4 a) :: st) ((L, K, AN, R0), (Rc, Ic, AIc, AR), (Im, AIm), AL)) : WP G M Q k n pc lv (vr o :: st) ((L, K, AN, R0), (Rc, Ic, AIc, AR), (Im, AIm), AL) := by
  subst ho
  intro p e s m args below meth c H locs ls C hh hS hl
  obtain ⟨j, hj⟩ := pool_at G.2.2.2.1 hk.1
  rw [cl_4 _ hk.2] at hj
  have hown := C.2.2.2.2.2.1
  rw [hM] at hown
  exact va_get (C := RX4) (T := TX4) (N := 8) (Ts := wsX40) C.1 C.2.1 (fun w h => cx_ok C (gd_4 w h)) (fun _ h => h) hown (cx_K C) hh.1 j hj rfl 3 (by decide) (cx_ok C ok_113) (fun _ h => h) rfl dg (kk p e s m args below meth c H locs ls C hh hS hl)
/-- putfield tail of SplaySequence -/
theorem pf_RX4_22 {o : Option Nat} {a : Nat} {v : Option Nat} (dg : decode M.2.1 pc = .ok (.putfield 22, 3)) (hM : M.1.cls = RX4) (hI : M.1.name = "<init>") (ho : o = some a) (hk : isK ((L, K, AN, R0), (Rc, Ic, AIc, AR), (Im, AIm), AL) 4 a) (kk : WP G M Q k n (pc + 3) lv st ((L, K, AN, u2 R0 4 a v), (Rc, Ic, AIc, AR), (Im, AIm), AL)) : WP G M Q k n pc lv (vr v :: vr o :: st) ((L, K, AN, R0), (Rc, Ic, AIc, AR), (Im, AIm), AL) := by
  subst ho
  intro p e s m args below meth c H locs ls C hh hS hl
  obtain ⟨j, hj⟩ := pool_at G.2.2.2.1 hk.1
  have hj2 := hj
  rw [cl_4 _ hk.2] at hj
  have hown := C.2.2.2.2.2.1
  rw [hM] at hown
  have he : (va_pl L (cE G.2.2.2.1 ((L, K, AN, R0), (Rc, Ic, AIc, AR), (Im, AIm), AL))).set j (a, .inr (4, [va_rf (R0 1 a), va_rf (R0 2 a), va_rf (R0 3 a), va_rf (v), va_rf (R0 5 a), va_rf (R0 6 a), va_rf (R0 7 a), va_rf (R0 8 a)])) = va_pl L (cE G.2.2.2.1 ((L, K, AN, u2 R0 4 a v), (Rc, Ic, AIc, AR), (Im, AIm), AL)) := (va_pl_set (X := []) hh.2 hk.1 hj2).trans (va_pl_congr (cu_4_3 _ hk.2 v))
  have hn : narrow (tyX4 3) (va_rf v) = va_rf v := by cases v <;> rfl
  have hf : fits (tyX4 3) (va_rf v) = true := by cases v <;> rfl
  exact va_putF (C := RX4) (T := TX4) (N := 8) (Ts := wsX40) C.1 C.2.1 (fun w h => cx_ok C (gd_4 w h)) (fun _ h => h) tyX4 tyX4_ok nmX4 hown (cx_K C) hh.1 hh.2 hS j hj rfl 3 (by decide) (cx_ok C ok_113) (fun _ h => h) rfl (C.2.2.2.2.2.2.1.trans hI) rfl (tyX4_ok 3 (by decide)) hn hf (by show 3 < 8; decide) dg (fun H1 locs1 hP1 hD1 hS1 => kk p e s m args below meth c H1 locs1 ls C ⟨by rw [← he]; exact hP1, by rw [← he]; exact hD1⟩ hS1 hl)
theorem ok_114 : okw (.fieldLink RX4 28 RX4 "splayer" "LSplaySequence$Splayer;") := ⟨List.mem_of_getElem? (i := 114) (by decide +kernel), by decide +kernel⟩
/-- getfield splayer of SplaySequence -/
theorem gf_RX4_28 {o : Option Nat} {a : Nat} (dg : decode M.2.1 pc = .ok (.getfield 28, 3)) (hM : M.1.cls = RX4) (ho : o = some a) (hk : isK ((L, K, AN, R0), (Rc, Ic, AIc, AR), (Im, AIm), AL) 4 a) (kk : WP G M Q k n (pc + 3) lv (vr (R0 5 a) :: st) ((L, K, AN, R0), (Rc, Ic, AIc, AR), (Im, AIm), AL)) : WP G M Q k n pc lv (vr o :: st) ((L, K, AN, R0), (Rc, Ic, AIc, AR), (Im, AIm), AL) := by
  subst ho
  intro p e s m args below meth c H locs ls C hh hS hl
  obtain ⟨j, hj⟩ := pool_at G.2.2.2.1 hk.1
  rw [cl_4 _ hk.2] at hj
  have hown := C.2.2.2.2.2.1
  rw [hM] at hown
  exact va_get (C := RX4) (T := TX4) (N := 8) (Ts := wsX40) C.1 C.2.1 (fun w h => cx_ok C (gd_4 w h)) (fun _ h => h) hown (cx_K C) hh.1 j hj rfl 4 (by decide) (cx_ok C ok_114) (fun _ h => h) rfl dg (kk p e s m args below meth c H locs ls C hh hS hl)
/-- putfield splayer of SplaySequence -/
theorem pf_RX4_28 {o : Option Nat} {a : Nat} {v : Option Nat} (dg : decode M.2.1 pc = .ok (.putfield 28, 3)) (hM : M.1.cls = RX4) (hI : M.1.name = "<init>") (ho : o = some a) (hk : isK ((L, K, AN, R0), (Rc, Ic, AIc, AR), (Im, AIm), AL) 4 a) (kk : WP G M Q k n (pc + 3) lv st ((L, K, AN, u2 R0 5 a v), (Rc, Ic, AIc, AR), (Im, AIm), AL)) : WP G M Q k n pc lv (vr v :: vr o :: st) ((L, K, AN, R0), (Rc, Ic, AIc, AR), (Im, AIm), AL) := by
  subst ho
  intro p e s m args below meth c H locs ls C hh hS hl
  obtain ⟨j, hj⟩ := pool_at G.2.2.2.1 hk.1
  have hj2 := hj
  rw [cl_4 _ hk.2] at hj
  have hown := C.2.2.2.2.2.1
  rw [hM] at hown
  have he : (va_pl L (cE G.2.2.2.1 ((L, K, AN, R0), (Rc, Ic, AIc, AR), (Im, AIm), AL))).set j (a, .inr (4, [va_rf (R0 1 a), va_rf (R0 2 a), va_rf (R0 3 a), va_rf (R0 4 a), va_rf (v), va_rf (R0 6 a), va_rf (R0 7 a), va_rf (R0 8 a)])) = va_pl L (cE G.2.2.2.1 ((L, K, AN, u2 R0 5 a v), (Rc, Ic, AIc, AR), (Im, AIm), AL)) := (va_pl_set (X := []) hh.2 hk.1 hj2).trans (va_pl_congr (cu_4_4 _ hk.2 v))
  have hn : narrow (tyX4 4) (va_rf v) = va_rf v := by cases v <;> rfl
  have hf : fits (tyX4 4) (va_rf v) = true := by cases v <;> rfl
  exact va_putF (C := RX4) (T := TX4) (N := 8) (Ts := wsX40) C.1 C.2.1 (fun w h => cx_ok C (gd_4 w h)) (fun _ h => h) tyX4 tyX4_ok nmX4 hown (cx_K C) hh.1 hh.2 hS j hj rfl 4 (by decide) (cx_ok C ok_114) (fun _ h => h) rfl (C.2.2.2.2.2.2.1.trans hI) rfl (tyX4_ok 4 (by decide)) hn hf (by show 4 < 8; decide) dg (fun H1 locs1 hP1 hD1 hS1 => kk p e s m args below meth c H1 locs1 ls C ⟨by rw [← he]; exact hP1, by rw [← he]; exact hD1⟩ hS1 hl)
theorem ok_115 : okw (.fieldLink RX4 34 RX4 "fingers" "[LSplaySequence$Node;") := ⟨List.mem_of_getElem? (i := 115) (by decide +kernel), by decide +kernel⟩
/-- getfield fingers of SplaySequence -/
theorem gf_RX4_34 {o : Option Nat} {a : Nat} (dg : decode M.2.1 pc = .ok (.getfield 34, 3)) (hM : M.1.cls = RX4) (ho : o = some a) (hk : isK ((L, K, AN, R0), (Rc, Ic, AIc, AR), (Im, AIm), AL) 4 a) (kk : WP G M Q k n (pc + 3) lv (vr (R0 6 a) :: st) ((L, K, AN, R0), (Rc, Ic, AIc, AR), (Im, AIm), AL)) : WP G M Q k n pc lv (vr o :: st) ((L, K, AN, R0), (Rc, Ic, AIc, AR), (Im, AIm), AL) := by
  subst ho
  intro p e s m args below meth c H locs ls C hh hS hl
  obtain ⟨j, hj⟩ := pool_at G.2.2.2.1 hk.1
  rw [cl_4 _ hk.2] at hj
  have hown := C.2.2.2.2.2.1
  rw [hM] at hown
  exact va_get (C := RX4) (T := TX4) (N := 8) (Ts := wsX40) C.1 C.2.1 (fun w h => cx_ok C (gd_4 w h)) (fun _ h => h) hown (cx_K C) hh.1 j hj rfl 5 (by decide) (cx_ok C ok_115) (fun _ h => h) rfl dg (kk p e s m args below meth c H locs ls C hh hS hl)
/-- putfield fingers of SplaySequence -/
theorem pf_RX4_34 {o : Option Nat} {a : Nat} {v : Option Nat} (dg : decode M.2.1 pc = .ok (.putfield 34, 3)) (hM : M.1.cls = RX4) (hI : M.1.name = "<init>") (ho : o = some a) (hk : isK ((L, K, AN, R0), (Rc, Ic, AIc, AR), (Im, AIm), AL) 4 a) (kk : WP G M Q k n (pc + 3) lv st ((L, K, AN, u2 R0 6 a v), (Rc, Ic, AIc, AR), (Im, AIm), AL)) : WP G M Q k n pc lv (vr v :: vr o :: st) ((L, K, AN, R0), (Rc, Ic, AIc, AR), (Im, AIm), AL) := by
  subst ho
  intro p e s m args below meth c H locs ls C hh hS hl
  obtain ⟨j, hj⟩ := pool_at G.2.2.2.1 hk.1
  have hj2 := hj
  rw [cl_4 _ hk.2] at hj
  have hown := C.2.2.2.2.2.1
  rw [hM] at hown
  have he : (va_pl L (cE G.2.2.2.1 ((L, K, AN, R0), (Rc, Ic, AIc, AR), (Im, AIm), AL))).set j (a, .inr (4, [va_rf (R0 1 a), va_rf (R0 2 a), va_rf (R0 3 a), va_rf (R0 4 a), va_rf (R0 5 a), va_rf (v), va_rf (R0 7 a), va_rf (R0 8 a)])) = va_pl L (cE G.2.2.2.1 ((L, K, AN, u2 R0 6 a v), (Rc, Ic, AIc, AR), (Im, AIm), AL)) := (va_pl_set (X := []) hh.2 hk.1 hj2).trans (va_pl_congr (cu_4_5 _ hk.2 v))
  have hn : narrow (tyX4 5) (va_rf v) = va_rf v := by cases v <;> rfl
  have hf : fits (tyX4 5) (va_rf v) = true := by cases v <;> rfl
  exact va_putF (C := RX4) (T := TX4) (N := 8) (Ts := wsX40) C.1 C.2.1 (fun w h => cx_ok C (gd_4 w h)) (fun _ h => h) tyX4 tyX4_ok nmX4 hown (cx_K C) hh.1 hh.2 hS j hj rfl 5 (by decide) (cx_ok C ok_115) (fun _ h => h) rfl (C.2.2.2.2.2.2.1.trans hI) rfl (tyX4_ok 5 (by decide)) hn hf (by show 5 < 8; decide) dg (fun H1 locs1 hP1 hD1 hS1 => kk p e s m args below meth c H1 locs1 ls C ⟨by rw [← he]; exact hP1, by rw [← he]; exact hD1⟩ hS1 hl)
theorem ok_116 : okw (.fieldLink RX4 41 RX4 "row" "LSplaySequence$Row;") := ⟨List.mem_of_getElem? (i := 116) (by decide +kernel), by decide +kernel⟩
/-- getfield row of SplaySequence -/
theorem gf_RX4_41 {o : Option Nat} {a : Nat} (dg : decode M.2.1 pc = .ok (.getfield 41, 3)) (hM : M.1.cls = RX4) (ho : o = some a) (hk : isK ((L, K, AN, R0), (Rc, Ic, AIc, AR), (Im, AIm), AL) 4 a) (kk : WP G M Q k n (pc + 3) lv (vr (R0 7 a) :: st) ((L, K, AN, R0), (Rc, Ic, AIc, AR), (Im, AIm), AL)) : WP G M Q k n pc lv (vr o :: st) ((L, K, AN, R0), (Rc, Ic, AIc, AR), (Im, AIm), AL) := by
  subst ho
  intro p e s m args below meth c H locs ls C hh hS hl
  obtain ⟨j, hj⟩ := pool_at G.2.2.2.1 hk.1
  rw [cl_4 _ hk.2] at hj
  have hown := C.2.2.2.2.2.1
  rw [hM] at hown
  exact va_get (C := RX4) (T := TX4) (N := 8) (Ts := wsX40) C.1 C.2.1 (fun w h => cx_ok C (gd_4 w h)) (fun _ h => h) hown (cx_K C) hh.1 j hj rfl 6 (by decide) (cx_ok C ok_116) (fun _ h => h) rfl dg (kk p e s m args below meth c H locs ls C hh hS hl)
/-- putfield row of SplaySequence -/
theorem pf_RX4_41 {o : Option Nat} {a : Nat} {v : Option Nat} (dg : decode M.2.1 pc = .ok (.putfield 41, 3)) (hM : M.1.cls = RX4) (hI : M.1.name = "<init>") (ho : o = some a) (hk : isK ((L, K, AN, R0), (Rc, Ic, AIc, AR), (Im, AIm), AL) 4 a) (kk : WP G M Q k n (pc + 3) lv st ((L, K, AN, u2 R0 7 a v), (Rc, Ic, AIc, AR), (Im, AIm), AL)) : WP G M Q k n pc lv (vr v :: vr o :: st) ((L, K, AN, R0), (Rc, Ic, AIc, AR), (Im, AIm), AL) := by
  subst ho
  intro p e s m args below meth c H locs ls C hh hS hl
  obtain ⟨j, hj⟩ := pool_at G.2.2.2.1 hk.1
  have hj2 := hj
  rw [cl_4 _ hk.2] at hj
  have hown := C.2.2.2.2.2.1
  rw [hM] at hown
  have he : (va_pl L (cE G.2.2.2.1 ((L, K, AN, R0), (Rc, Ic, AIc, AR), (Im, AIm), AL))).set j (a, .inr (4, [va_rf (R0 1 a), va_rf (R0 2 a), va_rf (R0 3 a), va_rf (R0 4 a), va_rf (R0 5 a), va_rf (R0 6 a), va_rf (v), va_rf (R0 8 a)])) = va_pl L (cE G.2.2.2.1 ((L, K, AN, u2 R0 7 a v), (Rc, Ic, AIc, AR), (Im, AIm), AL)) := (va_pl_set (X := []) hh.2 hk.1 hj2).trans (va_pl_congr (cu_4_6 _ hk.2 v))
  have hn : narrow (tyX4 6) (va_rf v) = va_rf v := by cases v <;> rfl
  have hf : fits (tyX4 6) (va_rf v) = true := by cases v <;> rfl
  exact va_putF (C := RX4) (T := TX4) (N := 8) (Ts := wsX40) C.1 C.2.1 (fun w h => cx_ok C (gd_4 w h)) (fun _ h => h) tyX4 tyX4_ok nmX4 hown (cx_K C) hh.1 hh.2 hS j hj rfl 6 (by decide) (cx_ok C ok_116) (fun _ h => h) rfl (C.2.2.2.2.2.2.1.trans hI) rfl (tyX4_ok 6 (by decide)) hn hf (by show 6 < 8; decide) dg (fun H1 locs1 hP1 hD1 hS1 => kk p e s m args below meth c H1 locs1 ls C ⟨by rw [← he]; exact hP1, by rw [← he]; exact hD1⟩ hS1 hl)
theorem ok_117 : okw (.fieldLink RX4 45 RX4 "clippedRow" "LSplaySequence$Row;") := ⟨List.mem_of_getElem? (i := 117) (by decide +kernel), by decide +kernel⟩
/-- getfield clippedRow of SplaySequence -/
theorem gf_RX4_45 {o : Option Nat} {a : Nat} (dg : decode M.2.1 pc = .ok (.getfield 45, 3)) (hM : M.1.cls = RX4) (ho : o = some a) (hk : isK ((L, K, AN, R0), (Rc, Ic, AIc, AR), (Im, AIm), AL) 4 a) (kk : WP G M Q k n (pc + 3) lv (vr (R0 8 a) :: st) ((L, K, AN, R0), (Rc, Ic, AIc, AR), (Im, AIm), AL)) : WP G M Q k n pc lv (vr o :: st) ((L, K, AN, R0), (Rc, Ic, AIc, AR), (Im, AIm), AL) := by
  subst ho
  intro p e s m args below meth c H locs ls C hh hS hl
  obtain ⟨j, hj⟩ := pool_at G.2.2.2.1 hk.1
  rw [cl_4 _ hk.2] at hj
  have hown := C.2.2.2.2.2.1
  rw [hM] at hown
  exact va_get (C := RX4) (T := TX4) (N := 8) (Ts := wsX40) C.1 C.2.1 (fun w h => cx_ok C (gd_4 w h)) (fun _ h => h) hown (cx_K C) hh.1 j hj rfl 7 (by decide) (cx_ok C ok_117) (fun _ h => h) rfl dg (kk p e s m args below meth c H locs ls C hh hS hl)
/-- putfield clippedRow of SplaySequence -/
theorem pf_RX4_45 {o : Option Nat} {a : Nat} {v : Option Nat} (dg : decode M.2.1 pc = .ok (.putfield 45, 3)) (hM : M.1.cls = RX4) (hI : M.1.name = "<init>") (ho : o = some a) (hk : isK ((L, K, AN, R0), (Rc, Ic, AIc, AR), (Im, AIm), AL) 4 a) (kk : WP G M Q k n (pc + 3) lv st ((L, K, AN, u2 R0 8 a v), (Rc, Ic, AIc, AR), (Im, AIm), AL)) : WP G M Q k n pc lv (vr v :: vr o :: st) ((L, K, AN, R0), (Rc, Ic, AIc, AR), (Im, AIm), AL) := by
  subst ho
  intro p e s m args below meth c H locs ls C hh hS hl
  obtain ⟨j, hj⟩ := pool_at G.2.2.2.1 hk.1
  have hj2 := hj
  rw [cl_4 _ hk.2] at hj
  have hown := C.2.2.2.2.2.1
  rw [hM] at hown
  have he : (va_pl L (cE G.2.2.2.1 ((L, K, AN, R0), (Rc, Ic, AIc, AR), (Im, AIm), AL))).set j (a, .inr (4, [va_rf (R0 1 a), va_rf (R0 2 a), va_rf (R0 3 a), va_rf (R0 4 a), va_rf (R0 5 a), va_rf (R0 6 a), va_rf (R0 7 a), va_rf (v)])) = va_pl L (cE G.2.2.2.1 ((L, K, AN, u2 R0 8 a v), (Rc, Ic, AIc, AR), (Im, AIm), AL)) := (va_pl_set (X := []) hh.2 hk.1 hj2).trans (va_pl_congr (cu_4_7 _ hk.2 v))
  have hn : narrow (tyX4 7) (va_rf v) = va_rf v := by cases v <;> rfl
  have hf : fits (tyX4 7) (va_rf v) = true := by cases v <;> rfl
  exact va_putF (C := RX4) (T := TX4) (N := 8) (Ts := wsX40) C.1 C.2.1 (fun w h => cx_ok C (gd_4 w h)) (fun _ h => h) tyX4 tyX4_ok nmX4 hown (cx_K C) hh.1 hh.2 hS j hj rfl 7 (by decide) (cx_ok C ok_117) (fun _ h => h) rfl (C.2.2.2.2.2.2.1.trans hI) rfl (tyX4_ok 7 (by decide)) hn hf (by show 7 < 8; decide) dg (fun H1 locs1 hP1 hD1 hS1 => kk p e s m args below meth c H1 locs1 ls C ⟨by rw [← he]; exact hP1, by rw [← he]; exact hD1⟩ hS1 hl)
theorem ok_373 : okw (.fieldLink RX0 20 RX0 "left" "LSplaySequence$Node;") := ⟨List.mem_of_getElem? (i := 373) (by decide +kernel), by decide +kernel⟩
/-- getfield left of SplaySequence$Node -/
theorem gf_RX0_20 {o : Option Nat} {a : Nat} (dg : decode M.2.1 pc = .ok (.getfield 20, 3)) (hM : M.1.cls = RX0) (ho : o = some a) (hk : isK ((L, K, AN, R0), (Rc, Ic, AIc, AR), (Im, AIm), AL) 0 a) (kk : WP G M Q k n (pc + 3) lv (vr (Rc 0 a) :: st) ((L, K, AN, R0), (Rc, Ic, AIc, AR), (Im, AIm), AL)) : WP G M Q k n pc lv (vr o :: st) ((L, K, AN, R0), (Rc, Ic, AIc, AR), (Im, AIm), AL) := by
  subst ho
  intro p e s m args below meth c H locs ls C hh hS hl
  obtain ⟨j, hj⟩ := pool_at G.2.2.2.1 hk.1
  rw [cl_0 _ hk.2] at hj
  have hown := C.2.2.2.2.2.1
  rw [hM] at hown
  exact va_get (C := RX0) (T := TX0) (N := 5) (Ts := wsX00) C.1 C.2.1 (fun w h => cx_ok C (gd_0 w h)) (fun _ h => h) hown (cx_K C) hh.1 j hj rfl 0 (by decide) (cx_ok C ok_373) (fun _ h => h) rfl dg (kk p e s m args below meth c H locs ls C hh hS hl)
/-- putfield left of SplaySequence$Node -/
theorem pf_RX0_20 {o : Option Nat} {a : Nat} {v : Option Nat} (dg : decode M.2.1 pc = .ok (.putfield 20, 3)) (hM : M.1.cls = RX0) (ho : o = some a) (hk : isK ((L, K, AN, R0), (Rc, Ic, AIc, AR), (Im, AIm), AL) 0 a) (kk : WP G M Q k n (pc + 3) lv st ((L, K, AN, R0), (u2 Rc 0 a v, Ic, AIc, AR), (Im, AIm), AL)) : WP G M Q k n pc lv (vr v :: vr o :: st) ((L, K, AN, R0), (Rc, Ic, AIc, AR), (Im, AIm), AL) := by
  subst ho
  intro p e s m args below meth c H locs ls C hh hS hl
  obtain ⟨j, hj⟩ := pool_at G.2.2.2.1 hk.1
  have hj2 := hj
  rw [cl_0 _ hk.2] at hj
  have hown := C.2.2.2.2.2.1
  rw [hM] at hown
  have he : (va_pl L (cE G.2.2.2.1 ((L, K, AN, R0), (Rc, Ic, AIc, AR), (Im, AIm), AL))).set j (a, .inr (0, [va_rf (v), va_rf (Rc 1 a), va_rf (Rc 2 a), .int (Ic 0 a), .int (Ic 1 a)])) = va_pl L (cE G.2.2.2.1 ((L, K, AN, R0), (u2 Rc 0 a v, Ic, AIc, AR), (Im, AIm), AL)) := (va_pl_set (X := []) hh.2 hk.1 hj2).trans (va_pl_congr (cu_0_0 _ hk.2 v))
  have hn : narrow (tyX0 0) (va_rf v) = va_rf v := by cases v <;> rfl
  have hf : fits (tyX0 0) (va_rf v) = true := by cases v <;> rfl
  exact va_put (C := RX0) (T := TX0) (N := 5) (Ts := wsX00) C.1 C.2.1 (fun w h => cx_ok C (gd_0 w h)) (fun _ h => h) tyX0 tyX0_ok nmX0 hown (cx_K C) hh.1 hh.2 hS j hj rfl 0 (by decide) (cx_ok C ok_373) (fun _ h => h) rfl (tyX0_ok 0 (by decide)) hn hf (by show 0 < 5; decide) dg (fun H1 locs1 hP1 hD1 hS1 => kk p e s m args below meth c H1 locs1 ls C ⟨by rw [← he]; exact hP1, by rw [← he]; exact hD1⟩ hS1 hl)
theorem ok_378 : okw (.fieldLink RX0 27 RX0 "right" "LSplaySequence$Node;") := ⟨List.mem_of_getElem? (i := 378) (by decide +kernel), by decide +kernel⟩
/-- getfield right of SplaySequence$Node -/
theorem gf_RX0_27 {o : Option Nat} {a : Nat} (dg : decode M.2.1 pc = .ok (.getfield 27, 3)) (hM : M.1.cls = RX0) (ho : o = some a) (hk : isK ((L, K, AN, R0), (Rc, Ic, AIc, AR), (Im, AIm), AL) 0 a) (kk : WP G M Q k n (pc + 3) lv (vr (Rc 1 a) :: st) ((L, K, AN, R0), (Rc, Ic, AIc, AR), (Im, AIm), AL)) : WP G M Q k n pc lv (vr o :: st) ((L, K, AN, R0), (Rc, Ic, AIc, AR), (Im, AIm), AL) := by
  subst ho
  intro p e s m args below meth c H locs ls C hh hS hl
  obtain ⟨j, hj⟩ := pool_at G.2.2.2.1 hk.1
  rw [cl_0 _ hk.2] at hj
  have hown := C.2.2.2.2.2.1
  rw [hM] at hown
  exact va_get (C := RX0) (T := TX0) (N := 5) (Ts := wsX00) C.1 C.2.1 (fun w h => cx_ok C (gd_0 w h)) (fun _ h => h) hown (cx_K C) hh.1 j hj rfl 1 (by decide) (cx_ok C ok_378) (fun _ h => h) rfl dg (kk p e s m args below meth c H locs ls C hh hS hl)
/-- putfield right of SplaySequence$Node -/
theorem pf_RX0_27 {o : Option Nat} {a : Nat} {v : Option Nat} (dg : decode M.2.1 pc = .ok (.putfield 27, 3)) (hM : M.1.cls = RX0) (ho : o = some a) (hk : isK ((L, K, AN, R0), (Rc, Ic, AIc, AR), (Im, AIm), AL) 0 a) (kk : WP G M Q k n (pc + 3) lv st ((L, K, AN, R0), (u2 Rc 1 a v, Ic, AIc, AR), (Im, AIm), AL)) : WP G M Q k n pc lv (vr v :: vr o :: st) ((L, K, AN, R0), (Rc, Ic, AIc, AR), (Im, AIm), AL) := by
  subst ho
  intro p e s m args below meth c H locs ls C hh hS hl
  obtain ⟨j, hj⟩ := pool_at G.2.2.2.1 hk.1
  have hj2 := hj
  rw [cl_0 _ hk.2] at hj
  have hown := C.2.2.2.2.2.1
  rw [hM] at hown
  have he : (va_pl L (cE G.2.2.2.1 ((L, K, AN, R0), (Rc, Ic, AIc, AR), (Im, AIm), AL))).set j (a, .inr (0, [va_rf (Rc 0 a), va_rf (v), va_rf (Rc 2 a), .int (Ic 0 a), .int (Ic 1 a)])) = va_pl L (cE G.2.2.2.1 ((L, K, AN, R0), (u2 Rc 1 a v, Ic, AIc, AR), (Im, AIm), AL)) := (va_pl_set (X := []) hh.2 hk.1 hj2).trans (va_pl_congr (cu_0_1 _ hk.2 v))
  have hn : narrow (tyX0 1) (va_rf v) = va_rf v := by cases v <;> rfl
  have hf : fits (tyX0 1) (va_rf v) = true := by cases v <;> rfl
  exact va_put (C := RX0) (T := TX0) (N := 5) (Ts := wsX00) C.1 C.2.1 (fun w h => cx_ok C (gd_0 w h)) (fun _ h => h) tyX0 tyX0_ok nmX0 hown (cx_K C) hh.1 hh.2 hS j hj rfl 1 (by decide) (cx_ok C ok_378) (fun _ h => h) rfl (tyX0_ok 1 (by decide)) hn hf (by show 1 < 5; decide) dg (fun H1 locs1 hP1 hD1 hS1 => kk p e s m args below meth c H1 locs1 ls C ⟨by rw [← he]; exact hP1, by rw [← he]; exact hD1⟩ hS1 hl)
theorem ok_381 : okw (.fieldLink RX0 16 RX0 "parent" "LSplaySequence$Node;") := ⟨List.mem_of_getElem? (i := 381) (by decide +kernel), by decide +kernel⟩
/-- getfield parent of SplaySequence$Node -/
theorem gf_RX0_16 {o : Option Nat} {a : Nat} (dg : decode M.2.1 pc = .ok (.getfield 16, 3)) (hM : M.1.cls = RX0) (ho : o = some a) (hk : isK ((L, K, AN, R0), (Rc, Ic, AIc, AR), (Im, AIm), AL) 0 a) (kk : WP G M Q k n (pc + 3) lv (vr (Rc 2 a) :: st) ((L, K, AN, R0), (Rc, Ic, AIc, AR), (Im, AIm), AL)) : WP G M Q k n pc lv (vr o :: st) ((L, K, AN, R0), (Rc, Ic, AIc, AR), (Im, AIm), AL) := by
  subst ho
  intro p e s m args below meth c H locs ls C hh hS hl
  obtain ⟨j, hj⟩ := pool_at G.2.2.2.1 hk.1
  rw [cl_0 _ hk.2] at hj
  have hown := C.2.2.2.2.2.1
  rw [hM] at hown
  exact va_get (C := RX0) (T := TX0) (N := 5) (Ts := wsX00) C.1 C.2.1 (fun w h => cx_ok C (gd_0 w h)) (fun _ h => h) hown (cx_K C) hh.1 j hj rfl 2 (by decide) (cx_ok C ok_381) (fun _ h => h) rfl dg (kk p e s m args below meth c H locs ls C hh hS hl)
/-- putfield parent of SplaySequence$Node -/
theorem pf_RX0_16 {o : Option Nat} {a : Nat} {v : Option Nat} (dg : decode M.2.1 pc = .ok (.putfield 16, 3)) (hM : M.1.cls = RX0) (ho : o = some a) (hk : isK ((L, K, AN, R0), (Rc, Ic, AIc, AR), (Im, AIm), AL) 0 a) (kk : WP G M Q k n (pc + 3) lv st ((L, K, AN, R0), (u2 Rc 2 a v, Ic, AIc, AR), (Im, AIm), AL)) : WP G M Q k n pc lv (vr v :: vr o :: st) ((L, K, AN, R0), (Rc, Ic, AIc, AR), (Im, AIm), AL) := by
  subst ho
  intro p e s m args below meth c H locs ls C hh hS hl
  obtain ⟨j, hj⟩ := pool_at G.2.2.2.1 hk.1
  have hj2 := hj
  rw [cl_0 _ hk.2] at hj
  have hown := C.2.2.2.2.2.1
  rw [hM] at hown
  have he : (va_pl L (cE G.2.2.2.1 ((L, K, AN, R0), (Rc, Ic, AIc, AR), (Im, AIm), AL))).set j (a, .inr (0, [va_rf (Rc 0 a), va_rf (Rc 1 a), va_rf (v), .int (Ic 0 a), .int (Ic 1 a)])) = va_pl L (cE G.2.2.2.1 ((L, K, AN, R0), (u2 Rc 2 a v, Ic, AIc, AR), (Im, AIm), AL)) := (va_pl_set (X := []) hh.2 hk.1 hj2).trans (va_pl_congr (cu_0_2 _ hk.2 v))
  have hn : narrow (tyX0 2) (va_rf v) = va_rf v := by cases v <;> rfl
  have hf : fits (tyX0 2) (va_rf v) = true := by cases v <;> rfl
  exact va_put (C := RX0) (T := TX0) (N := 5) (Ts := wsX00) C.1 C.2.1 (fun w h => cx_ok C (gd_0 w h)) (fun _ h => h) tyX0 tyX0_ok nmX0 hown (cx_K C) hh.1 hh.2 hS j hj rfl 2 (by decide) (cx_ok C ok_381) (fun _ h => h) rfl (tyX0_ok 2 (by decide)) hn hf (by show 2 < 5; decide) dg (fun H1 locs1 hP1 hD1 hS1 => kk p e s m args below meth c H1 locs1 ls C ⟨by rw [← he]; exact hP1, by rw [← he]; exact hD1⟩ hS1 hl)
theorem ok_383 : okw (.fieldLink RX0 7 RX0 "count" "I") := ⟨List.mem_of_getElem? (i := 383) (by decide +kernel), by decide +kernel⟩
/-- getfield count of SplaySequence$Node -/
theorem gf_RX0_7 {o : Option Nat} {a : Nat} (dg : decode M.2.1 pc = .ok (.getfield 7, 3)) (hM : M.1.cls = RX0) (ho : o = some a) (hk : isK ((L, K, AN, R0), (Rc, Ic, AIc, AR), (Im, AIm), AL) 0 a) (kk : WP G M Q k n (pc + 3) lv (vi (Ic 0 a) :: st) ((L, K, AN, R0), (Rc, Ic, AIc, AR), (Im, AIm), AL)) : WP G M Q k n pc lv (vr o :: st) ((L, K, AN, R0), (Rc, Ic, AIc, AR), (Im, AIm), AL) := by
  subst ho
  intro p e s m args below meth c H locs ls C hh hS hl
  obtain ⟨j, hj⟩ := pool_at G.2.2.2.1 hk.1
  rw [cl_0 _ hk.2] at hj
  have hown := C.2.2.2.2.2.1
  rw [hM] at hown
  exact va_get (C := RX0) (T := TX0) (N := 5) (Ts := wsX00) C.1 C.2.1 (fun w h => cx_ok C (gd_0 w h)) (fun _ h => h) hown (cx_K C) hh.1 j hj rfl 3 (by decide) (cx_ok C ok_383) (fun _ h => h) rfl dg (kk p e s m args below meth c H locs ls C hh hS hl)
/-- putfield count of SplaySequence$Node -/
theorem pf_RX0_7 {o : Option Nat} {a : Nat} {v : Int32} (dg : decode M.2.1 pc = .ok (.putfield 7, 3)) (hM : M.1.cls = RX0) (ho : o = some a) (hk : isK ((L, K, AN, R0), (Rc, Ic, AIc, AR), (Im, AIm), AL) 0 a) (kk : WP G M Q k n (pc + 3) lv st ((L, K, AN, R0), (Rc, u2 Ic 0 a v, AIc, AR), (Im, AIm), AL)) : WP G M Q k n pc lv (vi v :: vr o :: st) ((L, K, AN, R0), (Rc, Ic, AIc, AR), (Im, AIm), AL) := by
  subst ho
  intro p e s m args below meth c H locs ls C hh hS hl
  obtain ⟨j, hj⟩ := pool_at G.2.2.2.1 hk.1
  have hj2 := hj
  rw [cl_0 _ hk.2] at hj
  have hown := C.2.2.2.2.2.1
  rw [hM] at hown
  have he : (va_pl L (cE G.2.2.2.1 ((L, K, AN, R0), (Rc, Ic, AIc, AR), (Im, AIm), AL))).set j (a, .inr (0, [va_rf (Rc 0 a), va_rf (Rc 1 a), va_rf (Rc 2 a), .int (v), .int (Ic 1 a)])) = va_pl L (cE G.2.2.2.1 ((L, K, AN, R0), (Rc, u2 Ic 0 a v, AIc, AR), (Im, AIm), AL)) := (va_pl_set (X := []) hh.2 hk.1 hj2).trans (va_pl_congr (cu_0_3 _ hk.2 v))
  have hn : narrow (tyX0 3) (.int v) = .int v := rfl
  have hf : fits (tyX0 3) (.int v) = true := rfl
  exact va_put (C := RX0) (T := TX0) (N := 5) (Ts := wsX00) C.1 C.2.1 (fun w h => cx_ok C (gd_0 w h)) (fun _ h => h) tyX0 tyX0_ok nmX0 hown (cx_K C) hh.1 hh.2 hS j hj rfl 3 (by decide) (cx_ok C ok_383) (fun _ h => h) rfl (tyX0_ok 3 (by decide)) hn hf (by show 3 < 5; decide) dg (fun H1 locs1 hP1 hD1 hS1 => kk p e s m args below meth c H1 locs1 ls C ⟨by rw [← he]; exact hP1, by rw [← he]; exact hD1⟩ hS1 hl)
theorem ok_386 : okw (.fieldLink RX0 13 RX0 "value" "I") := ⟨List.mem_of_getElem? (i := 386) (by decide +kernel), by decide +kernel⟩
/-- getfield value of SplaySequence$Node -/
theorem gf_RX0_13 {o : Option Nat} {a : Nat} (dg : decode M.2.1 pc = .ok (.getfield 13, 3)) (hM : M.1.cls = RX0) (ho : o = some a) (hk : isK ((L, K, AN, R0), (Rc, Ic, AIc, AR), (Im, AIm), AL) 0 a) (kk : WP G M Q k n (pc + 3) lv (vi (Ic 1 a) :: st) ((L, K, AN, R0), (Rc, Ic, AIc, AR), (Im, AIm), AL)) : WP G M Q k n pc lv (vr o :: st) ((L, K, AN, R0), (Rc, Ic, AIc, AR), (Im, AIm), AL) := by
  subst ho
  intro p e s m args below meth c H locs ls C hh hS hl
  obtain ⟨j, hj⟩ := pool_at G.2.2.2.1 hk.1
  rw [cl_0 _ hk.2] at hj
  have hown := C.2.2.2.2.2.1
  rw [hM] at hown
  exact va_get (C := RX0) (T := TX0) (N := 5) (Ts := wsX00) C.1 C.2.1 (fun w h => cx_ok C (gd_0 w h)) (fun _ h => h) hown (cx_K C) hh.1 j hj rfl 4 (by decide) (cx_ok C ok_386) (fun _ h => h) rfl dg (kk p e s m args below meth c H locs ls C hh hS hl)
/-- putfield value of SplaySequence$Node -/
theorem pf_RX0_13 {o : Option Nat} {a : Nat} {v : Int32} (dg : decode M.2.1 pc = .ok (.putfield 13, 3)) (hM : M.1.cls = RX0) (ho : o = some a) (hk : isK ((L, K, AN, R0), (Rc, Ic, AIc, AR), (Im, AIm), AL) 0 a) (kk : WP G M Q k n (pc + 3) lv st ((L, K, AN, R0), (Rc, u2 Ic 1 a v, AIc, AR), (Im, AIm), AL)) : WP G M Q k n pc lv (vi v :: vr o :: st) ((L, K, AN, R0), (Rc, Ic, AIc, AR), (Im, AIm), AL) := by
  subst ho
  intro p e s m args below meth c H locs ls C hh hS hl
  obtain ⟨j, hj⟩ := pool_at G.2.2.2.1 hk.1
  have hj2 := hj
  rw [cl_0 _ hk.2] at hj
  have hown := C.2.2.2.2.2.1
  rw [hM] at hown
  have he : (va_pl L (cE G.2.2.2.1 ((L, K, AN, R0), (Rc, Ic, AIc, AR), (Im, AIm), AL))).set j (a, .inr (0, [va_rf (Rc 0 a), va_rf (Rc 1 a), va_rf (Rc 2 a), .int (Ic 0 a), .int (v)])) = va_pl L (cE G.2.2.2.1 ((L, K, AN, R0), (Rc, u2 Ic 1 a v, AIc, AR), (Im, AIm), AL)) := (va_pl_set (X := []) hh.2 hk.1 hj2).trans (va_pl_congr (cu_0_4 _ hk.2 v))
  have hn : narrow (tyX0 4) (.int v) = .int v := rfl
  have hf : fits (tyX0 4) (.int v) = true := rfl
  exact va_put (C := RX0) (T := TX0) (N := 5) (Ts := wsX00) C.1 C.2.1 (fun w h => cx_ok C (gd_0 w h)) (fun _ h => h) tyX0 tyX0_ok nmX0 hown (cx_K C) hh.1 hh.2 hS j hj rfl 4 (by decide) (cx_ok C ok_386) (fun _ h => h) rfl (tyX0_ok 4 (by decide)) hn hf (by show 4 < 5; decide) dg (fun H1 locs1 hP1 hD1 hS1 => kk p e s m args below meth c H1 locs1 ls C ⟨by rw [← he]; exact hP1, by rw [← he]; exact hD1⟩ hS1 hl)
theorem ok_656 : okw (.fieldLink RX5 39 RX5 "thrown" "I") := ⟨List.mem_of_getElem? (i := 656) (by decide +kernel), by decide +kernel⟩
/-- getfield thrown of SplaySequenceModel -/
theorem gf_RX5_39 {o : Option Nat} {a : Nat} (dg : decode M.2.1 pc = .ok (.getfield 39, 3)) (hM : M.1.cls = RX5) (ho : o = some a) (hk : isK ((L, K, AN, R0), (Rc, Ic, AIc, AR), (Im, AIm), AL) 5 a) (kk : WP G M Q k n (pc + 3) lv (vi (Im 0 a) :: st) ((L, K, AN, R0), (Rc, Ic, AIc, AR), (Im, AIm), AL)) : WP G M Q k n pc lv (vr o :: st) ((L, K, AN, R0), (Rc, Ic, AIc, AR), (Im, AIm), AL) := by
  subst ho
  intro p e s m args below meth c H locs ls C hh hS hl
  obtain ⟨j, hj⟩ := pool_at G.2.2.2.1 hk.1
  rw [cl_5 _ hk.2] at hj
  have hown := C.2.2.2.2.2.1
  rw [hM] at hown
  exact va_get (C := RX5) (T := TX5) (N := 20) (Ts := wsX50) C.1 C.2.1 (fun w h => cx_ok C (gd_5 w h)) (fun _ h => h) hown (cx_K C) hh.1 j hj rfl 0 (by decide) (cx_ok C ok_656) (fun _ h => h) rfl dg (kk p e s m args below meth c H locs ls C hh hS hl)
/-- putfield thrown of SplaySequenceModel -/
theorem pf_RX5_39 {o : Option Nat} {a : Nat} {v : Int32} (dg : decode M.2.1 pc = .ok (.putfield 39, 3)) (hM : M.1.cls = RX5) (ho : o = some a) (hk : isK ((L, K, AN, R0), (Rc, Ic, AIc, AR), (Im, AIm), AL) 5 a) (kk : WP G M Q k n (pc + 3) lv st ((L, K, AN, R0), (Rc, Ic, AIc, AR), (u2 Im 0 a v, AIm), AL)) : WP G M Q k n pc lv (vi v :: vr o :: st) ((L, K, AN, R0), (Rc, Ic, AIc, AR), (Im, AIm), AL) := by
  subst ho
  intro p e s m args below meth c H locs ls C hh hS hl
  obtain ⟨j, hj⟩ := pool_at G.2.2.2.1 hk.1
  have hj2 := hj
  rw [cl_5 _ hk.2] at hj
  have hown := C.2.2.2.2.2.1
  rw [hM] at hown
  have he : (va_pl L (cE G.2.2.2.1 ((L, K, AN, R0), (Rc, Ic, AIc, AR), (Im, AIm), AL))).set j (a, .inr (5, [.int (v), .int (Im 1 a), .int (Im 2 a), va_rf (R0 9 a), va_rf (R0 10 a), va_rf (R0 11 a), va_rf (R0 12 a), va_rf (R0 13 a), va_rf (R0 14 a), va_rf (R0 15 a), .int (Im 3 a), .int (Im 4 a), .int (Im 5 a), .int (Im 6 a), .int (Im 7 a), .int (Im 8 a), .int (Im 9 a), .int (Im 10 a), .int (Im 11 a), .int (Im 12 a)])) = va_pl L (cE G.2.2.2.1 ((L, K, AN, R0), (Rc, Ic, AIc, AR), (u2 Im 0 a v, AIm), AL)) := (va_pl_set (X := []) hh.2 hk.1 hj2).trans (va_pl_congr (cu_5_0 _ hk.2 v))
  have hn : narrow (tyX5 0) (.int v) = .int v := rfl
  have hf : fits (tyX5 0) (.int v) = true := rfl
  exact va_put (C := RX5) (T := TX5) (N := 20) (Ts := wsX50) C.1 C.2.1 (fun w h => cx_ok C (gd_5 w h)) (fun _ h => h) tyX5 tyX5_ok nmX5 hown (cx_K C) hh.1 hh.2 hS j hj rfl 0 (by decide) (cx_ok C ok_656) (fun _ h => h) rfl (tyX5_ok 0 (by decide)) hn hf (by show 0 < 20; decide) dg (fun H1 locs1 hP1 hD1 hS1 => kk p e s m args below meth c H1 locs1 ls C ⟨by rw [← he]; exact hP1, by rw [← he]; exact hD1⟩ hS1 hl)
theorem ok_657 : okw (.fieldLink RX5 9 RX5 "tree" "I") := ⟨List.mem_of_getElem? (i := 657) (by decide +kernel), by decide +kernel⟩
/-- getfield tree of SplaySequenceModel -/
theorem gf_RX5_9 {o : Option Nat} {a : Nat} (dg : decode M.2.1 pc = .ok (.getfield 9, 3)) (hM : M.1.cls = RX5) (ho : o = some a) (hk : isK ((L, K, AN, R0), (Rc, Ic, AIc, AR), (Im, AIm), AL) 5 a) (kk : WP G M Q k n (pc + 3) lv (vi (Im 1 a) :: st) ((L, K, AN, R0), (Rc, Ic, AIc, AR), (Im, AIm), AL)) : WP G M Q k n pc lv (vr o :: st) ((L, K, AN, R0), (Rc, Ic, AIc, AR), (Im, AIm), AL) := by
  subst ho
  intro p e s m args below meth c H locs ls C hh hS hl
  obtain ⟨j, hj⟩ := pool_at G.2.2.2.1 hk.1
  rw [cl_5 _ hk.2] at hj
  have hown := C.2.2.2.2.2.1
  rw [hM] at hown
  exact va_get (C := RX5) (T := TX5) (N := 20) (Ts := wsX50) C.1 C.2.1 (fun w h => cx_ok C (gd_5 w h)) (fun _ h => h) hown (cx_K C) hh.1 j hj rfl 1 (by decide) (cx_ok C ok_657) (fun _ h => h) rfl dg (kk p e s m args below meth c H locs ls C hh hS hl)
/-- putfield tree of SplaySequenceModel -/
theorem pf_RX5_9 {o : Option Nat} {a : Nat} {v : Int32} (dg : decode M.2.1 pc = .ok (.putfield 9, 3)) (hM : M.1.cls = RX5) (ho : o = some a) (hk : isK ((L, K, AN, R0), (Rc, Ic, AIc, AR), (Im, AIm), AL) 5 a) (kk : WP G M Q k n (pc + 3) lv st ((L, K, AN, R0), (Rc, Ic, AIc, AR), (u2 Im 1 a v, AIm), AL)) : WP G M Q k n pc lv (vi v :: vr o :: st) ((L, K, AN, R0), (Rc, Ic, AIc, AR), (Im, AIm), AL) := by
  subst ho
  intro p e s m args below meth c H locs ls C hh hS hl
  obtain ⟨j, hj⟩ := pool_at G.2.2.2.1 hk.1
  have hj2 := hj
  rw [cl_5 _ hk.2] at hj
  have hown := C.2.2.2.2.2.1
  rw [hM] at hown
  have he : (va_pl L (cE G.2.2.2.1 ((L, K, AN, R0), (Rc, Ic, AIc, AR), (Im, AIm), AL))).set j (a, .inr (5, [.int (Im 0 a), .int (v), .int (Im 2 a), va_rf (R0 9 a), va_rf (R0 10 a), va_rf (R0 11 a), va_rf (R0 12 a), va_rf (R0 13 a), va_rf (R0 14 a), va_rf (R0 15 a), .int (Im 3 a), .int (Im 4 a), .int (Im 5 a), .int (Im 6 a), .int (Im 7 a), .int (Im 8 a), .int (Im 9 a), .int (Im 10 a), .int (Im 11 a), .int (Im 12 a)])) = va_pl L (cE G.2.2.2.1 ((L, K, AN, R0), (Rc, Ic, AIc, AR), (u2 Im 1 a v, AIm), AL)) := (va_pl_set (X := []) hh.2 hk.1 hj2).trans (va_pl_congr (cu_5_1 _ hk.2 v))
  have hn : narrow (tyX5 1) (.int v) = .int v := rfl
  have hf : fits (tyX5 1) (.int v) = true := rfl
  exact va_put (C := RX5) (T := TX5) (N := 20) (Ts := wsX50) C.1 C.2.1 (fun w h => cx_ok C (gd_5 w h)) (fun _ h => h) tyX5 tyX5_ok nmX5 hown (cx_K C) hh.1 hh.2 hS j hj rfl 1 (by decide) (cx_ok C ok_657) (fun _ h => h) rfl (tyX5_ok 1 (by decide)) hn hf (by show 1 < 20; decide) dg (fun H1 locs1 hP1 hD1 hS1 => kk p e s m args below meth c H1 locs1 ls C ⟨by rw [← he]; exact hP1, by rw [← he]; exact hD1⟩ hS1 hl)
theorem ok_658 : okw (.fieldLink RX5 13 RX5 "clip" "I") := ⟨List.mem_of_getElem? (i := 658) (by decide +kernel), by decide +kernel⟩
/-- getfield clip of SplaySequenceModel -/
theorem gf_RX5_13 {o : Option Nat} {a : Nat} (dg : decode M.2.1 pc = .ok (.getfield 13, 3)) (hM : M.1.cls = RX5) (ho : o = some a) (hk : isK ((L, K, AN, R0), (Rc, Ic, AIc, AR), (Im, AIm), AL) 5 a) (kk : WP G M Q k n (pc + 3) lv (vi (Im 2 a) :: st) ((L, K, AN, R0), (Rc, Ic, AIc, AR), (Im, AIm), AL)) : WP G M Q k n pc lv (vr o :: st) ((L, K, AN, R0), (Rc, Ic, AIc, AR), (Im, AIm), AL) := by
  subst ho
  intro p e s m args below meth c H locs ls C hh hS hl
  obtain ⟨j, hj⟩ := pool_at G.2.2.2.1 hk.1
  rw [cl_5 _ hk.2] at hj
  have hown := C.2.2.2.2.2.1
  rw [hM] at hown
  exact va_get (C := RX5) (T := TX5) (N := 20) (Ts := wsX50) C.1 C.2.1 (fun w h => cx_ok C (gd_5 w h)) (fun _ h => h) hown (cx_K C) hh.1 j hj rfl 2 (by decide) (cx_ok C ok_658) (fun _ h => h) rfl dg (kk p e s m args below meth c H locs ls C hh hS hl)
/-- putfield clip of SplaySequenceModel -/
theorem pf_RX5_13 {o : Option Nat} {a : Nat} {v : Int32} (dg : decode M.2.1 pc = .ok (.putfield 13, 3)) (hM : M.1.cls = RX5) (ho : o = some a) (hk : isK ((L, K, AN, R0), (Rc, Ic, AIc, AR), (Im, AIm), AL) 5 a) (kk : WP G M Q k n (pc + 3) lv st ((L, K, AN, R0), (Rc, Ic, AIc, AR), (u2 Im 2 a v, AIm), AL)) : WP G M Q k n pc lv (vi v :: vr o :: st) ((L, K, AN, R0), (Rc, Ic, AIc, AR), (Im, AIm), AL) := by
  subst ho
  intro p e s m args below meth c H locs ls C hh hS hl
  obtain ⟨j, hj⟩ := pool_at G.2.2.2.1 hk.1
  have hj2 := hj
  rw [cl_5 _ hk.2] at hj
  have hown := C.2.2.2.2.2.1
  rw [hM] at hown
  have he : (va_pl L (cE G.2.2.2.1 ((L, K, AN, R0), (Rc, Ic, AIc, AR), (Im, AIm), AL))).set j (a, .inr (5, [.int (Im 0 a), .int (Im 1 a), .int (v), va_rf (R0 9 a), va_rf (R0 10 a), va_rf (R0 11 a), va_rf (R0 12 a), va_rf (R0 13 a), va_rf (R0 14 a), va_rf (R0 15 a), .int (Im 3 a), .int (Im 4 a), .int (Im 5 a), .int (Im 6 a), .int (Im 7 a), .int (Im 8 a), .int (Im 9 a), .int (Im 10 a), .int (Im 11 a), .int (Im 12 a)])) = va_pl L (cE G.2.2.2.1 ((L, K, AN, R0), (Rc, Ic, AIc, AR), (u2 Im 2 a v, AIm), AL)) := (va_pl_set (X := []) hh.2 hk.1 hj2).trans (va_pl_congr (cu_5_2 _ hk.2 v))
  have hn : narrow (tyX5 2) (.int v) = .int v := rfl
  have hf : fits (tyX5 2) (.int v) = true := rfl
  exact va_put (C := RX5) (T := TX5) (N := 20) (Ts := wsX50) C.1 C.2.1 (fun w h => cx_ok C (gd_5 w h)) (fun _ h => h) tyX5 tyX5_ok nmX5 hown (cx_K C) hh.1 hh.2 hS j hj rfl 2 (by decide) (cx_ok C ok_658) (fun _ h => h) rfl (tyX5_ok 2 (by decide)) hn hf (by show 2 < 20; decide) dg (fun H1 locs1 hP1 hD1 hS1 => kk p e s m args below meth c H1 locs1 ls C ⟨by rw [← he]; exact hP1, by rw [← he]; exact hD1⟩ hS1 hl)
theorem ok_659 : okw (.fieldLink RX5 16 RX5 "values" "[I") := ⟨List.mem_of_getElem? (i := 659) (by decide +kernel), by decide +kernel⟩
/-- getfield values of SplaySequenceModel -/
theorem gf_RX5_16 {o : Option Nat} {a : Nat} (dg : decode M.2.1 pc = .ok (.getfield 16, 3)) (hM : M.1.cls = RX5) (ho : o = some a) (hk : isK ((L, K, AN, R0), (Rc, Ic, AIc, AR), (Im, AIm), AL) 5 a) (kk : WP G M Q k n (pc + 3) lv (vr (R0 9 a) :: st) ((L, K, AN, R0), (Rc, Ic, AIc, AR), (Im, AIm), AL)) : WP G M Q k n pc lv (vr o :: st) ((L, K, AN, R0), (Rc, Ic, AIc, AR), (Im, AIm), AL) := by
  subst ho
  intro p e s m args below meth c H locs ls C hh hS hl
  obtain ⟨j, hj⟩ := pool_at G.2.2.2.1 hk.1
  rw [cl_5 _ hk.2] at hj
  have hown := C.2.2.2.2.2.1
  rw [hM] at hown
  exact va_get (C := RX5) (T := TX5) (N := 20) (Ts := wsX50) C.1 C.2.1 (fun w h => cx_ok C (gd_5 w h)) (fun _ h => h) hown (cx_K C) hh.1 j hj rfl 3 (by decide) (cx_ok C ok_659) (fun _ h => h) rfl dg (kk p e s m args below meth c H locs ls C hh hS hl)
/-- putfield values of SplaySequenceModel -/
theorem pf_RX5_16 {o : Option Nat} {a : Nat} {v : Option Nat} (dg : decode M.2.1 pc = .ok (.putfield 16, 3)) (hM : M.1.cls = RX5) (hI : M.1.name = "<init>") (ho : o = some a) (hk : isK ((L, K, AN, R0), (Rc, Ic, AIc, AR), (Im, AIm), AL) 5 a) (kk : WP G M Q k n (pc + 3) lv st ((L, K, AN, u2 R0 9 a v), (Rc, Ic, AIc, AR), (Im, AIm), AL)) : WP G M Q k n pc lv (vr v :: vr o :: st) ((L, K, AN, R0), (Rc, Ic, AIc, AR), (Im, AIm), AL) := by
  subst ho
  intro p e s m args below meth c H locs ls C hh hS hl
  obtain ⟨j, hj⟩ := pool_at G.2.2.2.1 hk.1
  have hj2 := hj
  rw [cl_5 _ hk.2] at hj
  have hown := C.2.2.2.2.2.1
  rw [hM] at hown
  have he : (va_pl L (cE G.2.2.2.1 ((L, K, AN, R0), (Rc, Ic, AIc, AR), (Im, AIm), AL))).set j (a, .inr (5, [.int (Im 0 a), .int (Im 1 a), .int (Im 2 a), va_rf (v), va_rf (R0 10 a), va_rf (R0 11 a), va_rf (R0 12 a), va_rf (R0 13 a), va_rf (R0 14 a), va_rf (R0 15 a), .int (Im 3 a), .int (Im 4 a), .int (Im 5 a), .int (Im 6 a), .int (Im 7 a), .int (Im 8 a), .int (Im 9 a), .int (Im 10 a), .int (Im 11 a), .int (Im 12 a)])) = va_pl L (cE G.2.2.2.1 ((L, K, AN, u2 R0 9 a v), (Rc, Ic, AIc, AR), (Im, AIm), AL)) := (va_pl_set (X := []) hh.2 hk.1 hj2).trans (va_pl_congr (cu_5_3 _ hk.2 v))
  have hn : narrow (tyX5 3) (va_rf v) = va_rf v := by cases v <;> rfl
  have hf : fits (tyX5 3) (va_rf v) = true := by cases v <;> rfl
  exact va_putF (C := RX5) (T := TX5) (N := 20) (Ts := wsX50) C.1 C.2.1 (fun w h => cx_ok C (gd_5 w h)) (fun _ h => h) tyX5 tyX5_ok nmX5 hown (cx_K C) hh.1 hh.2 hS j hj rfl 3 (by decide) (cx_ok C ok_659) (fun _ h => h) rfl (C.2.2.2.2.2.2.1.trans hI) rfl (tyX5_ok 3 (by decide)) hn hf (by show 3 < 20; decide) dg (fun H1 locs1 hP1 hD1 hS1 => kk p e s m args below meth c H1 locs1 ls C ⟨by rw [← he]; exact hP1, by rw [← he]; exact hD1⟩ hS1 hl)
theorem ok_660 : okw (.fieldLink RX5 20 RX5 "left" "[I") := ⟨List.mem_of_getElem? (i := 660) (by decide +kernel), by decide +kernel⟩
/-- getfield left of SplaySequenceModel -/
theorem gf_RX5_20 {o : Option Nat} {a : Nat} (dg : decode M.2.1 pc = .ok (.getfield 20, 3)) (hM : M.1.cls = RX5) (ho : o = some a) (hk : isK ((L, K, AN, R0), (Rc, Ic, AIc, AR), (Im, AIm), AL) 5 a) (kk : WP G M Q k n (pc + 3) lv (vr (R0 10 a) :: st) ((L, K, AN, R0), (Rc, Ic, AIc, AR), (Im, AIm), AL)) : WP G M Q k n pc lv (vr o :: st) ((L, K, AN, R0), (Rc, Ic, AIc, AR), (Im, AIm), AL) := by
  subst ho
  intro p e s m args below meth c H locs ls C hh hS hl
  obtain ⟨j, hj⟩ := pool_at G.2.2.2.1 hk.1
  rw [cl_5 _ hk.2] at hj
  have hown := C.2.2.2.2.2.1
  rw [hM] at hown
  exact va_get (C := RX5) (T := TX5) (N := 20) (Ts := wsX50) C.1 C.2.1 (fun w h => cx_ok C (gd_5 w h)) (fun _ h => h) hown (cx_K C) hh.1 j hj rfl 4 (by decide) (cx_ok C ok_660) (fun _ h => h) rfl dg (kk p e s m args below meth c H locs ls C hh hS hl)
/-- putfield left of SplaySequenceModel -/
theorem pf_RX5_20 {o : Option Nat} {a : Nat} {v : Option Nat} (dg : decode M.2.1 pc = .ok (.putfield 20, 3)) (hM : M.1.cls = RX5) (hI : M.1.name = "<init>") (ho : o = some a) (hk : isK ((L, K, AN, R0), (Rc, Ic, AIc, AR), (Im, AIm), AL) 5 a) (kk : WP G M Q k n (pc + 3) lv st ((L, K, AN, u2 R0 10 a v), (Rc, Ic, AIc, AR), (Im, AIm), AL)) : WP G M Q k n pc lv (vr v :: vr o :: st) ((L, K, AN, R0), (Rc, Ic, AIc, AR), (Im, AIm), AL) := by
  subst ho
  intro p e s m args below meth c H locs ls C hh hS hl
  obtain ⟨j, hj⟩ := pool_at G.2.2.2.1 hk.1
  have hj2 := hj
  rw [cl_5 _ hk.2] at hj
  have hown := C.2.2.2.2.2.1
  rw [hM] at hown
  have he : (va_pl L (cE G.2.2.2.1 ((L, K, AN, R0), (Rc, Ic, AIc, AR), (Im, AIm), AL))).set j (a, .inr (5, [.int (Im 0 a), .int (Im 1 a), .int (Im 2 a), va_rf (R0 9 a), va_rf (v), va_rf (R0 11 a), va_rf (R0 12 a), va_rf (R0 13 a), va_rf (R0 14 a), va_rf (R0 15 a), .int (Im 3 a), .int (Im 4 a), .int (Im 5 a), .int (Im 6 a), .int (Im 7 a), .int (Im 8 a), .int (Im 9 a), .int (Im 10 a), .int (Im 11 a), .int (Im 12 a)])) = va_pl L (cE G.2.2.2.1 ((L, K, AN, u2 R0 10 a v), (Rc, Ic, AIc, AR), (Im, AIm), AL)) := (va_pl_set (X := []) hh.2 hk.1 hj2).trans (va_pl_congr (cu_5_4 _ hk.2 v))
  have hn : narrow (tyX5 4) (va_rf v) = va_rf v := by cases v <;> rfl
  have hf : fits (tyX5 4) (va_rf v) = true := by cases v <;> rfl
  exact va_putF (C := RX5) (T := TX5) (N := 20) (Ts := wsX50) C.1 C.2.1 (fun w h => cx_ok C (gd_5 w h)) (fun _ h => h) tyX5 tyX5_ok nmX5 hown (cx_K C) hh.1 hh.2 hS j hj rfl 4 (by decide) (cx_ok C ok_660) (fun _ h => h) rfl (C.2.2.2.2.2.2.1.trans hI) rfl (tyX5_ok 4 (by decide)) hn hf (by show 4 < 20; decide) dg (fun H1 locs1 hP1 hD1 hS1 => kk p e s m args below meth c H1 locs1 ls C ⟨by rw [← he]; exact hP1, by rw [← he]; exact hD1⟩ hS1 hl)
theorem ok_661 : okw (.fieldLink RX5 23 RX5 "right" "[I") := ⟨List.mem_of_getElem? (i := 661) (by decide +kernel), by decide +kernel⟩
/-- getfield right of SplaySequenceModel -/
theorem gf_RX5_23 {o : Option Nat} {a : Nat} (dg : decode M.2.1 pc = .ok (.getfield 23, 3)) (hM : M.1.cls = RX5) (ho : o = some a) (hk : isK ((L, K, AN, R0), (Rc, Ic, AIc, AR), (Im, AIm), AL) 5 a) (kk : WP G M Q k n (pc + 3) lv (vr (R0 11 a) :: st) ((L, K, AN, R0), (Rc, Ic, AIc, AR), (Im, AIm), AL)) : WP G M Q k n pc lv (vr o :: st) ((L, K, AN, R0), (Rc, Ic, AIc, AR), (Im, AIm), AL) := by
  subst ho
  intro p e s m args below meth c H locs ls C hh hS hl
  obtain ⟨j, hj⟩ := pool_at G.2.2.2.1 hk.1
  rw [cl_5 _ hk.2] at hj
  have hown := C.2.2.2.2.2.1
  rw [hM] at hown
  exact va_get (C := RX5) (T := TX5) (N := 20) (Ts := wsX50) C.1 C.2.1 (fun w h => cx_ok C (gd_5 w h)) (fun _ h => h) hown (cx_K C) hh.1 j hj rfl 5 (by decide) (cx_ok C ok_661) (fun _ h => h) rfl dg (kk p e s m args below meth c H locs ls C hh hS hl)
/-- putfield right of SplaySequenceModel -/
theorem pf_RX5_23 {o : Option Nat} {a : Nat} {v : Option Nat} (dg : decode M.2.1 pc = .ok (.putfield 23, 3)) (hM : M.1.cls = RX5) (hI : M.1.name = "<init>") (ho : o = some a) (hk : isK ((L, K, AN, R0), (Rc, Ic, AIc, AR), (Im, AIm), AL) 5 a) (kk : WP G M Q k n (pc + 3) lv st ((L, K, AN, u2 R0 11 a v), (Rc, Ic, AIc, AR), (Im, AIm), AL)) : WP G M Q k n pc lv (vr v :: vr o :: st) ((L, K, AN, R0), (Rc, Ic, AIc, AR), (Im, AIm), AL) := by
  subst ho
  intro p e s m args below meth c H locs ls C hh hS hl
  obtain ⟨j, hj⟩ := pool_at G.2.2.2.1 hk.1
  have hj2 := hj
  rw [cl_5 _ hk.2] at hj
  have hown := C.2.2.2.2.2.1
  rw [hM] at hown
  have he : (va_pl L (cE G.2.2.2.1 ((L, K, AN, R0), (Rc, Ic, AIc, AR), (Im, AIm), AL))).set j (a, .inr (5, [.int (Im 0 a), .int (Im 1 a), .int (Im 2 a), va_rf (R0 9 a), va_rf (R0 10 a), va_rf (v), va_rf (R0 12 a), va_rf (R0 13 a), va_rf (R0 14 a), va_rf (R0 15 a), .int (Im 3 a), .int (Im 4 a), .int (Im 5 a), .int (Im 6 a), .int (Im 7 a), .int (Im 8 a), .int (Im 9 a), .int (Im 10 a), .int (Im 11 a), .int (Im 12 a)])) = va_pl L (cE G.2.2.2.1 ((L, K, AN, u2 R0 11 a v), (Rc, Ic, AIc, AR), (Im, AIm), AL)) := (va_pl_set (X := []) hh.2 hk.1 hj2).trans (va_pl_congr (cu_5_5 _ hk.2 v))
  have hn : narrow (tyX5 5) (va_rf v) = va_rf v := by cases v <;> rfl
  have hf : fits (tyX5 5) (va_rf v) = true := by cases v <;> rfl
  exact va_putF (C := RX5) (T := TX5) (N := 20) (Ts := wsX50) C.1 C.2.1 (fun w h => cx_ok C (gd_5 w h)) (fun _ h => h) tyX5 tyX5_ok nmX5 hown (cx_K C) hh.1 hh.2 hS j hj rfl 5 (by decide) (cx_ok C ok_661) (fun _ h => h) rfl (C.2.2.2.2.2.2.1.trans hI) rfl (tyX5_ok 5 (by decide)) hn hf (by show 5 < 20; decide) dg (fun H1 locs1 hP1 hD1 hS1 => kk p e s m args below meth c H1 locs1 ls C ⟨by rw [← he]; exact hP1, by rw [← he]; exact hD1⟩ hS1 hl)
theorem ok_662 : okw (.fieldLink RX5 26 RX5 "parent" "[I") := ⟨List.mem_of_getElem? (i := 662) (by decide +kernel), by decide +kernel⟩
/-- getfield parent of SplaySequenceModel -/
theorem gf_RX5_26 {o : Option Nat} {a : Nat} (dg : decode M.2.1 pc = .ok (.getfield 26, 3)) (hM : M.1.cls = RX5) (ho : o = some a) (hk : isK ((L, K, AN, R0), (Rc, Ic, AIc, AR), (Im, AIm), AL) 5 a) (kk : WP G M Q k n (pc + 3) lv (vr (R0 12 a) :: st) ((L, K, AN, R0), (Rc, Ic, AIc, AR), (Im, AIm), AL)) : WP G M Q k n pc lv (vr o :: st) ((L, K, AN, R0), (Rc, Ic, AIc, AR), (Im, AIm), AL) := by
  subst ho
  intro p e s m args below meth c H locs ls C hh hS hl
  obtain ⟨j, hj⟩ := pool_at G.2.2.2.1 hk.1
  rw [cl_5 _ hk.2] at hj
  have hown := C.2.2.2.2.2.1
  rw [hM] at hown
  exact va_get (C := RX5) (T := TX5) (N := 20) (Ts := wsX50) C.1 C.2.1 (fun w h => cx_ok C (gd_5 w h)) (fun _ h => h) hown (cx_K C) hh.1 j hj rfl 6 (by decide) (cx_ok C ok_662) (fun _ h => h) rfl dg (kk p e s m args below meth c H locs ls C hh hS hl)
/-- putfield parent of SplaySequenceModel -/
theorem pf_RX5_26 {o : Option Nat} {a : Nat} {v : Option Nat} (dg : decode M.2.1 pc = .ok (.putfield 26, 3)) (hM : M.1.cls = RX5) (hI : M.1.name = "<init>") (ho : o = some a) (hk : isK ((L, K, AN, R0), (Rc, Ic, AIc, AR), (Im, AIm), AL) 5 a) (kk : WP G M Q k n (pc + 3) lv st ((L, K, AN, u2 R0 12 a v), (Rc, Ic, AIc, AR), (Im, AIm), AL)) : WP G M Q k n pc lv (vr v :: vr o :: st) ((L, K, AN, R0), (Rc, Ic, AIc, AR), (Im, AIm), AL) := by
  subst ho
  intro p e s m args below meth c H locs ls C hh hS hl
  obtain ⟨j, hj⟩ := pool_at G.2.2.2.1 hk.1
  have hj2 := hj
  rw [cl_5 _ hk.2] at hj
  have hown := C.2.2.2.2.2.1
  rw [hM] at hown
  have he : (va_pl L (cE G.2.2.2.1 ((L, K, AN, R0), (Rc, Ic, AIc, AR), (Im, AIm), AL))).set j (a, .inr (5, [.int (Im 0 a), .int (Im 1 a), .int (Im 2 a), va_rf (R0 9 a), va_rf (R0 10 a), va_rf (R0 11 a), va_rf (v), va_rf (R0 13 a), va_rf (R0 14 a), va_rf (R0 15 a), .int (Im 3 a), .int (Im 4 a), .int (Im 5 a), .int (Im 6 a), .int (Im 7 a), .int (Im 8 a), .int (Im 9 a), .int (Im 10 a), .int (Im 11 a), .int (Im 12 a)])) = va_pl L (cE G.2.2.2.1 ((L, K, AN, u2 R0 12 a v), (Rc, Ic, AIc, AR), (Im, AIm), AL)) := (va_pl_set (X := []) hh.2 hk.1 hj2).trans (va_pl_congr (cu_5_6 _ hk.2 v))
  have hn : narrow (tyX5 6) (va_rf v) = va_rf v := by cases v <;> rfl
  have hf : fits (tyX5 6) (va_rf v) = true := by cases v <;> rfl
  exact va_putF (C := RX5) (T := TX5) (N := 20) (Ts := wsX50) C.1 C.2.1 (fun w h => cx_ok C (gd_5 w h)) (fun _ h => h) tyX5 tyX5_ok nmX5 hown (cx_K C) hh.1 hh.2 hS j hj rfl 6 (by decide) (cx_ok C ok_662) (fun _ h => h) rfl (C.2.2.2.2.2.2.1.trans hI) rfl (tyX5_ok 6 (by decide)) hn hf (by show 6 < 20; decide) dg (fun H1 locs1 hP1 hD1 hS1 => kk p e s m args below meth c H1 locs1 ls C ⟨by rw [← he]; exact hP1, by rw [← he]; exact hD1⟩ hS1 hl)
theorem ok_663 : okw (.fieldLink RX5 29 RX5 "isThere" "[Z") := ⟨List.mem_of_getElem? (i := 663) (by decide +kernel), by decide +kernel⟩
/-- getfield isThere of SplaySequenceModel -/
theorem gf_RX5_29 {o : Option Nat} {a : Nat} (dg : decode M.2.1 pc = .ok (.getfield 29, 3)) (hM : M.1.cls = RX5) (ho : o = some a) (hk : isK ((L, K, AN, R0), (Rc, Ic, AIc, AR), (Im, AIm), AL) 5 a) (kk : WP G M Q k n (pc + 3) lv (vr (R0 13 a) :: st) ((L, K, AN, R0), (Rc, Ic, AIc, AR), (Im, AIm), AL)) : WP G M Q k n pc lv (vr o :: st) ((L, K, AN, R0), (Rc, Ic, AIc, AR), (Im, AIm), AL) := by
  subst ho
  intro p e s m args below meth c H locs ls C hh hS hl
  obtain ⟨j, hj⟩ := pool_at G.2.2.2.1 hk.1
  rw [cl_5 _ hk.2] at hj
  have hown := C.2.2.2.2.2.1
  rw [hM] at hown
  exact va_get (C := RX5) (T := TX5) (N := 20) (Ts := wsX50) C.1 C.2.1 (fun w h => cx_ok C (gd_5 w h)) (fun _ h => h) hown (cx_K C) hh.1 j hj rfl 7 (by decide) (cx_ok C ok_663) (fun _ h => h) rfl dg (kk p e s m args below meth c H locs ls C hh hS hl)
/-- putfield isThere of SplaySequenceModel -/
theorem pf_RX5_29 {o : Option Nat} {a : Nat} {v : Option Nat} (dg : decode M.2.1 pc = .ok (.putfield 29, 3)) (hM : M.1.cls = RX5) (hI : M.1.name = "<init>") (ho : o = some a) (hk : isK ((L, K, AN, R0), (Rc, Ic, AIc, AR), (Im, AIm), AL) 5 a) (kk : WP G M Q k n (pc + 3) lv st ((L, K, AN, u2 R0 13 a v), (Rc, Ic, AIc, AR), (Im, AIm), AL)) : WP G M Q k n pc lv (vr v :: vr o :: st) ((L, K, AN, R0), (Rc, Ic, AIc, AR), (Im, AIm), AL) := by
  subst ho
  intro p e s m args below meth c H locs ls C hh hS hl
  obtain ⟨j, hj⟩ := pool_at G.2.2.2.1 hk.1
  have hj2 := hj
  rw [cl_5 _ hk.2] at hj
  have hown := C.2.2.2.2.2.1
  rw [hM] at hown
  have he : (va_pl L (cE G.2.2.2.1 ((L, K, AN, R0), (Rc, Ic, AIc, AR), (Im, AIm), AL))).set j (a, .inr (5, [.int (Im 0 a), .int (Im 1 a), .int (Im 2 a), va_rf (R0 9 a), va_rf (R0 10 a), va_rf (R0 11 a), va_rf (R0 12 a), va_rf (v), va_rf (R0 14 a), va_rf (R0 15 a), .int (Im 3 a), .int (Im 4 a), .int (Im 5 a), .int (Im 6 a), .int (Im 7 a), .int (Im 8 a), .int (Im 9 a), .int (Im 10 a), .int (Im 11 a), .int (Im 12 a)])) = va_pl L (cE G.2.2.2.1 ((L, K, AN, u2 R0 13 a v), (Rc, Ic, AIc, AR), (Im, AIm), AL)) := (va_pl_set (X := []) hh.2 hk.1 hj2).trans (va_pl_congr (cu_5_7 _ hk.2 v))
  have hn : narrow (tyX5 7) (va_rf v) = va_rf v := by cases v <;> rfl
  have hf : fits (tyX5 7) (va_rf v) = true := by cases v <;> rfl
  exact va_putF (C := RX5) (T := TX5) (N := 20) (Ts := wsX50) C.1 C.2.1 (fun w h => cx_ok C (gd_5 w h)) (fun _ h => h) tyX5 tyX5_ok nmX5 hown (cx_K C) hh.1 hh.2 hS j hj rfl 7 (by decide) (cx_ok C ok_663) (fun _ h => h) rfl (C.2.2.2.2.2.2.1.trans hI) rfl (tyX5_ok 7 (by decide)) hn hf (by show 7 < 20; decide) dg (fun H1 locs1 hP1 hD1 hS1 => kk p e s m args below meth c H1 locs1 ls C ⟨by rw [← he]; exact hP1, by rw [← he]; exact hD1⟩ hS1 hl)
theorem ok_664 : okw (.fieldLink RX5 33 RX5 "fingers" "[I") := ⟨List.mem_of_getElem? (i := 664) (by decide +kernel), by decide +kernel⟩
/-- getfield fingers of SplaySequenceModel -/
theorem gf_RX5_33 {o : Option Nat} {a : Nat} (dg : decode M.2.1 pc = .ok (.getfield 33, 3)) (hM : M.1.cls = RX5) (ho : o = some a) (hk : isK ((L, K, AN, R0), (Rc, Ic, AIc, AR), (Im, AIm), AL) 5 a) (kk : WP G M Q k n (pc + 3) lv (vr (R0 14 a) :: st) ((L, K, AN, R0), (Rc, Ic, AIc, AR), (Im, AIm), AL)) : WP G M Q k n pc lv (vr o :: st) ((L, K, AN, R0), (Rc, Ic, AIc, AR), (Im, AIm), AL) := by
  subst ho
  intro p e s m args below meth c H locs ls C hh hS hl
  obtain ⟨j, hj⟩ := pool_at G.2.2.2.1 hk.1
  rw [cl_5 _ hk.2] at hj
  have hown := C.2.2.2.2.2.1
  rw [hM] at hown
  exact va_get (C := RX5) (T := TX5) (N := 20) (Ts := wsX50) C.1 C.2.1 (fun w h => cx_ok C (gd_5 w h)) (fun _ h => h) hown (cx_K C) hh.1 j hj rfl 8 (by decide) (cx_ok C ok_664) (fun _ h => h) rfl dg (kk p e s m args below meth c H locs ls C hh hS hl)
/-- putfield fingers of SplaySequenceModel -/
theorem pf_RX5_33 {o : Option Nat} {a : Nat} {v : Option Nat} (dg : decode M.2.1 pc = .ok (.putfield 33, 3)) (hM : M.1.cls = RX5) (hI : M.1.name = "<init>") (ho : o = some a) (hk : isK ((L, K, AN, R0), (Rc, Ic, AIc, AR), (Im, AIm), AL) 5 a) (kk : WP G M Q k n (pc + 3) lv st ((L, K, AN, u2 R0 14 a v), (Rc, Ic, AIc, AR), (Im, AIm), AL)) : WP G M Q k n pc lv (vr v :: vr o :: st) ((L, K, AN, R0), (Rc, Ic, AIc, AR), (Im, AIm), AL) := by
  subst ho
  intro p e s m args below meth c H locs ls C hh hS hl
  obtain ⟨j, hj⟩ := pool_at G.2.2.2.1 hk.1
  have hj2 := hj
  rw [cl_5 _ hk.2] at hj
  have hown := C.2.2.2.2.2.1
  rw [hM] at hown
  have he : (va_pl L (cE G.2.2.2.1 ((L, K, AN, R0), (Rc, Ic, AIc, AR), (Im, AIm), AL))).set j (a, .inr (5, [.int (Im 0 a), .int (Im 1 a), .int (Im 2 a), va_rf (R0 9 a), va_rf (R0 10 a), va_rf (R0 11 a), va_rf (R0 12 a), va_rf (R0 13 a), va_rf (v), va_rf (R0 15 a), .int (Im 3 a), .int (Im 4 a), .int (Im 5 a), .int (Im 6 a), .int (Im 7 a), .int (Im 8 a), .int (Im 9 a), .int (Im 10 a), .int (Im 11 a), .int (Im 12 a)])) = va_pl L (cE G.2.2.2.1 ((L, K, AN, u2 R0 14 a v), (Rc, Ic, AIc, AR), (Im, AIm), AL)) := (va_pl_set (X := []) hh.2 hk.1 hj2).trans (va_pl_congr (cu_5_8 _ hk.2 v))
  have hn : narrow (tyX5 8) (va_rf v) = va_rf v := by cases v <;> rfl
  have hf : fits (tyX5 8) (va_rf v) = true := by cases v <;> rfl
  exact va_putF (C := RX5) (T := TX5) (N := 20) (Ts := wsX50) C.1 C.2.1 (fun w h => cx_ok C (gd_5 w h)) (fun _ h => h) tyX5 tyX5_ok nmX5 hown (cx_K C) hh.1 hh.2 hS j hj rfl 8 (by decide) (cx_ok C ok_664) (fun _ h => h) rfl (C.2.2.2.2.2.2.1.trans hI) rfl (tyX5_ok 8 (by decide)) hn hf (by show 8 < 20; decide) dg (fun H1 locs1 hP1 hD1 hS1 => kk p e s m args below meth c H1 locs1 ls C ⟨by rw [← he]; exact hP1, by rw [← he]; exact hD1⟩ hS1 hl)
theorem ok_665 : okw (.fieldLink RX5 36 RX5 "order" "[I") := ⟨List.mem_of_getElem? (i := 665) (by decide +kernel), by decide +kernel⟩
/-- getfield order of SplaySequenceModel -/
theorem gf_RX5_36 {o : Option Nat} {a : Nat} (dg : decode M.2.1 pc = .ok (.getfield 36, 3)) (hM : M.1.cls = RX5) (ho : o = some a) (hk : isK ((L, K, AN, R0), (Rc, Ic, AIc, AR), (Im, AIm), AL) 5 a) (kk : WP G M Q k n (pc + 3) lv (vr (R0 15 a) :: st) ((L, K, AN, R0), (Rc, Ic, AIc, AR), (Im, AIm), AL)) : WP G M Q k n pc lv (vr o :: st) ((L, K, AN, R0), (Rc, Ic, AIc, AR), (Im, AIm), AL) := by
  subst ho
  intro p e s m args below meth c H locs ls C hh hS hl
  obtain ⟨j, hj⟩ := pool_at G.2.2.2.1 hk.1
  rw [cl_5 _ hk.2] at hj
  have hown := C.2.2.2.2.2.1
  rw [hM] at hown
  exact va_get (C := RX5) (T := TX5) (N := 20) (Ts := wsX50) C.1 C.2.1 (fun w h => cx_ok C (gd_5 w h)) (fun _ h => h) hown (cx_K C) hh.1 j hj rfl 9 (by decide) (cx_ok C ok_665) (fun _ h => h) rfl dg (kk p e s m args below meth c H locs ls C hh hS hl)
/-- putfield order of SplaySequenceModel -/
theorem pf_RX5_36 {o : Option Nat} {a : Nat} {v : Option Nat} (dg : decode M.2.1 pc = .ok (.putfield 36, 3)) (hM : M.1.cls = RX5) (hI : M.1.name = "<init>") (ho : o = some a) (hk : isK ((L, K, AN, R0), (Rc, Ic, AIc, AR), (Im, AIm), AL) 5 a) (kk : WP G M Q k n (pc + 3) lv st ((L, K, AN, u2 R0 15 a v), (Rc, Ic, AIc, AR), (Im, AIm), AL)) : WP G M Q k n pc lv (vr v :: vr o :: st) ((L, K, AN, R0), (Rc, Ic, AIc, AR), (Im, AIm), AL) := by
  subst ho
  intro p e s m args below meth c H locs ls C hh hS hl
  obtain ⟨j, hj⟩ := pool_at G.2.2.2.1 hk.1
  have hj2 := hj
  rw [cl_5 _ hk.2] at hj
  have hown := C.2.2.2.2.2.1
  rw [hM] at hown
  have he : (va_pl L (cE G.2.2.2.1 ((L, K, AN, R0), (Rc, Ic, AIc, AR), (Im, AIm), AL))).set j (a, .inr (5, [.int (Im 0 a), .int (Im 1 a), .int (Im 2 a), va_rf (R0 9 a), va_rf (R0 10 a), va_rf (R0 11 a), va_rf (R0 12 a), va_rf (R0 13 a), va_rf (R0 14 a), va_rf (v), .int (Im 3 a), .int (Im 4 a), .int (Im 5 a), .int (Im 6 a), .int (Im 7 a), .int (Im 8 a), .int (Im 9 a), .int (Im 10 a), .int (Im 11 a), .int (Im 12 a)])) = va_pl L (cE G.2.2.2.1 ((L, K, AN, u2 R0 15 a v), (Rc, Ic, AIc, AR), (Im, AIm), AL)) := (va_pl_set (X := []) hh.2 hk.1 hj2).trans (va_pl_congr (cu_5_9 _ hk.2 v))
  have hn : narrow (tyX5 9) (va_rf v) = va_rf v := by cases v <;> rfl
  have hf : fits (tyX5 9) (va_rf v) = true := by cases v <;> rfl
  exact va_putF (C := RX5) (T := TX5) (N := 20) (Ts := wsX50) C.1 C.2.1 (fun w h => cx_ok C (gd_5 w h)) (fun _ h => h) tyX5 tyX5_ok nmX5 hown (cx_K C) hh.1 hh.2 hS j hj rfl 9 (by decide) (cx_ok C ok_665) (fun _ h => h) rfl (C.2.2.2.2.2.2.1.trans hI) rfl (tyX5_ok 9 (by decide)) hn hf (by show 9 < 20; decide) dg (fun H1 locs1 hP1 hD1 hS1 => kk p e s m args below meth c H1 locs1 ls C ⟨by rw [← he]; exact hP1, by rw [← he]; exact hD1⟩ hS1 hl)
theorem ok_666 : okw (.fieldLink RX5 46 RX5 "many" "I") := ⟨List.mem_of_getElem? (i := 666) (by decide +kernel), by decide +kernel⟩
/-- getfield many of SplaySequenceModel -/
theorem gf_RX5_46 {o : Option Nat} {a : Nat} (dg : decode M.2.1 pc = .ok (.getfield 46, 3)) (hM : M.1.cls = RX5) (ho : o = some a) (hk : isK ((L, K, AN, R0), (Rc, Ic, AIc, AR), (Im, AIm), AL) 5 a) (kk : WP G M Q k n (pc + 3) lv (vi (Im 3 a) :: st) ((L, K, AN, R0), (Rc, Ic, AIc, AR), (Im, AIm), AL)) : WP G M Q k n pc lv (vr o :: st) ((L, K, AN, R0), (Rc, Ic, AIc, AR), (Im, AIm), AL) := by
  subst ho
  intro p e s m args below meth c H locs ls C hh hS hl
  obtain ⟨j, hj⟩ := pool_at G.2.2.2.1 hk.1
  rw [cl_5 _ hk.2] at hj
  have hown := C.2.2.2.2.2.1
  rw [hM] at hown
  exact va_get (C := RX5) (T := TX5) (N := 20) (Ts := wsX50) C.1 C.2.1 (fun w h => cx_ok C (gd_5 w h)) (fun _ h => h) hown (cx_K C) hh.1 j hj rfl 10 (by decide) (cx_ok C ok_666) (fun _ h => h) rfl dg (kk p e s m args below meth c H locs ls C hh hS hl)
/-- putfield many of SplaySequenceModel -/
theorem pf_RX5_46 {o : Option Nat} {a : Nat} {v : Int32} (dg : decode M.2.1 pc = .ok (.putfield 46, 3)) (hM : M.1.cls = RX5) (ho : o = some a) (hk : isK ((L, K, AN, R0), (Rc, Ic, AIc, AR), (Im, AIm), AL) 5 a) (kk : WP G M Q k n (pc + 3) lv st ((L, K, AN, R0), (Rc, Ic, AIc, AR), (u2 Im 3 a v, AIm), AL)) : WP G M Q k n pc lv (vi v :: vr o :: st) ((L, K, AN, R0), (Rc, Ic, AIc, AR), (Im, AIm), AL) := by
  subst ho
  intro p e s m args below meth c H locs ls C hh hS hl
  obtain ⟨j, hj⟩ := pool_at G.2.2.2.1 hk.1
  have hj2 := hj
  rw [cl_5 _ hk.2] at hj
  have hown := C.2.2.2.2.2.1
  rw [hM] at hown
  have he : (va_pl L (cE G.2.2.2.1 ((L, K, AN, R0), (Rc, Ic, AIc, AR), (Im, AIm), AL))).set j (a, .inr (5, [.int (Im 0 a), .int (Im 1 a), .int (Im 2 a), va_rf (R0 9 a), va_rf (R0 10 a), va_rf (R0 11 a), va_rf (R0 12 a), va_rf (R0 13 a), va_rf (R0 14 a), va_rf (R0 15 a), .int (v), .int (Im 4 a), .int (Im 5 a), .int (Im 6 a), .int (Im 7 a), .int (Im 8 a), .int (Im 9 a), .int (Im 10 a), .int (Im 11 a), .int (Im 12 a)])) = va_pl L (cE G.2.2.2.1 ((L, K, AN, R0), (Rc, Ic, AIc, AR), (u2 Im 3 a v, AIm), AL)) := (va_pl_set (X := []) hh.2 hk.1 hj2).trans (va_pl_congr (cu_5_10 _ hk.2 v))
  have hn : narrow (tyX5 10) (.int v) = .int v := rfl
  have hf : fits (tyX5 10) (.int v) = true := rfl
  exact va_put (C := RX5) (T := TX5) (N := 20) (Ts := wsX50) C.1 C.2.1 (fun w h => cx_ok C (gd_5 w h)) (fun _ h => h) tyX5 tyX5_ok nmX5 hown (cx_K C) hh.1 hh.2 hS j hj rfl 10 (by decide) (cx_ok C ok_666) (fun _ h => h) rfl (tyX5_ok 10 (by decide)) hn hf (by show 10 < 20; decide) dg (fun H1 locs1 hP1 hD1 hS1 => kk p e s m args below meth c H1 locs1 ls C ⟨by rw [← he]; exact hP1, by rw [← he]; exact hD1⟩ hS1 hl)
theorem ok_667 : okw (.fieldLink RX5 81 RX5 "first" "I") := ⟨List.mem_of_getElem? (i := 667) (by decide +kernel), by decide +kernel⟩
/-- getfield first of SplaySequenceModel -/
theorem gf_RX5_81 {o : Option Nat} {a : Nat} (dg : decode M.2.1 pc = .ok (.getfield 81, 3)) (hM : M.1.cls = RX5) (ho : o = some a) (hk : isK ((L, K, AN, R0), (Rc, Ic, AIc, AR), (Im, AIm), AL) 5 a) (kk : WP G M Q k n (pc + 3) lv (vi (Im 4 a) :: st) ((L, K, AN, R0), (Rc, Ic, AIc, AR), (Im, AIm), AL)) : WP G M Q k n pc lv (vr o :: st) ((L, K, AN, R0), (Rc, Ic, AIc, AR), (Im, AIm), AL) := by
  subst ho
  intro p e s m args below meth c H locs ls C hh hS hl
  obtain ⟨j, hj⟩ := pool_at G.2.2.2.1 hk.1
  rw [cl_5 _ hk.2] at hj
  have hown := C.2.2.2.2.2.1
  rw [hM] at hown
  exact va_get (C := RX5) (T := TX5) (N := 20) (Ts := wsX50) C.1 C.2.1 (fun w h => cx_ok C (gd_5 w h)) (fun _ h => h) hown (cx_K C) hh.1 j hj rfl 11 (by decide) (cx_ok C ok_667) (fun _ h => h) rfl dg (kk p e s m args below meth c H locs ls C hh hS hl)
/-- putfield first of SplaySequenceModel -/
theorem pf_RX5_81 {o : Option Nat} {a : Nat} {v : Int32} (dg : decode M.2.1 pc = .ok (.putfield 81, 3)) (hM : M.1.cls = RX5) (ho : o = some a) (hk : isK ((L, K, AN, R0), (Rc, Ic, AIc, AR), (Im, AIm), AL) 5 a) (kk : WP G M Q k n (pc + 3) lv st ((L, K, AN, R0), (Rc, Ic, AIc, AR), (u2 Im 4 a v, AIm), AL)) : WP G M Q k n pc lv (vi v :: vr o :: st) ((L, K, AN, R0), (Rc, Ic, AIc, AR), (Im, AIm), AL) := by
  subst ho
  intro p e s m args below meth c H locs ls C hh hS hl
  obtain ⟨j, hj⟩ := pool_at G.2.2.2.1 hk.1
  have hj2 := hj
  rw [cl_5 _ hk.2] at hj
  have hown := C.2.2.2.2.2.1
  rw [hM] at hown
  have he : (va_pl L (cE G.2.2.2.1 ((L, K, AN, R0), (Rc, Ic, AIc, AR), (Im, AIm), AL))).set j (a, .inr (5, [.int (Im 0 a), .int (Im 1 a), .int (Im 2 a), va_rf (R0 9 a), va_rf (R0 10 a), va_rf (R0 11 a), va_rf (R0 12 a), va_rf (R0 13 a), va_rf (R0 14 a), va_rf (R0 15 a), .int (Im 3 a), .int (v), .int (Im 5 a), .int (Im 6 a), .int (Im 7 a), .int (Im 8 a), .int (Im 9 a), .int (Im 10 a), .int (Im 11 a), .int (Im 12 a)])) = va_pl L (cE G.2.2.2.1 ((L, K, AN, R0), (Rc, Ic, AIc, AR), (u2 Im 4 a v, AIm), AL)) := (va_pl_set (X := []) hh.2 hk.1 hj2).trans (va_pl_congr (cu_5_11 _ hk.2 v))
  have hn : narrow (tyX5 11) (.int v) = .int v := rfl
  have hf : fits (tyX5 11) (.int v) = true := rfl
  exact va_put (C := RX5) (T := TX5) (N := 20) (Ts := wsX50) C.1 C.2.1 (fun w h => cx_ok C (gd_5 w h)) (fun _ h => h) tyX5 tyX5_ok nmX5 hown (cx_K C) hh.1 hh.2 hS j hj rfl 11 (by decide) (cx_ok C ok_667) (fun _ h => h) rfl (tyX5_ok 11 (by decide)) hn hf (by show 11 < 20; decide) dg (fun H1 locs1 hP1 hD1 hS1 => kk p e s m args below meth c H1 locs1 ls C ⟨by rw [← he]; exact hP1, by rw [← he]; exact hD1⟩ hS1 hl)
theorem ok_668 : okw (.fieldLink RX5 84 RX5 "second" "I") := ⟨List.mem_of_getElem? (i := 668) (by decide +kernel), by decide +kernel⟩
/-- getfield second of SplaySequenceModel -/
theorem gf_RX5_84 {o : Option Nat} {a : Nat} (dg : decode M.2.1 pc = .ok (.getfield 84, 3)) (hM : M.1.cls = RX5) (ho : o = some a) (hk : isK ((L, K, AN, R0), (Rc, Ic, AIc, AR), (Im, AIm), AL) 5 a) (kk : WP G M Q k n (pc + 3) lv (vi (Im 5 a) :: st) ((L, K, AN, R0), (Rc, Ic, AIc, AR), (Im, AIm), AL)) : WP G M Q k n pc lv (vr o :: st) ((L, K, AN, R0), (Rc, Ic, AIc, AR), (Im, AIm), AL) := by
  subst ho
  intro p e s m args below meth c H locs ls C hh hS hl
  obtain ⟨j, hj⟩ := pool_at G.2.2.2.1 hk.1
  rw [cl_5 _ hk.2] at hj
  have hown := C.2.2.2.2.2.1
  rw [hM] at hown
  exact va_get (C := RX5) (T := TX5) (N := 20) (Ts := wsX50) C.1 C.2.1 (fun w h => cx_ok C (gd_5 w h)) (fun _ h => h) hown (cx_K C) hh.1 j hj rfl 12 (by decide) (cx_ok C ok_668) (fun _ h => h) rfl dg (kk p e s m args below meth c H locs ls C hh hS hl)
/-- putfield second of SplaySequenceModel -/
theorem pf_RX5_84 {o : Option Nat} {a : Nat} {v : Int32} (dg : decode M.2.1 pc = .ok (.putfield 84, 3)) (hM : M.1.cls = RX5) (ho : o = some a) (hk : isK ((L, K, AN, R0), (Rc, Ic, AIc, AR), (Im, AIm), AL) 5 a) (kk : WP G M Q k n (pc + 3) lv st ((L, K, AN, R0), (Rc, Ic, AIc, AR), (u2 Im 5 a v, AIm), AL)) : WP G M Q k n pc lv (vi v :: vr o :: st) ((L, K, AN, R0), (Rc, Ic, AIc, AR), (Im, AIm), AL) := by
  subst ho
  intro p e s m args below meth c H locs ls C hh hS hl
  obtain ⟨j, hj⟩ := pool_at G.2.2.2.1 hk.1
  have hj2 := hj
  rw [cl_5 _ hk.2] at hj
  have hown := C.2.2.2.2.2.1
  rw [hM] at hown
  have he : (va_pl L (cE G.2.2.2.1 ((L, K, AN, R0), (Rc, Ic, AIc, AR), (Im, AIm), AL))).set j (a, .inr (5, [.int (Im 0 a), .int (Im 1 a), .int (Im 2 a), va_rf (R0 9 a), va_rf (R0 10 a), va_rf (R0 11 a), va_rf (R0 12 a), va_rf (R0 13 a), va_rf (R0 14 a), va_rf (R0 15 a), .int (Im 3 a), .int (Im 4 a), .int (v), .int (Im 6 a), .int (Im 7 a), .int (Im 8 a), .int (Im 9 a), .int (Im 10 a), .int (Im 11 a), .int (Im 12 a)])) = va_pl L (cE G.2.2.2.1 ((L, K, AN, R0), (Rc, Ic, AIc, AR), (u2 Im 5 a v, AIm), AL)) := (va_pl_set (X := []) hh.2 hk.1 hj2).trans (va_pl_congr (cu_5_12 _ hk.2 v))
  have hn : narrow (tyX5 12) (.int v) = .int v := rfl
  have hf : fits (tyX5 12) (.int v) = true := rfl
  exact va_put (C := RX5) (T := TX5) (N := 20) (Ts := wsX50) C.1 C.2.1 (fun w h => cx_ok C (gd_5 w h)) (fun _ h => h) tyX5 tyX5_ok nmX5 hown (cx_K C) hh.1 hh.2 hS j hj rfl 12 (by decide) (cx_ok C ok_668) (fun _ h => h) rfl (tyX5_ok 12 (by decide)) hn hf (by show 12 < 20; decide) dg (fun H1 locs1 hP1 hD1 hS1 => kk p e s m args below meth c H1 locs1 ls C ⟨by rw [← he]; exact hP1, by rw [← he]; exact hD1⟩ hS1 hl)
theorem ok_669 : okw (.fieldLink RX5 72 RX5 "latestSteps" "I") := ⟨List.mem_of_getElem? (i := 669) (by decide +kernel), by decide +kernel⟩
/-- getfield latestSteps of SplaySequenceModel -/
theorem gf_RX5_72 {o : Option Nat} {a : Nat} (dg : decode M.2.1 pc = .ok (.getfield 72, 3)) (hM : M.1.cls = RX5) (ho : o = some a) (hk : isK ((L, K, AN, R0), (Rc, Ic, AIc, AR), (Im, AIm), AL) 5 a) (kk : WP G M Q k n (pc + 3) lv (vi (Im 6 a) :: st) ((L, K, AN, R0), (Rc, Ic, AIc, AR), (Im, AIm), AL)) : WP G M Q k n pc lv (vr o :: st) ((L, K, AN, R0), (Rc, Ic, AIc, AR), (Im, AIm), AL) := by
  subst ho
  intro p e s m args below meth c H locs ls C hh hS hl
  obtain ⟨j, hj⟩ := pool_at G.2.2.2.1 hk.1
  rw [cl_5 _ hk.2] at hj
  have hown := C.2.2.2.2.2.1
  rw [hM] at hown
  exact va_get (C := RX5) (T := TX5) (N := 20) (Ts := wsX50) C.1 C.2.1 (fun w h => cx_ok C (gd_5 w h)) (fun _ h => h) hown (cx_K C) hh.1 j hj rfl 13 (by decide) (cx_ok C ok_669) (fun _ h => h) rfl dg (kk p e s m args below meth c H locs ls C hh hS hl)
/-- putfield latestSteps of SplaySequenceModel -/
theorem pf_RX5_72 {o : Option Nat} {a : Nat} {v : Int32} (dg : decode M.2.1 pc = .ok (.putfield 72, 3)) (hM : M.1.cls = RX5) (ho : o = some a) (hk : isK ((L, K, AN, R0), (Rc, Ic, AIc, AR), (Im, AIm), AL) 5 a) (kk : WP G M Q k n (pc + 3) lv st ((L, K, AN, R0), (Rc, Ic, AIc, AR), (u2 Im 6 a v, AIm), AL)) : WP G M Q k n pc lv (vi v :: vr o :: st) ((L, K, AN, R0), (Rc, Ic, AIc, AR), (Im, AIm), AL) := by
  subst ho
  intro p e s m args below meth c H locs ls C hh hS hl
  obtain ⟨j, hj⟩ := pool_at G.2.2.2.1 hk.1
  have hj2 := hj
  rw [cl_5 _ hk.2] at hj
  have hown := C.2.2.2.2.2.1
  rw [hM] at hown
  have he : (va_pl L (cE G.2.2.2.1 ((L, K, AN, R0), (Rc, Ic, AIc, AR), (Im, AIm), AL))).set j (a, .inr (5, [.int (Im 0 a), .int (Im 1 a), .int (Im 2 a), va_rf (R0 9 a), va_rf (R0 10 a), va_rf (R0 11 a), va_rf (R0 12 a), va_rf (R0 13 a), va_rf (R0 14 a), va_rf (R0 15 a), .int (Im 3 a), .int (Im 4 a), .int (Im 5 a), .int (v), .int (Im 7 a), .int (Im 8 a), .int (Im 9 a), .int (Im 10 a), .int (Im 11 a), .int (Im 12 a)])) = va_pl L (cE G.2.2.2.1 ((L, K, AN, R0), (Rc, Ic, AIc, AR), (u2 Im 6 a v, AIm), AL)) := (va_pl_set (X := []) hh.2 hk.1 hj2).trans (va_pl_congr (cu_5_13 _ hk.2 v))
  have hn : narrow (tyX5 13) (.int v) = .int v := rfl
  have hf : fits (tyX5 13) (.int v) = true := rfl
  exact va_put (C := RX5) (T := TX5) (N := 20) (Ts := wsX50) C.1 C.2.1 (fun w h => cx_ok C (gd_5 w h)) (fun _ h => h) tyX5 tyX5_ok nmX5 hown (cx_K C) hh.1 hh.2 hS j hj rfl 13 (by decide) (cx_ok C ok_669) (fun _ h => h) rfl (tyX5_ok 13 (by decide)) hn hf (by show 13 < 20; decide) dg (fun H1 locs1 hP1 hD1 hS1 => kk p e s m args below meth c H1 locs1 ls C ⟨by rw [← he]; exact hP1, by rw [← he]; exact hD1⟩ hS1 hl)
theorem ok_670 : okw (.fieldLink RX5 63 RX5 "latestRotations" "I") := ⟨List.mem_of_getElem? (i := 670) (by decide +kernel), by decide +kernel⟩
/-- getfield latestRotations of SplaySequenceModel -/
theorem gf_RX5_63 {o : Option Nat} {a : Nat} (dg : decode M.2.1 pc = .ok (.getfield 63, 3)) (hM : M.1.cls = RX5) (ho : o = some a) (hk : isK ((L, K, AN, R0), (Rc, Ic, AIc, AR), (Im, AIm), AL) 5 a) (kk : WP G M Q k n (pc + 3) lv (vi (Im 7 a) :: st) ((L, K, AN, R0), (Rc, Ic, AIc, AR), (Im, AIm), AL)) : WP G M Q k n pc lv (vr o :: st) ((L, K, AN, R0), (Rc, Ic, AIc, AR), (Im, AIm), AL) := by
  subst ho
  intro p e s m args below meth c H locs ls C hh hS hl
  obtain ⟨j, hj⟩ := pool_at G.2.2.2.1 hk.1
  rw [cl_5 _ hk.2] at hj
  have hown := C.2.2.2.2.2.1
  rw [hM] at hown
  exact va_get (C := RX5) (T := TX5) (N := 20) (Ts := wsX50) C.1 C.2.1 (fun w h => cx_ok C (gd_5 w h)) (fun _ h => h) hown (cx_K C) hh.1 j hj rfl 14 (by decide) (cx_ok C ok_670) (fun _ h => h) rfl dg (kk p e s m args below meth c H locs ls C hh hS hl)
/-- putfield latestRotations of SplaySequenceModel -/
theorem pf_RX5_63 {o : Option Nat} {a : Nat} {v : Int32} (dg : decode M.2.1 pc = .ok (.putfield 63, 3)) (hM : M.1.cls = RX5) (ho : o = some a) (hk : isK ((L, K, AN, R0), (Rc, Ic, AIc, AR), (Im, AIm), AL) 5 a) (kk : WP G M Q k n (pc + 3) lv st ((L, K, AN, R0), (Rc, Ic, AIc, AR), (u2 Im 7 a v, AIm), AL)) : WP G M Q k n pc lv (vi v :: vr o :: st) ((L, K, AN, R0), (Rc, Ic, AIc, AR), (Im, AIm), AL) := by
  subst ho
  intro p e s m args below meth c H locs ls C hh hS hl
  obtain ⟨j, hj⟩ := pool_at G.2.2.2.1 hk.1
  have hj2 := hj
  rw [cl_5 _ hk.2] at hj
  have hown := C.2.2.2.2.2.1
  rw [hM] at hown
  have he : (va_pl L (cE G.2.2.2.1 ((L, K, AN, R0), (Rc, Ic, AIc, AR), (Im, AIm), AL))).set j (a, .inr (5, [.int (Im 0 a), .int (Im 1 a), .int (Im 2 a), va_rf (R0 9 a), va_rf (R0 10 a), va_rf (R0 11 a), va_rf (R0 12 a), va_rf (R0 13 a), va_rf (R0 14 a), va_rf (R0 15 a), .int (Im 3 a), .int (Im 4 a), .int (Im 5 a), .int (Im 6 a), .int (v), .int (Im 8 a), .int (Im 9 a), .int (Im 10 a), .int (Im 11 a), .int (Im 12 a)])) = va_pl L (cE G.2.2.2.1 ((L, K, AN, R0), (Rc, Ic, AIc, AR), (u2 Im 7 a v, AIm), AL)) := (va_pl_set (X := []) hh.2 hk.1 hj2).trans (va_pl_congr (cu_5_14 _ hk.2 v))
  have hn : narrow (tyX5 14) (.int v) = .int v := rfl
  have hf : fits (tyX5 14) (.int v) = true := rfl
  exact va_put (C := RX5) (T := TX5) (N := 20) (Ts := wsX50) C.1 C.2.1 (fun w h => cx_ok C (gd_5 w h)) (fun _ h => h) tyX5 tyX5_ok nmX5 hown (cx_K C) hh.1 hh.2 hS j hj rfl 14 (by decide) (cx_ok C ok_670) (fun _ h => h) rfl (tyX5_ok 14 (by decide)) hn hf (by show 14 < 20; decide) dg (fun H1 locs1 hP1 hD1 hS1 => kk p e s m args below meth c H1 locs1 ls C ⟨by rw [← he]; exact hP1, by rw [← he]; exact hD1⟩ hS1 hl)
theorem ok_671 : okw (.fieldLink RX5 75 RX5 "allSteps" "I") := ⟨List.mem_of_getElem? (i := 671) (by decide +kernel), by decide +kernel⟩
/-- getfield allSteps of SplaySequenceModel -/
theorem gf_RX5_75 {o : Option Nat} {a : Nat} (dg : decode M.2.1 pc = .ok (.getfield 75, 3)) (hM : M.1.cls = RX5) (ho : o = some a) (hk : isK ((L, K, AN, R0), (Rc, Ic, AIc, AR), (Im, AIm), AL) 5 a) (kk : WP G M Q k n (pc + 3) lv (vi (Im 8 a) :: st) ((L, K, AN, R0), (Rc, Ic, AIc, AR), (Im, AIm), AL)) : WP G M Q k n pc lv (vr o :: st) ((L, K, AN, R0), (Rc, Ic, AIc, AR), (Im, AIm), AL) := by
  subst ho
  intro p e s m args below meth c H locs ls C hh hS hl
  obtain ⟨j, hj⟩ := pool_at G.2.2.2.1 hk.1
  rw [cl_5 _ hk.2] at hj
  have hown := C.2.2.2.2.2.1
  rw [hM] at hown
  exact va_get (C := RX5) (T := TX5) (N := 20) (Ts := wsX50) C.1 C.2.1 (fun w h => cx_ok C (gd_5 w h)) (fun _ h => h) hown (cx_K C) hh.1 j hj rfl 15 (by decide) (cx_ok C ok_671) (fun _ h => h) rfl dg (kk p e s m args below meth c H locs ls C hh hS hl)
/-- putfield allSteps of SplaySequenceModel -/
theorem pf_RX5_75 {o : Option Nat} {a : Nat} {v : Int32} (dg : decode M.2.1 pc = .ok (.putfield 75, 3)) (hM : M.1.cls = RX5) (ho : o = some a) (hk : isK ((L, K, AN, R0), (Rc, Ic, AIc, AR), (Im, AIm), AL) 5 a) (kk : WP G M Q k n (pc + 3) lv st ((L, K, AN, R0), (Rc, Ic, AIc, AR), (u2 Im 8 a v, AIm), AL)) : WP G M Q k n pc lv (vi v :: vr o :: st) ((L, K, AN, R0), (Rc, Ic, AIc, AR), (Im, AIm), AL) := by
  subst ho
  intro p e s m args below meth c H locs ls C hh hS hl
  obtain ⟨j, hj⟩ := pool_at G.2.2.2.1 hk.1
  have hj2 := hj
  rw [cl_5 _ hk.2] at hj
  have hown := C.2.2.2.2.2.1
  rw [hM] at hown
  have he : (va_pl L (cE G.2.2.2.1 ((L, K, AN, R0), (Rc, Ic, AIc, AR), (Im, AIm), AL))).set j (a, .inr (5, [.int (Im 0 a), .int (Im 1 a), .int (Im 2 a), va_rf (R0 9 a), va_rf (R0 10 a), va_rf (R0 11 a), va_rf (R0 12 a), va_rf (R0 13 a), va_rf (R0 14 a), va_rf (R0 15 a), .int (Im 3 a), .int (Im 4 a), .int (Im 5 a), .int (Im 6 a), .int (Im 7 a), .int (v), .int (Im 9 a), .int (Im 10 a), .int (Im 11 a), .int (Im 12 a)])) = va_pl L (cE G.2.2.2.1 ((L, K, AN, R0), (Rc, Ic, AIc, AR), (u2 Im 8 a v, AIm), AL)) := (va_pl_set (X := []) hh.2 hk.1 hj2).trans (va_pl_congr (cu_5_15 _ hk.2 v))
  have hn : narrow (tyX5 15) (.int v) = .int v := rfl
  have hf : fits (tyX5 15) (.int v) = true := rfl
  exact va_put (C := RX5) (T := TX5) (N := 20) (Ts := wsX50) C.1 C.2.1 (fun w h => cx_ok C (gd_5 w h)) (fun _ h => h) tyX5 tyX5_ok nmX5 hown (cx_K C) hh.1 hh.2 hS j hj rfl 15 (by decide) (cx_ok C ok_671) (fun _ h => h) rfl (tyX5_ok 15 (by decide)) hn hf (by show 15 < 20; decide) dg (fun H1 locs1 hP1 hD1 hS1 => kk p e s m args below meth c H1 locs1 ls C ⟨by rw [← he]; exact hP1, by rw [← he]; exact hD1⟩ hS1 hl)
theorem ok_672 : okw (.fieldLink RX5 66 RX5 "allSplays" "I") := ⟨List.mem_of_getElem? (i := 672) (by decide +kernel), by decide +kernel⟩
/-- getfield allSplays of SplaySequenceModel -/
theorem gf_RX5_66 {o : Option Nat} {a : Nat} (dg : decode M.2.1 pc = .ok (.getfield 66, 3)) (hM : M.1.cls = RX5) (ho : o = some a) (hk : isK ((L, K, AN, R0), (Rc, Ic, AIc, AR), (Im, AIm), AL) 5 a) (kk : WP G M Q k n (pc + 3) lv (vi (Im 9 a) :: st) ((L, K, AN, R0), (Rc, Ic, AIc, AR), (Im, AIm), AL)) : WP G M Q k n pc lv (vr o :: st) ((L, K, AN, R0), (Rc, Ic, AIc, AR), (Im, AIm), AL) := by
  subst ho
  intro p e s m args below meth c H locs ls C hh hS hl
  obtain ⟨j, hj⟩ := pool_at G.2.2.2.1 hk.1
  rw [cl_5 _ hk.2] at hj
  have hown := C.2.2.2.2.2.1
  rw [hM] at hown
  exact va_get (C := RX5) (T := TX5) (N := 20) (Ts := wsX50) C.1 C.2.1 (fun w h => cx_ok C (gd_5 w h)) (fun _ h => h) hown (cx_K C) hh.1 j hj rfl 16 (by decide) (cx_ok C ok_672) (fun _ h => h) rfl dg (kk p e s m args below meth c H locs ls C hh hS hl)
/-- putfield allSplays of SplaySequenceModel -/
theorem pf_RX5_66 {o : Option Nat} {a : Nat} {v : Int32} (dg : decode M.2.1 pc = .ok (.putfield 66, 3)) (hM : M.1.cls = RX5) (ho : o = some a) (hk : isK ((L, K, AN, R0), (Rc, Ic, AIc, AR), (Im, AIm), AL) 5 a) (kk : WP G M Q k n (pc + 3) lv st ((L, K, AN, R0), (Rc, Ic, AIc, AR), (u2 Im 9 a v, AIm), AL)) : WP G M Q k n pc lv (vi v :: vr o :: st) ((L, K, AN, R0), (Rc, Ic, AIc, AR), (Im, AIm), AL) := by
  subst ho
  intro p e s m args below meth c H locs ls C hh hS hl
  obtain ⟨j, hj⟩ := pool_at G.2.2.2.1 hk.1
  have hj2 := hj
  rw [cl_5 _ hk.2] at hj
  have hown := C.2.2.2.2.2.1
  rw [hM] at hown
  have he : (va_pl L (cE G.2.2.2.1 ((L, K, AN, R0), (Rc, Ic, AIc, AR), (Im, AIm), AL))).set j (a, .inr (5, [.int (Im 0 a), .int (Im 1 a), .int (Im 2 a), va_rf (R0 9 a), va_rf (R0 10 a), va_rf (R0 11 a), va_rf (R0 12 a), va_rf (R0 13 a), va_rf (R0 14 a), va_rf (R0 15 a), .int (Im 3 a), .int (Im 4 a), .int (Im 5 a), .int (Im 6 a), .int (Im 7 a), .int (Im 8 a), .int (v), .int (Im 10 a), .int (Im 11 a), .int (Im 12 a)])) = va_pl L (cE G.2.2.2.1 ((L, K, AN, R0), (Rc, Ic, AIc, AR), (u2 Im 9 a v, AIm), AL)) := (va_pl_set (X := []) hh.2 hk.1 hj2).trans (va_pl_congr (cu_5_16 _ hk.2 v))
  have hn : narrow (tyX5 16) (.int v) = .int v := rfl
  have hf : fits (tyX5 16) (.int v) = true := rfl
  exact va_put (C := RX5) (T := TX5) (N := 20) (Ts := wsX50) C.1 C.2.1 (fun w h => cx_ok C (gd_5 w h)) (fun _ h => h) tyX5 tyX5_ok nmX5 hown (cx_K C) hh.1 hh.2 hS j hj rfl 16 (by decide) (cx_ok C ok_672) (fun _ h => h) rfl (tyX5_ok 16 (by decide)) hn hf (by show 16 < 20; decide) dg (fun H1 locs1 hP1 hD1 hS1 => kk p e s m args below meth c H1 locs1 ls C ⟨by rw [← he]; exact hP1, by rw [← he]; exact hD1⟩ hS1 hl)
theorem ok_673 : okw (.fieldLink RX5 124 RX5 "ahead" "I") := ⟨List.mem_of_getElem? (i := 673) (by decide +kernel), by decide +kernel⟩
/-- getfield ahead of SplaySequenceModel -/
theorem gf_RX5_124 {o : Option Nat} {a : Nat} (dg : decode M.2.1 pc = .ok (.getfield 124, 3)) (hM : M.1.cls = RX5) (ho : o = some a) (hk : isK ((L, K, AN, R0), (Rc, Ic, AIc, AR), (Im, AIm), AL) 5 a) (kk : WP G M Q k n (pc + 3) lv (vi (Im 10 a) :: st) ((L, K, AN, R0), (Rc, Ic, AIc, AR), (Im, AIm), AL)) : WP G M Q k n pc lv (vr o :: st) ((L, K, AN, R0), (Rc, Ic, AIc, AR), (Im, AIm), AL) := by
  subst ho
  intro p e s m args below meth c H locs ls C hh hS hl
  obtain ⟨j, hj⟩ := pool_at G.2.2.2.1 hk.1
  rw [cl_5 _ hk.2] at hj
  have hown := C.2.2.2.2.2.1
  rw [hM] at hown
  exact va_get (C := RX5) (T := TX5) (N := 20) (Ts := wsX50) C.1 C.2.1 (fun w h => cx_ok C (gd_5 w h)) (fun _ h => h) hown (cx_K C) hh.1 j hj rfl 17 (by decide) (cx_ok C ok_673) (fun _ h => h) rfl dg (kk p e s m args below meth c H locs ls C hh hS hl)
/-- putfield ahead of SplaySequenceModel -/
theorem pf_RX5_124 {o : Option Nat} {a : Nat} {v : Int32} (dg : decode M.2.1 pc = .ok (.putfield 124, 3)) (hM : M.1.cls = RX5) (ho : o = some a) (hk : isK ((L, K, AN, R0), (Rc, Ic, AIc, AR), (Im, AIm), AL) 5 a) (kk : WP G M Q k n (pc + 3) lv st ((L, K, AN, R0), (Rc, Ic, AIc, AR), (u2 Im 10 a v, AIm), AL)) : WP G M Q k n pc lv (vi v :: vr o :: st) ((L, K, AN, R0), (Rc, Ic, AIc, AR), (Im, AIm), AL) := by
  subst ho
  intro p e s m args below meth c H locs ls C hh hS hl
  obtain ⟨j, hj⟩ := pool_at G.2.2.2.1 hk.1
  have hj2 := hj
  rw [cl_5 _ hk.2] at hj
  have hown := C.2.2.2.2.2.1
  rw [hM] at hown
  have he : (va_pl L (cE G.2.2.2.1 ((L, K, AN, R0), (Rc, Ic, AIc, AR), (Im, AIm), AL))).set j (a, .inr (5, [.int (Im 0 a), .int (Im 1 a), .int (Im 2 a), va_rf (R0 9 a), va_rf (R0 10 a), va_rf (R0 11 a), va_rf (R0 12 a), va_rf (R0 13 a), va_rf (R0 14 a), va_rf (R0 15 a), .int (Im 3 a), .int (Im 4 a), .int (Im 5 a), .int (Im 6 a), .int (Im 7 a), .int (Im 8 a), .int (Im 9 a), .int (v), .int (Im 11 a), .int (Im 12 a)])) = va_pl L (cE G.2.2.2.1 ((L, K, AN, R0), (Rc, Ic, AIc, AR), (u2 Im 10 a v, AIm), AL)) := (va_pl_set (X := []) hh.2 hk.1 hj2).trans (va_pl_congr (cu_5_17 _ hk.2 v))
  have hn : narrow (tyX5 17) (.int v) = .int v := rfl
  have hf : fits (tyX5 17) (.int v) = true := rfl
  exact va_put (C := RX5) (T := TX5) (N := 20) (Ts := wsX50) C.1 C.2.1 (fun w h => cx_ok C (gd_5 w h)) (fun _ h => h) tyX5 tyX5_ok nmX5 hown (cx_K C) hh.1 hh.2 hS j hj rfl 17 (by decide) (cx_ok C ok_673) (fun _ h => h) rfl (tyX5_ok 17 (by decide)) hn hf (by show 17 < 20; decide) dg (fun H1 locs1 hP1 hD1 hS1 => kk p e s m args below meth c H1 locs1 ls C ⟨by rw [← he]; exact hP1, by rw [← he]; exact hD1⟩ hS1 hl)
theorem ok_674 : okw (.fieldLink RX5 127 RX5 "range" "I") := ⟨List.mem_of_getElem? (i := 674) (by decide +kernel), by decide +kernel⟩
/-- getfield range of SplaySequenceModel -/
theorem gf_RX5_127 {o : Option Nat} {a : Nat} (dg : decode M.2.1 pc = .ok (.getfield 127, 3)) (hM : M.1.cls = RX5) (ho : o = some a) (hk : isK ((L, K, AN, R0), (Rc, Ic, AIc, AR), (Im, AIm), AL) 5 a) (kk : WP G M Q k n (pc + 3) lv (vi (Im 11 a) :: st) ((L, K, AN, R0), (Rc, Ic, AIc, AR), (Im, AIm), AL)) : WP G M Q k n pc lv (vr o :: st) ((L, K, AN, R0), (Rc, Ic, AIc, AR), (Im, AIm), AL) := by
  subst ho
  intro p e s m args below meth c H locs ls C hh hS hl
  obtain ⟨j, hj⟩ := pool_at G.2.2.2.1 hk.1
  rw [cl_5 _ hk.2] at hj
  have hown := C.2.2.2.2.2.1
  rw [hM] at hown
  exact va_get (C := RX5) (T := TX5) (N := 20) (Ts := wsX50) C.1 C.2.1 (fun w h => cx_ok C (gd_5 w h)) (fun _ h => h) hown (cx_K C) hh.1 j hj rfl 18 (by decide) (cx_ok C ok_674) (fun _ h => h) rfl dg (kk p e s m args below meth c H locs ls C hh hS hl)
/-- putfield range of SplaySequenceModel -/
theorem pf_RX5_127 {o : Option Nat} {a : Nat} {v : Int32} (dg : decode M.2.1 pc = .ok (.putfield 127, 3)) (hM : M.1.cls = RX5) (ho : o = some a) (hk : isK ((L, K, AN, R0), (Rc, Ic, AIc, AR), (Im, AIm), AL) 5 a) (kk : WP G M Q k n (pc + 3) lv st ((L, K, AN, R0), (Rc, Ic, AIc, AR), (u2 Im 11 a v, AIm), AL)) : WP G M Q k n pc lv (vi v :: vr o :: st) ((L, K, AN, R0), (Rc, Ic, AIc, AR), (Im, AIm), AL) := by
  subst ho
  intro p e s m args below meth c H locs ls C hh hS hl
  obtain ⟨j, hj⟩ := pool_at G.2.2.2.1 hk.1
  have hj2 := hj
  rw [cl_5 _ hk.2] at hj
  have hown := C.2.2.2.2.2.1
  rw [hM] at hown
  have he : (va_pl L (cE G.2.2.2.1 ((L, K, AN, R0), (Rc, Ic, AIc, AR), (Im, AIm), AL))).set j (a, .inr (5, [.int (Im 0 a), .int (Im 1 a), .int (Im 2 a), va_rf (R0 9 a), va_rf (R0 10 a), va_rf (R0 11 a), va_rf (R0 12 a), va_rf (R0 13 a), va_rf (R0 14 a), va_rf (R0 15 a), .int (Im 3 a), .int (Im 4 a), .int (Im 5 a), .int (Im 6 a), .int (Im 7 a), .int (Im 8 a), .int (Im 9 a), .int (Im 10 a), .int (v), .int (Im 12 a)])) = va_pl L (cE G.2.2.2.1 ((L, K, AN, R0), (Rc, Ic, AIc, AR), (u2 Im 11 a v, AIm), AL)) := (va_pl_set (X := []) hh.2 hk.1 hj2).trans (va_pl_congr (cu_5_18 _ hk.2 v))
  have hn : narrow (tyX5 18) (.int v) = .int v := rfl
  have hf : fits (tyX5 18) (.int v) = true := rfl
  exact va_put (C := RX5) (T := TX5) (N := 20) (Ts := wsX50) C.1 C.2.1 (fun w h => cx_ok C (gd_5 w h)) (fun _ h => h) tyX5 tyX5_ok nmX5 hown (cx_K C) hh.1 hh.2 hS j hj rfl 18 (by decide) (cx_ok C ok_674) (fun _ h => h) rfl (tyX5_ok 18 (by decide)) hn hf (by show 18 < 20; decide) dg (fun H1 locs1 hP1 hD1 hS1 => kk p e s m args below meth c H1 locs1 ls C ⟨by rw [← he]; exact hP1, by rw [← he]; exact hD1⟩ hS1 hl)
theorem ok_675 : okw (.fieldLink RX5 130 RX5 "behind" "I") := ⟨List.mem_of_getElem? (i := 675) (by decide +kernel), by decide +kernel⟩
/-- getfield behind of SplaySequenceModel -/
theorem gf_RX5_130 {o : Option Nat} {a : Nat} (dg : decode M.2.1 pc = .ok (.getfield 130, 3)) (hM : M.1.cls = RX5) (ho : o = some a) (hk : isK ((L, K, AN, R0), (Rc, Ic, AIc, AR), (Im, AIm), AL) 5 a) (kk : WP G M Q k n (pc + 3) lv (vi (Im 12 a) :: st) ((L, K, AN, R0), (Rc, Ic, AIc, AR), (Im, AIm), AL)) : WP G M Q k n pc lv (vr o :: st) ((L, K, AN, R0), (Rc, Ic, AIc, AR), (Im, AIm), AL) := by
  subst ho
  intro p e s m args below meth c H locs ls C hh hS hl
  obtain ⟨j, hj⟩ := pool_at G.2.2.2.1 hk.1
  rw [cl_5 _ hk.2] at hj
  have hown := C.2.2.2.2.2.1
  rw [hM] at hown
  exact va_get (C := RX5) (T := TX5) (N := 20) (Ts := wsX50) C.1 C.2.1 (fun w h => cx_ok C (gd_5 w h)) (fun _ h => h) hown (cx_K C) hh.1 j hj rfl 19 (by decide) (cx_ok C ok_675) (fun _ h => h) rfl dg (kk p e s m args below meth c H locs ls C hh hS hl)
/-- putfield behind of SplaySequenceModel -/
theorem pf_RX5_130 {o : Option Nat} {a : Nat} {v : Int32} (dg : decode M.2.1 pc = .ok (.putfield 130, 3)) (hM : M.1.cls = RX5) (ho : o = some a) (hk : isK ((L, K, AN, R0), (Rc, Ic, AIc, AR), (Im, AIm), AL) 5 a) (kk : WP G M Q k n (pc + 3) lv st ((L, K, AN, R0), (Rc, Ic, AIc, AR), (u2 Im 12 a v, AIm), AL)) : WP G M Q k n pc lv (vi v :: vr o :: st) ((L, K, AN, R0), (Rc, Ic, AIc, AR), (Im, AIm), AL) := by
  subst ho
  intro p e s m args below meth c H locs ls C hh hS hl
  obtain ⟨j, hj⟩ := pool_at G.2.2.2.1 hk.1
  have hj2 := hj
  rw [cl_5 _ hk.2] at hj
  have hown := C.2.2.2.2.2.1
  rw [hM] at hown
  have he : (va_pl L (cE G.2.2.2.1 ((L, K, AN, R0), (Rc, Ic, AIc, AR), (Im, AIm), AL))).set j (a, .inr (5, [.int (Im 0 a), .int (Im 1 a), .int (Im 2 a), va_rf (R0 9 a), va_rf (R0 10 a), va_rf (R0 11 a), va_rf (R0 12 a), va_rf (R0 13 a), va_rf (R0 14 a), va_rf (R0 15 a), .int (Im 3 a), .int (Im 4 a), .int (Im 5 a), .int (Im 6 a), .int (Im 7 a), .int (Im 8 a), .int (Im 9 a), .int (Im 10 a), .int (Im 11 a), .int (v)])) = va_pl L (cE G.2.2.2.1 ((L, K, AN, R0), (Rc, Ic, AIc, AR), (u2 Im 12 a v, AIm), AL)) := (va_pl_set (X := []) hh.2 hk.1 hj2).trans (va_pl_congr (cu_5_19 _ hk.2 v))
  have hn : narrow (tyX5 19) (.int v) = .int v := rfl
  have hf : fits (tyX5 19) (.int v) = true := rfl
  exact va_put (C := RX5) (T := TX5) (N := 20) (Ts := wsX50) C.1 C.2.1 (fun w h => cx_ok C (gd_5 w h)) (fun _ h => h) tyX5 tyX5_ok nmX5 hown (cx_K C) hh.1 hh.2 hS j hj rfl 19 (by decide) (cx_ok C ok_675) (fun _ h => h) rfl (tyX5_ok 19 (by decide)) hn hf (by show 19 < 20; decide) dg (fun H1 locs1 hP1 hD1 hS1 => kk p e s m args below meth c H1 locs1 ls C ⟨by rw [← he]; exact hP1, by rw [← he]; exact hD1⟩ hS1 hl)
theorem nk_66 : Cond.fieldLinkNest RX4 86 RX3 "root" "LSplaySequence$Node;" "SplaySequence" ∈ lw_tbl := List.mem_of_getElem? (i := 66) (by decide +kernel)
/-- getfield root of SplaySequence$Tree -/
theorem gf_RX4_86 {o : Option Nat} {a : Nat} (dg : decode M.2.1 pc = .ok (.getfield 86, 3)) (hM : M.1.cls = RX4) (ho : o = some a) (hk : isK ((L, K, AN, R0), (Rc, Ic, AIc, AR), (Im, AIm), AL) 3 a) (kk : WP G M Q k n (pc + 3) lv (vr (Rc 3 a) :: st) ((L, K, AN, R0), (Rc, Ic, AIc, AR), (Im, AIm), AL)) : WP G M Q k n pc lv (vr o :: st) ((L, K, AN, R0), (Rc, Ic, AIc, AR), (Im, AIm), AL) := by
  subst ho
  intro p e s m args below meth c H locs ls C hh hS hl
  obtain ⟨j, hj⟩ := pool_at G.2.2.2.1 hk.1
  rw [cl_3 _ hk.2] at hj
  have hown := C.2.2.2.2.2.1
  rw [hM] at hown
  exact va_getN (C := RX3) (T := TX3) (N := 1) (Ts := wsX30) C.1 C.2.1 (fun w h => cx_ok C (gd_3 w h)) (fun _ h => h) hown (cx_K C) hh.1 j hj rfl 0 (by decide) (cx_nf (S := ((L, K, AN, R0), (Rc, Ic, AIc, AR), (Im, AIm), AL)) C nk_66) (fun _ h => h) rfl dg (kk p e s m args below meth c H locs ls C hh hS hl)
/-- putfield root of SplaySequence$Tree -/
theorem pf_RX4_86 {o : Option Nat} {a : Nat} {v : Option Nat} (dg : decode M.2.1 pc = .ok (.putfield 86, 3)) (hM : M.1.cls = RX4) (ho : o = some a) (hk : isK ((L, K, AN, R0), (Rc, Ic, AIc, AR), (Im, AIm), AL) 3 a) (kk : WP G M Q k n (pc + 3) lv st ((L, K, AN, R0), (u2 Rc 3 a v, Ic, AIc, AR), (Im, AIm), AL)) : WP G M Q k n pc lv (vr v :: vr o :: st) ((L, K, AN, R0), (Rc, Ic, AIc, AR), (Im, AIm), AL) := by
  subst ho
  intro p e s m args below meth c H locs ls C hh hS hl
  obtain ⟨j, hj⟩ := pool_at G.2.2.2.1 hk.1
  have hj2 := hj
  rw [cl_3 _ hk.2] at hj
  have hown := C.2.2.2.2.2.1
  rw [hM] at hown
  have he : (va_pl L (cE G.2.2.2.1 ((L, K, AN, R0), (Rc, Ic, AIc, AR), (Im, AIm), AL))).set j (a, .inr (3, [va_rf (v)])) = va_pl L (cE G.2.2.2.1 ((L, K, AN, R0), (u2 Rc 3 a v, Ic, AIc, AR), (Im, AIm), AL)) := (va_pl_set (X := []) hh.2 hk.1 hj2).trans (va_pl_congr (cu_3_0 _ hk.2 v))
  have hn : narrow (tyX3 0) (va_rf v) = va_rf v := by cases v <;> rfl
  have hf : fits (tyX3 0) (va_rf v) = true := by cases v <;> rfl
  exact va_putN (C := RX3) (T := TX3) (N := 1) (Ts := wsX30) C.1 C.2.1 (fun w h => cx_ok C (gd_3 w h)) (fun _ h => h) tyX3 tyX3_ok nmX3 hown (cx_K C) hh.1 hh.2 hS j hj rfl 0 (by decide) (cx_nf (S := ((L, K, AN, R0), (Rc, Ic, AIc, AR), (Im, AIm), AL)) C nk_66) (fun _ h => h) rfl (tyX3_ok 0 (by decide)) hn hf (by show 0 < 1; decide) dg (fun H1 locs1 hP1 hD1 hS1 => kk p e s m args below meth c H1 locs1 ls C ⟨by rw [← he]; exact hP1, by rw [← he]; exact hD1⟩ hS1 hl)
theorem nk_67 : Cond.fieldLinkNest RX2 38 RX3 "root" "LSplaySequence$Node;" "SplaySequence" ∈ lw_tbl := List.mem_of_getElem? (i := 67) (by decide +kernel)
/-- getfield root of SplaySequence$Tree -/
theorem gf_RX2_38 {o : Option Nat} {a : Nat} (dg : decode M.2.1 pc = .ok (.getfield 38, 3)) (hM : M.1.cls = RX2) (ho : o = some a) (hk : isK ((L, K, AN, R0), (Rc, Ic, AIc, AR), (Im, AIm), AL) 3 a) (kk : WP G M Q k n (pc + 3) lv (vr (Rc 3 a) :: st) ((L, K, AN, R0), (Rc, Ic, AIc, AR), (Im, AIm), AL)) : WP G M Q k n pc lv (vr o :: st) ((L, K, AN, R0), (Rc, Ic, AIc, AR), (Im, AIm), AL) := by
  subst ho
  intro p e s m args below meth c H locs ls C hh hS hl
  obtain ⟨j, hj⟩ := pool_at G.2.2.2.1 hk.1
  rw [cl_3 _ hk.2] at hj
  have hown := C.2.2.2.2.2.1
  rw [hM] at hown
  exact va_getN (C := RX3) (T := TX3) (N := 1) (Ts := wsX30) C.1 C.2.1 (fun w h => cx_ok C (gd_3 w h)) (fun _ h => h) hown (cx_K C) hh.1 j hj rfl 0 (by decide) (cx_nf (S := ((L, K, AN, R0), (Rc, Ic, AIc, AR), (Im, AIm), AL)) C nk_67) (fun _ h => h) rfl dg (kk p e s m args below meth c H locs ls C hh hS hl)
/-- putfield root of SplaySequence$Tree -/
theorem pf_RX2_38 {o : Option Nat} {a : Nat} {v : Option Nat} (dg : decode M.2.1 pc = .ok (.putfield 38, 3)) (hM : M.1.cls = RX2) (ho : o = some a) (hk : isK ((L, K, AN, R0), (Rc, Ic, AIc, AR), (Im, AIm), AL) 3 a) (kk : WP G M Q k n (pc + 3) lv st ((L, K, AN, R0), (u2 Rc 3 a v, Ic, AIc, AR), (Im, AIm), AL)) : WP G M Q k n pc lv (vr v :: vr o :: st) ((L, K, AN, R0), (Rc, Ic, AIc, AR), (Im, AIm), AL) := by
  subst ho
  intro p e s m args below meth c H locs ls C hh hS hl
  obtain ⟨j, hj⟩ := pool_at G.2.2.2.1 hk.1
  have hj2 := hj
  rw [cl_3 _ hk.2] at hj
  have hown := C.2.2.2.2.2.1
  rw [hM] at hown
  have he : (va_pl L (cE G.2.2.2.1 ((L, K, AN, R0), (Rc, Ic, AIc, AR), (Im, AIm), AL))).set j (a, .inr (3, [va_rf (v)])) = va_pl L (cE G.2.2.2.1 ((L, K, AN, R0), (u2 Rc 3 a v, Ic, AIc, AR), (Im, AIm), AL)) := (va_pl_set (X := []) hh.2 hk.1 hj2).trans (va_pl_congr (cu_3_0 _ hk.2 v))
  have hn : narrow (tyX3 0) (va_rf v) = va_rf v := by cases v <;> rfl
  have hf : fits (tyX3 0) (va_rf v) = true := by cases v <;> rfl
  exact va_putN (C := RX3) (T := TX3) (N := 1) (Ts := wsX30) C.1 C.2.1 (fun w h => cx_ok C (gd_3 w h)) (fun _ h => h) tyX3 tyX3_ok nmX3 hown (cx_K C) hh.1 hh.2 hS j hj rfl 0 (by decide) (cx_nf (S := ((L, K, AN, R0), (Rc, Ic, AIc, AR), (Im, AIm), AL)) C nk_67) (fun _ h => h) rfl (tyX3_ok 0 (by decide)) hn hf (by show 0 < 1; decide) dg (fun H1 locs1 hP1 hD1 hS1 => kk p e s m args below meth c H1 locs1 ls C ⟨by rw [← he]; exact hP1, by rw [← he]; exact hD1⟩ hS1 hl)
theorem nk_78 : Cond.fieldLinkNest RX4 180 RX2 "callSteps" "I" "SplaySequence" ∈ lw_tbl := List.mem_of_getElem? (i := 78) (by decide +kernel)
/-- getfield callSteps of SplaySequence$Splayer -/
theorem gf_RX4_180 {o : Option Nat} {a : Nat} (dg : decode M.2.1 pc = .ok (.getfield 180, 3)) (hM : M.1.cls = RX4) (ho : o = some a) (hk : isK ((L, K, AN, R0), (Rc, Ic, AIc, AR), (Im, AIm), AL) 2 a) (kk : WP G M Q k n (pc + 3) lv (vi (Ic 3 a) :: st) ((L, K, AN, R0), (Rc, Ic, AIc, AR), (Im, AIm), AL)) : WP G M Q k n pc lv (vr o :: st) ((L, K, AN, R0), (Rc, Ic, AIc, AR), (Im, AIm), AL) := by
  subst ho
  intro p e s m args below meth c H locs ls C hh hS hl
  obtain ⟨j, hj⟩ := pool_at G.2.2.2.1 hk.1
  rw [cl_2 _ hk.2] at hj
  have hown := C.2.2.2.2.2.1
  rw [hM] at hown
  exact va_getN (C := RX2) (T := TX2) (N := 4) (Ts := wsX20) C.1 C.2.1 (fun w h => cx_ok C (gd_2 w h)) (fun _ h => h) hown (cx_K C) hh.1 j hj rfl 0 (by decide) (cx_nf (S := ((L, K, AN, R0), (Rc, Ic, AIc, AR), (Im, AIm), AL)) C nk_78) (fun _ h => h) rfl dg (kk p e s m args below meth c H locs ls C hh hS hl)
/-- putfield callSteps of SplaySequence$Splayer -/
theorem pf_RX4_180 {o : Option Nat} {a : Nat} {v : Int32} (dg : decode M.2.1 pc = .ok (.putfield 180, 3)) (hM : M.1.cls = RX4) (ho : o = some a) (hk : isK ((L, K, AN, R0), (Rc, Ic, AIc, AR), (Im, AIm), AL) 2 a) (kk : WP G M Q k n (pc + 3) lv st ((L, K, AN, R0), (Rc, u2 Ic 3 a v, AIc, AR), (Im, AIm), AL)) : WP G M Q k n pc lv (vi v :: vr o :: st) ((L, K, AN, R0), (Rc, Ic, AIc, AR), (Im, AIm), AL) := by
  subst ho
  intro p e s m args below meth c H locs ls C hh hS hl
  obtain ⟨j, hj⟩ := pool_at G.2.2.2.1 hk.1
  have hj2 := hj
  rw [cl_2 _ hk.2] at hj
  have hown := C.2.2.2.2.2.1
  rw [hM] at hown
  have he : (va_pl L (cE G.2.2.2.1 ((L, K, AN, R0), (Rc, Ic, AIc, AR), (Im, AIm), AL))).set j (a, .inr (2, [.int (v), .int (Ic 4 a), .int (Ic 5 a), .int (Ic 6 a)])) = va_pl L (cE G.2.2.2.1 ((L, K, AN, R0), (Rc, u2 Ic 3 a v, AIc, AR), (Im, AIm), AL)) := (va_pl_set (X := []) hh.2 hk.1 hj2).trans (va_pl_congr (cu_2_0 _ hk.2 v))
  have hn : narrow (tyX2 0) (.int v) = .int v := rfl
  have hf : fits (tyX2 0) (.int v) = true := rfl
  exact va_putN (C := RX2) (T := TX2) (N := 4) (Ts := wsX20) C.1 C.2.1 (fun w h => cx_ok C (gd_2 w h)) (fun _ h => h) tyX2 tyX2_ok nmX2 hown (cx_K C) hh.1 hh.2 hS j hj rfl 0 (by decide) (cx_nf (S := ((L, K, AN, R0), (Rc, Ic, AIc, AR), (Im, AIm), AL)) C nk_78) (fun _ h => h) rfl (tyX2_ok 0 (by decide)) hn hf (by show 0 < 4; decide) dg (fun H1 locs1 hP1 hD1 hS1 => kk p e s m args below meth c H1 locs1 ls C ⟨by rw [← he]; exact hP1, by rw [← he]; exact hD1⟩ hS1 hl)
theorem nk_80 : Cond.fieldLinkNest RX4 183 RX2 "callRotations" "I" "SplaySequence" ∈ lw_tbl := List.mem_of_getElem? (i := 80) (by decide +kernel)
/-- getfield callRotations of SplaySequence$Splayer -/
theorem gf_RX4_183 {o : Option Nat} {a : Nat} (dg : decode M.2.1 pc = .ok (.getfield 183, 3)) (hM : M.1.cls = RX4) (ho : o = some a) (hk : isK ((L, K, AN, R0), (Rc, Ic, AIc, AR), (Im, AIm), AL) 2 a) (kk : WP G M Q k n (pc + 3) lv (vi (Ic 4 a) :: st) ((L, K, AN, R0), (Rc, Ic, AIc, AR), (Im, AIm), AL)) : WP G M Q k n pc lv (vr o :: st) ((L, K, AN, R0), (Rc, Ic, AIc, AR), (Im, AIm), AL) := by
  subst ho
  intro p e s m args below meth c H locs ls C hh hS hl
  obtain ⟨j, hj⟩ := pool_at G.2.2.2.1 hk.1
  rw [cl_2 _ hk.2] at hj
  have hown := C.2.2.2.2.2.1
  rw [hM] at hown
  exact va_getN (C := RX2) (T := TX2) (N := 4) (Ts := wsX20) C.1 C.2.1 (fun w h => cx_ok C (gd_2 w h)) (fun _ h => h) hown (cx_K C) hh.1 j hj rfl 1 (by decide) (cx_nf (S := ((L, K, AN, R0), (Rc, Ic, AIc, AR), (Im, AIm), AL)) C nk_80) (fun _ h => h) rfl dg (kk p e s m args below meth c H locs ls C hh hS hl)
/-- putfield callRotations of SplaySequence$Splayer -/
theorem pf_RX4_183 {o : Option Nat} {a : Nat} {v : Int32} (dg : decode M.2.1 pc = .ok (.putfield 183, 3)) (hM : M.1.cls = RX4) (ho : o = some a) (hk : isK ((L, K, AN, R0), (Rc, Ic, AIc, AR), (Im, AIm), AL) 2 a) (kk : WP G M Q k n (pc + 3) lv st ((L, K, AN, R0), (Rc, u2 Ic 4 a v, AIc, AR), (Im, AIm), AL)) : WP G M Q k n pc lv (vi v :: vr o :: st) ((L, K, AN, R0), (Rc, Ic, AIc, AR), (Im, AIm), AL) := by
  subst ho
  intro p e s m args below meth c H locs ls C hh hS hl
  obtain ⟨j, hj⟩ := pool_at G.2.2.2.1 hk.1
  have hj2 := hj
  rw [cl_2 _ hk.2] at hj
  have hown := C.2.2.2.2.2.1
  rw [hM] at hown
  have he : (va_pl L (cE G.2.2.2.1 ((L, K, AN, R0), (Rc, Ic, AIc, AR), (Im, AIm), AL))).set j (a, .inr (2, [.int (Ic 3 a), .int (v), .int (Ic 5 a), .int (Ic 6 a)])) = va_pl L (cE G.2.2.2.1 ((L, K, AN, R0), (Rc, u2 Ic 4 a v, AIc, AR), (Im, AIm), AL)) := (va_pl_set (X := []) hh.2 hk.1 hj2).trans (va_pl_congr (cu_2_1 _ hk.2 v))
  have hn : narrow (tyX2 1) (.int v) = .int v := rfl
  have hf : fits (tyX2 1) (.int v) = true := rfl
  exact va_putN (C := RX2) (T := TX2) (N := 4) (Ts := wsX20) C.1 C.2.1 (fun w h => cx_ok C (gd_2 w h)) (fun _ h => h) tyX2 tyX2_ok nmX2 hown (cx_K C) hh.1 hh.2 hS j hj rfl 1 (by decide) (cx_nf (S := ((L, K, AN, R0), (Rc, Ic, AIc, AR), (Im, AIm), AL)) C nk_80) (fun _ h => h) rfl (tyX2_ok 1 (by decide)) hn hf (by show 1 < 4; decide) dg (fun H1 locs1 hP1 hD1 hS1 => kk p e s m args below meth c H1 locs1 ls C ⟨by rw [← he]; exact hP1, by rw [← he]; exact hD1⟩ hS1 hl)
theorem nk_82 : Cond.fieldLinkNest RX4 186 RX2 "allSteps" "I" "SplaySequence" ∈ lw_tbl := List.mem_of_getElem? (i := 82) (by decide +kernel)
/-- getfield allSteps of SplaySequence$Splayer -/
theorem gf_RX4_186 {o : Option Nat} {a : Nat} (dg : decode M.2.1 pc = .ok (.getfield 186, 3)) (hM : M.1.cls = RX4) (ho : o = some a) (hk : isK ((L, K, AN, R0), (Rc, Ic, AIc, AR), (Im, AIm), AL) 2 a) (kk : WP G M Q k n (pc + 3) lv (vi (Ic 5 a) :: st) ((L, K, AN, R0), (Rc, Ic, AIc, AR), (Im, AIm), AL)) : WP G M Q k n pc lv (vr o :: st) ((L, K, AN, R0), (Rc, Ic, AIc, AR), (Im, AIm), AL) := by
  subst ho
  intro p e s m args below meth c H locs ls C hh hS hl
  obtain ⟨j, hj⟩ := pool_at G.2.2.2.1 hk.1
  rw [cl_2 _ hk.2] at hj
  have hown := C.2.2.2.2.2.1
  rw [hM] at hown
  exact va_getN (C := RX2) (T := TX2) (N := 4) (Ts := wsX20) C.1 C.2.1 (fun w h => cx_ok C (gd_2 w h)) (fun _ h => h) hown (cx_K C) hh.1 j hj rfl 2 (by decide) (cx_nf (S := ((L, K, AN, R0), (Rc, Ic, AIc, AR), (Im, AIm), AL)) C nk_82) (fun _ h => h) rfl dg (kk p e s m args below meth c H locs ls C hh hS hl)
/-- putfield allSteps of SplaySequence$Splayer -/
theorem pf_RX4_186 {o : Option Nat} {a : Nat} {v : Int32} (dg : decode M.2.1 pc = .ok (.putfield 186, 3)) (hM : M.1.cls = RX4) (ho : o = some a) (hk : isK ((L, K, AN, R0), (Rc, Ic, AIc, AR), (Im, AIm), AL) 2 a) (kk : WP G M Q k n (pc + 3) lv st ((L, K, AN, R0), (Rc, u2 Ic 5 a v, AIc, AR), (Im, AIm), AL)) : WP G M Q k n pc lv (vi v :: vr o :: st) ((L, K, AN, R0), (Rc, Ic, AIc, AR), (Im, AIm), AL) := by
  subst ho
  intro p e s m args below meth c H locs ls C hh hS hl
  obtain ⟨j, hj⟩ := pool_at G.2.2.2.1 hk.1
  have hj2 := hj
  rw [cl_2 _ hk.2] at hj
  have hown := C.2.2.2.2.2.1
  rw [hM] at hown
  have he : (va_pl L (cE G.2.2.2.1 ((L, K, AN, R0), (Rc, Ic, AIc, AR), (Im, AIm), AL))).set j (a, .inr (2, [.int (Ic 3 a), .int (Ic 4 a), .int (v), .int (Ic 6 a)])) = va_pl L (cE G.2.2.2.1 ((L, K, AN, R0), (Rc, u2 Ic 5 a v, AIc, AR), (Im, AIm), AL)) := (va_pl_set (X := []) hh.2 hk.1 hj2).trans (va_pl_congr (cu_2_2 _ hk.2 v))
  have hn : narrow (tyX2 2) (.int v) = .int v := rfl
  have hf : fits (tyX2 2) (.int v) = true := rfl
  exact va_putN (C := RX2) (T := TX2) (N := 4) (Ts := wsX20) C.1 C.2.1 (fun w h => cx_ok C (gd_2 w h)) (fun _ h => h) tyX2 tyX2_ok nmX2 hown (cx_K C) hh.1 hh.2 hS j hj rfl 2 (by decide) (cx_nf (S := ((L, K, AN, R0), (Rc, Ic, AIc, AR), (Im, AIm), AL)) C nk_82) (fun _ h => h) rfl (tyX2_ok 2 (by decide)) hn hf (by show 2 < 4; decide) dg (fun H1 locs1 hP1 hD1 hS1 => kk p e s m args below meth c H1 locs1 ls C ⟨by rw [← he]; exact hP1, by rw [← he]; exact hD1⟩ hS1 hl)
theorem nk_84 : Cond.fieldLinkNest RX4 189 RX2 "allSplays" "I" "SplaySequence" ∈ lw_tbl := List.mem_of_getElem? (i := 84) (by decide +kernel)
/-- getfield allSplays of SplaySequence$Splayer -/
theorem gf_RX4_189 {o : Option Nat} {a : Nat} (dg : decode M.2.1 pc = .ok (.getfield 189, 3)) (hM : M.1.cls = RX4) (ho : o = some a) (hk : isK ((L, K, AN, R0), (Rc, Ic, AIc, AR), (Im, AIm), AL) 2 a) (kk : WP G M Q k n (pc + 3) lv (vi (Ic 6 a) :: st) ((L, K, AN, R0), (Rc, Ic, AIc, AR), (Im, AIm), AL)) : WP G M Q k n pc lv (vr o :: st) ((L, K, AN, R0), (Rc, Ic, AIc, AR), (Im, AIm), AL) := by
  subst ho
  intro p e s m args below meth c H locs ls C hh hS hl
  obtain ⟨j, hj⟩ := pool_at G.2.2.2.1 hk.1
  rw [cl_2 _ hk.2] at hj
  have hown := C.2.2.2.2.2.1
  rw [hM] at hown
  exact va_getN (C := RX2) (T := TX2) (N := 4) (Ts := wsX20) C.1 C.2.1 (fun w h => cx_ok C (gd_2 w h)) (fun _ h => h) hown (cx_K C) hh.1 j hj rfl 3 (by decide) (cx_nf (S := ((L, K, AN, R0), (Rc, Ic, AIc, AR), (Im, AIm), AL)) C nk_84) (fun _ h => h) rfl dg (kk p e s m args below meth c H locs ls C hh hS hl)
/-- putfield allSplays of SplaySequence$Splayer -/
theorem pf_RX4_189 {o : Option Nat} {a : Nat} {v : Int32} (dg : decode M.2.1 pc = .ok (.putfield 189, 3)) (hM : M.1.cls = RX4) (ho : o = some a) (hk : isK ((L, K, AN, R0), (Rc, Ic, AIc, AR), (Im, AIm), AL) 2 a) (kk : WP G M Q k n (pc + 3) lv st ((L, K, AN, R0), (Rc, u2 Ic 6 a v, AIc, AR), (Im, AIm), AL)) : WP G M Q k n pc lv (vi v :: vr o :: st) ((L, K, AN, R0), (Rc, Ic, AIc, AR), (Im, AIm), AL) := by
  subst ho
  intro p e s m args below meth c H locs ls C hh hS hl
  obtain ⟨j, hj⟩ := pool_at G.2.2.2.1 hk.1
  have hj2 := hj
  rw [cl_2 _ hk.2] at hj
  have hown := C.2.2.2.2.2.1
  rw [hM] at hown
  have he : (va_pl L (cE G.2.2.2.1 ((L, K, AN, R0), (Rc, Ic, AIc, AR), (Im, AIm), AL))).set j (a, .inr (2, [.int (Ic 3 a), .int (Ic 4 a), .int (Ic 5 a), .int (v)])) = va_pl L (cE G.2.2.2.1 ((L, K, AN, R0), (Rc, u2 Ic 6 a v, AIc, AR), (Im, AIm), AL)) := (va_pl_set (X := []) hh.2 hk.1 hj2).trans (va_pl_congr (cu_2_3 _ hk.2 v))
  have hn : narrow (tyX2 3) (.int v) = .int v := rfl
  have hf : fits (tyX2 3) (.int v) = true := rfl
  exact va_putN (C := RX2) (T := TX2) (N := 4) (Ts := wsX20) C.1 C.2.1 (fun w h => cx_ok C (gd_2 w h)) (fun _ h => h) tyX2 tyX2_ok nmX2 hown (cx_K C) hh.1 hh.2 hS j hj rfl 3 (by decide) (cx_nf (S := ((L, K, AN, R0), (Rc, Ic, AIc, AR), (Im, AIm), AL)) C nk_84) (fun _ h => h) rfl (tyX2_ok 3 (by decide)) hn hf (by show 3 < 4; decide) dg (fun H1 locs1 hP1 hD1 hS1 => kk p e s m args below meth c H1 locs1 ls C ⟨by rw [← he]; exact hP1, by rw [← he]; exact hD1⟩ hS1 hl)
theorem nk_374 : Cond.fieldLinkNest RX3 19 RX0 "left" "LSplaySequence$Node;" "SplaySequence" ∈ lw_tbl := List.mem_of_getElem? (i := 374) (by decide +kernel)
/-- getfield left of SplaySequence$Node -/
theorem gf_RX3_19 {o : Option Nat} {a : Nat} (dg : decode M.2.1 pc = .ok (.getfield 19, 3)) (hM : M.1.cls = RX3) (ho : o = some a) (hk : isK ((L, K, AN, R0), (Rc, Ic, AIc, AR), (Im, AIm), AL) 0 a) (kk : WP G M Q k n (pc + 3) lv (vr (Rc 0 a) :: st) ((L, K, AN, R0), (Rc, Ic, AIc, AR), (Im, AIm), AL)) : WP G M Q k n pc lv (vr o :: st) ((L, K, AN, R0), (Rc, Ic, AIc, AR), (Im, AIm), AL) := by
  subst ho
  intro p e s m args below meth c H locs ls C hh hS hl
  obtain ⟨j, hj⟩ := pool_at G.2.2.2.1 hk.1
  rw [cl_0 _ hk.2] at hj
  have hown := C.2.2.2.2.2.1
  rw [hM] at hown
  exact va_getN (C := RX0) (T := TX0) (N := 5) (Ts := wsX00) C.1 C.2.1 (fun w h => cx_ok C (gd_0 w h)) (fun _ h => h) hown (cx_K C) hh.1 j hj rfl 0 (by decide) (cx_nf (S := ((L, K, AN, R0), (Rc, Ic, AIc, AR), (Im, AIm), AL)) C nk_374) (fun _ h => h) rfl dg (kk p e s m args below meth c H locs ls C hh hS hl)
/-- putfield left of SplaySequence$Node -/
theorem pf_RX3_19 {o : Option Nat} {a : Nat} {v : Option Nat} (dg : decode M.2.1 pc = .ok (.putfield 19, 3)) (hM : M.1.cls = RX3) (ho : o = some a) (hk : isK ((L, K, AN, R0), (Rc, Ic, AIc, AR), (Im, AIm), AL) 0 a) (kk : WP G M Q k n (pc + 3) lv st ((L, K, AN, R0), (u2 Rc 0 a v, Ic, AIc, AR), (Im, AIm), AL)) : WP G M Q k n pc lv (vr v :: vr o :: st) ((L, K, AN, R0), (Rc, Ic, AIc, AR), (Im, AIm), AL) := by
  subst ho
  intro p e s m args below meth c H locs ls C hh hS hl
  obtain ⟨j, hj⟩ := pool_at G.2.2.2.1 hk.1
  have hj2 := hj
  rw [cl_0 _ hk.2] at hj
  have hown := C.2.2.2.2.2.1
  rw [hM] at hown
  have he : (va_pl L (cE G.2.2.2.1 ((L, K, AN, R0), (Rc, Ic, AIc, AR), (Im, AIm), AL))).set j (a, .inr (0, [va_rf (v), va_rf (Rc 1 a), va_rf (Rc 2 a), .int (Ic 0 a), .int (Ic 1 a)])) = va_pl L (cE G.2.2.2.1 ((L, K, AN, R0), (u2 Rc 0 a v, Ic, AIc, AR), (Im, AIm), AL)) := (va_pl_set (X := []) hh.2 hk.1 hj2).trans (va_pl_congr (cu_0_0 _ hk.2 v))
  have hn : narrow (tyX0 0) (va_rf v) = va_rf v := by cases v <;> rfl
  have hf : fits (tyX0 0) (va_rf v) = true := by cases v <;> rfl
  exact va_putN (C := RX0) (T := TX0) (N := 5) (Ts := wsX00) C.1 C.2.1 (fun w h => cx_ok C (gd_0 w h)) (fun _ h => h) tyX0 tyX0_ok nmX0 hown (cx_K C) hh.1 hh.2 hS j hj rfl 0 (by decide) (cx_nf (S := ((L, K, AN, R0), (Rc, Ic, AIc, AR), (Im, AIm), AL)) C nk_374) (fun _ h => h) rfl (tyX0_ok 0 (by decide)) hn hf (by show 0 < 5; decide) dg (fun H1 locs1 hP1 hD1 hS1 => kk p e s m args below meth c H1 locs1 ls C ⟨by rw [← he]; exact hP1, by rw [← he]; exact hD1⟩ hS1 hl)
theorem nk_375 : Cond.fieldLinkNest RX2 52 RX0 "left" "LSplaySequence$Node;" "SplaySequence" ∈ lw_tbl := List.mem_of_getElem? (i := 375) (by decide +kernel)
/-- getfield left of SplaySequence$Node -/
theorem gf_RX2_52 {o : Option Nat} {a : Nat} (dg : decode M.2.1 pc = .ok (.getfield 52, 3)) (hM : M.1.cls = RX2) (ho : o = some a) (hk : isK ((L, K, AN, R0), (Rc, Ic, AIc, AR), (Im, AIm), AL) 0 a) (kk : WP G M Q k n (pc + 3) lv (vr (Rc 0 a) :: st) ((L, K, AN, R0), (Rc, Ic, AIc, AR), (Im, AIm), AL)) : WP G M Q k n pc lv (vr o :: st) ((L, K, AN, R0), (Rc, Ic, AIc, AR), (Im, AIm), AL) := by
  subst ho
  intro p e s m args below meth c H locs ls C hh hS hl
  obtain ⟨j, hj⟩ := pool_at G.2.2.2.1 hk.1
  rw [cl_0 _ hk.2] at hj
  have hown := C.2.2.2.2.2.1
  rw [hM] at hown
  exact va_getN (C := RX0) (T := TX0) (N := 5) (Ts := wsX00) C.1 C.2.1 (fun w h => cx_ok C (gd_0 w h)) (fun _ h => h) hown (cx_K C) hh.1 j hj rfl 0 (by decide) (cx_nf (S := ((L, K, AN, R0), (Rc, Ic, AIc, AR), (Im, AIm), AL)) C nk_375) (fun _ h => h) rfl dg (kk p e s m args below meth c H locs ls C hh hS hl)
/-- putfield left of SplaySequence$Node -/
theorem pf_RX2_52 {o : Option Nat} {a : Nat} {v : Option Nat} (dg : decode M.2.1 pc = .ok (.putfield 52, 3)) (hM : M.1.cls = RX2) (ho : o = some a) (hk : isK ((L, K, AN, R0), (Rc, Ic, AIc, AR), (Im, AIm), AL) 0 a) (kk : WP G M Q k n (pc + 3) lv st ((L, K, AN, R0), (u2 Rc 0 a v, Ic, AIc, AR), (Im, AIm), AL)) : WP G M Q k n pc lv (vr v :: vr o :: st) ((L, K, AN, R0), (Rc, Ic, AIc, AR), (Im, AIm), AL) := by
  subst ho
  intro p e s m args below meth c H locs ls C hh hS hl
  obtain ⟨j, hj⟩ := pool_at G.2.2.2.1 hk.1
  have hj2 := hj
  rw [cl_0 _ hk.2] at hj
  have hown := C.2.2.2.2.2.1
  rw [hM] at hown
  have he : (va_pl L (cE G.2.2.2.1 ((L, K, AN, R0), (Rc, Ic, AIc, AR), (Im, AIm), AL))).set j (a, .inr (0, [va_rf (v), va_rf (Rc 1 a), va_rf (Rc 2 a), .int (Ic 0 a), .int (Ic 1 a)])) = va_pl L (cE G.2.2.2.1 ((L, K, AN, R0), (u2 Rc 0 a v, Ic, AIc, AR), (Im, AIm), AL)) := (va_pl_set (X := []) hh.2 hk.1 hj2).trans (va_pl_congr (cu_0_0 _ hk.2 v))
  have hn : narrow (tyX0 0) (va_rf v) = va_rf v := by cases v <;> rfl
  have hf : fits (tyX0 0) (va_rf v) = true := by cases v <;> rfl
  exact va_putN (C := RX0) (T := TX0) (N := 5) (Ts := wsX00) C.1 C.2.1 (fun w h => cx_ok C (gd_0 w h)) (fun _ h => h) tyX0 tyX0_ok nmX0 hown (cx_K C) hh.1 hh.2 hS j hj rfl 0 (by decide) (cx_nf (S := ((L, K, AN, R0), (Rc, Ic, AIc, AR), (Im, AIm), AL)) C nk_375) (fun _ h => h) rfl (tyX0_ok 0 (by decide)) hn hf (by show 0 < 5; decide) dg (fun H1 locs1 hP1 hD1 hS1 => kk p e s m args below meth c H1 locs1 ls C ⟨by rw [← he]; exact hP1, by rw [← he]; exact hD1⟩ hS1 hl)
theorem nk_376 : Cond.fieldLinkNest RX4 210 RX0 "left" "LSplaySequence$Node;" "SplaySequence" ∈ lw_tbl := List.mem_of_getElem? (i := 376) (by decide +kernel)
/-- getfield left of SplaySequence$Node -/
theorem gf_RX4_210 {o : Option Nat} {a : Nat} (dg : decode M.2.1 pc = .ok (.getfield 210, 3)) (hM : M.1.cls = RX4) (ho : o = some a) (hk : isK ((L, K, AN, R0), (Rc, Ic, AIc, AR), (Im, AIm), AL) 0 a) (kk : WP G M Q k n (pc + 3) lv (vr (Rc 0 a) :: st) ((L, K, AN, R0), (Rc, Ic, AIc, AR), (Im, AIm), AL)) : WP G M Q k n pc lv (vr o :: st) ((L, K, AN, R0), (Rc, Ic, AIc, AR), (Im, AIm), AL) := by
  subst ho
  intro p e s m args below meth c H locs ls C hh hS hl
  obtain ⟨j, hj⟩ := pool_at G.2.2.2.1 hk.1
  rw [cl_0 _ hk.2] at hj
  have hown := C.2.2.2.2.2.1
  rw [hM] at hown
  exact va_getN (C := RX0) (T := TX0) (N := 5) (Ts := wsX00) C.1 C.2.1 (fun w h => cx_ok C (gd_0 w h)) (fun _ h => h) hown (cx_K C) hh.1 j hj rfl 0 (by decide) (cx_nf (S := ((L, K, AN, R0), (Rc, Ic, AIc, AR), (Im, AIm), AL)) C nk_376) (fun _ h => h) rfl dg (kk p e s m args below meth c H locs ls C hh hS hl)
/-- putfield left of SplaySequence$Node -/
theorem pf_RX4_210 {o : Option Nat} {a : Nat} {v : Option Nat} (dg : decode M.2.1 pc = .ok (.putfield 210, 3)) (hM : M.1.cls = RX4) (ho : o = some a) (hk : isK ((L, K, AN, R0), (Rc, Ic, AIc, AR), (Im, AIm), AL) 0 a) (kk : WP G M Q k n (pc + 3) lv st ((L, K, AN, R0), (u2 Rc 0 a v, Ic, AIc, AR), (Im, AIm), AL)) : WP G M Q k n pc lv (vr v :: vr o :: st) ((L, K, AN, R0), (Rc, Ic, AIc, AR), (Im, AIm), AL) := by
  subst ho
  intro p e s m args below meth c H locs ls C hh hS hl
  obtain ⟨j, hj⟩ := pool_at G.2.2.2.1 hk.1
  have hj2 := hj
  rw [cl_0 _ hk.2] at hj
  have hown := C.2.2.2.2.2.1
  rw [hM] at hown
  have he : (va_pl L (cE G.2.2.2.1 ((L, K, AN, R0), (Rc, Ic, AIc, AR), (Im, AIm), AL))).set j (a, .inr (0, [va_rf (v), va_rf (Rc 1 a), va_rf (Rc 2 a), .int (Ic 0 a), .int (Ic 1 a)])) = va_pl L (cE G.2.2.2.1 ((L, K, AN, R0), (u2 Rc 0 a v, Ic, AIc, AR), (Im, AIm), AL)) := (va_pl_set (X := []) hh.2 hk.1 hj2).trans (va_pl_congr (cu_0_0 _ hk.2 v))
  have hn : narrow (tyX0 0) (va_rf v) = va_rf v := by cases v <;> rfl
  have hf : fits (tyX0 0) (va_rf v) = true := by cases v <;> rfl
  exact va_putN (C := RX0) (T := TX0) (N := 5) (Ts := wsX00) C.1 C.2.1 (fun w h => cx_ok C (gd_0 w h)) (fun _ h => h) tyX0 tyX0_ok nmX0 hown (cx_K C) hh.1 hh.2 hS j hj rfl 0 (by decide) (cx_nf (S := ((L, K, AN, R0), (Rc, Ic, AIc, AR), (Im, AIm), AL)) C nk_376) (fun _ h => h) rfl (tyX0_ok 0 (by decide)) hn hf (by show 0 < 5; decide) dg (fun H1 locs1 hP1 hD1 hS1 => kk p e s m args below meth c H1 locs1 ls C ⟨by rw [← he]; exact hP1, by rw [← he]; exact hD1⟩ hS1 hl)
theorem nk_377 : Cond.fieldLinkNest RX3 22 RX0 "right" "LSplaySequence$Node;" "SplaySequence" ∈ lw_tbl := List.mem_of_getElem? (i := 377) (by decide +kernel)
/-- getfield right of SplaySequence$Node -/
theorem gf_RX3_22 {o : Option Nat} {a : Nat} (dg : decode M.2.1 pc = .ok (.getfield 22, 3)) (hM : M.1.cls = RX3) (ho : o = some a) (hk : isK ((L, K, AN, R0), (Rc, Ic, AIc, AR), (Im, AIm), AL) 0 a) (kk : WP G M Q k n (pc + 3) lv (vr (Rc 1 a) :: st) ((L, K, AN, R0), (Rc, Ic, AIc, AR), (Im, AIm), AL)) : WP G M Q k n pc lv (vr o :: st) ((L, K, AN, R0), (Rc, Ic, AIc, AR), (Im, AIm), AL) := by
  subst ho
  intro p e s m args below meth c H locs ls C hh hS hl
  obtain ⟨j, hj⟩ := pool_at G.2.2.2.1 hk.1
  rw [cl_0 _ hk.2] at hj
  have hown := C.2.2.2.2.2.1
  rw [hM] at hown
  exact va_getN (C := RX0) (T := TX0) (N := 5) (Ts := wsX00) C.1 C.2.1 (fun w h => cx_ok C (gd_0 w h)) (fun _ h => h) hown (cx_K C) hh.1 j hj rfl 1 (by decide) (cx_nf (S := ((L, K, AN, R0), (Rc, Ic, AIc, AR), (Im, AIm), AL)) C nk_377) (fun _ h => h) rfl dg (kk p e s m args below meth c H locs ls C hh hS hl)
/-- putfield right of SplaySequence$Node -/
theorem pf_RX3_22 {o : Option Nat} {a : Nat} {v : Option Nat} (dg : decode M.2.1 pc = .ok (.putfield 22, 3)) (hM : M.1.cls = RX3) (ho : o = some a) (hk : isK ((L, K, AN, R0), (Rc, Ic, AIc, AR), (Im, AIm), AL) 0 a) (kk : WP G M Q k n (pc + 3) lv st ((L, K, AN, R0), (u2 Rc 1 a v, Ic, AIc, AR), (Im, AIm), AL)) : WP G M Q k n pc lv (vr v :: vr o :: st) ((L, K, AN, R0), (Rc, Ic, AIc, AR), (Im, AIm), AL) := by
  subst ho
  intro p e s m args below meth c H locs ls C hh hS hl
  obtain ⟨j, hj⟩ := pool_at G.2.2.2.1 hk.1
  have hj2 := hj
  rw [cl_0 _ hk.2] at hj
  have hown := C.2.2.2.2.2.1
  rw [hM] at hown
  have he : (va_pl L (cE G.2.2.2.1 ((L, K, AN, R0), (Rc, Ic, AIc, AR), (Im, AIm), AL))).set j (a, .inr (0, [va_rf (Rc 0 a), va_rf (v), va_rf (Rc 2 a), .int (Ic 0 a), .int (Ic 1 a)])) = va_pl L (cE G.2.2.2.1 ((L, K, AN, R0), (u2 Rc 1 a v, Ic, AIc, AR), (Im, AIm), AL)) := (va_pl_set (X := []) hh.2 hk.1 hj2).trans (va_pl_congr (cu_0_1 _ hk.2 v))
  have hn : narrow (tyX0 1) (va_rf v) = va_rf v := by cases v <;> rfl
  have hf : fits (tyX0 1) (va_rf v) = true := by cases v <;> rfl
  exact va_putN (C := RX0) (T := TX0) (N := 5) (Ts := wsX00) C.1 C.2.1 (fun w h => cx_ok C (gd_0 w h)) (fun _ h => h) tyX0 tyX0_ok nmX0 hown (cx_K C) hh.1 hh.2 hS j hj rfl 1 (by decide) (cx_nf (S := ((L, K, AN, R0), (Rc, Ic, AIc, AR), (Im, AIm), AL)) C nk_377) (fun _ h => h) rfl (tyX0_ok 1 (by decide)) hn hf (by show 1 < 5; decide) dg (fun H1 locs1 hP1 hD1 hS1 => kk p e s m args below meth c H1 locs1 ls C ⟨by rw [← he]; exact hP1, by rw [← he]; exact hD1⟩ hS1 hl)
theorem nk_379 : Cond.fieldLinkNest RX2 43 RX0 "right" "LSplaySequence$Node;" "SplaySequence" ∈ lw_tbl := List.mem_of_getElem? (i := 379) (by decide +kernel)
/-- getfield right of SplaySequence$Node -/
theorem gf_RX2_43 {o : Option Nat} {a : Nat} (dg : decode M.2.1 pc = .ok (.getfield 43, 3)) (hM : M.1.cls = RX2) (ho : o = some a) (hk : isK ((L, K, AN, R0), (Rc, Ic, AIc, AR), (Im, AIm), AL) 0 a) (kk : WP G M Q k n (pc + 3) lv (vr (Rc 1 a) :: st) ((L, K, AN, R0), (Rc, Ic, AIc, AR), (Im, AIm), AL)) : WP G M Q k n pc lv (vr o :: st) ((L, K, AN, R0), (Rc, Ic, AIc, AR), (Im, AIm), AL) := by
  subst ho
  intro p e s m args below meth c H locs ls C hh hS hl
  obtain ⟨j, hj⟩ := pool_at G.2.2.2.1 hk.1
  rw [cl_0 _ hk.2] at hj
  have hown := C.2.2.2.2.2.1
  rw [hM] at hown
  exact va_getN (C := RX0) (T := TX0) (N := 5) (Ts := wsX00) C.1 C.2.1 (fun w h => cx_ok C (gd_0 w h)) (fun _ h => h) hown (cx_K C) hh.1 j hj rfl 1 (by decide) (cx_nf (S := ((L, K, AN, R0), (Rc, Ic, AIc, AR), (Im, AIm), AL)) C nk_379) (fun _ h => h) rfl dg (kk p e s m args below meth c H locs ls C hh hS hl)
/-- putfield right of SplaySequence$Node -/
theorem pf_RX2_43 {o : Option Nat} {a : Nat} {v : Option Nat} (dg : decode M.2.1 pc = .ok (.putfield 43, 3)) (hM : M.1.cls = RX2) (ho : o = some a) (hk : isK ((L, K, AN, R0), (Rc, Ic, AIc, AR), (Im, AIm), AL) 0 a) (kk : WP G M Q k n (pc + 3) lv st ((L, K, AN, R0), (u2 Rc 1 a v, Ic, AIc, AR), (Im, AIm), AL)) : WP G M Q k n pc lv (vr v :: vr o :: st) ((L, K, AN, R0), (Rc, Ic, AIc, AR), (Im, AIm), AL) := by
  subst ho
  intro p e s m args below meth c H locs ls C hh hS hl
  obtain ⟨j, hj⟩ := pool_at G.2.2.2.1 hk.1
  have hj2 := hj
  rw [cl_0 _ hk.2] at hj
  have hown := C.2.2.2.2.2.1
  rw [hM] at hown
  have he : (va_pl L (cE G.2.2.2.1 ((L, K, AN, R0), (Rc, Ic, AIc, AR), (Im, AIm), AL))).set j (a, .inr (0, [va_rf (Rc 0 a), va_rf (v), va_rf (Rc 2 a), .int (Ic 0 a), .int (Ic 1 a)])) = va_pl L (cE G.2.2.2.1 ((L, K, AN, R0), (u2 Rc 1 a v, Ic, AIc, AR), (Im, AIm), AL)) := (va_pl_set (X := []) hh.2 hk.1 hj2).trans (va_pl_congr (cu_0_1 _ hk.2 v))
  have hn : narrow (tyX0 1) (va_rf v) = va_rf v := by cases v <;> rfl
  have hf : fits (tyX0 1) (va_rf v) = true := by cases v <;> rfl
  exact va_putN (C := RX0) (T := TX0) (N := 5) (Ts := wsX00) C.1 C.2.1 (fun w h => cx_ok C (gd_0 w h)) (fun _ h => h) tyX0 tyX0_ok nmX0 hown (cx_K C) hh.1 hh.2 hS j hj rfl 1 (by decide) (cx_nf (S := ((L, K, AN, R0), (Rc, Ic, AIc, AR), (Im, AIm), AL)) C nk_379) (fun _ h => h) rfl (tyX0_ok 1 (by decide)) hn hf (by show 1 < 5; decide) dg (fun H1 locs1 hP1 hD1 hS1 => kk p e s m args below meth c H1 locs1 ls C ⟨by rw [← he]; exact hP1, by rw [← he]; exact hD1⟩ hS1 hl)
theorem nk_380 : Cond.fieldLinkNest RX4 207 RX0 "right" "LSplaySequence$Node;" "SplaySequence" ∈ lw_tbl := List.mem_of_getElem? (i := 380) (by decide +kernel)
/-- getfield right of SplaySequence$Node -/
theorem gf_RX4_207 {o : Option Nat} {a : Nat} (dg : decode M.2.1 pc = .ok (.getfield 207, 3)) (hM : M.1.cls = RX4) (ho : o = some a) (hk : isK ((L, K, AN, R0), (Rc, Ic, AIc, AR), (Im, AIm), AL) 0 a) (kk : WP G M Q k n (pc + 3) lv (vr (Rc 1 a) :: st) ((L, K, AN, R0), (Rc, Ic, AIc, AR), (Im, AIm), AL)) : WP G M Q k n pc lv (vr o :: st) ((L, K, AN, R0), (Rc, Ic, AIc, AR), (Im, AIm), AL) := by
  subst ho
  intro p e s m args below meth c H locs ls C hh hS hl
  obtain ⟨j, hj⟩ := pool_at G.2.2.2.1 hk.1
  rw [cl_0 _ hk.2] at hj
  have hown := C.2.2.2.2.2.1
  rw [hM] at hown
  exact va_getN (C := RX0) (T := TX0) (N := 5) (Ts := wsX00) C.1 C.2.1 (fun w h => cx_ok C (gd_0 w h)) (fun _ h => h) hown (cx_K C) hh.1 j hj rfl 1 (by decide) (cx_nf (S := ((L, K, AN, R0), (Rc, Ic, AIc, AR), (Im, AIm), AL)) C nk_380) (fun _ h => h) rfl dg (kk p e s m args below meth c H locs ls C hh hS hl)
/-- putfield right of SplaySequence$Node -/
theorem pf_RX4_207 {o : Option Nat} {a : Nat} {v : Option Nat} (dg : decode M.2.1 pc = .ok (.putfield 207, 3)) (hM : M.1.cls = RX4) (ho : o = some a) (hk : isK ((L, K, AN, R0), (Rc, Ic, AIc, AR), (Im, AIm), AL) 0 a) (kk : WP G M Q k n (pc + 3) lv st ((L, K, AN, R0), (u2 Rc 1 a v, Ic, AIc, AR), (Im, AIm), AL)) : WP G M Q k n pc lv (vr v :: vr o :: st) ((L, K, AN, R0), (Rc, Ic, AIc, AR), (Im, AIm), AL) := by
  subst ho
  intro p e s m args below meth c H locs ls C hh hS hl
  obtain ⟨j, hj⟩ := pool_at G.2.2.2.1 hk.1
  have hj2 := hj
  rw [cl_0 _ hk.2] at hj
  have hown := C.2.2.2.2.2.1
  rw [hM] at hown
  have he : (va_pl L (cE G.2.2.2.1 ((L, K, AN, R0), (Rc, Ic, AIc, AR), (Im, AIm), AL))).set j (a, .inr (0, [va_rf (Rc 0 a), va_rf (v), va_rf (Rc 2 a), .int (Ic 0 a), .int (Ic 1 a)])) = va_pl L (cE G.2.2.2.1 ((L, K, AN, R0), (u2 Rc 1 a v, Ic, AIc, AR), (Im, AIm), AL)) := (va_pl_set (X := []) hh.2 hk.1 hj2).trans (va_pl_congr (cu_0_1 _ hk.2 v))
  have hn : narrow (tyX0 1) (va_rf v) = va_rf v := by cases v <;> rfl
  have hf : fits (tyX0 1) (va_rf v) = true := by cases v <;> rfl
  exact va_putN (C := RX0) (T := TX0) (N := 5) (Ts := wsX00) C.1 C.2.1 (fun w h => cx_ok C (gd_0 w h)) (fun _ h => h) tyX0 tyX0_ok nmX0 hown (cx_K C) hh.1 hh.2 hS j hj rfl 1 (by decide) (cx_nf (S := ((L, K, AN, R0), (Rc, Ic, AIc, AR), (Im, AIm), AL)) C nk_380) (fun _ h => h) rfl (tyX0_ok 1 (by decide)) hn hf (by show 1 < 5; decide) dg (fun H1 locs1 hP1 hD1 hS1 => kk p e s m args below meth c H1 locs1 ls C ⟨by rw [← he]; exact hP1, by rw [← he]; exact hD1⟩ hS1 hl)
theorem nk_382 : Cond.fieldLinkNest RX2 21 RX0 "parent" "LSplaySequence$Node;" "SplaySequence" ∈ lw_tbl := List.mem_of_getElem? (i := 382) (by decide +kernel)
/-- getfield parent of SplaySequence$Node -/
theorem gf_RX2_21 {o : Option Nat} {a : Nat} (dg : decode M.2.1 pc = .ok (.getfield 21, 3)) (hM : M.1.cls = RX2) (ho : o = some a) (hk : isK ((L, K, AN, R0), (Rc, Ic, AIc, AR), (Im, AIm), AL) 0 a) (kk : WP G M Q k n (pc + 3) lv (vr (Rc 2 a) :: st) ((L, K, AN, R0), (Rc, Ic, AIc, AR), (Im, AIm), AL)) : WP G M Q k n pc lv (vr o :: st) ((L, K, AN, R0), (Rc, Ic, AIc, AR), (Im, AIm), AL) := by
  subst ho
  intro p e s m args below meth c H locs ls C hh hS hl
  obtain ⟨j, hj⟩ := pool_at G.2.2.2.1 hk.1
  rw [cl_0 _ hk.2] at hj
  have hown := C.2.2.2.2.2.1
  rw [hM] at hown
  exact va_getN (C := RX0) (T := TX0) (N := 5) (Ts := wsX00) C.1 C.2.1 (fun w h => cx_ok C (gd_0 w h)) (fun _ h => h) hown (cx_K C) hh.1 j hj rfl 2 (by decide) (cx_nf (S := ((L, K, AN, R0), (Rc, Ic, AIc, AR), (Im, AIm), AL)) C nk_382) (fun _ h => h) rfl dg (kk p e s m args below meth c H locs ls C hh hS hl)
/-- putfield parent of SplaySequence$Node -/
theorem pf_RX2_21 {o : Option Nat} {a : Nat} {v : Option Nat} (dg : decode M.2.1 pc = .ok (.putfield 21, 3)) (hM : M.1.cls = RX2) (ho : o = some a) (hk : isK ((L, K, AN, R0), (Rc, Ic, AIc, AR), (Im, AIm), AL) 0 a) (kk : WP G M Q k n (pc + 3) lv st ((L, K, AN, R0), (u2 Rc 2 a v, Ic, AIc, AR), (Im, AIm), AL)) : WP G M Q k n pc lv (vr v :: vr o :: st) ((L, K, AN, R0), (Rc, Ic, AIc, AR), (Im, AIm), AL) := by
  subst ho
  intro p e s m args below meth c H locs ls C hh hS hl
  obtain ⟨j, hj⟩ := pool_at G.2.2.2.1 hk.1
  have hj2 := hj
  rw [cl_0 _ hk.2] at hj
  have hown := C.2.2.2.2.2.1
  rw [hM] at hown
  have he : (va_pl L (cE G.2.2.2.1 ((L, K, AN, R0), (Rc, Ic, AIc, AR), (Im, AIm), AL))).set j (a, .inr (0, [va_rf (Rc 0 a), va_rf (Rc 1 a), va_rf (v), .int (Ic 0 a), .int (Ic 1 a)])) = va_pl L (cE G.2.2.2.1 ((L, K, AN, R0), (u2 Rc 2 a v, Ic, AIc, AR), (Im, AIm), AL)) := (va_pl_set (X := []) hh.2 hk.1 hj2).trans (va_pl_congr (cu_0_2 _ hk.2 v))
  have hn : narrow (tyX0 2) (va_rf v) = va_rf v := by cases v <;> rfl
  have hf : fits (tyX0 2) (va_rf v) = true := by cases v <;> rfl
  exact va_putN (C := RX0) (T := TX0) (N := 5) (Ts := wsX00) C.1 C.2.1 (fun w h => cx_ok C (gd_0 w h)) (fun _ h => h) tyX0 tyX0_ok nmX0 hown (cx_K C) hh.1 hh.2 hS j hj rfl 2 (by decide) (cx_nf (S := ((L, K, AN, R0), (Rc, Ic, AIc, AR), (Im, AIm), AL)) C nk_382) (fun _ h => h) rfl (tyX0_ok 2 (by decide)) hn hf (by show 2 < 5; decide) dg (fun H1 locs1 hP1 hD1 hS1 => kk p e s m args below meth c H1 locs1 ls C ⟨by rw [← he]; exact hP1, by rw [← he]; exact hD1⟩ hS1 hl)
theorem nk_384 : Cond.fieldLinkNest RX3 49 RX0 "count" "I" "SplaySequence" ∈ lw_tbl := List.mem_of_getElem? (i := 384) (by decide +kernel)
/-- getfield count of SplaySequence$Node -/
theorem gf_RX3_49 {o : Option Nat} {a : Nat} (dg : decode M.2.1 pc = .ok (.getfield 49, 3)) (hM : M.1.cls = RX3) (ho : o = some a) (hk : isK ((L, K, AN, R0), (Rc, Ic, AIc, AR), (Im, AIm), AL) 0 a) (kk : WP G M Q k n (pc + 3) lv (vi (Ic 0 a) :: st) ((L, K, AN, R0), (Rc, Ic, AIc, AR), (Im, AIm), AL)) : WP G M Q k n pc lv (vr o :: st) ((L, K, AN, R0), (Rc, Ic, AIc, AR), (Im, AIm), AL) := by
  subst ho
  intro p e s m args below meth c H locs ls C hh hS hl
  obtain ⟨j, hj⟩ := pool_at G.2.2.2.1 hk.1
  rw [cl_0 _ hk.2] at hj
  have hown := C.2.2.2.2.2.1
  rw [hM] at hown
  exact va_getN (C := RX0) (T := TX0) (N := 5) (Ts := wsX00) C.1 C.2.1 (fun w h => cx_ok C (gd_0 w h)) (fun _ h => h) hown (cx_K C) hh.1 j hj rfl 3 (by decide) (cx_nf (S := ((L, K, AN, R0), (Rc, Ic, AIc, AR), (Im, AIm), AL)) C nk_384) (fun _ h => h) rfl dg (kk p e s m args below meth c H locs ls C hh hS hl)
/-- putfield count of SplaySequence$Node -/
theorem pf_RX3_49 {o : Option Nat} {a : Nat} {v : Int32} (dg : decode M.2.1 pc = .ok (.putfield 49, 3)) (hM : M.1.cls = RX3) (ho : o = some a) (hk : isK ((L, K, AN, R0), (Rc, Ic, AIc, AR), (Im, AIm), AL) 0 a) (kk : WP G M Q k n (pc + 3) lv st ((L, K, AN, R0), (Rc, u2 Ic 0 a v, AIc, AR), (Im, AIm), AL)) : WP G M Q k n pc lv (vi v :: vr o :: st) ((L, K, AN, R0), (Rc, Ic, AIc, AR), (Im, AIm), AL) := by
  subst ho
  intro p e s m args below meth c H locs ls C hh hS hl
  obtain ⟨j, hj⟩ := pool_at G.2.2.2.1 hk.1
  have hj2 := hj
  rw [cl_0 _ hk.2] at hj
  have hown := C.2.2.2.2.2.1
  rw [hM] at hown
  have he : (va_pl L (cE G.2.2.2.1 ((L, K, AN, R0), (Rc, Ic, AIc, AR), (Im, AIm), AL))).set j (a, .inr (0, [va_rf (Rc 0 a), va_rf (Rc 1 a), va_rf (Rc 2 a), .int (v), .int (Ic 1 a)])) = va_pl L (cE G.2.2.2.1 ((L, K, AN, R0), (Rc, u2 Ic 0 a v, AIc, AR), (Im, AIm), AL)) := (va_pl_set (X := []) hh.2 hk.1 hj2).trans (va_pl_congr (cu_0_3 _ hk.2 v))
  have hn : narrow (tyX0 3) (.int v) = .int v := rfl
  have hf : fits (tyX0 3) (.int v) = true := rfl
  exact va_putN (C := RX0) (T := TX0) (N := 5) (Ts := wsX00) C.1 C.2.1 (fun w h => cx_ok C (gd_0 w h)) (fun _ h => h) tyX0 tyX0_ok nmX0 hown (cx_K C) hh.1 hh.2 hS j hj rfl 3 (by decide) (cx_nf (S := ((L, K, AN, R0), (Rc, Ic, AIc, AR), (Im, AIm), AL)) C nk_384) (fun _ h => h) rfl (tyX0_ok 3 (by decide)) hn hf (by show 3 < 5; decide) dg (fun H1 locs1 hP1 hD1 hS1 => kk p e s m args below meth c H1 locs1 ls C ⟨by rw [← he]; exact hP1, by rw [← he]; exact hD1⟩ hS1 hl)
theorem nk_385 : Cond.fieldLinkNest RX4 205 RX0 "count" "I" "SplaySequence" ∈ lw_tbl := List.mem_of_getElem? (i := 385) (by decide +kernel)
/-- getfield count of SplaySequence$Node -/
theorem gf_RX4_205 {o : Option Nat} {a : Nat} (dg : decode M.2.1 pc = .ok (.getfield 205, 3)) (hM : M.1.cls = RX4) (ho : o = some a) (hk : isK ((L, K, AN, R0), (Rc, Ic, AIc, AR), (Im, AIm), AL) 0 a) (kk : WP G M Q k n (pc + 3) lv (vi (Ic 0 a) :: st) ((L, K, AN, R0), (Rc, Ic, AIc, AR), (Im, AIm), AL)) : WP G M Q k n pc lv (vr o :: st) ((L, K, AN, R0), (Rc, Ic, AIc, AR), (Im, AIm), AL) := by
  subst ho
  intro p e s m args below meth c H locs ls C hh hS hl
  obtain ⟨j, hj⟩ := pool_at G.2.2.2.1 hk.1
  rw [cl_0 _ hk.2] at hj
  have hown := C.2.2.2.2.2.1
  rw [hM] at hown
  exact va_getN (C := RX0) (T := TX0) (N := 5) (Ts := wsX00) C.1 C.2.1 (fun w h => cx_ok C (gd_0 w h)) (fun _ h => h) hown (cx_K C) hh.1 j hj rfl 3 (by decide) (cx_nf (S := ((L, K, AN, R0), (Rc, Ic, AIc, AR), (Im, AIm), AL)) C nk_385) (fun _ h => h) rfl dg (kk p e s m args below meth c H locs ls C hh hS hl)
/-- putfield count of SplaySequence$Node -/
theorem pf_RX4_205 {o : Option Nat} {a : Nat} {v : Int32} (dg : decode M.2.1 pc = .ok (.putfield 205, 3)) (hM : M.1.cls = RX4) (ho : o = some a) (hk : isK ((L, K, AN, R0), (Rc, Ic, AIc, AR), (Im, AIm), AL) 0 a) (kk : WP G M Q k n (pc + 3) lv st ((L, K, AN, R0), (Rc, u2 Ic 0 a v, AIc, AR), (Im, AIm), AL)) : WP G M Q k n pc lv (vi v :: vr o :: st) ((L, K, AN, R0), (Rc, Ic, AIc, AR), (Im, AIm), AL) := by
  subst ho
  intro p e s m args below meth c H locs ls C hh hS hl
  obtain ⟨j, hj⟩ := pool_at G.2.2.2.1 hk.1
  have hj2 := hj
  rw [cl_0 _ hk.2] at hj
  have hown := C.2.2.2.2.2.1
  rw [hM] at hown
  have he : (va_pl L (cE G.2.2.2.1 ((L, K, AN, R0), (Rc, Ic, AIc, AR), (Im, AIm), AL))).set j (a, .inr (0, [va_rf (Rc 0 a), va_rf (Rc 1 a), va_rf (Rc 2 a), .int (v), .int (Ic 1 a)])) = va_pl L (cE G.2.2.2.1 ((L, K, AN, R0), (Rc, u2 Ic 0 a v, AIc, AR), (Im, AIm), AL)) := (va_pl_set (X := []) hh.2 hk.1 hj2).trans (va_pl_congr (cu_0_3 _ hk.2 v))
  have hn : narrow (tyX0 3) (.int v) = .int v := rfl
  have hf : fits (tyX0 3) (.int v) = true := rfl
  exact va_putN (C := RX0) (T := TX0) (N := 5) (Ts := wsX00) C.1 C.2.1 (fun w h => cx_ok C (gd_0 w h)) (fun _ h => h) tyX0 tyX0_ok nmX0 hown (cx_K C) hh.1 hh.2 hS j hj rfl 3 (by decide) (cx_nf (S := ((L, K, AN, R0), (Rc, Ic, AIc, AR), (Im, AIm), AL)) C nk_385) (fun _ h => h) rfl (tyX0_ok 3 (by decide)) hn hf (by show 3 < 5; decide) dg (fun H1 locs1 hP1 hD1 hS1 => kk p e s m args below meth c H1 locs1 ls C ⟨by rw [← he]; exact hP1, by rw [← he]; exact hD1⟩ hS1 hl)
theorem nk_387 : Cond.fieldLinkNest RX4 118 RX0 "value" "I" "SplaySequence" ∈ lw_tbl := List.mem_of_getElem? (i := 387) (by decide +kernel)
/-- getfield value of SplaySequence$Node -/
theorem gf_RX4_118 {o : Option Nat} {a : Nat} (dg : decode M.2.1 pc = .ok (.getfield 118, 3)) (hM : M.1.cls = RX4) (ho : o = some a) (hk : isK ((L, K, AN, R0), (Rc, Ic, AIc, AR), (Im, AIm), AL) 0 a) (kk : WP G M Q k n (pc + 3) lv (vi (Ic 1 a) :: st) ((L, K, AN, R0), (Rc, Ic, AIc, AR), (Im, AIm), AL)) : WP G M Q k n pc lv (vr o :: st) ((L, K, AN, R0), (Rc, Ic, AIc, AR), (Im, AIm), AL) := by
  subst ho
  intro p e s m args below meth c H locs ls C hh hS hl
  obtain ⟨j, hj⟩ := pool_at G.2.2.2.1 hk.1
  rw [cl_0 _ hk.2] at hj
  have hown := C.2.2.2.2.2.1
  rw [hM] at hown
  exact va_getN (C := RX0) (T := TX0) (N := 5) (Ts := wsX00) C.1 C.2.1 (fun w h => cx_ok C (gd_0 w h)) (fun _ h => h) hown (cx_K C) hh.1 j hj rfl 4 (by decide) (cx_nf (S := ((L, K, AN, R0), (Rc, Ic, AIc, AR), (Im, AIm), AL)) C nk_387) (fun _ h => h) rfl dg (kk p e s m args below meth c H locs ls C hh hS hl)
/-- putfield value of SplaySequence$Node -/
theorem pf_RX4_118 {o : Option Nat} {a : Nat} {v : Int32} (dg : decode M.2.1 pc = .ok (.putfield 118, 3)) (hM : M.1.cls = RX4) (ho : o = some a) (hk : isK ((L, K, AN, R0), (Rc, Ic, AIc, AR), (Im, AIm), AL) 0 a) (kk : WP G M Q k n (pc + 3) lv st ((L, K, AN, R0), (Rc, u2 Ic 1 a v, AIc, AR), (Im, AIm), AL)) : WP G M Q k n pc lv (vi v :: vr o :: st) ((L, K, AN, R0), (Rc, Ic, AIc, AR), (Im, AIm), AL) := by
  subst ho
  intro p e s m args below meth c H locs ls C hh hS hl
  obtain ⟨j, hj⟩ := pool_at G.2.2.2.1 hk.1
  have hj2 := hj
  rw [cl_0 _ hk.2] at hj
  have hown := C.2.2.2.2.2.1
  rw [hM] at hown
  have he : (va_pl L (cE G.2.2.2.1 ((L, K, AN, R0), (Rc, Ic, AIc, AR), (Im, AIm), AL))).set j (a, .inr (0, [va_rf (Rc 0 a), va_rf (Rc 1 a), va_rf (Rc 2 a), .int (Ic 0 a), .int (v)])) = va_pl L (cE G.2.2.2.1 ((L, K, AN, R0), (Rc, u2 Ic 1 a v, AIc, AR), (Im, AIm), AL)) := (va_pl_set (X := []) hh.2 hk.1 hj2).trans (va_pl_congr (cu_0_4 _ hk.2 v))
  have hn : narrow (tyX0 4) (.int v) = .int v := rfl
  have hf : fits (tyX0 4) (.int v) = true := rfl
  exact va_putN (C := RX0) (T := TX0) (N := 5) (Ts := wsX00) C.1 C.2.1 (fun w h => cx_ok C (gd_0 w h)) (fun _ h => h) tyX0 tyX0_ok nmX0 hown (cx_K C) hh.1 hh.2 hS j hj rfl 4 (by decide) (cx_nf (S := ((L, K, AN, R0), (Rc, Ic, AIc, AR), (Im, AIm), AL)) C nk_387) (fun _ h => h) rfl (tyX0_ok 4 (by decide)) hn hf (by show 4 < 5; decide) dg (fun H1 locs1 hP1 hD1 hS1 => kk p e s m args below meth c H1 locs1 ls C ⟨by rw [← he]; exact hP1, by rw [← he]; exact hD1⟩ hS1 hl)
theorem nk_388 : Cond.fieldLinkNest RX3 39 RX0 "value" "I" "SplaySequence" ∈ lw_tbl := List.mem_of_getElem? (i := 388) (by decide +kernel)
/-- getfield value of SplaySequence$Node -/
theorem gf_RX3_39 {o : Option Nat} {a : Nat} (dg : decode M.2.1 pc = .ok (.getfield 39, 3)) (hM : M.1.cls = RX3) (ho : o = some a) (hk : isK ((L, K, AN, R0), (Rc, Ic, AIc, AR), (Im, AIm), AL) 0 a) (kk : WP G M Q k n (pc + 3) lv (vi (Ic 1 a) :: st) ((L, K, AN, R0), (Rc, Ic, AIc, AR), (Im, AIm), AL)) : WP G M Q k n pc lv (vr o :: st) ((L, K, AN, R0), (Rc, Ic, AIc, AR), (Im, AIm), AL) := by
  subst ho
  intro p e s m args below meth c H locs ls C hh hS hl
  obtain ⟨j, hj⟩ := pool_at G.2.2.2.1 hk.1
  rw [cl_0 _ hk.2] at hj
  have hown := C.2.2.2.2.2.1
  rw [hM] at hown
  exact va_getN (C := RX0) (T := TX0) (N := 5) (Ts := wsX00) C.1 C.2.1 (fun w h => cx_ok C (gd_0 w h)) (fun _ h => h) hown (cx_K C) hh.1 j hj rfl 4 (by decide) (cx_nf (S := ((L, K, AN, R0), (Rc, Ic, AIc, AR), (Im, AIm), AL)) C nk_388) (fun _ h => h) rfl dg (kk p e s m args below meth c H locs ls C hh hS hl)
/-- putfield value of SplaySequence$Node -/
theorem pf_RX3_39 {o : Option Nat} {a : Nat} {v : Int32} (dg : decode M.2.1 pc = .ok (.putfield 39, 3)) (hM : M.1.cls = RX3) (ho : o = some a) (hk : isK ((L, K, AN, R0), (Rc, Ic, AIc, AR), (Im, AIm), AL) 0 a) (kk : WP G M Q k n (pc + 3) lv st ((L, K, AN, R0), (Rc, u2 Ic 1 a v, AIc, AR), (Im, AIm), AL)) : WP G M Q k n pc lv (vi v :: vr o :: st) ((L, K, AN, R0), (Rc, Ic, AIc, AR), (Im, AIm), AL) := by
  subst ho
  intro p e s m args below meth c H locs ls C hh hS hl
  obtain ⟨j, hj⟩ := pool_at G.2.2.2.1 hk.1
  have hj2 := hj
  rw [cl_0 _ hk.2] at hj
  have hown := C.2.2.2.2.2.1
  rw [hM] at hown
  have he : (va_pl L (cE G.2.2.2.1 ((L, K, AN, R0), (Rc, Ic, AIc, AR), (Im, AIm), AL))).set j (a, .inr (0, [va_rf (Rc 0 a), va_rf (Rc 1 a), va_rf (Rc 2 a), .int (Ic 0 a), .int (v)])) = va_pl L (cE G.2.2.2.1 ((L, K, AN, R0), (Rc, u2 Ic 1 a v, AIc, AR), (Im, AIm), AL)) := (va_pl_set (X := []) hh.2 hk.1 hj2).trans (va_pl_congr (cu_0_4 _ hk.2 v))
  have hn : narrow (tyX0 4) (.int v) = .int v := rfl
  have hf : fits (tyX0 4) (.int v) = true := rfl
  exact va_putN (C := RX0) (T := TX0) (N := 5) (Ts := wsX00) C.1 C.2.1 (fun w h => cx_ok C (gd_0 w h)) (fun _ h => h) tyX0 tyX0_ok nmX0 hown (cx_K C) hh.1 hh.2 hS j hj rfl 4 (by decide) (cx_nf (S := ((L, K, AN, R0), (Rc, Ic, AIc, AR), (Im, AIm), AL)) C nk_388) (fun _ h => h) rfl (tyX0_ok 4 (by decide)) hn hf (by show 4 < 5; decide) dg (fun H1 locs1 hP1 hD1 hS1 => kk p e s m args below meth c H1 locs1 ls C ⟨by rw [← he]; exact hP1, by rw [← he]; exact hD1⟩ hS1 hl)
end FLD
