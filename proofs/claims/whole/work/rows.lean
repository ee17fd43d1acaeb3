section
-- ===== PART A: goes FIRST, ahead of the names: the tables' words, and 'selects' of the private methods out of them =====
/-- a private method of a class that the tables say can be made, by its rows of tables_1 -/
def lw_okq (q : MethodName × Nat) : Prop := (q.1.cls ≠ "java/lang/invoke/MethodHandle" ∧ q.1.cls ≠ "java/lang/invoke/VarHandle") ∧ Cond.instantiable q.1.cls q.2 ∈ tables_1 ∧ Cond.privateMethod q.1 ∈ tables_1 ∧ Cond.instanceMethod q.1 ∈ tables_1
theorem lw_p0 : lw_okq (⟨"SplaySequence", "checkGap", "(I)V"⟩, 8) := ⟨⟨by decide +kernel, by decide +kernel⟩, List.mem_of_getElem? (i := 16) (by decide +kernel), List.mem_of_getElem? (i := 188) (by decide +kernel), List.mem_of_getElem? (i := 189) (by decide +kernel)⟩
theorem lw_p1 : lw_okq (⟨"java/lang/Throwable", "fillInStackTrace", "(I)Ljava/lang/Throwable;"⟩, 6) := ⟨⟨by decide +kernel, by decide +kernel⟩, List.mem_of_getElem? (i := 230) (by decide +kernel), List.mem_of_getElem? (i := 228) (by decide +kernel), List.mem_of_getElem? (i := 229) (by decide +kernel)⟩
theorem lw_p2 : lw_okq (⟨"SplaySequence$Splayer", "rotate", "(LSplaySequence$Node;)V"⟩, 4) := ⟨⟨by decide +kernel, by decide +kernel⟩, List.mem_of_getElem? (i := 36) (by decide +kernel), List.mem_of_getElem? (i := 316) (by decide +kernel), List.mem_of_getElem? (i := 317) (by decide +kernel)⟩
theorem lw_p3 : lw_okq (⟨"SplaySequence", "nodeAt", "(I)LSplaySequence$Node;"⟩, 8) := ⟨⟨by decide +kernel, by decide +kernel⟩, List.mem_of_getElem? (i := 16) (by decide +kernel), List.mem_of_getElem? (i := 382) (by decide +kernel), List.mem_of_getElem? (i := 383) (by decide +kernel)⟩
theorem lw_p4 : lw_okq (⟨"SplaySequence", "liftFingersFrom", "(LSplaySequence$Node;)V"⟩, 8) := ⟨⟨by decide +kernel, by decide +kernel⟩, List.mem_of_getElem? (i := 16) (by decide +kernel), List.mem_of_getElem? (i := 402) (by decide +kernel), List.mem_of_getElem? (i := 403) (by decide +kernel)⟩
theorem lw_p5 : lw_okq (⟨"SplaySequence", "checkRange", "(II)V"⟩, 8) := ⟨⟨by decide +kernel, by decide +kernel⟩, List.mem_of_getElem? (i := 16) (by decide +kernel), List.mem_of_getElem? (i := 435) (by decide +kernel), List.mem_of_getElem? (i := 436) (by decide +kernel)⟩
theorem lw_p6 : lw_okq (⟨"SplaySequence", "takeRange", "(II)V"⟩, 8) := ⟨⟨by decide +kernel, by decide +kernel⟩, List.mem_of_getElem? (i := 16) (by decide +kernel), List.mem_of_getElem? (i := 440) (by decide +kernel), List.mem_of_getElem? (i := 441) (by decide +kernel)⟩
theorem lw_p7 : lw_okq (⟨"SplaySequence", "putRangeBack", "()V"⟩, 8) := ⟨⟨by decide +kernel, by decide +kernel⟩, List.mem_of_getElem? (i := 16) (by decide +kernel), List.mem_of_getElem? (i := 452) (by decide +kernel), List.mem_of_getElem? (i := 453) (by decide +kernel)⟩
theorem lw_p8 : lw_okq (⟨"SplaySequence$Row", "hasRange", "(II)Z"⟩, 2) := ⟨⟨by decide +kernel, by decide +kernel⟩, List.mem_of_getElem? (i := 61) (by decide +kernel), List.mem_of_getElem? (i := 460) (by decide +kernel), List.mem_of_getElem? (i := 461) (by decide +kernel)⟩
theorem lw_p9 : lw_okq (⟨"SplaySequence", "checkFinger", "(I)V"⟩, 8) := ⟨⟨by decide +kernel, by decide +kernel⟩, List.mem_of_getElem? (i := 16) (by decide +kernel), List.mem_of_getElem? (i := 535) (by decide +kernel), List.mem_of_getElem? (i := 536) (by decide +kernel)⟩
theorem lw_p10 : lw_okq (⟨"SplaySequenceModel", "count", "()I"⟩, 20) := ⟨⟨by decide +kernel, by decide +kernel⟩, List.mem_of_getElem? (i := 615) (by decide +kernel), List.mem_of_getElem? (i := 691) (by decide +kernel), List.mem_of_getElem? (i := 692) (by decide +kernel)⟩
theorem lw_p11 : lw_okq (⟨"SplaySequenceModel", "sizeOf", "(I)I"⟩, 20) := ⟨⟨by decide +kernel, by decide +kernel⟩, List.mem_of_getElem? (i := 615) (by decide +kernel), List.mem_of_getElem? (i := 695) (by decide +kernel), List.mem_of_getElem? (i := 696) (by decide +kernel)⟩
theorem lw_p12 : lw_okq (⟨"SplaySequenceModel", "layOrder", "(I)V"⟩, 20) := ⟨⟨by decide +kernel, by decide +kernel⟩, List.mem_of_getElem? (i := 615) (by decide +kernel), List.mem_of_getElem? (i := 699) (by decide +kernel), List.mem_of_getElem? (i := 700) (by decide +kernel)⟩
theorem lw_p13 : lw_okq (⟨"SplaySequenceModel", "leftmost", "(I)I"⟩, 20) := ⟨⟨by decide +kernel, by decide +kernel⟩, List.mem_of_getElem? (i := 615) (by decide +kernel), List.mem_of_getElem? (i := 703) (by decide +kernel), List.mem_of_getElem? (i := 704) (by decide +kernel)⟩
theorem lw_p14 : lw_okq (⟨"SplaySequenceModel", "following", "(I)I"⟩, 20) := ⟨⟨by decide +kernel, by decide +kernel⟩, List.mem_of_getElem? (i := 615) (by decide +kernel), List.mem_of_getElem? (i := 707) (by decide +kernel), List.mem_of_getElem? (i := 708) (by decide +kernel)⟩
theorem lw_p15 : lw_okq (⟨"SplaySequenceModel", "goesWell", "(I)Z"⟩, 20) := ⟨⟨by decide +kernel, by decide +kernel⟩, List.mem_of_getElem? (i := 615) (by decide +kernel), List.mem_of_getElem? (i := 714) (by decide +kernel), List.mem_of_getElem? (i := 715) (by decide +kernel)⟩
def lw_privs_1 : List (MethodName × Nat) := [(⟨"SplaySequence", "checkGap", "(I)V"⟩, 8), (⟨"java/lang/Throwable", "fillInStackTrace", "(I)Ljava/lang/Throwable;"⟩, 6), (⟨"SplaySequence$Splayer", "rotate", "(LSplaySequence$Node;)V"⟩, 4), (⟨"SplaySequence", "nodeAt", "(I)LSplaySequence$Node;"⟩, 8), (⟨"SplaySequence", "liftFingersFrom", "(LSplaySequence$Node;)V"⟩, 8), (⟨"SplaySequence", "checkRange", "(II)V"⟩, 8), (⟨"SplaySequence", "takeRange", "(II)V"⟩, 8), (⟨"SplaySequence", "putRangeBack", "()V"⟩, 8), (⟨"SplaySequence$Row", "hasRange", "(II)Z"⟩, 2), (⟨"SplaySequence", "checkFinger", "(I)V"⟩, 8), (⟨"SplaySequenceModel", "count", "()I"⟩, 20), (⟨"SplaySequenceModel", "sizeOf", "(I)I"⟩, 20), (⟨"SplaySequenceModel", "layOrder", "(I)V"⟩, 20), (⟨"SplaySequenceModel", "leftmost", "(I)I"⟩, 20), (⟨"SplaySequenceModel", "following", "(I)I"⟩, 20), (⟨"SplaySequenceModel", "goesWell", "(I)Z"⟩, 20)]
theorem lw_r1 : ∀ q ∈ lw_privs_1, lw_okq q := List.forall_mem_cons.mpr ⟨lw_p0, List.forall_mem_cons.mpr ⟨lw_p1, List.forall_mem_cons.mpr ⟨lw_p2, List.forall_mem_cons.mpr ⟨lw_p3, List.forall_mem_cons.mpr ⟨lw_p4, List.forall_mem_cons.mpr ⟨lw_p5, List.forall_mem_cons.mpr ⟨lw_p6, List.forall_mem_cons.mpr ⟨lw_p7, List.forall_mem_cons.mpr ⟨lw_p8, List.forall_mem_cons.mpr ⟨lw_p9, List.forall_mem_cons.mpr ⟨lw_p10, List.forall_mem_cons.mpr ⟨lw_p11, List.forall_mem_cons.mpr ⟨lw_p12, List.forall_mem_cons.mpr ⟨lw_p13, List.forall_mem_cons.mpr ⟨lw_p14, List.forall_mem_cons.mpr ⟨lw_p15, fun _ h => absurd h List.not_mem_nil⟩⟩⟩⟩⟩⟩⟩⟩⟩⟩⟩⟩⟩⟩⟩⟩
theorem lw_p16 : lw_okq (⟨"SplaySequenceModel", "begins", "()V"⟩, 20) := ⟨⟨by decide +kernel, by decide +kernel⟩, List.mem_of_getElem? (i := 615) (by decide +kernel), List.mem_of_getElem? (i := 718) (by decide +kernel), List.mem_of_getElem? (i := 719) (by decide +kernel)⟩
theorem lw_p17 : lw_okq (⟨"SplaySequenceModel", "split", "(II)V"⟩, 20) := ⟨⟨by decide +kernel, by decide +kernel⟩, List.mem_of_getElem? (i := 615) (by decide +kernel), List.mem_of_getElem? (i := 722) (by decide +kernel), List.mem_of_getElem? (i := 723) (by decide +kernel)⟩
theorem lw_p18 : lw_okq (⟨"SplaySequenceModel", "nodeAt", "(II)I"⟩, 20) := ⟨⟨by decide +kernel, by decide +kernel⟩, List.mem_of_getElem? (i := 615) (by decide +kernel), List.mem_of_getElem? (i := 726) (by decide +kernel), List.mem_of_getElem? (i := 727) (by decide +kernel)⟩
theorem lw_p19 : lw_okq (⟨"SplaySequenceModel", "splay", "(I)V"⟩, 20) := ⟨⟨by decide +kernel, by decide +kernel⟩, List.mem_of_getElem? (i := 615) (by decide +kernel), List.mem_of_getElem? (i := 730) (by decide +kernel), List.mem_of_getElem? (i := 731) (by decide +kernel)⟩
theorem lw_p20 : lw_okq (⟨"SplaySequenceModel", "rotate", "(I)V"⟩, 20) := ⟨⟨by decide +kernel, by decide +kernel⟩, List.mem_of_getElem? (i := 615) (by decide +kernel), List.mem_of_getElem? (i := 734) (by decide +kernel), List.mem_of_getElem? (i := 735) (by decide +kernel)⟩
theorem lw_p21 : lw_okq (⟨"SplaySequenceModel", "hang", "(IIZ)V"⟩, 20) := ⟨⟨by decide +kernel, by decide +kernel⟩, List.mem_of_getElem? (i := 615) (by decide +kernel), List.mem_of_getElem? (i := 738) (by decide +kernel), List.mem_of_getElem? (i := 739) (by decide +kernel)⟩
theorem lw_p22 : lw_okq (⟨"SplaySequenceModel", "isPlace", "(I)Z"⟩, 20) := ⟨⟨by decide +kernel, by decide +kernel⟩, List.mem_of_getElem? (i := 615) (by decide +kernel), List.mem_of_getElem? (i := 746) (by decide +kernel), List.mem_of_getElem? (i := 747) (by decide +kernel)⟩
theorem lw_p23 : lw_okq (⟨"SplaySequenceModel", "join", "(II)I"⟩, 20) := ⟨⟨by decide +kernel, by decide +kernel⟩, List.mem_of_getElem? (i := 615) (by decide +kernel), List.mem_of_getElem? (i := 750) (by decide +kernel), List.mem_of_getElem? (i := 751) (by decide +kernel)⟩
theorem lw_p24 : lw_okq (⟨"SplaySequenceModel", "rightmost", "(I)I"⟩, 20) := ⟨⟨by decide +kernel, by decide +kernel⟩, List.mem_of_getElem? (i := 615) (by decide +kernel), List.mem_of_getElem? (i := 754) (by decide +kernel), List.mem_of_getElem? (i := 755) (by decide +kernel)⟩
theorem lw_p25 : lw_okq (⟨"SplaySequenceModel", "raiseUp", "(I)I"⟩, 20) := ⟨⟨by decide +kernel, by decide +kernel⟩, List.mem_of_getElem? (i := 615) (by decide +kernel), List.mem_of_getElem? (i := 762) (by decide +kernel), List.mem_of_getElem? (i := 763) (by decide +kernel)⟩
theorem lw_p26 : lw_okq (⟨"SplaySequenceModel", "isRange", "(II)Z"⟩, 20) := ⟨⟨by decide +kernel, by decide +kernel⟩, List.mem_of_getElem? (i := 615) (by decide +kernel), List.mem_of_getElem? (i := 774) (by decide +kernel), List.mem_of_getElem? (i := 775) (by decide +kernel)⟩
theorem lw_p27 : lw_okq (⟨"SplaySequenceModel", "open", "(II)V"⟩, 20) := ⟨⟨by decide +kernel, by decide +kernel⟩, List.mem_of_getElem? (i := 615) (by decide +kernel), List.mem_of_getElem? (i := 778) (by decide +kernel), List.mem_of_getElem? (i := 779) (by decide +kernel)⟩
theorem lw_p28 : lw_okq (⟨"SplaySequenceModel", "turnRound", "()V"⟩, 20) := ⟨⟨by decide +kernel, by decide +kernel⟩, List.mem_of_getElem? (i := 615) (by decide +kernel), List.mem_of_getElem? (i := 782) (by decide +kernel), List.mem_of_getElem? (i := 783) (by decide +kernel)⟩
theorem lw_p29 : lw_okq (⟨"SplaySequenceModel", "close", "()V"⟩, 20) := ⟨⟨by decide +kernel, by decide +kernel⟩, List.mem_of_getElem? (i := 615) (by decide +kernel), List.mem_of_getElem? (i := 786) (by decide +kernel), List.mem_of_getElem? (i := 787) (by decide +kernel)⟩
theorem lw_p30 : lw_okq (⟨"SplaySequenceModel", "isInSequence", "(I)Z"⟩, 20) := ⟨⟨by decide +kernel, by decide +kernel⟩, List.mem_of_getElem? (i := 615) (by decide +kernel), List.mem_of_getElem? (i := 821) (by decide +kernel), List.mem_of_getElem? (i := 822) (by decide +kernel)⟩
theorem lw_p31 : lw_okq (⟨"SplaySequenceModel", "rootOf", "(I)I"⟩, 20) := ⟨⟨by decide +kernel, by decide +kernel⟩, List.mem_of_getElem? (i := 615) (by decide +kernel), List.mem_of_getElem? (i := 825) (by decide +kernel), List.mem_of_getElem? (i := 826) (by decide +kernel)⟩
def lw_privs_2 : List (MethodName × Nat) := [(⟨"SplaySequenceModel", "begins", "()V"⟩, 20), (⟨"SplaySequenceModel", "split", "(II)V"⟩, 20), (⟨"SplaySequenceModel", "nodeAt", "(II)I"⟩, 20), (⟨"SplaySequenceModel", "splay", "(I)V"⟩, 20), (⟨"SplaySequenceModel", "rotate", "(I)V"⟩, 20), (⟨"SplaySequenceModel", "hang", "(IIZ)V"⟩, 20), (⟨"SplaySequenceModel", "isPlace", "(I)Z"⟩, 20), (⟨"SplaySequenceModel", "join", "(II)I"⟩, 20), (⟨"SplaySequenceModel", "rightmost", "(I)I"⟩, 20), (⟨"SplaySequenceModel", "raiseUp", "(I)I"⟩, 20), (⟨"SplaySequenceModel", "isRange", "(II)Z"⟩, 20), (⟨"SplaySequenceModel", "open", "(II)V"⟩, 20), (⟨"SplaySequenceModel", "turnRound", "()V"⟩, 20), (⟨"SplaySequenceModel", "close", "()V"⟩, 20), (⟨"SplaySequenceModel", "isInSequence", "(I)Z"⟩, 20), (⟨"SplaySequenceModel", "rootOf", "(I)I"⟩, 20)]
theorem lw_r2 : ∀ q ∈ lw_privs_2, lw_okq q := List.forall_mem_cons.mpr ⟨lw_p16, List.forall_mem_cons.mpr ⟨lw_p17, List.forall_mem_cons.mpr ⟨lw_p18, List.forall_mem_cons.mpr ⟨lw_p19, List.forall_mem_cons.mpr ⟨lw_p20, List.forall_mem_cons.mpr ⟨lw_p21, List.forall_mem_cons.mpr ⟨lw_p22, List.forall_mem_cons.mpr ⟨lw_p23, List.forall_mem_cons.mpr ⟨lw_p24, List.forall_mem_cons.mpr ⟨lw_p25, List.forall_mem_cons.mpr ⟨lw_p26, List.forall_mem_cons.mpr ⟨lw_p27, List.forall_mem_cons.mpr ⟨lw_p28, List.forall_mem_cons.mpr ⟨lw_p29, List.forall_mem_cons.mpr ⟨lw_p30, List.forall_mem_cons.mpr ⟨lw_p31, fun _ h => absurd h List.not_mem_nil⟩⟩⟩⟩⟩⟩⟩⟩⟩⟩⟩⟩⟩⟩⟩⟩
theorem lw_p32 : lw_okq (⟨"SplaySequenceModel", "placeOf", "(I)I"⟩, 20) := ⟨⟨by decide +kernel, by decide +kernel⟩, List.mem_of_getElem? (i := 615) (by decide +kernel), List.mem_of_getElem? (i := 829) (by decide +kernel), List.mem_of_getElem? (i := 830) (by decide +kernel)⟩
theorem lw_p33 : lw_okq (⟨"SplaySequenceModel", "canMove", "(II)Z"⟩, 20) := ⟨⟨by decide +kernel, by decide +kernel⟩, List.mem_of_getElem? (i := 615) (by decide +kernel), List.mem_of_getElem? (i := 837) (by decide +kernel), List.mem_of_getElem? (i := 838) (by decide +kernel)⟩
theorem lw_p34 : lw_okq (⟨"SplaySequenceModel", "below", "(I)I"⟩, 20) := ⟨⟨by decide +kernel, by decide +kernel⟩, List.mem_of_getElem? (i := 615) (by decide +kernel), List.mem_of_getElem? (i := 862) (by decide +kernel), List.mem_of_getElem? (i := 863) (by decide +kernel)⟩
theorem lw_p35 : lw_okq (⟨"SplaySequenceModel", "depthOf", "(I)I"⟩, 20) := ⟨⟨by decide +kernel, by decide +kernel⟩, List.mem_of_getElem? (i := 615) (by decide +kernel), List.mem_of_getElem? (i := 885) (by decide +kernel), List.mem_of_getElem? (i := 886) (by decide +kernel)⟩
def lw_privs_3 : List (MethodName × Nat) := [(⟨"SplaySequenceModel", "placeOf", "(I)I"⟩, 20), (⟨"SplaySequenceModel", "canMove", "(II)Z"⟩, 20), (⟨"SplaySequenceModel", "below", "(I)I"⟩, 20), (⟨"SplaySequenceModel", "depthOf", "(I)I"⟩, 20)]
theorem lw_r3 : ∀ q ∈ lw_privs_3, lw_okq q := List.forall_mem_cons.mpr ⟨lw_p32, List.forall_mem_cons.mpr ⟨lw_p33, List.forall_mem_cons.mpr ⟨lw_p34, List.forall_mem_cons.mpr ⟨lw_p35, fun _ h => absurd h List.not_mem_nil⟩⟩⟩⟩
def lw_privs : List (MethodName × Nat) := lw_privs_1 ++ (lw_privs_2 ++ (lw_privs_3))
def lw_tbl : List Cond := k2_sels lw_privs ++ tables_1
theorem lw_privs_ok : ∀ q ∈ lw_privs, lw_okq q := by
  show ∀ q ∈ lw_privs_1 ++ (lw_privs_2 ++ (lw_privs_3)), lw_okq q
  exact List.forall_mem_append.mpr ⟨lw_r1, List.forall_mem_append.mpr ⟨lw_r2, lw_r3⟩⟩
end
section
/-! ===== BEGIN words of one list among another's, by their places ===== -/
theorem goodIn_r {big : List Cond} (ws : List Cond) (ps : List Nat) (hp : ws = ps.filterMap (fun i => big[i]?)) (h : ws.all goodWord = true) : GoodIn big ws := by
  intro w hw
  have h1 := List.all_eq_true.mp h w hw
  rw [hp] at hw
  obtain ⟨i, -, hi⟩ := List.mem_filterMap.mp hw
  have hm : w ∈ big := by first | exact List.mem_of_getElem? hi | exact List.getElem?_mem hi
  exact ⟨hm, good_of_word h1⟩
theorem goodIn_app {big a b : List Cond} (ha : GoodIn big a) (hb : GoodIn big b) : GoodIn big (a ++ b) := fun w h => (List.mem_append.mp h).elim (ha w) (hb w)
theorem goodIn_ca {big a b : List Cond} {c : Cond} (ha : GoodIn big (c :: a)) (hb : GoodIn big b) : GoodIn big (c :: (a ++ b)) := fun w h => (List.mem_cons.mp h).elim (fun e => ha w (List.mem_cons.mpr (Or.inl e))) (fun h => (List.mem_append.mp h).elim (fun h => ha w (List.mem_cons.mpr (Or.inr h))) (hb w))
theorem goodIn_sub {big ws : List Cond} (hm : ∀ w ∈ ws, w ∈ big) (h : ws.all goodWord = true) : GoodIn big ws := fun w hw => ⟨hm w hw, good_of_word (List.all_eq_true.mp h w hw)⟩
/-! ===== END ===== -/

/-! ===== BEGIN exceptions that leave a method, and their catching by the caller (launches without stack traces) ===== -/
section VXA
/-! The laws vx_back, vx_callV, vx_callS, vx_callSW, vx_throw0, vx_throwS follow proofs of the library, with one case more: JvmDerived/Free/Laws.lean (Back.of_free), Shelf42/LK1.lean (callV, callS), Shelf/KitTraced.lean (throwNew0V, throwNewS). -/
/-- where a method has thrown q: the class by its name, the cell, what was written, the world -/
def vx_T (XC : String → State → State → Prop) (st : State) (q : Addr) (t : State) (mc ms : Nat) (free : Addr → Prop) : Prop :=
  ∃ (E : String) (ce : Cell) (L : List Loc), XC E st t ∧ t.heap[q]? = some ce ∧ ce.vm = .none ∧ st.vm.findClass E = some ce.cls ∧ st.WarmedH t.vm ∧ st.sameButNew ({ t with vm := st.vm } : State) L mc ms ∧ ∀ z ∈ L, free z.base
def vx_Q (Qc : Array Value → State → Outcome → State → Prop) (XC : String → State → State → Prop) (mc ms : Nat) (free : Addr → Prop) : Array Value → State → Outcome → State → Prop := fun a st o t =>
  (Qc a st o t ∧ ∃ L, FrameEnd st o t L mc ms ∧ ∀ q ∈ L, free q.base) ∨ ∃ q, o = .threw q ∧ vx_T XC st q t mc ms free
/-- a callee that returns or throws -/
def vx_Met (l : Launch) (y : MethodName) (ws : List Cond) (rm : Room) (Pc : Array Value → State → Prop) (Qc : Array Value → State → Outcome → State → Prop) (XC : String → State → State → Prop) (mc ms : Nat) (free : Addr → Prop) : Prop :=
  MetFree l y (headSpec ws rm) Pc (fun _ _ _ _ _ => True) (vx_Q Qc XC mc ms free)
def vx_Post (XC : String → State → State → Prop) (mc ms : Nat) (free : Addr → Prop) : Pt → Array Value → Addr → Pt → Prop := fun A a q B =>
  ∃ (g : JFrame) (mk : MethodId) (t : State) (L : List Loc) (E : String) (ce : Cell), B.U.heap = t.heap ∧ B.U.vm = t.vm ∧ XC E (A.U.calling g mk a) t ∧ t.heap[q]? = some ce ∧ ce.vm = .none ∧ A.U.vm.findClass E = some ce.cls ∧ B.locs = A.locs ++ L ∧ (∀ z ∈ L, free z.base) ∧ B.cells = A.cells + mc ∧ B.slots = A.slots + ms
def vx_Back (l : Launch) (R : Room) (p : Program) (e : Env) (below : List Frame) (s : State) (sargs : Array Value) (y : MethodName) (len W9 : Nat)
    (Pre : Pt → Array Value → Prop) (Post : Pt → Array Value → Option Value → Pt → Prop) (PostX : Pt → Array Value → Addr → Pt → Prop) : Prop :=
  ∀ (m : MethodId) (meth : Method) (c : Code) (A : Pt) (g : JFrame) (ig : Instr) (mk : MethodId) (a : Array Value),
    Stand p l e R s m sargs below meth c A.U A.locs A.cells A.slots → g.method = m → g.locals.size = c.maxLocals → decode c.code g.pc = .ok (ig, len) →
    2 * g.monitorRoom + (g.stack.map fun v => v.category).sum ≤ W9 → A.U.methodNamed? y = some mk → Pre A a →
    (∃ (v : Option Value) (B : Pt), Stand p l e R s m sargs below meth c B.U B.locs B.cells B.slots ∧ Post A a v B ∧
      Steps p.tables e below (doInvoke e (A.U.setTop g) [] mk a).1 (B.U.setTop { g with pc := g.pc + len, stack := v.toList ++ g.stack })) ∨
    (∃ (q : Addr) (B : Pt), Stand p l e R s m sargs below meth c B.U B.locs B.cells B.slots ∧ PostX A a q B ∧
      Steps p.tables e below (doInvoke e (A.U.setTop g) [] mk a).1 ((B.U.setTop g).pushFrame (.throwing q)))
section Payer
variable {l : Launch} {R : Room} {p : Program} {e : Env} {below : List Frame} {s : State} {sargs : Array Value} {y : MethodName} {len W9 : Nat}
theorem vx_back {ws : List Cond} {rm : Room} {Pc : Array Value → State → Prop} {Qc : Array Value → State → Outcome → State → Prop} {XC : String → State → State → Prop} {mc ms : Nat} {free : Addr → Prop} {bytes : ByteArray} {maxL : Nat} {ret : Option FieldType}
    (hM : vx_Met l y ws rm Pc Qc XC mc ms free) (hblind : FrameBlind Pc) (hrc : rm.cells = mc) (hrs : rm.slots = ms)
    (hframes : rm.frames + 1 ≤ R.frames) (hlocals : W9 + (maxL + 11) + rm.locals ≤ R.locals)
    (hws : ∀ w ∈ ws, ∀ a' U, s.WarmedH U.vm → w.before a' U = true) (hcode : Cond.code y bytes maxL ret ∈ ws) (hinit : ∀ a' U, s.WarmedH U.vm → (Cond.initialized y.cls).before a' U = true) :
    vx_Back l R p e below s sargs y len W9 (PreOf R mc ms Pc) (PostOf Qc mc ms free) (vx_Post XC mc ms free) := by
  intro m meth c A g ig mk a X hg hsize hdg hW hn hp
  have h1 : (headSpec ws rm).pre.before a A.U = true := atoms_intro fun w hw => hws w hw _ _ X.warmed
  have h2 : (Cond.code y bytes maxL ret).before a A.U = true := hws _ hcode _ _ X.warmed
  have h3 : (Cond.initialized y.cls).before a A.U = true := hinit _ _ X.warmed
  have h4 : A.cells + (headSpec ws rm).room.cells ≤ R.cells := by rw [show (headSpec ws rm).room.cells = mc from hrc]; exact hp.1
  have h5 : A.slots + (headSpec ws rm).room.slots ≤ R.slots := by rw [show (headSpec ws rm).room.slots = ms from hrs]; exact hp.2.1
  have hPc : Pc a (A.U.calling g mk a) := hblind _ _ _ _ hp.2.2
  obtain ⟨U, Ls, c0, s0⟩ := A
  dsimp only [Pt.U, Pt.locs, Pt.cells, Pt.slots] at h1 h2 h3 h4 h5 X hn hPc ⊢
  obtain ⟨methY, cY, hmY, hcY, -, hlY, -, -, -, -⟩ := Cond.code_spec hn h2
  obtain ⟨kY, hkY, -⟩ := className_of_methodNamed hn
  have hinitY : kY.init = .initialized := Cond.initialized_spec (findClass_of_methodNamed hn) hkY h3
  have h : At U g.method c below := by rw [hg]; exact X.here
  have hlocals9 : W9 + (maxL + 11) + (headSpec ws rm).room.locals ≤ R.locals := hlocals
  have happ : (headSpec ws rm).appliesLoose y e.platform (U.calling g mk a) = true :=
    Spec.appliesLoose_calling (g := g) h hdg hn hkY hinitY
      (X.room_calling (g := g) (R' := (headSpec ws rm).room) hsize hmY hcY hframes (by rw [hlY]; omega) h4 h5) h1
  obtain ⟨mid, hmid⟩ := h.above
  have hfr : (U.setTop g).frames = (.java g :: mid) ++ below := by rw [State.frames_setTop' g h.top, hmid]; rfl
  obtain ⟨o, s₂, hsteps, -, hend, hq⟩ := Steps.callFree hM p X.admits X.cas X.clock (acts := []) hfr happ hPc trivial
  have hq' : vx_Q Qc XC mc ms free a (U.calling g mk a) o s₂ := hq
  rw [State.frames_setTop' g h.top] at hend
  obtain ⟨g₀, hg0⟩ := Option.isSome_iff_exists.mp h.top
  obtain ⟨r, hr⟩ := State.topJava?_eq_some.mp hg0
  have hr' : (({ U with heap := s₂.heap, slotsUsed := s₂.slotsUsed } : State).setVm s₂.vm).frames = .java g₀ :: r := hr
  rcases hq' with ⟨hqc, L, hfe, hL⟩ | ⟨q, rfl, E, ce, L, hx, hce, hcv, hcl, hW₂, hsm, hL⟩
  · obtain ⟨⟨v, rfl⟩, hW₂, e2, q2, q3, q4, q5, q6⟩ := id hfe
    have e3 : s₂ = ({ (U.calling g mk a).setFrames s₂.frames with heap := s₂.heap, slotsUsed := s₂.slotsUsed } : State).setVm s₂.vm := by
      have : s₂ = ({ s₂ with vm := (U.calling g mk a).vm } : State).setVm s₂.vm := rfl
      rw [e2] at this
      exact this
    obtain ⟨c₂, i₂, len₂, hc₂, hd₂, hf₂⟩ := hend
    have hW' : U.WarmedH s₂.vm := hW₂
    have hcc : c₂ = c := by
      have h1 : s₂.code? g.method = U.code? g.method := by
        rw [State.code?_eq, State.code?_eq, hW'.alike.method?]
      exact Option.some.inj (hc₂.symm.trans (h1.trans h.code))
    subst hcc
    have hlen : len₂ = len := by rw [hdg] at hd₂; cases hd₂; rfl
    subst hlen
    have hs₂ : s₂ = (({ U with heap := s₂.heap, slotsUsed := s₂.slotsUsed } : State).setVm s₂.vm).setTop { g with pc := g.pc + len₂, stack := v.toList ++ g.stack } := by
      refine e3.trans ?_
      rw [hf₂, State.calling_eq h.top, State.setFrames_setFrames, State.setTop_of_frames _ hr', hr]
      rfl
    have hsame : U.sameButNew ({ U with heap := s₂.heap, slotsUsed := s₂.slotsUsed } : State) L mc ms := by
      refine ⟨?_, q2, q3, q4, q5, q6⟩
      obtain ⟨t, ht, -⟩ := State.frames_cons hr
      show ({ U with heap := s₂.heap, slotsUsed := s₂.slotsUsed } : State) = { U.setFrames U.frames with heap := s₂.heap, slotsUsed := s₂.slotsUsed }
      rw [State.setFrames_self ht]
    subst hg
    refine Or.inl ⟨v, ⟨(({ U with heap := s₂.heap, slotsUsed := s₂.slotsUsed } : State).setVm s₂.vm), Ls ++ L, c0 + mc, s0 + ms⟩,
      ⟨X.admits, X.cas, X.clock, X.frames, X.room, X.hears, X.method, X.code, (X.here.setHeapUsed s₂.heap s₂.slotsUsed).setVm hW'.alike, X.tail, State.WarmedH.trans X.warmed hW', X.limits, X.bytes, X.same.trans (hsame.setVm s.vm)⟩,
      ⟨g, mk, s₂, L, rfl, rfl, hqc, rfl, hL, rfl, rfl⟩, ?_⟩
    show Steps p.tables e below _ ((({ U with heap := s₂.heap, slotsUsed := s₂.slotsUsed } : State).setVm s₂.vm).setTop { g with pc := g.pc + len₂, stack := v.toList ++ g.stack })
    rw [← hs₂]
    exact hsteps
  · obtain ⟨e2, q2, q3, q4, q5, q6⟩ := id hsm
    have e3 : s₂ = ({ (U.calling g mk a).setFrames s₂.frames with heap := s₂.heap, slotsUsed := s₂.slotsUsed } : State).setVm s₂.vm := by
      have : s₂ = ({ s₂ with vm := (U.calling g mk a).vm } : State).setVm s₂.vm := rfl
      rw [e2] at this
      exact this
    have hf₂ : s₂.frames = .throwing q :: .java g :: U.frames.tail := hend
    have hW' : U.WarmedH s₂.vm := hW₂
    have hs₂ : s₂ = ((({ U with heap := s₂.heap, slotsUsed := s₂.slotsUsed } : State).setVm s₂.vm).setTop g).pushFrame (.throwing q) := by
      refine e3.trans ?_
      rw [hf₂, State.calling_eq h.top, State.setFrames_setFrames, State.pushFrame, State.frames_setTop _ hr', State.setTop_of_frames _ hr', State.setFrames_setFrames, hr]
      rfl
    have hsame : U.sameButNew ({ U with heap := s₂.heap, slotsUsed := s₂.slotsUsed } : State) L mc ms := by
      refine ⟨?_, q2, q3, q4, q5, q6⟩
      obtain ⟨t, ht, -⟩ := State.frames_cons hr
      show ({ U with heap := s₂.heap, slotsUsed := s₂.slotsUsed } : State) = { U.setFrames U.frames with heap := s₂.heap, slotsUsed := s₂.slotsUsed }
      rw [State.setFrames_self ht]
    subst hg
    refine Or.inr ⟨q, ⟨(({ U with heap := s₂.heap, slotsUsed := s₂.slotsUsed } : State).setVm s₂.vm), Ls ++ L, c0 + mc, s0 + ms⟩,
      ⟨X.admits, X.cas, X.clock, X.frames, X.room, X.hears, X.method, X.code, (X.here.setHeapUsed s₂.heap s₂.slotsUsed).setVm hW'.alike, X.tail, State.WarmedH.trans X.warmed hW', X.limits, X.bytes, X.same.trans (hsame.setVm s.vm)⟩,
      ⟨g, mk, s₂, L, E, ce, rfl, rfl, hx, hce, hcv, hcl, rfl, hL, rfl, rfl⟩, ?_⟩
    show Steps p.tables e below _ (((({ U with heap := s₂.heap, slotsUsed := s₂.slotsUsed } : State).setVm s₂.vm).setTop g).pushFrame (.throwing q))
    rw [← hs₂]
    exact hsteps
end Payer
section Calls
variable {p : Program} {l : Launch} {e : Env} {R : Room} {s : State} {m : MethodId} {args : Array Value} {below : List Frame} {meth : Method} {c : Code} {T : State} {locs : List Loc} {cells slots : Nat}
theorem vx_callV (X : Stand p l e R s m args below meth c T locs cells slots) (hexec : p.tables.exec = Jvm.exec) {own C : String} {index : Nat} {y : MethodName} {bytes : ByteArray} {maxL : Nat} {ret : Option FieldType}
    (hown : s.vm.findClass own = some m.cls) (hlink : (Cond.methodLink own index y).before args s = true) (hinst : (Cond.instanceMethod y).before args s = true) (hsel : (Cond.selects C y y).before args s = true)
    (hcode : (Cond.code y bytes maxL ret).before args s = true) (hy : y.cls ≠ "java/lang/invoke/MethodHandle" ∧ y.cls ≠ "java/lang/invoke/VarHandle")
    {W9 : Nat} {Pre : Pt → Array Value → Prop} {Post : Pt → Array Value → Option Value → Pt → Prop} {PostX : Pt → Array Value → Addr → Pt → Prop} (hK : vx_Back l R p e below s args y 3 W9 Pre Post PostX)
    {b : Addr} {cellB : Cell} (hcell : T.heap[b]? = some cellB) (hobj : cellB.vm.isStatics = false) (hcls : s.vm.findClass C = some cellB.cls)
    {g : JFrame} (hg : g.method = m) (hsize : g.locals.size = c.maxLocals) {argsL rest : List Value} (hlen : ∀ sig, parseMethodDescriptor y.desc = some sig → argsL.length = sig.parameters.length)
    (hstack : g.stack = argsL.reverse ++ .ref b :: rest) (hW : 2 * g.monitorRoom + (rest.map fun v => v.category).sum ≤ W9) (hdg : decode c.code g.pc = .ok (.invokevirtual index, 3))
    (hpre : ∀ vm₁, s.WarmedH vm₁ → Pre ⟨T.setVm vm₁, locs, cells, slots⟩ (Value.ref b :: argsL).toArray) :
    (∃ (v : Option Value) (vm₁ : Vm) (B : Pt), s.WarmedH vm₁ ∧ Stand p l e R s m args below meth c B.U B.locs B.cells B.slots ∧ Post ⟨T.setVm vm₁, locs, cells, slots⟩ (Value.ref b :: argsL).toArray v B ∧
      ∀ target, Steps p.tables e below (B.U.setTop { g with pc := g.pc + 3, stack := v.toList ++ rest }) target → Steps p.tables e below (T.setTop g) target) ∨
    (∃ (q : Addr) (vm₁ : Vm) (B : Pt), s.WarmedH vm₁ ∧ Stand p l e R s m args below meth c B.U B.locs B.cells B.slots ∧ PostX ⟨T.setVm vm₁, locs, cells, slots⟩ (Value.ref b :: argsL).toArray q B ∧
      Steps p.tables e below (T.setTop g) ((B.U.setTop { g with stack := rest }).pushFrame (.throwing q))) := by
  obtain ⟨mk, methM, hnamed, hmethM, hstM, habM⟩ := Cond.instanceMethod_spec hinst
  obtain ⟨methM', cM, hmethM', -, -, -, -, -, -, hsigM⟩ := Cond.code_spec hnamed hcode
  cases hmethM.symm.trans hmethM'
  obtain ⟨c2, r2, m2, q1, q2, q3, q4, kP, hkP, hkPi⟩ := Cond.selects_spec hsel
  cases hcls.symm.trans q1
  cases (State.methodFound?_of_named hnamed hy).symm.trans q2
  cases hnamed.symm.trans q3
  have hselP : selectMethod e.platform s.vm cellB.cls mk = .method mk := by rw [Launch.admits_selectMethod X.admits]; exact q4
  obtain ⟨vm₁, X₁, hstep₁⟩ := X.invokevirtual hexec hown hlink hnamed hmethM hstM hkP hkPi hy (a := b) (cell := cellB) hcell
    (fun z h => by rw [h] at hobj; cases hobj) hselP hmethM habM hkP hkPi (g := g) hg (argsL := argsL) (rest := rest) (hlen _ hsigM) hstack hdg
  rcases hK m meth c ⟨T.setVm vm₁, locs, cells, slots⟩ { g with stack := rest } (.invokevirtual index) mk (Value.ref b :: argsL).toArray X₁ hg hsize hdg hW (X₁.named hnamed) (hpre vm₁ X₁.warmed) with ⟨v, B, X', hpost, hsteps⟩ | ⟨q, B, X', hpost, hsteps⟩
  · exact Or.inl ⟨v, vm₁, B, X₁.warmed, X', hpost, fun target h => hstep₁ _ fun acts => by rw [doInvoke_state]; exact hsteps.trans h⟩
  · exact Or.inr ⟨q, vm₁, B, X₁.warmed, X', hpost, hstep₁ _ fun acts => by rw [doInvoke_state]; exact hsteps⟩
theorem vx_callS (X : Stand p l e R s m args below meth c T locs cells slots) (hexec : p.tables.exec = Jvm.exec) {own : String} {index : Nat} {y : MethodName} {bytes : ByteArray} {maxL : Nat} {ret : Option FieldType}
    (hown : s.vm.findClass own = some m.cls) (hlink : (Cond.methodLink own index y).before args s = true) (hstat : (Cond.static y).before args s = true) (hinit : (Cond.initialized y.cls).before args s = true)
    (hcode : (Cond.code y bytes maxL ret).before args s = true) (hy : y.cls ≠ "java/lang/invoke/MethodHandle" ∧ y.cls ≠ "java/lang/invoke/VarHandle")
    {W9 : Nat} {Pre : Pt → Array Value → Prop} {Post : Pt → Array Value → Option Value → Pt → Prop} {PostX : Pt → Array Value → Addr → Pt → Prop} (hK : vx_Back l R p e below s args y 3 W9 Pre Post PostX)
    {g : JFrame} (hg : g.method = m) (hsize : g.locals.size = c.maxLocals) {argsL rest : List Value} (hlen : ∀ sig, parseMethodDescriptor y.desc = some sig → argsL.length = sig.parameters.length)
    (hstack : g.stack = argsL.reverse ++ rest) (hW : 2 * g.monitorRoom + (rest.map fun v => v.category).sum ≤ W9) (hdg : decode c.code g.pc = .ok (.invokestatic index, 3))
    (hpre : ∀ vm₁, s.WarmedH vm₁ → Pre ⟨T.setVm vm₁, locs, cells, slots⟩ argsL.toArray) :
    (∃ (v : Option Value) (vm₁ : Vm) (B : Pt), s.WarmedH vm₁ ∧ Stand p l e R s m args below meth c B.U B.locs B.cells B.slots ∧ Post ⟨T.setVm vm₁, locs, cells, slots⟩ argsL.toArray v B ∧
      ∀ target, Steps p.tables e below (B.U.setTop { g with pc := g.pc + 3, stack := v.toList ++ rest }) target → Steps p.tables e below (T.setTop g) target) ∨
    (∃ (q : Addr) (vm₁ : Vm) (B : Pt), s.WarmedH vm₁ ∧ Stand p l e R s m args below meth c B.U B.locs B.cells B.slots ∧ PostX ⟨T.setVm vm₁, locs, cells, slots⟩ argsL.toArray q B ∧
      Steps p.tables e below (T.setTop g) ((B.U.setTop { g with stack := rest }).pushFrame (.throwing q))) := by
  obtain ⟨mk, hnamed⟩ := Cond.code_named hcode
  obtain ⟨methM, cM, hmethM, -, -, -, -, -, -, hsigM⟩ := Cond.code_spec hnamed hcode
  have hstatic : methM.isStatic = true := Cond.static_spec hnamed hmethM hstat
  obtain ⟨kP, hkP, -⟩ := className_of_methodNamed hnamed
  have hinitP : kP.init = .initialized := Cond.initialized_spec (findClass_of_methodNamed hnamed) hkP hinit
  obtain ⟨vm₁, X₁, hstep₁⟩ := X.invokestatic hexec hown hlink hnamed hmethM hstatic hkP hinitP hy (g := g) hg (argsL := argsL) (rest := rest) (hlen _ hsigM) hstack hdg
  rcases hK m meth c ⟨T.setVm vm₁, locs, cells, slots⟩ { g with stack := rest } (.invokestatic index) mk argsL.toArray X₁ hg hsize hdg hW (X₁.named hnamed) (hpre vm₁ X₁.warmed) with ⟨v, B, X', hpost, hsteps⟩ | ⟨q, B, X', hpost, hsteps⟩
  · exact Or.inl ⟨v, vm₁, B, X₁.warmed, X', hpost, fun target h => hstep₁ _ fun acts => by rw [doInvoke_state]; exact hsteps.trans h⟩
  · exact Or.inr ⟨q, vm₁, B, X₁.warmed, X', hpost, hstep₁ _ fun acts => by rw [doInvoke_state]; exact hsteps⟩
end Calls
theorem vx_cls {s : State} {T : State} {vm₁ : Vm} {E : String} {k : ClassId} (hW : s.WarmedH vm₁) (h : (T.setVm vm₁).vm.findClass E = some k) : s.vm.findClass E = some k := by
  have h1 : vm₁.findClass E = some k := h
  rw [hW.alike.findClass] at h1
  exact h1
/-- the method's frame g, with q thrown over it -/
def vx_W (p : Program) (l : Launch) (e : Env) (R : Room) (s : State) (m : MethodId) (args : Array Value) (below : List Frame) (meth : Method) (c : Code) (H : Heap) (locs : List Loc) (cells slots : Nat) (Q : State → Prop) (g : JFrame) (q : Addr) : Prop :=
  ∀ T : State, T.heap = H → Stand p l e R s m args below meth c T locs cells slots → ∃ t, Steps p.tables e below ((T.setTop g).pushFrame (.throwing q)) t ∧ Q t
def vx_Run (p : Program) (l : Launch) (e : Env) (R : Room) (s : State) (m : MethodId) (args : Array Value) (below : List Frame) (meth : Method) (c : Code) (H : Heap) (locs : List Loc) (cells slots mc ms : Nat) (g : JFrame) (rest : List Value) (Qa : State → Outcome → State → Prop) (XC : String → State → State → Prop) (free : Addr → Prop) : Prop :=
  ∀ T : State, T.heap = H → Stand p l e R s m args below meth c T locs cells slots →
    (∃ (v : Option Value) (st₀ t T' : State) (L : List Loc), st₀.heap = H ∧ Stand p l e R s m args below meth c T' (locs ++ L) (cells + mc) (slots + ms) ∧ (∀ q ∈ L, free q.base) ∧ T'.heap = t.heap ∧ T'.vm = t.vm ∧ Qa st₀ (.returned v) t ∧
      Goes p e below T g T' { g with pc := g.pc + 3, stack := v.toList ++ rest }) ∨
    (∃ (q : Addr) (st₀ t T' : State) (L : List Loc) (E : String) (ce : Cell), st₀.heap = H ∧ Stand p l e R s m args below meth c T' (locs ++ L) (cells + mc) (slots + ms) ∧ (∀ z ∈ L, free z.base) ∧ T'.heap = t.heap ∧ T'.vm = t.vm ∧ XC E st₀ t ∧ t.heap[q]? = some ce ∧ ce.vm = .none ∧ s.vm.findClass E = some ce.cls ∧
      Steps p.tables e below (T.setTop g) ((T'.setTop { g with stack := rest }).pushFrame (.throwing q)))
def vx_X {S : Type} (px : S → Prop) (B : String → S → State → Prop) (A : Nat → Prop) : String → State → State → Prop := fun E st t => ∃ u : S, px u ∧ B E u t ∧ va_F A st t
section Runs
variable {p : Program} {l : Launch} {e : Env} {R : Room} {s : State} {m : MethodId} {args : Array Value} {below : List Frame} {meth : Method} {c : Code} {H : Heap} {locs : List Loc} {cells slots : Nat}
variable {y : MethodName} {bytes cc : ByteArray} {maxL nL mc ms n index : Nat} {ret : Option FieldType} {ws : List Cond} {rm : Room} {Pc : Array Value → State → Prop} {Qc : Array Value → State → Outcome → State → Prop} {XC : String → State → State → Prop} {free : Addr → Prop} {Ts : List Cond} {own C : String} {b : Addr} {As rest : List Value} {g : JFrame}
theorem vx_callBack (cb : CallB R s args own index y bytes maxL ret ws rm mc ms n) (hM : vx_Met l y ws rm Pc Qc XC mc ms free) (hbl : FrameBlind Pc) : vx_Back l R p e below s args y 3 8 (PreOf R mc ms Pc) (PostOf Qc mc ms free) (vx_Post XC mc ms free) := by
  obtain ⟨hrc, hrs, hfr, hlo, hws, hcw, -, hini, -⟩ := cb
  exact vx_back (bytes := bytes) (maxL := maxL) (ret := ret) hM hbl hrc hrs hfr hlo hws hcw (fun a' U hW => word_at hW (Or.inl (by first | rfl | simp [Cond.onTables, Cond.keeps, Cond.steady])) hini)
theorem vx_runV (S : CallFix p m c cc nL s args Ts own) (hM : vx_Met l y ws rm Pc Qc XC mc ms free) (cw : CallW R s args own C index y bytes maxL ret ws rm mc ms n) (hp : PreV s H C b Pc As)
    (hg : g.method = m) (hn : As.length = n) (hsize : g.locals.size = nL) (hstack : g.stack = As.reverse ++ .ref b :: rest) (hW : 2 * g.monitorRoom + (rest.map fun v => v.category).sum ≤ 8) (hdg : decode cc g.pc = .ok (.invokevirtual index, 3)) (hf : cells + mc ≤ R.cells ∧ slots + ms ≤ R.slots) :
    vx_Run p l e R s m args below meth c H locs cells slots mc ms g rest (Qc (Value.ref b :: As).toArray) XC free := by
  have hK : vx_Back l R p e below s args y 3 8 (PreOf R mc ms Pc) (PostOf Qc mc ms free) (vx_Post XC mc ms free) := vx_callBack cw.1 hM hp.1
  obtain ⟨⟨-, -, -, -, -, -, hcode, -, hy, hlen, hl⟩, hin, hse⟩ := cw
  obtain ⟨hx, hb, hml, ho, -⟩ := S
  obtain ⟨-, ⟨cellB, hcB, hoB, hclB⟩, hPc⟩ := hp
  intro T hT X
  rcases vx_callV X hx (C := C) (bytes := bytes) (maxL := maxL) (ret := ret) ho hl hin hse hcode hy hK (by rw [hT]; exact hcB) hoB hclB hg (hsize.trans hml.symm) (argsL := As) (rest := rest) (fun sig h => hn.trans (hlen sig h)) hstack hW (by rw [hb]; exact hdg)
    (fun vm₁ hW₁ => ⟨hf.1, hf.2, hPc (T.setVm vm₁) hT hW₁⟩) with ⟨v, vm₁, ⟨U', l2, c2, s2⟩, hW₁, X', ⟨g', mk, t, L, e1, e2, hq, h1, hL, h2, h3⟩, st⟩ | ⟨q, vm₁, ⟨U', l2, c2, s2⟩, hW₁, X', ⟨g', mk, t, L, E, ce, e1, e2, hq, hce, hcv, hcl, h1, hL, h2, h3⟩, st⟩
  · dsimp only [Pt.U, Pt.locs, Pt.cells, Pt.slots] at X' e1 e2 h1 h2 h3 st
    subst h1; subst h2; subst h3
    exact Or.inl ⟨v, (T.setVm vm₁).calling g' mk (Value.ref b :: As).toArray, t, U', L, hT, X', hL, e1, e2, hq, st⟩
  · dsimp only [Pt.U, Pt.locs, Pt.cells, Pt.slots] at X' e1 e2 h1 h2 h3 st hcl
    subst h1; subst h2; subst h3
    exact Or.inr ⟨q, (T.setVm vm₁).calling g' mk (Value.ref b :: As).toArray, t, U', L, E, ce, hT, X', hL, e1, e2, hq, hce, hcv, vx_cls hW₁ hcl, st⟩
theorem vx_runS (S : CallFix p m c cc nL s args Ts own) (hM : vx_Met l y ws rm Pc Qc XC mc ms free) (cw : CallB R s args own index y bytes maxL ret ws rm mc ms n ∧ (Cond.static y).before args s = true) (hp : PreS s H Pc As)
    (hg : g.method = m) (hn : As.length = n) (hsize : g.locals.size = nL) (hstack : g.stack = As.reverse ++ rest) (hW : 2 * g.monitorRoom + (rest.map fun v => v.category).sum ≤ 8) (hdg : decode cc g.pc = .ok (.invokestatic index, 3)) (hf : cells + mc ≤ R.cells ∧ slots + ms ≤ R.slots) :
    vx_Run p l e R s m args below meth c H locs cells slots mc ms g rest (Qc As.toArray) XC free := by
  have hK : vx_Back l R p e below s args y 3 8 (PreOf R mc ms Pc) (PostOf Qc mc ms free) (vx_Post XC mc ms free) := vx_callBack cw.1 hM hp.1
  obtain ⟨⟨-, -, -, -, -, -, hcode, hini, hy, hlen, hl⟩, hstt⟩ := cw
  obtain ⟨hx, hb, hml, ho, -⟩ := S
  intro T hT X
  rcases vx_callS X hx (bytes := bytes) (maxL := maxL) (ret := ret) ho hl hstt hini hcode hy hK hg (hsize.trans hml.symm) (argsL := As) (rest := rest) (fun sig h => hn.trans (hlen sig h)) hstack hW (by rw [hb]; exact hdg)
    (fun vm₁ hW₁ => ⟨hf.1, hf.2, hp.2 (T.setVm vm₁) hT hW₁⟩) with ⟨v, vm₁, ⟨U', l2, c2, s2⟩, hW₁, X', ⟨g', mk, t, L, e1, e2, hq, h1, hL, h2, h3⟩, st⟩ | ⟨q, vm₁, ⟨U', l2, c2, s2⟩, hW₁, X', ⟨g', mk, t, L, E, ce, e1, e2, hq, hce, hcv, hcl, h1, hL, h2, h3⟩, st⟩
  · dsimp only [Pt.U, Pt.locs, Pt.cells, Pt.slots] at X' e1 e2 h1 h2 h3 st
    subst h1; subst h2; subst h3
    exact Or.inl ⟨v, (T.setVm vm₁).calling g' mk As.toArray, t, U', L, hT, X', hL, e1, e2, hq, st⟩
  · dsimp only [Pt.U, Pt.locs, Pt.cells, Pt.slots] at X' e1 e2 h1 h2 h3 st hcl
    subst h1; subst h2; subst h3
    exact Or.inr ⟨q, (T.setVm vm₁).calling g' mk As.toArray, t, U', L, E, ce, hT, X', hL, e1, e2, hq, hce, hcv, vx_cls hW₁ hcl, st⟩
end Runs
section Rows
variable {p : Program} {l : Launch} {e : Env} {R : Room} {s : State} {m : MethodId} {args : Array Value} {below : List Frame} {meth : Method} {c : Code} {H : Heap} {locs : List Loc} {cells slots : Nat} {Q : State → Prop}
variable {mc ms : Nat} {free : Addr → Prop} {A0 A1 : Nat → Prop} {H0 : Heap} {a : Array Value} {pc : Nat} {ls : Array Slot} {st0 rest : List Value}
theorem vx_keep {st₀ t T' : State} {L : List Loc} (h0 : st₀.heap = H) (e1 : T'.heap = t.heap) (hS : va_S A0 H0 H locs) (hA : ∀ q, q < H.size → A1 q → A0 q) (hf : ∀ q, free q → A0 q) (hL : ∀ q ∈ L, free q.base) (hF : va_F A1 st₀ t) :
    H.size ≤ T'.heap.size ∧ (∀ q : Nat, q < H.size → ¬ A1 q → T'.heap[q]? = H[q]?) ∧ va_S A0 H0 T'.heap (locs ++ L) := by
  obtain ⟨hz, hk⟩ := hF
  rw [h0] at hz hk
  exact ⟨by rw [e1]; exact hz, fun q h1 h2 => by rw [e1]; exact hk q h1 h2,
    ⟨Nat.le_trans hS.1 (by rw [e1]; exact hz), fun q h1 h2 => by rw [e1, hk q (Nat.lt_of_lt_of_le h1 hS.1) (fun z => h2 (hA q (Nat.lt_of_lt_of_le h1 hS.1) z))]; exact hS.2.1 q h1 h2, fun q hq => by
      rcases List.mem_append.mp hq with h | h
      · exact hS.2.2 q h
      · exact hf _ (hL q h)⟩⟩
theorem vx_calli {S SX : Type} {post : Int32 → S → Prop} {px : SX → Prop} {B : S → State → Prop} {BX : String → SX → State → Prop} {AX : Nat → Prop} (hr : vx_Run p l e R s m args below meth c H locs cells slots mc ms (F0 m pc ls st0) rest (va_Qi post B A1 a) (vx_X px BX AX) free) (hS : va_S A0 H0 H locs) (hA : ∀ q, q < H.size → A1 q → A0 q) (hf : ∀ q, free q → A0 q) (hAX : ∀ q, q < H.size → AX q → A0 q)
    (kx : ∀ (E : String) (ce : Cell) (q9 : Addr) (u : SX) (t : State) (H1 : Heap) (locs1 : List Loc), t.heap = H1 → s.vm.Alike t.vm → px u → BX E u t → H.size ≤ H1.size → (∀ q : Nat, q < H.size → ¬ AX q → H1[q]? = H[q]?) → va_S A0 H0 H1 locs1 → H1[q9]? = some ce → ce.vm = .none → s.vm.findClass E = some ce.cls → vx_W p l e R s m args below meth c H1 locs1 (cells + mc) (slots + ms) Q (F0 m pc ls rest) q9)
    (kk : ∀ (r : Int32) (u : S) (t : State) (H1 : Heap) (locs1 : List Loc), t.heap = H1 → s.vm.Alike t.vm → post r u → B u t → H.size ≤ H1.size → (∀ q : Nat, q < H.size → ¬ A1 q → H1[q]? = H[q]?) → va_S A0 H0 H1 locs1 → W p l e R s m args below meth c H1 locs1 (cells + mc) (slots + ms) Q (F0 m (pc + 3) ls (.int r :: rest))) : W p l e R s m args below meth c H locs cells slots Q (F0 m pc ls st0) := by
  intro T hT X
  rcases hr T hT X with ⟨v, st₀, t, T', L, h0, X', hL, e1, e2, ⟨⟨r, u, hv, hp, hb⟩, hF⟩, st⟩ | ⟨q, st₀, t, T', L, E, ce, h0, X', hL, e1, e2, ⟨u, hp, hb, hF⟩, hce, hcv, hcl, st⟩
  · cases hv
    obtain ⟨k1, k2, k3⟩ := vx_keep h0 e1 hS hA hf hL hF
    obtain ⟨t2, a1, b1⟩ := kk r u t T'.heap (locs ++ L) e1.symm (by rw [← e2]; exact X'.warmed.alike) hp hb k1 k2 k3 T' rfl X'
    exact ⟨t2, st t2 a1, b1⟩
  · obtain ⟨k1, k2, k3⟩ := vx_keep h0 e1 hS hAX hf hL hF
    obtain ⟨t2, a1, b1⟩ := kx E ce q u t T'.heap (locs ++ L) e1.symm (by rw [← e2]; exact X'.warmed.alike) hp hb k1 k2 k3 (by rw [e1]; exact hce) hcv hcl T' rfl X'
    exact ⟨t2, st.trans a1, b1⟩
theorem vx_calll {S SX : Type} {post : Int64 → S → Prop} {px : SX → Prop} {B : S → State → Prop} {BX : String → SX → State → Prop} {AX : Nat → Prop} (hr : vx_Run p l e R s m args below meth c H locs cells slots mc ms (F0 m pc ls st0) rest (va_Ql post B A1 a) (vx_X px BX AX) free) (hS : va_S A0 H0 H locs) (hA : ∀ q, q < H.size → A1 q → A0 q) (hf : ∀ q, free q → A0 q) (hAX : ∀ q, q < H.size → AX q → A0 q)
    (kx : ∀ (E : String) (ce : Cell) (q9 : Addr) (u : SX) (t : State) (H1 : Heap) (locs1 : List Loc), t.heap = H1 → s.vm.Alike t.vm → px u → BX E u t → H.size ≤ H1.size → (∀ q : Nat, q < H.size → ¬ AX q → H1[q]? = H[q]?) → va_S A0 H0 H1 locs1 → H1[q9]? = some ce → ce.vm = .none → s.vm.findClass E = some ce.cls → vx_W p l e R s m args below meth c H1 locs1 (cells + mc) (slots + ms) Q (F0 m pc ls rest) q9)
    (kk : ∀ (r : Int64) (u : S) (t : State) (H1 : Heap) (locs1 : List Loc), t.heap = H1 → s.vm.Alike t.vm → post r u → B u t → H.size ≤ H1.size → (∀ q : Nat, q < H.size → ¬ A1 q → H1[q]? = H[q]?) → va_S A0 H0 H1 locs1 → W p l e R s m args below meth c H1 locs1 (cells + mc) (slots + ms) Q (F0 m (pc + 3) ls (.long r :: rest))) : W p l e R s m args below meth c H locs cells slots Q (F0 m pc ls st0) := by
  intro T hT X
  rcases hr T hT X with ⟨v, st₀, t, T', L, h0, X', hL, e1, e2, ⟨⟨r, u, hv, hp, hb⟩, hF⟩, st⟩ | ⟨q, st₀, t, T', L, E, ce, h0, X', hL, e1, e2, ⟨u, hp, hb, hF⟩, hce, hcv, hcl, st⟩
  · cases hv
    obtain ⟨k1, k2, k3⟩ := vx_keep h0 e1 hS hA hf hL hF
    obtain ⟨t2, a1, b1⟩ := kk r u t T'.heap (locs ++ L) e1.symm (by rw [← e2]; exact X'.warmed.alike) hp hb k1 k2 k3 T' rfl X'
    exact ⟨t2, st t2 a1, b1⟩
  · obtain ⟨k1, k2, k3⟩ := vx_keep h0 e1 hS hAX hf hL hF
    obtain ⟨t2, a1, b1⟩ := kx E ce q u t T'.heap (locs ++ L) e1.symm (by rw [← e2]; exact X'.warmed.alike) hp hb k1 k2 k3 (by rw [e1]; exact hce) hcv hcl T' rfl X'
    exact ⟨t2, st.trans a1, b1⟩
theorem vx_callf {S SX : Type} {post : UInt32 → S → Prop} {px : SX → Prop} {B : S → State → Prop} {BX : String → SX → State → Prop} {AX : Nat → Prop} (hr : vx_Run p l e R s m args below meth c H locs cells slots mc ms (F0 m pc ls st0) rest (va_Qf post B A1 a) (vx_X px BX AX) free) (hS : va_S A0 H0 H locs) (hA : ∀ q, q < H.size → A1 q → A0 q) (hf : ∀ q, free q → A0 q) (hAX : ∀ q, q < H.size → AX q → A0 q)
    (kx : ∀ (E : String) (ce : Cell) (q9 : Addr) (u : SX) (t : State) (H1 : Heap) (locs1 : List Loc), t.heap = H1 → s.vm.Alike t.vm → px u → BX E u t → H.size ≤ H1.size → (∀ q : Nat, q < H.size → ¬ AX q → H1[q]? = H[q]?) → va_S A0 H0 H1 locs1 → H1[q9]? = some ce → ce.vm = .none → s.vm.findClass E = some ce.cls → vx_W p l e R s m args below meth c H1 locs1 (cells + mc) (slots + ms) Q (F0 m pc ls rest) q9)
    (kk : ∀ (r : UInt32) (u : S) (t : State) (H1 : Heap) (locs1 : List Loc), t.heap = H1 → s.vm.Alike t.vm → post r u → B u t → H.size ≤ H1.size → (∀ q : Nat, q < H.size → ¬ A1 q → H1[q]? = H[q]?) → va_S A0 H0 H1 locs1 → W p l e R s m args below meth c H1 locs1 (cells + mc) (slots + ms) Q (F0 m (pc + 3) ls (.float r :: rest))) : W p l e R s m args below meth c H locs cells slots Q (F0 m pc ls st0) := by
  intro T hT X
  rcases hr T hT X with ⟨v, st₀, t, T', L, h0, X', hL, e1, e2, ⟨⟨r, u, hv, hp, hb⟩, hF⟩, st⟩ | ⟨q, st₀, t, T', L, E, ce, h0, X', hL, e1, e2, ⟨u, hp, hb, hF⟩, hce, hcv, hcl, st⟩
  · cases hv
    obtain ⟨k1, k2, k3⟩ := vx_keep h0 e1 hS hA hf hL hF
    obtain ⟨t2, a1, b1⟩ := kk r u t T'.heap (locs ++ L) e1.symm (by rw [← e2]; exact X'.warmed.alike) hp hb k1 k2 k3 T' rfl X'
    exact ⟨t2, st t2 a1, b1⟩
  · obtain ⟨k1, k2, k3⟩ := vx_keep h0 e1 hS hAX hf hL hF
    obtain ⟨t2, a1, b1⟩ := kx E ce q u t T'.heap (locs ++ L) e1.symm (by rw [← e2]; exact X'.warmed.alike) hp hb k1 k2 k3 (by rw [e1]; exact hce) hcv hcl T' rfl X'
    exact ⟨t2, st.trans a1, b1⟩
theorem vx_calld {S SX : Type} {post : UInt64 → S → Prop} {px : SX → Prop} {B : S → State → Prop} {BX : String → SX → State → Prop} {AX : Nat → Prop} (hr : vx_Run p l e R s m args below meth c H locs cells slots mc ms (F0 m pc ls st0) rest (va_Qd post B A1 a) (vx_X px BX AX) free) (hS : va_S A0 H0 H locs) (hA : ∀ q, q < H.size → A1 q → A0 q) (hf : ∀ q, free q → A0 q) (hAX : ∀ q, q < H.size → AX q → A0 q)
    (kx : ∀ (E : String) (ce : Cell) (q9 : Addr) (u : SX) (t : State) (H1 : Heap) (locs1 : List Loc), t.heap = H1 → s.vm.Alike t.vm → px u → BX E u t → H.size ≤ H1.size → (∀ q : Nat, q < H.size → ¬ AX q → H1[q]? = H[q]?) → va_S A0 H0 H1 locs1 → H1[q9]? = some ce → ce.vm = .none → s.vm.findClass E = some ce.cls → vx_W p l e R s m args below meth c H1 locs1 (cells + mc) (slots + ms) Q (F0 m pc ls rest) q9)
    (kk : ∀ (r : UInt64) (u : S) (t : State) (H1 : Heap) (locs1 : List Loc), t.heap = H1 → s.vm.Alike t.vm → post r u → B u t → H.size ≤ H1.size → (∀ q : Nat, q < H.size → ¬ A1 q → H1[q]? = H[q]?) → va_S A0 H0 H1 locs1 → W p l e R s m args below meth c H1 locs1 (cells + mc) (slots + ms) Q (F0 m (pc + 3) ls (.double r :: rest))) : W p l e R s m args below meth c H locs cells slots Q (F0 m pc ls st0) := by
  intro T hT X
  rcases hr T hT X with ⟨v, st₀, t, T', L, h0, X', hL, e1, e2, ⟨⟨r, u, hv, hp, hb⟩, hF⟩, st⟩ | ⟨q, st₀, t, T', L, E, ce, h0, X', hL, e1, e2, ⟨u, hp, hb, hF⟩, hce, hcv, hcl, st⟩
  · cases hv
    obtain ⟨k1, k2, k3⟩ := vx_keep h0 e1 hS hA hf hL hF
    obtain ⟨t2, a1, b1⟩ := kk r u t T'.heap (locs ++ L) e1.symm (by rw [← e2]; exact X'.warmed.alike) hp hb k1 k2 k3 T' rfl X'
    exact ⟨t2, st t2 a1, b1⟩
  · obtain ⟨k1, k2, k3⟩ := vx_keep h0 e1 hS hAX hf hL hF
    obtain ⟨t2, a1, b1⟩ := kx E ce q u t T'.heap (locs ++ L) e1.symm (by rw [← e2]; exact X'.warmed.alike) hp hb k1 k2 k3 (by rw [e1]; exact hce) hcv hcl T' rfl X'
    exact ⟨t2, st.trans a1, b1⟩
theorem vx_callv {S SX : Type} {post : S → Prop} {px : SX → Prop} {B : S → State → Prop} {BX : String → SX → State → Prop} {AX : Nat → Prop} (hr : vx_Run p l e R s m args below meth c H locs cells slots mc ms (F0 m pc ls st0) rest (va_Qv post B A1 a) (vx_X px BX AX) free) (hS : va_S A0 H0 H locs) (hA : ∀ q, q < H.size → A1 q → A0 q) (hf : ∀ q, free q → A0 q) (hAX : ∀ q, q < H.size → AX q → A0 q)
    (kx : ∀ (E : String) (ce : Cell) (q9 : Addr) (u : SX) (t : State) (H1 : Heap) (locs1 : List Loc), t.heap = H1 → s.vm.Alike t.vm → px u → BX E u t → H.size ≤ H1.size → (∀ q : Nat, q < H.size → ¬ AX q → H1[q]? = H[q]?) → va_S A0 H0 H1 locs1 → H1[q9]? = some ce → ce.vm = .none → s.vm.findClass E = some ce.cls → vx_W p l e R s m args below meth c H1 locs1 (cells + mc) (slots + ms) Q (F0 m pc ls rest) q9)
    (kk : ∀ (u : S) (t : State) (H1 : Heap) (locs1 : List Loc), t.heap = H1 → s.vm.Alike t.vm → post u → B u t → H.size ≤ H1.size → (∀ q : Nat, q < H.size → ¬ A1 q → H1[q]? = H[q]?) → va_S A0 H0 H1 locs1 → W p l e R s m args below meth c H1 locs1 (cells + mc) (slots + ms) Q (F0 m (pc + 3) ls (rest))) : W p l e R s m args below meth c H locs cells slots Q (F0 m pc ls st0) := by
  intro T hT X
  rcases hr T hT X with ⟨v, st₀, t, T', L, h0, X', hL, e1, e2, ⟨⟨u, hv, hp, hb⟩, hF⟩, st⟩ | ⟨q, st₀, t, T', L, E, ce, h0, X', hL, e1, e2, ⟨u, hp, hb, hF⟩, hce, hcv, hcl, st⟩
  · cases hv
    obtain ⟨k1, k2, k3⟩ := vx_keep h0 e1 hS hA hf hL hF
    obtain ⟨t2, a1, b1⟩ := kk u t T'.heap (locs ++ L) e1.symm (by rw [← e2]; exact X'.warmed.alike) hp hb k1 k2 k3 T' rfl X'
    exact ⟨t2, st t2 a1, b1⟩
  · obtain ⟨k1, k2, k3⟩ := vx_keep h0 e1 hS hAX hf hL hF
    obtain ⟨t2, a1, b1⟩ := kx E ce q u t T'.heap (locs ++ L) e1.symm (by rw [← e2]; exact X'.warmed.alike) hp hb k1 k2 k3 (by rw [e1]; exact hce) hcv hcl T' rfl X'
    exact ⟨t2, st.trans a1, b1⟩
/-- caught by the row x of this method's table; the rows ahead don't take it -/
theorem vx_catch {own name : String} {E : String} {ce : Cell} {q : Addr} (hown : s.vm.findClass own = some m.cls) (pre : List ExceptionTableEntry) (x : ExceptionTableEntry) (suf : List ExceptionTableEntry) (hsplit : c.exceptionTable.toList = pre ++ x :: suf)
    (hpass : ∀ z ∈ pre, covers z pc = false ∨ (z.catchType ≠ 0 ∧ ∃ nm : String, (Cond.classLink own z.catchType nm).before args s = true ∧ va_Nc E nm s)) (hx : covers x pc = true) (h0 : x.catchType ≠ 0)
    (hlink : (Cond.classLink own x.catchType name).before args s = true) (hcast : (Cond.castable E name).before args s = true) (hcell : H[q]? = some ce) (hv : ce.vm = .none) (hcl : s.vm.findClass E = some ce.cls)
    (kk : W p l e R s m args below meth c H locs cells slots Q (F0 m x.handlerPc ls [.ref q])) : vx_W p l e R s m args below meth c H locs cells slots Q (F0 m pc ls rest) q := by
  intro T hT X
  have hpl : e.platform.magicAccessors = ({} : Platform).magicAccessors := by rw [X.admits.platform]
  obtain ⟨c3, c4, hc3, hc4, hasg⟩ := Cond.castable_spec hcast
  cases Option.some.inj (hc3.symm.trans hcl)
  obtain ⟨c5, hc5, hcl5⟩ := Cond.classLink_spec hown hlink e.platform hpl
  cases Option.some.inj (hc4.symm.trans hc5)
  obtain ⟨vm', X', st⟩ := X.thenCaughtThrough q (g := F0 m pc ls rest) rfl (Steps.refl _) (by rw [hT]; exact hcell) (by rw [hv]; rfl) (by obtain ⟨k9, h9, -⟩ := Vm.findClass_spec hcl; exact ⟨k9, h9⟩) pre x suf hsplit
    (fun z hz => by
      rcases hpass z hz with h | ⟨hz0, nm, hl1, hn1⟩
      · exact Or.inl h
      · obtain ⟨c6, hc6, hcl6⟩ := Cond.classLink_spec hown hl1 e.platform hpl
        obtain ⟨a8, b8, h1, h2, h3⟩ := hn1
        cases Option.some.inj (h1.symm.trans hcl)
        cases Option.some.inj (h2.symm.trans hc6)
        exact Or.inr ⟨hz0, _, hcl6, h3⟩) hx (Or.inr ⟨h0, c4, hcl5, hasg⟩)
  obtain ⟨t, a1, b1⟩ := kk (T.setVm vm') hT X'
  exact ⟨t, st.trans a1, b1⟩
end Rows
section Ends
variable {p : Program} {l : Launch} {e : Env} {R : Room} {s : State} {m : MethodId} {args : Array Value} {below : List Frame} {meth : Method} {c : Code} {H : Heap} {locs : List Loc} {cells slots : Nat} {Q : State → Prop}
variable {mc ms : Nat} {free : Addr → Prop} {A0 A1 : Nat → Prop} {H0 : Heap} {a : Array Value} {ls : Array Slot} {st0 rest : List Value}
variable {Qc : Array Value → State → Outcome → State → Prop} {XC : String → State → State → Prop}
/-- what a body that may throw owes at its end -/
def vx_MQ (below : List Frame) (Qc : Array Value → State → Outcome → State → Prop) (XC : String → State → State → Prop) (a : Array Value) (s : State) (mc ms : Nat) (free : Addr → Prop) : State → Prop := fun t =>
  ∃ o, t.status = .running ∧ Ended t below o ∧ vx_Q Qc XC mc ms free a s o t
theorem vx_ret {g : JFrame} {mc ms : Nat} (k : W p l e R s m args below meth c H locs cells slots (MQ below Qc args s mc ms free) g) : W p l e R s m args below meth c H locs cells slots (vx_MQ below Qc XC args s mc ms free) g := by
  intro T hT X
  obtain ⟨t, a1, o, b1, b2, b3, b4⟩ := k T hT X
  exact ⟨t, a1, o, b1, b2, Or.inl ⟨b3, b4⟩⟩
/-- not caught here: it goes on to the caller -/
theorem vx_widen {g : JFrame} {q : Addr} {k n : Nat} (h1 : cells ≤ k) (h2 : slots ≤ n) (kk : vx_W p l e R s m args below meth c H locs k n Q g q) : vx_W p l e R s m args below meth c H locs cells slots Q g q := fun T hT X => kk T hT (stand_widen X h1 h2)
theorem vx_out {pc : Nat} {E : String} {ce : Cell} {q : Addr} {mc ms : Nat} (hout : ∀ x ∈ c.exceptionTable.toList, covers x pc = false) (hlocks : meth.locks = false) (hcell : H[q]? = some ce) (hv : ce.vm = .none) (hcl : s.vm.findClass E = some ce.cls)
    (hx : ∀ t : State, t.heap = H → s.vm.Alike t.vm → XC E s t) (hf : ∀ z ∈ locs, free z.base) (hc : cells ≤ mc) (hs : slots ≤ ms) :
    vx_W p l e R s m args below meth c H locs cells slots (vx_MQ below Qc XC args s mc ms free) (F0 m pc ls rest) q := by
  intro T hT X
  obtain ⟨st1, hrun, hend, hW, hsm⟩ := X.leaveThrown q (g := F0 m pc ls rest) rfl rfl rfl hout hlocks
  have hcell9 : (T.setFrames (.throwing q :: below)).heap[q]? = some ce := by
    show T.heap[q]? = some ce
    rw [hT]; exact hcell
  exact ⟨_, st1, .threw q, hrun, hend, Or.inr ⟨q, rfl, E, ce, locs, hx _ hT hW.alike, hcell9, hv, hcl, hW, hsm.mono hc hs, hf⟩⟩
theorem vx_frame {U : State} {k n : Nat} (h : s.sameButNew ({ U with vm := s.vm } : State) locs k n) : s.heap.size ≤ U.heap.size ∧ ∀ q : Nat, q < s.heap.size → (∀ z ∈ locs, z.base ≠ q) → U.heap[q]? = s.heap[q]? := by
  obtain ⟨-, h2, -, -, -, h6⟩ := h
  refine ⟨h2, fun q hq hz => ?_⟩
  obtain ⟨c9, e1, e2, e3, e4⟩ := h6 q _ (Array.getElem?_eq_getElem hq)
  have hs : c9.slots = (s.heap[q]).slots := Array.ext_getElem? fun i => e4 i fun hm => hz _ hm rfl
  have h9 : c9 = s.heap[q] := by
    rw [hs] at e2
    exact e2
  have e5 : U.heap[q]? = some c9 := e1
  rw [e5, h9, Array.getElem?_eq_getElem hq]
/-- the words of a throw but the four that speak of the heap -/
def vx_no (w : Cond) : Bool := decide (w ≠ .isRef (.static Bundle.tN "UNASSIGNED_STACK" Bundle.steD)) && decide (w ≠ .isRef (.static Bundle.tN "SUPPRESSED_SENTINEL" Bundle.listD)) && decide (w ≠ .laysStatic Bundle.tN "UNASSIGNED_STACK" Bundle.steD) && decide (w ≠ .laysStatic Bundle.tN "SUPPRESSED_SENTINEL" Bundle.listD)
def vx_at0 (own : String) (ic : Nat) (X : String) (names : List String) : List Cond := (Bundle.ownAtoms0 own ic X names).filter vx_no
def vx_atS (own : String) (ic : Nat) (X : String) (names : List String) : List Cond := (Bundle.ownAtoms own ic X names).filter vx_no
/-- a word that the tables alone decide, or a good one -/
def vx_ot (w : Cond) : Bool := w.onTables || goodWord w
theorem vx_ot_at {args a' : Array Value} {s U : State} {w : Cond} (hW : s.WarmedH U.vm) (hvm : s.vm = U.vm) (hg : vx_ot w = true) (h : w.before args s = true) : w.before a' U = true := by
  simp only [vx_ot, Bool.or_eq_true] at hg
  rcases hg with hg | hg
  · exact va_tabs hg hvm h
  · exact word_at hW (good_of_word hg) h
/-- a list's words: the good ones out of the method's own list, the others by premises of their own -/
theorem vx_hat {args : Array Value} {s : State} {L B : List Cond} (h1 : ∀ w ∈ L.filter goodWord, w.before args s = true) (h2 : ∀ w ∈ L.filter (fun w => !goodWord w), w ∈ B) (h3 : ∀ w ∈ B, w.before args s = true) : ∀ w ∈ L, w.before args s = true := by
  intro w hw
  by_cases g : goodWord w = true
  · exact h1 w (List.mem_filter.mpr ⟨hw, g⟩)
  · refine h3 w (h2 w (List.mem_filter.mpr ⟨hw, ?_⟩))
    show (!goodWord w) = true
    cases hgw : goodWord w
    · rfl
    · exact absurd hgw g
theorem vx_c {args : Array Value} {s : State} {w : Cond} {B : List Cond} (h : w.before args s = true) (t : ∀ w ∈ B, w.before args s = true) : ∀ w' ∈ w :: B, w'.before args s = true := fun w' h' => (List.mem_cons.mp h').elim (fun e => by rw [e]; exact h) (t w')
theorem vx_n {args : Array Value} {s : State} : ∀ w ∈ ([] : List Cond), w.before args s = true := fun _ h => nomatch h
theorem vx_own {args : Array Value} {s : State} {L : List Cond} (h1 : ∀ w ∈ L.filter vx_no, w.before args s = true)
    (hU : (Cond.isRef (.static Bundle.tN "UNASSIGNED_STACK" Bundle.steD)).before args s = true) (hN : (Cond.isRef (.static Bundle.tN "SUPPRESSED_SENTINEL" Bundle.listD)).before args s = true)
    (lU : (Cond.laysStatic Bundle.tN "UNASSIGNED_STACK" Bundle.steD).before args s = true) (lN : (Cond.laysStatic Bundle.tN "SUPPRESSED_SENTINEL" Bundle.listD).before args s = true) : ∀ w ∈ L, w.before args s = true := by
  intro w hw
  by_cases e1 : w = .isRef (.static Bundle.tN "UNASSIGNED_STACK" Bundle.steD)
  · rw [e1]; exact hU
  · by_cases e2 : w = .isRef (.static Bundle.tN "SUPPRESSED_SENTINEL" Bundle.listD)
    · rw [e2]; exact hN
    · by_cases e3 : w = .laysStatic Bundle.tN "UNASSIGNED_STACK" Bundle.steD
      · rw [e3]; exact lU
      · by_cases e4 : w = .laysStatic Bundle.tN "SUPPRESSED_SENTINEL" Bundle.listD
        · rw [e4]; exact lN
        · exact h1 w (List.mem_filter.mpr ⟨hw, by unfold vx_no; rw [decide_eq_true e1, decide_eq_true e2, decide_eq_true e3, decide_eq_true e4]; rfl⟩)
/-- where a static field lies, its class's statics cell in H -/
def vx_L (C n d : String) (A : Nat → Prop) (U : State) (H : Heap) : Prop := ∃ (c : ClassId) (k : Class) (i : Nat) (f : Field) (a : Nat) (cell : Cell), U.vm.findClass C = some c ∧ U.fieldFound? C n d = some (c, k, i, f) ∧ f.isStatic = true ∧ k.statics = some a ∧ H[a]? = some cell ∧ cell.vm.isStatics = true ∧ cell.cls = c ∧ f.slot < cell.slots.size ∧ k.staticTypes[f.slot]? = some f.type ∧ ¬ A a
theorem vx_L.moved {C n d : String} {A : Nat → Prop} {u U : State} {H : Heap} (hvm : u.vm.Alike U.vm) (h : vx_L C n d A u H) : vx_L C n d A U H := by
  obtain ⟨c, k, i, f, a, cell, h1, h2, h3, h4, h5, h6, h7, h8, h9, h10⟩ := h
  obtain ⟨k', hi', he⟩ := State.fieldFound?_setVm hvm h2
  exact ⟨c, k', i, f, a, cell, by rw [hvm.findClass]; exact h1, hi', h3, by rw [he]; exact h4, h5, h6, h7, h8, by rw [he]; exact h9, h10⟩
theorem vx_L.kept {C n d : String} {A : Nat → Prop} {U : State} {H H1 : Heap} (h : vx_L C n d A U H) (hq : ∀ a : Nat, a < H.size → ¬ A a → H1[a]? = H[a]?) : vx_L C n d A U H1 := by
  obtain ⟨c, k, i, f, a, cell, h1, h2, h3, h4, h5, h6, h7, h8, h9, h10⟩ := h
  exact ⟨c, k, i, f, a, cell, h1, h2, h3, h4, by rw [hq a (Array.getElem?_eq_some_iff.mp h5).1 h10]; exact h5, h6, h7, h8, h9, h10⟩
theorem vx_L.narrow {C n d : String} {A B : Nat → Prop} {U : State} {H : Heap} (h : vx_L C n d A U H) (hAB : ∀ q, B q → A q) : vx_L C n d B U H := by
  obtain ⟨c, k, i, f, a, cell, h1, h2, h3, h4, h5, h6, h7, h8, h9, h10⟩ := h
  exact ⟨c, k, i, f, a, cell, h1, h2, h3, h4, h5, h6, h7, h8, h9, fun z => h10 (hAB _ z)⟩
theorem vx_L.word {C n d : String} {A : Nat → Prop} {s : State} {args : Array Value} (h : vx_L C n d A s s.heap) : (Cond.laysStatic C n d).before args s = true := by
  obtain ⟨c, k, i, f, a, cell, h1, h2, h3, h4, h5, h6, h7, h8, h9, -⟩ := h
  show (Cond.laysStatic C n d).holds args s none s [] = true
  exact Cond.laysStatic_of h1 h2 h3 h4 h5 h6 h7 h8 h9
/-- .. and what it holds: null or some reference -/
def vx_Zq (C n d : String) (A : Nat → Prop) (U : State) (H : Heap) : Prop := va_Zq C n d A U H ∧ vx_L C n d A U H
theorem vx_Zq.moved {C n d : String} {A : Nat → Prop} {u U : State} {H : Heap} (hvm : u.vm.Alike U.vm) (h : vx_Zq C n d A u H) : vx_Zq C n d A U H := ⟨va_Zq.moved hvm h.1, vx_L.moved hvm h.2⟩
theorem vx_Zq.kept {C n d : String} {A : Nat → Prop} {U : State} {H H1 : Heap} (h : vx_Zq C n d A U H) (hq : ∀ a : Nat, a < H.size → ¬ A a → H1[a]? = H[a]?) : vx_Zq C n d A U H1 := ⟨va_Zq.kept h.1 hq, vx_L.kept h.2 hq⟩
theorem vx_Zq.narrow {C n d : String} {A B : Nat → Prop} {U : State} {H : Heap} (h : vx_Zq C n d A U H) (hAB : ∀ q, B q → A q) : vx_Zq C n d B U H := ⟨va_Zq.narrow h.1 hAB, vx_L.narrow h.2 hAB⟩
theorem vx_Zqof {args : Array Value} {s : State} {C n d : String} {A : Nat → Prop} (hl : (Cond.laysStatic C n d).before args s = true) (hini : (Cond.initialized C).before args s = true) (h : (Cond.isRef (.static C n d)).before args s = true) (hA : ∀ a : Nat, a < s.heap.size → ¬ A a) : vx_Zq C n d A s s.heap := by
  refine ⟨va_Zqof hl hini h hA, ?_⟩
  obtain ⟨c, k, i, f, a, cell, h1, h2, h3, h4, h5, h6, h7, h8, h9⟩ := Cond.laysStatic_spec hl
  exact ⟨c, k, i, f, a, cell, h1, h2, h3, h4, h5, h6, h7, h8, h9, hA a (Array.getElem?_eq_some_iff.mp h5).1⟩
theorem vx_isRef {C n d : String} {v : Value} {A : Nat → Prop} {s : State} {args : Array Value} (h : va_Z C n d v A s s.heap) (hv : v.isRef = true) : (Cond.isRef (.static C n d)).before args s = true := by
  obtain ⟨cf, kf, fi, f, a, cell, h1, h2, h3, h4, h5, h6, h7, -⟩ := h
  have he : (Term.static C n d).eval args s none [] s = some v := by
    simp [Term.eval, State.fieldNamed?, h1, h2, h4, h5, h6, h7]
  simp only [Cond.before, Cond.holds, Cond.value, he]
  cases v <;> simp_all [Value.isRef]
theorem vx_isRefq {C n d : String} {A : Nat → Prop} {s : State} {args : Array Value} (h : va_Zq C n d A s s.heap) : (Cond.isRef (.static C n d)).before args s = true := by
  rcases h with h | ⟨t, h⟩
  · exact vx_isRef h rfl
  · exact vx_isRef h rfl
/-- the same frame, seen from here: as if the method were called anew in this heap -/
theorem vx_rebase {T : State} (X : Stand p l e R s m args below meth c T locs cells slots) {R' : Room} (hf : R'.frames ≤ R.frames) (hl : R'.locals ≤ R.locals) (hc : cells + R'.cells ≤ R.cells) (hs : slots + R'.slots ≤ R.slots) :
    Stand p l e R' ((T.setVm s.vm).setFrames (.invoking m args :: below)) m args below meth c T [] 0 0 := by
  have htop : (T.setVm s.vm).topJava?.isSome := X.here.top
  have hF : ((T.setVm s.vm).setFrames (.invoking m args :: below)).frames = .invoking m args :: below := State.frames_setFrames _ (State.cur_lt_of_top htop)
  obtain ⟨g₀, hg0⟩ := Option.isSome_iff_exists.mp htop
  obtain ⟨r, hr⟩ := State.topJava?_eq_some.mp hg0
  have hl9 : e.platform.stackLimits (T.setVm s.vm).me = e.platform.stackLimits s.me := X.limits
  have hb9 : (T.setVm s.vm).me.stackBytes = s.me.stackBytes := X.bytes
  refine ⟨X.admits, X.cas, X.clock, hF, ?_, X.hears, X.method, X.code, X.here, X.tail, X.warmed, ?_, ?_, ?_⟩
  · have h := X.room
    have hU : ((T.setVm s.vm).setFrames (.invoking m args :: below)).localsInUse = s.localsInUse := by
      rw [State.localsInUse_invoking hF (meth := meth) (c := c) X.method X.code, State.localsInUse_invoking X.frames X.method X.code]
    simp only [State.hasRoom, Bool.and_eq_true, decide_eq_true_eq] at h ⊢
    obtain ⟨⟨⟨⟨h1, h2, h3, h4, h5, h6⟩, h7⟩, h8⟩, h9⟩ := h
    rw [X.frames, List.length_cons] at h2 h3
    have q1 := X.heapSize
    have q2 := X.used
    simp only [hF, hU, List.length_cons, State.stackLimits_setFrames, State.stackBytes_setFrames, hl9, hb9]
    refine ⟨⟨⟨⟨by omega, by omega, by omega, by omega, by omega, h6⟩, ?_⟩, ?_⟩, X.book⟩
    · show T.heap.size + R'.cells ≤ e.platform.maxCells
      omega
    · show T.slotsUsed + R'.slots ≤ e.platform.maxSlots
      omega
  · rw [State.stackLimits_setFrames]; rfl
  · rw [State.stackBytes_setFrames]; rfl
  · refine ⟨?_, Nat.le_refl _, Nat.le_refl _, ?_, ?_, fun a c9 h9 => ⟨c9, h9, rfl, rfl, fun _ _ => rfl⟩⟩
    · obtain ⟨t, ht, -⟩ := State.frames_cons hr
      show T.setVm s.vm = { ((T.setVm s.vm).setFrames (.invoking m args :: below)).setFrames (T.setVm s.vm).frames with heap := T.heap, slotsUsed := T.slotsUsed }
      rw [State.setFrames_setFrames, State.setFrames_self ht]
      rfl
    · show T.slotsUsed = T.slotsUsed + ((T.heap.toList.drop T.heap.size).map (·.slots.size)).sum
      rw [List.drop_eq_nil_of_le (Nat.le_of_eq Array.length_toList)]
      rfl
    · show ((T.heap.toList.drop T.heap.size).map (·.slots.size)).sum ≤ 0
      rw [List.drop_eq_nil_of_le (Nat.le_of_eq Array.length_toList)]
      exact Nat.le_refl _
/-- 'throw new E()': new; dup; invokespecial; athrow -/
theorem vx_throw0 {cc : ByteArray} {pc : Nat} (hexec : p.tables.exec = Jvm.exec) (hb : c.code = cc) (hl : l.stackTraces = false) {own cls : String} {names : List String} {ik ic mc ms : Nat} {A : Nat → Prop}
    (hown : s.vm.findClass own = some m.cls) (hcls : Bundle.fit cls = true) (hnames : ∀ n ∈ names, Bundle.fit n = true)
    (hk : (Cond.classLink own ik cls).before args s = true) (hini : (Cond.initialized cls).before args s = true) (hat : ∀ w ∈ vx_at0 own ic cls names, w.before args s = true)
    (hgood : ∀ w ∈ Cond.classLink own ik cls :: Cond.initialized cls :: vx_at0 own ic cls names, vx_ot w = true)
    (hU : vx_Zq Bundle.tN "UNASSIGNED_STACK" Bundle.steD A s s.heap) (hN : vx_Zq Bundle.tN "SUPPRESSED_SENTINEL" Bundle.listD A s s.heap) (hS : va_S A s.heap H locs) (hsize : ls.size = c.maxLocals)
    (d0 : decode cc pc = .ok (.new ik, 3)) (d3 : decode cc (pc + 3) = .ok (.dup, 1)) (d4 : decode cc (pc + 4) = .ok (.invokespecial ic, 3)) (d7 : decode cc (pc + 7) = .ok (.athrow, 1))
    (hout : ∀ x ∈ c.exceptionTable.toList, covers x (pc + 7) = false)
    (hRframes : names.length + 3 < R.frames) (hRlocals : (rest.map fun v => v.category).sum + (13 * (names.length + 1) + 42) ≤ R.locals) (hRcells : cells + 1 ≤ R.cells) (hRslots : slots + 6 ≤ R.slots) (hlocks : meth.locks = false)
    (hx : ∀ t : State, s.vm.Alike t.vm → H.size ≤ t.heap.size → (∀ q : Nat, q < H.size → t.heap[q]? = H[q]?) → XC cls s t)
    (hf : ∀ z ∈ locs, free z.base) (hc : cells + 1 ≤ mc) (hs : slots + 6 ≤ ms) :
    W p l e R s m args below meth c H locs cells slots (vx_MQ below Qc XC args s mc ms free) (F0 m pc ls rest) := by
  intro T hT X
  have htr : e.platform.stackTraces = false := (show e.platform.stackTraces = l.stackTraces by rw [X.admits.platform]).trans hl
  have Y := vx_rebase X (R' := { frames := R.frames, locals := R.locals, cells := 1, slots := 6 }) (Nat.le_refl _) (Nat.le_refl _) hRcells hRslots
  obtain ⟨s', hA⟩ : ∃ z, z = (T.setVm s.vm).setFrames (.invoking m args :: below) := ⟨_, rfl⟩
  rw [← hA] at Y
  have hvm : s'.vm = s.vm := by rw [hA]; rfl
  have hhp : s'.heap = H := by rw [hA]; exact hT
  have hW0 : s.WarmedH s'.vm := by rw [hvm]; exact State.WarmedH.refl s
  have hat' : ∀ w ∈ vx_at0 own ic cls names, w.before args s' = true := fun w hw => vx_ot_at hW0 hvm.symm (hgood w (List.mem_cons_of_mem _ (List.mem_cons_of_mem _ hw))) (hat w hw)
  have hk' : (Cond.classLink own ik cls).before args s' = true := vx_ot_at hW0 hvm.symm (hgood _ List.mem_cons_self) hk
  have hini' : (Cond.initialized cls).before args s' = true := vx_ot_at hW0 hvm.symm (hgood _ (List.mem_cons_of_mem _ List.mem_cons_self)) hini
  have hU' : vx_Zq Bundle.tN "UNASSIGNED_STACK" Bundle.steD A s' s'.heap := by rw [hhp]; exact vx_Zq.moved hW0.alike (hU.kept hS.2.1)
  have hN' : vx_Zq Bundle.tN "SUPPRESSED_SENTINEL" Bundle.listD A s' s'.heap := by rw [hhp]; exact vx_Zq.moved hW0.alike (hN.kept hS.2.1)
  have h : ∀ w ∈ Bundle.ownAtoms0 own ic cls names, w.before args s' = true := vx_own hat' (vx_isRefq hU'.1) (vx_isRefq hN'.1) hU'.2.word hN'.2.word
  have hown' : s'.vm.findClass own = some m.cls := by rw [hvm]; exact hown
  have hins : (Cond.instantiable cls 6).before args s' = true := h _ (by simp [Bundle.ownAtoms0])
  obtain ⟨vm₁, cX, kX, hfX, hkX, -, -, X₁, st1⟩ := Y.newCold hexec (own := own) (C := cls) (index := ik) (n := 6) hown' hk' hins hini'
    (g := F0 m pc ls rest) rfl (by rw [hb]; exact d0) (Nat.le_refl _) (Nat.le_refl _)
  generalize hT1 : (T.setVm vm₁).pushCell { cls := cX, slots := kX.instanceTypes.map defaultValue, vm := .none } = T1 at X₁ st1
  have hcat : (Value.ref T.heap.size).category = 1 := rfl
  have hcellA : T1.heap[T.heap.size]? = some (freshCell cX kX) := by rw [← hT1]; exact State.heap_pushCell_size _ _
  have d3' : decode c.code (pc + 3) = .ok (.dup, 1) := by rw [hb]; exact d3
  obtain ⟨U, hsteps, hrun, hend, hW, hsame, ce, hce, hO⟩ := X₁.ctorThrow0 hexec htr (own := own) (cls := cls) (names := names) (ic := ic) hown' hcls hnames h (fun x hx => nomatch hx) hfX hkX hcellA (by rw [hhp, hT]; exact Nat.le_refl _)
    (g := { method := m, pc := pc + 4, locals := ls, stack := .ref T.heap.size :: .ref T.heap.size :: rest, locked := none }) rfl hsize rfl rfl (rest := rest) rfl
    (by rw [hb]; exact d4) (by rw [hb]; exact d7) hout hRframes (by simp only [List.map_cons, List.sum_cons, hcat]; omega) hlocks
  obtain ⟨f1, f2⟩ := vx_frame hsame
  rw [hhp] at f1 f2
  have hWs : s.WarmedH U.vm := State.WarmedH.trans hW0 hW
  have hcl : s.vm.findClass cls = some ce.cls := by
    have h9 := hO.cls
    rw [hvm] at h9
    exact h9
  have hall : s.sameButNew ({ U with vm := s.vm } : State) locs mc ms := by
    subst hA
    obtain ⟨e1, e2⟩ := hsame
    rw [State.setFrames_setFrames] at e1
    have h2 : (T.setVm s.vm).sameButNew ({ U with vm := s.vm } : State) [] (0 + 1) (0 + 6) := ⟨e1, e2⟩
    have h3 := X.same.trans h2
    rw [List.append_nil] at h3
    exact h3.mono hc hs
  refine ⟨U, ?_, .threw T.heap.size, hrun, hend, Or.inr ⟨T.heap.size, rfl, cls, ce, locs, hx U hWs.alike f1 (fun q hq => f2 q hq (fun z hz => nomatch hz)), hce, hO.vm, hcl, hWs, hall, hf⟩⟩
  refine st1 _ ?_
  show Steps p.tables e below (T1.setTop { method := m, pc := pc + 3, locals := ls, stack := .ref T.heap.size :: rest, locked := none }) _
  jvm_step X₁.here [X₁.here.top, hexec, d3', Value.category]
  exact hsteps
/-- 'throw new E("text")': new; dup; ldc; invokespecial; athrow -/
theorem vx_throwS {cc : ByteArray} {pc : Nat} (hexec : p.tables.exec = Jvm.exec) (hb : c.code = cc) (hl : l.stackTraces = false) {own cls text : String} {names : List String} {ik is ic mc ms sa : Nat} {A : Nat → Prop}
    (hown : s.vm.findClass own = some m.cls) (hcls : Bundle.fit cls = true) (hnames : ∀ n ∈ names, Bundle.fit n = true)
    (hk : (Cond.classLink own ik cls).before args s = true) (hini : (Cond.initialized cls).before args s = true) (hstr : vk_R own is text sa s) (hat : ∀ w ∈ vx_atS own ic cls names, w.before args s = true)
    (hgood : ∀ w ∈ Cond.classLink own ik cls :: Cond.initialized cls :: vx_atS own ic cls names, vx_ot w = true)
    (hU : vx_Zq Bundle.tN "UNASSIGNED_STACK" Bundle.steD A s s.heap) (hN : vx_Zq Bundle.tN "SUPPRESSED_SENTINEL" Bundle.listD A s s.heap) (hS : va_S A s.heap H locs) (hsize : ls.size = c.maxLocals)
    (d0 : decode cc pc = .ok (.new ik, 3)) (d3 : decode cc (pc + 3) = .ok (.dup, 1)) (d4 : decode cc (pc + 4) = .ok (.ldc is, 2)) (d6 : decode cc (pc + 6) = .ok (.invokespecial ic, 3)) (d9 : decode cc (pc + 9) = .ok (.athrow, 1))
    (hout : ∀ x ∈ c.exceptionTable.toList, covers x (pc + 9) = false)
    (hRframes : names.length + 3 < R.frames) (hRlocals : (rest.map fun v => v.category).sum + (13 * (names.length + 1) + 43) ≤ R.locals) (hRcells : cells + 1 ≤ R.cells) (hRslots : slots + 6 ≤ R.slots) (hlocks : meth.locks = false)
    (hx : ∀ t : State, s.vm.Alike t.vm → H.size ≤ t.heap.size → (∀ q : Nat, q < H.size → t.heap[q]? = H[q]?) → XC cls s t)
    (hf : ∀ z ∈ locs, free z.base) (hc : cells + 1 ≤ mc) (hs : slots + 6 ≤ ms) :
    W p l e R s m args below meth c H locs cells slots (vx_MQ below Qc XC args s mc ms free) (F0 m pc ls rest) := by
  intro T hT X
  have htr : e.platform.stackTraces = false := (show e.platform.stackTraces = l.stackTraces by rw [X.admits.platform]).trans hl
  have Y := vx_rebase X (R' := { frames := R.frames, locals := R.locals, cells := 1, slots := 6 }) (Nat.le_refl _) (Nat.le_refl _) hRcells hRslots
  obtain ⟨s', hA⟩ : ∃ z, z = (T.setVm s.vm).setFrames (.invoking m args :: below) := ⟨_, rfl⟩
  rw [← hA] at Y
  have hvm : s'.vm = s.vm := by rw [hA]; rfl
  have hhp : s'.heap = H := by rw [hA]; exact hT
  have hW0 : s.WarmedH s'.vm := by rw [hvm]; exact State.WarmedH.refl s
  have hat' : ∀ w ∈ vx_atS own ic cls names, w.before args s' = true := fun w hw => vx_ot_at hW0 hvm.symm (hgood w (List.mem_cons_of_mem _ (List.mem_cons_of_mem _ hw))) (hat w hw)
  have hk' : (Cond.classLink own ik cls).before args s' = true := vx_ot_at hW0 hvm.symm (hgood _ List.mem_cons_self) hk
  have hini' : (Cond.initialized cls).before args s' = true := vx_ot_at hW0 hvm.symm (hgood _ (List.mem_cons_of_mem _ List.mem_cons_self)) hini
  have hU' : vx_Zq Bundle.tN "UNASSIGNED_STACK" Bundle.steD A s' s'.heap := by rw [hhp]; exact vx_Zq.moved hW0.alike (hU.kept hS.2.1)
  have hN' : vx_Zq Bundle.tN "SUPPRESSED_SENTINEL" Bundle.listD A s' s'.heap := by rw [hhp]; exact vx_Zq.moved hW0.alike (hN.kept hS.2.1)
  have h : ∀ w ∈ Bundle.ownAtoms own ic cls names, w.before args s' = true := vx_own hat' (vx_isRefq hU'.1) (vx_isRefq hN'.1) hU'.2.word hN'.2.word
  have hown' : s'.vm.findClass own = some m.cls := by rw [hvm]; exact hown
  have hins : (Cond.instantiable cls 6).before args s' = true := h _ (by simp [Bundle.ownAtoms])
  obtain ⟨vm₁, cX, kX, hfX, hkX, -, -, X₁, st1⟩ := Y.newCold hexec (own := own) (C := cls) (index := ik) (n := 6) hown' hk' hins hini'
    (g := F0 m pc ls rest) rfl (by rw [hb]; exact d0) (Nat.le_refl _) (Nat.le_refl _)
  generalize hT1 : (T.setVm vm₁).pushCell { cls := cX, slots := kX.instanceTypes.map defaultValue, vm := .none } = T1 at X₁ st1
  have hcat : (Value.ref T.heap.size).category = 1 := rfl
  have hcellA : T1.heap[T.heap.size]? = some (freshCell cX kX) := by rw [← hT1]; exact State.heap_pushCell_size _ _
  have d3' : decode c.code (pc + 3) = .ok (.dup, 1) := by rw [hb]; exact d3
  have d4' : decode c.code (pc + 4) = .ok (.ldc is, 2) := by rw [hb]; exact d4
  have hstr' : vk_R own is text sa s' := vk_R.warm hW0 hstr
  obtain ⟨U, hsteps, hrun, hend, hW, hsame, ce, hce, hO⟩ := X₁.ctorThrowS hexec htr (own := own) (cls := cls) (names := names) (ic := ic) hown' hcls hnames h (fun x hx => nomatch hx) hfX hkX hcellA (by rw [hhp, hT]; exact Nat.le_refl _) (msg := .ref sa) rfl
    (g := { method := m, pc := pc + 6, locals := ls, stack := .ref sa :: .ref T.heap.size :: .ref T.heap.size :: rest, locked := none }) rfl hsize rfl rfl (rest := rest) rfl
    (by rw [hb]; exact d6) (by rw [hb]; exact d9) hout hRframes (by simp only [List.map_cons, List.sum_cons, hcat]; omega) hlocks
  obtain ⟨f1, f2⟩ := vx_frame hsame
  rw [hhp] at f1 f2
  have hWs : s.WarmedH U.vm := State.WarmedH.trans hW0 hW
  have hcl : s.vm.findClass cls = some ce.cls := by
    have h9 := hO.cls
    rw [hvm] at h9
    exact h9
  have hall : s.sameButNew ({ U with vm := s.vm } : State) locs mc ms := by
    subst hA
    obtain ⟨e1, e2⟩ := hsame
    rw [State.setFrames_setFrames] at e1
    have h2 : (T.setVm s.vm).sameButNew ({ U with vm := s.vm } : State) [] (0 + 1) (0 + 6) := ⟨e1, e2⟩
    have h3 := X.same.trans h2
    rw [List.append_nil] at h3
    exact h3.mono hc hs
  refine ⟨U, ?_, .threw T.heap.size, hrun, hend, Or.inr ⟨T.heap.size, rfl, cls, ce, locs, hx U hWs.alike f1 (fun q hq => f2 q hq (fun z hz => nomatch hz)), hce, hO.vm, hcl, hWs, hall, hf⟩⟩
  refine st1 _ ?_
  show Steps p.tables e below (T1.setTop { method := m, pc := pc + 3, locals := ls, stack := .ref T.heap.size :: rest, locked := none }) _
  jvm_step X₁.here [X₁.here.top, hexec, d3', Value.category]
  exact X₁.ldcString hexec (own := own) (text := text) (index := is) (a := sa) hown' hstr'.1 hstr'.2
    (g := { method := m, pc := pc + 4, locals := ls, stack := .ref T.heap.size :: .ref T.heap.size :: rest, locked := none }) rfl d4' _ hsteps
/-- 'throw new E("text")', the text by a wide index -/
theorem vx_throwSW {cc : ByteArray} {pc : Nat} (hexec : p.tables.exec = Jvm.exec) (hb : c.code = cc) (hl : l.stackTraces = false) {own cls text : String} {names : List String} {ik is ic mc ms sa : Nat} {A : Nat → Prop}
    (hown : s.vm.findClass own = some m.cls) (hcls : Bundle.fit cls = true) (hnames : ∀ n ∈ names, Bundle.fit n = true)
    (hk : (Cond.classLink own ik cls).before args s = true) (hini : (Cond.initialized cls).before args s = true) (hstr : vk_R own is text sa s) (hat : ∀ w ∈ vx_atS own ic cls names, w.before args s = true)
    (hgood : ∀ w ∈ Cond.classLink own ik cls :: Cond.initialized cls :: vx_atS own ic cls names, vx_ot w = true)
    (hU : vx_Zq Bundle.tN "UNASSIGNED_STACK" Bundle.steD A s s.heap) (hN : vx_Zq Bundle.tN "SUPPRESSED_SENTINEL" Bundle.listD A s s.heap) (hS : va_S A s.heap H locs) (hsize : ls.size = c.maxLocals)
    (d0 : decode cc pc = .ok (.new ik, 3)) (d3 : decode cc (pc + 3) = .ok (.dup, 1)) (d4 : decode cc (pc + 4) = .ok (.ldc_w is, 3)) (d7 : decode cc (pc + 7) = .ok (.invokespecial ic, 3)) (d10 : decode cc (pc + 10) = .ok (.athrow, 1))
    (hout : ∀ x ∈ c.exceptionTable.toList, covers x (pc + 10) = false)
    (hRframes : names.length + 3 < R.frames) (hRlocals : (rest.map fun v => v.category).sum + (13 * (names.length + 1) + 43) ≤ R.locals) (hRcells : cells + 1 ≤ R.cells) (hRslots : slots + 6 ≤ R.slots) (hlocks : meth.locks = false)
    (hx : ∀ t : State, s.vm.Alike t.vm → H.size ≤ t.heap.size → (∀ q : Nat, q < H.size → t.heap[q]? = H[q]?) → XC cls s t)
    (hf : ∀ z ∈ locs, free z.base) (hc : cells + 1 ≤ mc) (hs : slots + 6 ≤ ms) :
    W p l e R s m args below meth c H locs cells slots (vx_MQ below Qc XC args s mc ms free) (F0 m pc ls rest) := by
  intro T hT X
  have htr : e.platform.stackTraces = false := (show e.platform.stackTraces = l.stackTraces by rw [X.admits.platform]).trans hl
  have Y := vx_rebase X (R' := { frames := R.frames, locals := R.locals, cells := 1, slots := 6 }) (Nat.le_refl _) (Nat.le_refl _) hRcells hRslots
  obtain ⟨s', hA⟩ : ∃ z, z = (T.setVm s.vm).setFrames (.invoking m args :: below) := ⟨_, rfl⟩
  rw [← hA] at Y
  have hvm : s'.vm = s.vm := by rw [hA]; rfl
  have hhp : s'.heap = H := by rw [hA]; exact hT
  have hW0 : s.WarmedH s'.vm := by rw [hvm]; exact State.WarmedH.refl s
  have hat' : ∀ w ∈ vx_atS own ic cls names, w.before args s' = true := fun w hw => vx_ot_at hW0 hvm.symm (hgood w (List.mem_cons_of_mem _ (List.mem_cons_of_mem _ hw))) (hat w hw)
  have hk' : (Cond.classLink own ik cls).before args s' = true := vx_ot_at hW0 hvm.symm (hgood _ List.mem_cons_self) hk
  have hini' : (Cond.initialized cls).before args s' = true := vx_ot_at hW0 hvm.symm (hgood _ (List.mem_cons_of_mem _ List.mem_cons_self)) hini
  have hU' : vx_Zq Bundle.tN "UNASSIGNED_STACK" Bundle.steD A s' s'.heap := by rw [hhp]; exact vx_Zq.moved hW0.alike (hU.kept hS.2.1)
  have hN' : vx_Zq Bundle.tN "SUPPRESSED_SENTINEL" Bundle.listD A s' s'.heap := by rw [hhp]; exact vx_Zq.moved hW0.alike (hN.kept hS.2.1)
  have h : ∀ w ∈ Bundle.ownAtoms own ic cls names, w.before args s' = true := vx_own hat' (vx_isRefq hU'.1) (vx_isRefq hN'.1) hU'.2.word hN'.2.word
  have hown' : s'.vm.findClass own = some m.cls := by rw [hvm]; exact hown
  have hins : (Cond.instantiable cls 6).before args s' = true := h _ (by simp [Bundle.ownAtoms])
  obtain ⟨vm₁, cX, kX, hfX, hkX, -, -, X₁, st1⟩ := Y.newCold hexec (own := own) (C := cls) (index := ik) (n := 6) hown' hk' hins hini'
    (g := F0 m pc ls rest) rfl (by rw [hb]; exact d0) (Nat.le_refl _) (Nat.le_refl _)
  generalize hT1 : (T.setVm vm₁).pushCell { cls := cX, slots := kX.instanceTypes.map defaultValue, vm := .none } = T1 at X₁ st1
  have hcat : (Value.ref T.heap.size).category = 1 := rfl
  have hcellA : T1.heap[T.heap.size]? = some (freshCell cX kX) := by rw [← hT1]; exact State.heap_pushCell_size _ _
  have d3' : decode c.code (pc + 3) = .ok (.dup, 1) := by rw [hb]; exact d3
  have d4' : decode c.code (pc + 4) = .ok (.ldc_w is, 3) := by rw [hb]; exact d4
  have hstr' : vk_R own is text sa s' := vk_R.warm hW0 hstr
  obtain ⟨U, hsteps, hrun, hend, hW, hsame, ce, hce, hO⟩ := X₁.ctorThrowS hexec htr (own := own) (cls := cls) (names := names) (ic := ic) hown' hcls hnames h (fun x hx => nomatch hx) hfX hkX hcellA (by rw [hhp, hT]; exact Nat.le_refl _) (msg := .ref sa) rfl
    (g := { method := m, pc := pc + 7, locals := ls, stack := .ref sa :: .ref T.heap.size :: .ref T.heap.size :: rest, locked := none }) rfl hsize rfl rfl (rest := rest) rfl
    (by rw [hb]; exact d7) (by rw [hb]; exact d10) hout hRframes (by simp only [List.map_cons, List.sum_cons, hcat]; omega) hlocks
  obtain ⟨f1, f2⟩ := vx_frame hsame
  rw [hhp] at f1 f2
  have hWs : s.WarmedH U.vm := State.WarmedH.trans hW0 hW
  have hcl : s.vm.findClass cls = some ce.cls := by
    have h9 := hO.cls
    rw [hvm] at h9
    exact h9
  have hall : s.sameButNew ({ U with vm := s.vm } : State) locs mc ms := by
    subst hA
    obtain ⟨e1, e2⟩ := hsame
    rw [State.setFrames_setFrames] at e1
    have h2 : (T.setVm s.vm).sameButNew ({ U with vm := s.vm } : State) [] (0 + 1) (0 + 6) := ⟨e1, e2⟩
    have h3 := X.same.trans h2
    rw [List.append_nil] at h3
    exact h3.mono hc hs
  refine ⟨U, ?_, .threw T.heap.size, hrun, hend, Or.inr ⟨T.heap.size, rfl, cls, ce, locs, hx U hWs.alike f1 (fun q hq => f2 q hq (fun z hz => nomatch hz)), hce, hO.vm, hcl, hWs, hall, hf⟩⟩
  refine st1 _ ?_
  show Steps p.tables e below (T1.setTop { method := m, pc := pc + 3, locals := ls, stack := .ref T.heap.size :: rest, locked := none }) _
  jvm_step X₁.here [X₁.here.top, hexec, d3', Value.category]
  exact X₁.ldcStringW hexec (own := own) (text := text) (index := is) (a := sa) hown' hstr'.1 hstr'.2
    (g := { method := m, pc := pc + 4, locals := ls, stack := .ref T.heap.size :: .ref T.heap.size :: rest, locked := none }) rfl d4' _ hsteps
end Ends
section Bodies
variable {l : Launch}
theorem vx_ofW {y : MethodName} {ws ws' : List Cond} {rm : Room} {Pc : Array Value → State → Prop} {Qc : Array Value → State → Outcome → State → Prop} {XC : String → State → State → Prop} {mc ms : Nat} {free : Addr → Prop} {cc : ByteArray} {maxL : Nat} {ret : Option FieldType}
    (hy : plainName y.cls = true) (hw : ws = Cond.code y cc maxL ret :: ws')
    (body : ∀ p e s m args below meth c s₁, BodyLoose p l y (headSpec ws rm) cc maxL ret e s m args below meth c s₁ → c.maxLocals = maxL → (∀ x ∈ c.exceptionTable.toList, False) → Pc args s →
      W p l e (headSpec ws rm).room s m args below meth c s.heap [] 0 0 (vx_MQ below Qc XC args s mc ms free) (entryFrame m args maxL)) : vx_Met l y ws rm Pc Qc XC mc ms free := by
  refine MetFree.of_bodyS (code := cc) (maxLocals := maxL) (ret := ret) hy ?_ ?_
  · intro args s m h hn
    obtain ⟨meth, c, h1, h2, h3, h4, h5, h6, -, -⟩ := Cond.code_spec hn (atoms_spec (ws := ws) h _ (by rw [hw]; exact List.mem_cons_self))
    exact ⟨meth, c, h1, h2, h3, h4, h5, h6⟩
  · intro p e s m args below meth c s₁ B hml hP _
    have hh0 : s₁.heap = s.heap := by rw [B.state]; rfl
    have ht : ∀ x ∈ c.exceptionTable.toList, False := by
      obtain ⟨meth9, c9, h1, h2, -, -, -, -, h7, -⟩ := Cond.code_spec B.named (atoms_spec (ws := ws) B.pre _ (by rw [hw]; exact List.mem_cons_self))
      cases Option.some.inj (h1.symm.trans B.method)
      cases Option.some.inj (h2.symm.trans (Stand.of_body B).code)
      intro x hx
      rw [Array.isEmpty_iff.mp h7] at hx
      cases hx
    obtain ⟨t, a1, o, b1, b2, b3⟩ := body p e s m args below meth c s₁ B hml ht hP s₁ hh0 (Stand.of_body B)
    exact ⟨t, o, a1, b1, b2, b3⟩
/-- the table of a body with handlers -/
theorem vx_table {p : Program} {x y : MethodName} {S : Spec} {cc bytes : ByteArray} {maxL maxL' : Nat} {ret ret' : Option FieldType} {e : Env} {s s₁ : State} {m : MethodId} {args : Array Value} {below : List Frame} {meth : Method} {c : Code} {hh : List (Nat × Nat × Nat × Nat)}
    (B : BodyLoose p l y S cc maxL ret e s m args below meth c s₁) (h : (Cond.codeWith y bytes maxL' ret' hh).before args s = true) : c.exceptionTable.toList = tableOf hh := by
  obtain ⟨m9, meth9, c9, hn9, h1, h2, -, -, h6, -⟩ := Cond.codeWith_spec h
  cases Option.some.inj (hn9.symm.trans B.named)
  cases Option.some.inj (h1.symm.trans B.method)
  cases Option.some.inj (h2.symm.trans (Stand.of_body B).code)
  rw [← h6, table_eq]
end Bodies
end VXA
/-! ===== END ===== -/
/-! ===== BEGIN a static call of a method with an exception table ===== -/
section VXS
variable {p : Program} {l : Launch} {e : Env} {R : Room} {s : State} {m : MethodId} {args : Array Value} {below : List Frame} {meth : Method} {c : Code} {T : State} {H : Heap} {locs : List Loc} {cells slots : Nat}
abbrev vx_CSW (R : Room) (s : State) (args : Array Value) (own : String) (index : Nat) (y : MethodName) (bytes : ByteArray) (maxL : Nat) (ret : Option FieldType) (hh : List (Nat × Nat × Nat × Nat)) (ws : List Cond) (rm : Room) (mc ms n : Nat) : Prop :=
  (rm.cells = mc ∧ rm.slots = ms ∧ rm.frames + 1 ≤ R.frames ∧ 8 + (maxL + 11) + rm.locals ≤ R.locals ∧ (∀ w ∈ ws, ∀ (a' : Array Value) (U : State), s.WarmedH U.vm → w.before a' U = true) ∧ Cond.codeWith y bytes maxL ret hh ∈ ws) ∧
  (Cond.codeWith y bytes maxL ret hh).before args s = true ∧ (Cond.initialized y.cls).before args s = true ∧ (y.cls ≠ "java/lang/invoke/MethodHandle" ∧ y.cls ≠ "java/lang/invoke/VarHandle") ∧
  (∀ sig, parseMethodDescriptor y.desc = some sig → n = sig.parameters.length) ∧ (Cond.methodLink own index y).before args s = true ∧ (Cond.static y).before args s = true
theorem vx_cwSW {own : String} {index maxL mc ms : Nat} {y : MethodName} {bytes : ByteArray} {ret : Option FieldType} {hh : List (Nat × Nat × Nat × Nat)} {Ts ws ws' : List Cond} {rm : Room} (n : Nat) (ht : ∀ w ∈ Ts, w.before args s = true) (hT : GoodIn Ts (va_wsS own index y ws)) (hw : ws = Cond.codeWith y bytes maxL ret hh :: ws') (hrc : rm.cells = mc) (hrs : rm.slots = ms)
    (hd : y.cls ≠ "java/lang/invoke/MethodHandle" ∧ y.cls ≠ "java/lang/invoke/VarHandle" ∧ (parseMethodDescriptor y.desc).map (fun d => d.parameters.length) = some n) (hR : rm.frames + 1 ≤ R.frames ∧ 8 + (maxL + 11) + rm.locals ≤ R.locals) :
    vx_CSW R s args own index y bytes maxL ret hh ws rm mc ms n := by
  have ok : ∀ w ∈ va_wsS own index y ws, w.before args s = true := fun w h => ht w (hT w h).1
  have hG : GoodIn Ts ws := fun w h => hT w (by unfold va_wsS; exact List.mem_append_right _ h)
  have hc : Cond.codeWith y bytes maxL ret hh ∈ ws := by rw [hw]; exact List.mem_cons_self
  refine ⟨⟨hrc, hrs, hR.1, hR.2, pay_in ht hG, hc⟩, ht _ (hG _ hc).1, ok _ (by simp [va_wsS]), ⟨hd.1, hd.2.1⟩, fun sig h => ?_, ok _ (by simp [va_wsS]), ok _ (by simp [va_wsS])⟩
  have h2 := hd.2.2
  rw [h] at h2
  exact (Option.some.inj h2).symm
theorem vx_callSW (X : Stand p l e R s m args below meth c T locs cells slots) (hexec : p.tables.exec = Jvm.exec) {own : String} {index : Nat} {y : MethodName} {bytes : ByteArray} {maxL : Nat} {ret : Option FieldType} {hh : List (Nat × Nat × Nat × Nat)}
    (hown : s.vm.findClass own = some m.cls) (hlink : (Cond.methodLink own index y).before args s = true) (hstat : (Cond.static y).before args s = true) (hinit : (Cond.initialized y.cls).before args s = true)
    (hcode : (Cond.codeWith y bytes maxL ret hh).before args s = true) (hy : y.cls ≠ "java/lang/invoke/MethodHandle" ∧ y.cls ≠ "java/lang/invoke/VarHandle")
    {W9 : Nat} {Pre : Pt → Array Value → Prop} {Post : Pt → Array Value → Option Value → Pt → Prop} (hK : Back l R p e below s args y 3 W9 Pre Post)
    {g : JFrame} (hg : g.method = m) (hsize : g.locals.size = c.maxLocals) {argsL rest : List Value} (hlen : ∀ sig, parseMethodDescriptor y.desc = some sig → argsL.length = sig.parameters.length)
    (hstack : g.stack = argsL.reverse ++ rest) (hW : 2 * g.monitorRoom + (rest.map fun v => v.category).sum ≤ W9) (hdg : decode c.code g.pc = .ok (.invokestatic index, 3))
    (hpre : ∀ vm₁, s.WarmedH vm₁ → Pre ⟨T.setVm vm₁, locs, cells, slots⟩ argsL.toArray) :
    ∃ (v : Option Value) (vm₁ : Vm) (B : Pt), s.WarmedH vm₁ ∧ Stand p l e R s m args below meth c B.U B.locs B.cells B.slots ∧ Post ⟨T.setVm vm₁, locs, cells, slots⟩ argsL.toArray v B ∧
      ∀ target, Steps p.tables e below (B.U.setTop { g with pc := g.pc + 3, stack := v.toList ++ rest }) target → Steps p.tables e below (T.setTop g) target := by
  obtain ⟨mk, methM, cM, hnamed, hmethM, -, -, -, -, -, -, hsigM⟩ := Cond.codeWith_spec hcode
  have hstatic : methM.isStatic = true := Cond.static_spec hnamed hmethM hstat
  obtain ⟨kP, hkP, -⟩ := className_of_methodNamed hnamed
  have hinitP : kP.init = .initialized := Cond.initialized_spec (findClass_of_methodNamed hnamed) hkP hinit
  obtain ⟨vm₁, X₁, hstep₁⟩ := X.invokestatic hexec hown hlink hnamed hmethM hstatic hkP hinitP hy (g := g) hg (argsL := argsL) (rest := rest) (hlen _ hsigM) hstack hdg
  obtain ⟨v, B, X', hpost, hsteps⟩ := hK m meth c ⟨T.setVm vm₁, locs, cells, slots⟩ { g with stack := rest } (.invokestatic index) mk argsL.toArray X₁ hg hsize hdg hW (X₁.named hnamed) (hpre vm₁ X₁.warmed)
  exact ⟨v, vm₁, B, X₁.warmed, X', hpost, fun target h => hstep₁ _ fun acts => by rw [doInvoke_state]; exact hsteps.trans h⟩
theorem vx_runSW {y : MethodName} {bytes cc : ByteArray} {maxL nL mc ms n index : Nat} {ret : Option FieldType} {hh : List (Nat × Nat × Nat × Nat)} {ws : List Cond} {rm : Room} {Pc : Array Value → State → Prop} {Qc : Array Value → State → Outcome → State → Prop} {free : Addr → Prop} {Ts : List Cond} {own : String} {As rest : List Value} {g : JFrame}
    (S : CallFix p m c cc nL s args Ts own) (hM : Met l y ws rm Pc Qc mc ms free) (cw : vx_CSW R s args own index y bytes maxL ret hh ws rm mc ms n) (hp : PreS s H Pc As)
    (hg : g.method = m) (hn : As.length = n) (hsize : g.locals.size = nL) (hstack : g.stack = As.reverse ++ rest) (hW : 2 * g.monitorRoom + (rest.map fun v => v.category).sum ≤ 8) (hdg : decode cc g.pc = .ok (.invokestatic index, 3)) (hf : cells + mc ≤ R.cells ∧ slots + ms ≤ R.slots) :
    va_Run p l e R s m args below meth c H locs cells slots mc ms g rest (Qc As.toArray) (free) := by
  obtain ⟨⟨hrc, hrs, hfr, hlo, hws, hcw⟩, hcode, hini, hy, hlen, hl, hstt⟩ := cw
  have hK : Back l R p e below s args y 3 8 (PreOf R mc ms Pc) (PostOf Qc mc ms free) := va_backW (hh := hh) (bytes := bytes) (maxL := maxL) (ret := ret) hM hp.1 hrc hrs hfr hlo hws hcw (fun a' U hW => word_at hW (Or.inl (by first | rfl | simp [Cond.onTables, Cond.keeps, Cond.steady])) hini)
  obtain ⟨hx, hb, hml, ho, -⟩ := S
  intro T hT X
  obtain ⟨v, vm₁, ⟨U', l2, c2, s2⟩, hW₁, X', ⟨g', mk, t, L, e1, e2, hq, h1, hL, h2, h3⟩, st⟩ := vx_callSW X hx (hh := hh) (bytes := bytes) (maxL := maxL) (ret := ret) ho hl hstt hini hcode hy hK hg (hsize.trans hml.symm) (argsL := As) (rest := rest) (fun sig h => hn.trans (hlen sig h)) hstack hW (by rw [hb]; exact hdg)
    (fun vm₁ hW₁ => ⟨hf.1, hf.2, hp.2 (T.setVm vm₁) hT hW₁⟩)
  dsimp only [Pt.U, Pt.locs, Pt.cells, Pt.slots] at X' e1 e2 h1 h2 h3 st
  subst h1; subst h2; subst h3
  exact ⟨v, (T.setVm vm₁).calling g' mk As.toArray, t, U', L, hT, X', hL, e1, e2, hq, st⟩
/-- not caught here, past rows that name other classes: it goes on to the caller -/
theorem vx_outP {p : Program} {l : Launch} {e : Env} {R : Room} {s : State} {m : MethodId} {args : Array Value} {below : List Frame} {meth : Method} {c : Code} {H : Heap} {locs : List Loc} {cells slots : Nat} {free : Addr → Prop} {ls : Array Slot} {rest : List Value} {Qc : Array Value → State → Outcome → State → Prop} {XC : String → State → State → Prop}
    {pc : Nat} {own E : String} {ce : Cell} {q : Addr} {mc ms : Nat} (hown : s.vm.findClass own = some m.cls) (hlocks : meth.locks = false)
    (hpass : ∀ z ∈ c.exceptionTable.toList, covers z pc = false ∨ (z.catchType ≠ 0 ∧ ∃ nm : String, (Cond.classLink own z.catchType nm).before args s = true ∧ va_Nc E nm s)) (hcell : H[q]? = some ce) (hv : ce.vm = .none) (hcl : s.vm.findClass E = some ce.cls)
    (hx : ∀ t : State, t.heap = H → s.vm.Alike t.vm → XC E s t) (hf : ∀ z ∈ locs, free z.base) (hc : cells ≤ mc) (hs : slots ≤ ms) :
    vx_W p l e R s m args below meth c H locs cells slots (vx_MQ below Qc XC args s mc ms free) (F0 m pc ls rest) q := by
  intro T hT X
  have hpl : e.platform.magicAccessors = ({} : Platform).magicAccessors := by rw [X.admits.platform]
  obtain ⟨vm', hW', X', st⟩ := X.outThrough hlocks q (g := F0 m pc ls rest) rfl rfl rfl (cell := ce) (by rw [hT]; exact hcell) (by rw [hv]; rfl)
    (by obtain ⟨k9, h9, -⟩ := Vm.findClass_spec hcl; exact ⟨k9, h9⟩) (fun z hz => by
      rcases hpass z hz with h | ⟨hz0, nm, hl1, hn1⟩
      · exact Or.inl h
      · obtain ⟨c6, hc6, hcl6⟩ := Cond.classLink_spec hown hl1 e.platform hpl
        obtain ⟨a8, b8, h1, h2, h3⟩ := hn1
        cases Option.some.inj (h1.symm.trans hcl)
        cases Option.some.inj (h2.symm.trans hc6)
        exact Or.inr ⟨hz0, _, hcl6, h3⟩)
  obtain ⟨g₀, hfr⟩ := X'.frames_eq
  have hcell9 : ((T.setVm vm').setFrames (.throwing q :: below)).heap[q]? = some ce := by
    show T.heap[q]? = some ce
    rw [hT]; exact hcell
  have hend : Ended ((T.setVm vm').setFrames (.throwing q :: below)) below (.threw q) := State.frames_setFrames _ (State.cur_lt_of_frames hfr)
  refine ⟨(T.setVm vm').setFrames (.throwing q :: below), ?_, .threw q, X'.here.running, hend, Or.inr ⟨q, rfl, E, ce, locs, hx _ hT (X'.ends _).1.alike, hcell9, hv, hcl, (X'.ends _).1, (X'.ends _).2.mono hc hs, hf⟩⟩
  rw [X.pushThrowing_eq]
  exact st
/-- a thing of a world lies in the heap -/
theorem vx_lt {D : va_G} {cl : List vw_C} {ws : va_W} {H1 : Heap} (h : va_P D cl ws H1) {k : Nat} {q : Nat × va_E} (hk : ws[k]? = some q) : q.1 < H1.size := (h k q hk).lt
end VXS
/-! ===== END ===== -/
/-! ===== BEGIN methods with a table of their own: called by a name, returning or throwing ===== -/
section VXH
/-! vx_backW, vx_callVX, vx_callSX, vx_callVW, vx_runVW, vx_runVX, vx_runSX, vx_ofWH follow the same proofs as their sisters above (Free/Laws.lean, Shelf42/LK1.lean); vx_outP calls Shelf42/NT130.lean (outThrough). -/
section
variable {l : Launch} {R : Room} {p : Program} {e : Env} {below : List Frame} {s : State} {sargs : Array Value} {y : MethodName} {len W9 : Nat}
theorem vx_backW {ws : List Cond} {rm : Room} {Pc : Array Value → State → Prop} {Qc : Array Value → State → Outcome → State → Prop} {XC : String → State → State → Prop} {mc ms : Nat} {free : Addr → Prop} {bytes : ByteArray} {maxL : Nat} {ret : Option FieldType} {hh : List (Nat × Nat × Nat × Nat)}
    (hM : vx_Met l y ws rm Pc Qc XC mc ms free) (hblind : FrameBlind Pc) (hrc : rm.cells = mc) (hrs : rm.slots = ms)
    (hframes : rm.frames + 1 ≤ R.frames) (hlocals : W9 + (maxL + 11) + rm.locals ≤ R.locals)
    (hws : ∀ w ∈ ws, ∀ a' U, s.WarmedH U.vm → w.before a' U = true) (hcode : Cond.codeWith y bytes maxL ret hh ∈ ws) (hinit : ∀ a' U, s.WarmedH U.vm → (Cond.initialized y.cls).before a' U = true) :
    vx_Back l R p e below s sargs y len W9 (PreOf R mc ms Pc) (PostOf Qc mc ms free) (vx_Post XC mc ms free) := by
  intro m meth c A g ig mk a X hg hsize hdg hW hn hp
  have h1 : (headSpec ws rm).pre.before a A.U = true := atoms_intro fun w hw => hws w hw _ _ X.warmed
  have h2 : (Cond.codeWith y bytes maxL ret hh).before a A.U = true := hws _ hcode _ _ X.warmed
  have h3 : (Cond.initialized y.cls).before a A.U = true := hinit _ _ X.warmed
  have h4 : A.cells + (headSpec ws rm).room.cells ≤ R.cells := by rw [show (headSpec ws rm).room.cells = mc from hrc]; exact hp.1
  have h5 : A.slots + (headSpec ws rm).room.slots ≤ R.slots := by rw [show (headSpec ws rm).room.slots = ms from hrs]; exact hp.2.1
  have hPc : Pc a (A.U.calling g mk a) := hblind _ _ _ _ hp.2.2
  obtain ⟨U, Ls, c0, s0⟩ := A
  dsimp only [Pt.U, Pt.locs, Pt.cells, Pt.slots] at h1 h2 h3 h4 h5 X hn hPc ⊢
  obtain ⟨m9, methY, cY, hn9, hmY, hcY, -, hlY, -⟩ := Cond.codeWith_spec h2
  cases Option.some.inj (hn9.symm.trans hn)
  obtain ⟨kY, hkY, -⟩ := className_of_methodNamed hn
  have hinitY : kY.init = .initialized := Cond.initialized_spec (findClass_of_methodNamed hn) hkY h3
  have h : At U g.method c below := by rw [hg]; exact X.here
  have hlocals9 : W9 + (maxL + 11) + (headSpec ws rm).room.locals ≤ R.locals := hlocals
  have happ : (headSpec ws rm).appliesLoose y e.platform (U.calling g mk a) = true :=
    Spec.appliesLoose_calling (g := g) h hdg hn hkY hinitY
      (X.room_calling (g := g) (R' := (headSpec ws rm).room) hsize hmY hcY hframes (by rw [hlY]; omega) h4 h5) h1
  obtain ⟨mid, hmid⟩ := h.above
  have hfr : (U.setTop g).frames = (.java g :: mid) ++ below := by rw [State.frames_setTop' g h.top, hmid]; rfl
  obtain ⟨o, s₂, hsteps, -, hend, hq⟩ := Steps.callFree hM p X.admits X.cas X.clock (acts := []) hfr happ hPc trivial
  have hq' : vx_Q Qc XC mc ms free a (U.calling g mk a) o s₂ := hq
  rw [State.frames_setTop' g h.top] at hend
  obtain ⟨g₀, hg0⟩ := Option.isSome_iff_exists.mp h.top
  obtain ⟨r, hr⟩ := State.topJava?_eq_some.mp hg0
  have hr' : (({ U with heap := s₂.heap, slotsUsed := s₂.slotsUsed } : State).setVm s₂.vm).frames = .java g₀ :: r := hr
  rcases hq' with ⟨hqc, L, hfe, hL⟩ | ⟨q, rfl, E, ce, L, hx, hce, hcv, hcl, hW₂, hsm, hL⟩
  · obtain ⟨⟨v, rfl⟩, hW₂, e2, q2, q3, q4, q5, q6⟩ := id hfe
    have e3 : s₂ = ({ (U.calling g mk a).setFrames s₂.frames with heap := s₂.heap, slotsUsed := s₂.slotsUsed } : State).setVm s₂.vm := by
      have : s₂ = ({ s₂ with vm := (U.calling g mk a).vm } : State).setVm s₂.vm := rfl
      rw [e2] at this
      exact this
    obtain ⟨c₂, i₂, len₂, hc₂, hd₂, hf₂⟩ := hend
    have hW' : U.WarmedH s₂.vm := hW₂
    have hcc : c₂ = c := by
      have h1 : s₂.code? g.method = U.code? g.method := by
        rw [State.code?_eq, State.code?_eq, hW'.alike.method?]
      exact Option.some.inj (hc₂.symm.trans (h1.trans h.code))
    subst hcc
    have hlen : len₂ = len := by rw [hdg] at hd₂; cases hd₂; rfl
    subst hlen
    have hs₂ : s₂ = (({ U with heap := s₂.heap, slotsUsed := s₂.slotsUsed } : State).setVm s₂.vm).setTop { g with pc := g.pc + len₂, stack := v.toList ++ g.stack } := by
      refine e3.trans ?_
      rw [hf₂, State.calling_eq h.top, State.setFrames_setFrames, State.setTop_of_frames _ hr', hr]
      rfl
    have hsame : U.sameButNew ({ U with heap := s₂.heap, slotsUsed := s₂.slotsUsed } : State) L mc ms := by
      refine ⟨?_, q2, q3, q4, q5, q6⟩
      obtain ⟨t, ht, -⟩ := State.frames_cons hr
      show ({ U with heap := s₂.heap, slotsUsed := s₂.slotsUsed } : State) = { U.setFrames U.frames with heap := s₂.heap, slotsUsed := s₂.slotsUsed }
      rw [State.setFrames_self ht]
    subst hg
    refine Or.inl ⟨v, ⟨(({ U with heap := s₂.heap, slotsUsed := s₂.slotsUsed } : State).setVm s₂.vm), Ls ++ L, c0 + mc, s0 + ms⟩,
      ⟨X.admits, X.cas, X.clock, X.frames, X.room, X.hears, X.method, X.code, (X.here.setHeapUsed s₂.heap s₂.slotsUsed).setVm hW'.alike, X.tail, State.WarmedH.trans X.warmed hW', X.limits, X.bytes, X.same.trans (hsame.setVm s.vm)⟩,
      ⟨g, mk, s₂, L, rfl, rfl, hqc, rfl, hL, rfl, rfl⟩, ?_⟩
    show Steps p.tables e below _ ((({ U with heap := s₂.heap, slotsUsed := s₂.slotsUsed } : State).setVm s₂.vm).setTop { g with pc := g.pc + len₂, stack := v.toList ++ g.stack })
    rw [← hs₂]
    exact hsteps
  · obtain ⟨e2, q2, q3, q4, q5, q6⟩ := id hsm
    have e3 : s₂ = ({ (U.calling g mk a).setFrames s₂.frames with heap := s₂.heap, slotsUsed := s₂.slotsUsed } : State).setVm s₂.vm := by
      have : s₂ = ({ s₂ with vm := (U.calling g mk a).vm } : State).setVm s₂.vm := rfl
      rw [e2] at this
      exact this
    have hf₂ : s₂.frames = .throwing q :: .java g :: U.frames.tail := hend
    have hW' : U.WarmedH s₂.vm := hW₂
    have hs₂ : s₂ = ((({ U with heap := s₂.heap, slotsUsed := s₂.slotsUsed } : State).setVm s₂.vm).setTop g).pushFrame (.throwing q) := by
      refine e3.trans ?_
      rw [hf₂, State.calling_eq h.top, State.setFrames_setFrames, State.pushFrame, State.frames_setTop _ hr', State.setTop_of_frames _ hr', State.setFrames_setFrames, hr]
      rfl
    have hsame : U.sameButNew ({ U with heap := s₂.heap, slotsUsed := s₂.slotsUsed } : State) L mc ms := by
      refine ⟨?_, q2, q3, q4, q5, q6⟩
      obtain ⟨t, ht, -⟩ := State.frames_cons hr
      show ({ U with heap := s₂.heap, slotsUsed := s₂.slotsUsed } : State) = { U.setFrames U.frames with heap := s₂.heap, slotsUsed := s₂.slotsUsed }
      rw [State.setFrames_self ht]
    subst hg
    refine Or.inr ⟨q, ⟨(({ U with heap := s₂.heap, slotsUsed := s₂.slotsUsed } : State).setVm s₂.vm), Ls ++ L, c0 + mc, s0 + ms⟩,
      ⟨X.admits, X.cas, X.clock, X.frames, X.room, X.hears, X.method, X.code, (X.here.setHeapUsed s₂.heap s₂.slotsUsed).setVm hW'.alike, X.tail, State.WarmedH.trans X.warmed hW', X.limits, X.bytes, X.same.trans (hsame.setVm s.vm)⟩,
      ⟨g, mk, s₂, L, E, ce, rfl, rfl, hx, hce, hcv, hcl, rfl, hL, rfl, rfl⟩, ?_⟩
    show Steps p.tables e below _ (((({ U with heap := s₂.heap, slotsUsed := s₂.slotsUsed } : State).setVm s₂.vm).setTop g).pushFrame (.throwing q))
    rw [← hs₂]
    exact hsteps
end
variable {p : Program} {l : Launch} {e : Env} {R : Room} {s : State} {m : MethodId} {args : Array Value} {below : List Frame} {meth : Method} {c : Code} {T : State} {H : Heap} {locs : List Loc} {cells slots : Nat}
theorem vx_callVX (X : Stand p l e R s m args below meth c T locs cells slots) (hexec : p.tables.exec = Jvm.exec) {own C : String} {index : Nat} {y : MethodName} {bytes : ByteArray} {maxL : Nat} {ret : Option FieldType} {hh : List (Nat × Nat × Nat × Nat)}
    (hown : s.vm.findClass own = some m.cls) (hlink : (Cond.methodLink own index y).before args s = true) (hinst : (Cond.instanceMethod y).before args s = true) (hsel : (Cond.selects C y y).before args s = true)
    (hcode : (Cond.codeWith y bytes maxL ret hh).before args s = true) (hy : y.cls ≠ "java/lang/invoke/MethodHandle" ∧ y.cls ≠ "java/lang/invoke/VarHandle")
    {W9 : Nat} {Pre : Pt → Array Value → Prop} {Post : Pt → Array Value → Option Value → Pt → Prop} {PostX : Pt → Array Value → Addr → Pt → Prop} (hK : vx_Back l R p e below s args y 3 W9 Pre Post PostX)
    {b : Addr} {cellB : Cell} (hcell : T.heap[b]? = some cellB) (hobj : cellB.vm.isStatics = false) (hcls : s.vm.findClass C = some cellB.cls)
    {g : JFrame} (hg : g.method = m) (hsize : g.locals.size = c.maxLocals) {argsL rest : List Value} (hlen : ∀ sig, parseMethodDescriptor y.desc = some sig → argsL.length = sig.parameters.length)
    (hstack : g.stack = argsL.reverse ++ .ref b :: rest) (hW : 2 * g.monitorRoom + (rest.map fun v => v.category).sum ≤ W9) (hdg : decode c.code g.pc = .ok (.invokevirtual index, 3))
    (hpre : ∀ vm₁, s.WarmedH vm₁ → Pre ⟨T.setVm vm₁, locs, cells, slots⟩ (Value.ref b :: argsL).toArray) :
    (∃ (v : Option Value) (vm₁ : Vm) (B : Pt), s.WarmedH vm₁ ∧ Stand p l e R s m args below meth c B.U B.locs B.cells B.slots ∧ Post ⟨T.setVm vm₁, locs, cells, slots⟩ (Value.ref b :: argsL).toArray v B ∧
      ∀ target, Steps p.tables e below (B.U.setTop { g with pc := g.pc + 3, stack := v.toList ++ rest }) target → Steps p.tables e below (T.setTop g) target) ∨
    (∃ (q : Addr) (vm₁ : Vm) (B : Pt), s.WarmedH vm₁ ∧ Stand p l e R s m args below meth c B.U B.locs B.cells B.slots ∧ PostX ⟨T.setVm vm₁, locs, cells, slots⟩ (Value.ref b :: argsL).toArray q B ∧
      Steps p.tables e below (T.setTop g) ((B.U.setTop { g with stack := rest }).pushFrame (.throwing q))) := by
  obtain ⟨mk, methM, hnamed, hmethM, hstM, habM⟩ := Cond.instanceMethod_spec hinst
  obtain ⟨m8, methM', cM, hn8, hmethM', -, -, -, -, -, -, hsigM⟩ := Cond.codeWith_spec hcode
  cases Option.some.inj (hn8.symm.trans hnamed)
  cases hmethM.symm.trans hmethM'
  obtain ⟨c2, r2, m2, q1, q2, q3, q4, kP, hkP, hkPi⟩ := Cond.selects_spec hsel
  cases hcls.symm.trans q1
  cases (State.methodFound?_of_named hnamed hy).symm.trans q2
  cases hnamed.symm.trans q3
  have hselP : selectMethod e.platform s.vm cellB.cls mk = .method mk := by rw [Launch.admits_selectMethod X.admits]; exact q4
  obtain ⟨vm₁, X₁, hstep₁⟩ := X.invokevirtual hexec hown hlink hnamed hmethM hstM hkP hkPi hy (a := b) (cell := cellB) hcell
    (fun z h => by rw [h] at hobj; cases hobj) hselP hmethM habM hkP hkPi (g := g) hg (argsL := argsL) (rest := rest) (hlen _ hsigM) hstack hdg
  rcases hK m meth c ⟨T.setVm vm₁, locs, cells, slots⟩ { g with stack := rest } (.invokevirtual index) mk (Value.ref b :: argsL).toArray X₁ hg hsize hdg hW (X₁.named hnamed) (hpre vm₁ X₁.warmed) with ⟨v, B, X', hpost, hsteps⟩ | ⟨q, B, X', hpost, hsteps⟩
  · exact Or.inl ⟨v, vm₁, B, X₁.warmed, X', hpost, fun target h => hstep₁ _ fun acts => by rw [doInvoke_state]; exact hsteps.trans h⟩
  · exact Or.inr ⟨q, vm₁, B, X₁.warmed, X', hpost, hstep₁ _ fun acts => by rw [doInvoke_state]; exact hsteps⟩
theorem vx_callSX (X : Stand p l e R s m args below meth c T locs cells slots) (hexec : p.tables.exec = Jvm.exec) {own : String} {index : Nat} {y : MethodName} {bytes : ByteArray} {maxL : Nat} {ret : Option FieldType} {hh : List (Nat × Nat × Nat × Nat)}
    (hown : s.vm.findClass own = some m.cls) (hlink : (Cond.methodLink own index y).before args s = true) (hstat : (Cond.static y).before args s = true) (hinit : (Cond.initialized y.cls).before args s = true)
    (hcode : (Cond.codeWith y bytes maxL ret hh).before args s = true) (hy : y.cls ≠ "java/lang/invoke/MethodHandle" ∧ y.cls ≠ "java/lang/invoke/VarHandle")
    {W9 : Nat} {Pre : Pt → Array Value → Prop} {Post : Pt → Array Value → Option Value → Pt → Prop} {PostX : Pt → Array Value → Addr → Pt → Prop} (hK : vx_Back l R p e below s args y 3 W9 Pre Post PostX)
    {g : JFrame} (hg : g.method = m) (hsize : g.locals.size = c.maxLocals) {argsL rest : List Value} (hlen : ∀ sig, parseMethodDescriptor y.desc = some sig → argsL.length = sig.parameters.length)
    (hstack : g.stack = argsL.reverse ++ rest) (hW : 2 * g.monitorRoom + (rest.map fun v => v.category).sum ≤ W9) (hdg : decode c.code g.pc = .ok (.invokestatic index, 3))
    (hpre : ∀ vm₁, s.WarmedH vm₁ → Pre ⟨T.setVm vm₁, locs, cells, slots⟩ argsL.toArray) :
    (∃ (v : Option Value) (vm₁ : Vm) (B : Pt), s.WarmedH vm₁ ∧ Stand p l e R s m args below meth c B.U B.locs B.cells B.slots ∧ Post ⟨T.setVm vm₁, locs, cells, slots⟩ argsL.toArray v B ∧
      ∀ target, Steps p.tables e below (B.U.setTop { g with pc := g.pc + 3, stack := v.toList ++ rest }) target → Steps p.tables e below (T.setTop g) target) ∨
    (∃ (q : Addr) (vm₁ : Vm) (B : Pt), s.WarmedH vm₁ ∧ Stand p l e R s m args below meth c B.U B.locs B.cells B.slots ∧ PostX ⟨T.setVm vm₁, locs, cells, slots⟩ argsL.toArray q B ∧
      Steps p.tables e below (T.setTop g) ((B.U.setTop { g with stack := rest }).pushFrame (.throwing q))) := by
  obtain ⟨mk, methM, cM, hnamed, hmethM, -, -, -, -, -, -, hsigM⟩ := Cond.codeWith_spec hcode
  have hstatic : methM.isStatic = true := Cond.static_spec hnamed hmethM hstat
  obtain ⟨kP, hkP, -⟩ := className_of_methodNamed hnamed
  have hinitP : kP.init = .initialized := Cond.initialized_spec (findClass_of_methodNamed hnamed) hkP hinit
  obtain ⟨vm₁, X₁, hstep₁⟩ := X.invokestatic hexec hown hlink hnamed hmethM hstatic hkP hinitP hy (g := g) hg (argsL := argsL) (rest := rest) (hlen _ hsigM) hstack hdg
  rcases hK m meth c ⟨T.setVm vm₁, locs, cells, slots⟩ { g with stack := rest } (.invokestatic index) mk argsL.toArray X₁ hg hsize hdg hW (X₁.named hnamed) (hpre vm₁ X₁.warmed) with ⟨v, B, X', hpost, hsteps⟩ | ⟨q, B, X', hpost, hsteps⟩
  · exact Or.inl ⟨v, vm₁, B, X₁.warmed, X', hpost, fun target h => hstep₁ _ fun acts => by rw [doInvoke_state]; exact hsteps.trans h⟩
  · exact Or.inr ⟨q, vm₁, B, X₁.warmed, X', hpost, hstep₁ _ fun acts => by rw [doInvoke_state]; exact hsteps⟩
theorem vx_callVW (X : Stand p l e R s m args below meth c T locs cells slots) (hexec : p.tables.exec = Jvm.exec) {own C : String} {index : Nat} {y : MethodName} {bytes : ByteArray} {maxL : Nat} {ret : Option FieldType} {hh : List (Nat × Nat × Nat × Nat)}
    (hown : s.vm.findClass own = some m.cls) (hlink : (Cond.methodLink own index y).before args s = true) (hinst : (Cond.instanceMethod y).before args s = true) (hsel : (Cond.selects C y y).before args s = true)
    (hcode : (Cond.codeWith y bytes maxL ret hh).before args s = true) (hy : y.cls ≠ "java/lang/invoke/MethodHandle" ∧ y.cls ≠ "java/lang/invoke/VarHandle")
    {W9 : Nat} {Pre : Pt → Array Value → Prop} {Post : Pt → Array Value → Option Value → Pt → Prop} (hK : Back l R p e below s args y 3 W9 Pre Post)
    {b : Addr} {cellB : Cell} (hcell : T.heap[b]? = some cellB) (hobj : cellB.vm.isStatics = false) (hcls : s.vm.findClass C = some cellB.cls)
    {g : JFrame} (hg : g.method = m) (hsize : g.locals.size = c.maxLocals) {argsL rest : List Value} (hlen : ∀ sig, parseMethodDescriptor y.desc = some sig → argsL.length = sig.parameters.length)
    (hstack : g.stack = argsL.reverse ++ .ref b :: rest) (hW : 2 * g.monitorRoom + (rest.map fun v => v.category).sum ≤ W9) (hdg : decode c.code g.pc = .ok (.invokevirtual index, 3))
    (hpre : ∀ vm₁, s.WarmedH vm₁ → Pre ⟨T.setVm vm₁, locs, cells, slots⟩ (Value.ref b :: argsL).toArray) :
    ∃ (v : Option Value) (vm₁ : Vm) (B : Pt), s.WarmedH vm₁ ∧ Stand p l e R s m args below meth c B.U B.locs B.cells B.slots ∧ Post ⟨T.setVm vm₁, locs, cells, slots⟩ (Value.ref b :: argsL).toArray v B ∧
      ∀ target, Steps p.tables e below (B.U.setTop { g with pc := g.pc + 3, stack := v.toList ++ rest }) target → Steps p.tables e below (T.setTop g) target := by
  obtain ⟨mk, methM, hnamed, hmethM, hstM, habM⟩ := Cond.instanceMethod_spec hinst
  obtain ⟨m8, methM', cM, hn8, hmethM', -, -, -, -, -, -, hsigM⟩ := Cond.codeWith_spec hcode
  cases Option.some.inj (hn8.symm.trans hnamed)
  cases hmethM.symm.trans hmethM'
  obtain ⟨c2, r2, m2, q1, q2, q3, q4, kP, hkP, hkPi⟩ := Cond.selects_spec hsel
  cases hcls.symm.trans q1
  cases (State.methodFound?_of_named hnamed hy).symm.trans q2
  cases hnamed.symm.trans q3
  have hselP : selectMethod e.platform s.vm cellB.cls mk = .method mk := by rw [Launch.admits_selectMethod X.admits]; exact q4
  obtain ⟨vm₁, X₁, hstep₁⟩ := X.invokevirtual hexec hown hlink hnamed hmethM hstM hkP hkPi hy (a := b) (cell := cellB) hcell
    (fun z h => by rw [h] at hobj; cases hobj) hselP hmethM habM hkP hkPi (g := g) hg (argsL := argsL) (rest := rest) (hlen _ hsigM) hstack hdg
  obtain ⟨v, B, X', hpost, hsteps⟩ := hK m meth c ⟨T.setVm vm₁, locs, cells, slots⟩ { g with stack := rest } (.invokevirtual index) mk (Value.ref b :: argsL).toArray X₁ hg hsize hdg hW (X₁.named hnamed) (hpre vm₁ X₁.warmed)
  exact ⟨v, vm₁, B, X₁.warmed, X', hpost, fun target h => hstep₁ _ fun acts => by rw [doInvoke_state]; exact hsteps.trans h⟩
abbrev vx_CVW (R : Room) (s : State) (args : Array Value) (own C : String) (index : Nat) (y : MethodName) (bytes : ByteArray) (maxL : Nat) (ret : Option FieldType) (hh : List (Nat × Nat × Nat × Nat)) (ws : List Cond) (rm : Room) (mc ms n : Nat) : Prop :=
  (rm.cells = mc ∧ rm.slots = ms ∧ rm.frames + 1 ≤ R.frames ∧ 8 + (maxL + 11) + rm.locals ≤ R.locals ∧ (∀ w ∈ ws, ∀ (a' : Array Value) (U : State), s.WarmedH U.vm → w.before a' U = true) ∧ Cond.codeWith y bytes maxL ret hh ∈ ws) ∧
  (Cond.codeWith y bytes maxL ret hh).before args s = true ∧ (Cond.initialized y.cls).before args s = true ∧ (y.cls ≠ "java/lang/invoke/MethodHandle" ∧ y.cls ≠ "java/lang/invoke/VarHandle") ∧
  (∀ sig, parseMethodDescriptor y.desc = some sig → n = sig.parameters.length) ∧ (Cond.methodLink own index y).before args s = true ∧ (Cond.instanceMethod y).before args s = true ∧ (Cond.selects C y y).before args s = true
theorem vx_cwVW {own C : String} {index maxL mc ms : Nat} {y : MethodName} {bytes : ByteArray} {ret : Option FieldType} {hh : List (Nat × Nat × Nat × Nat)} {Ts ws ws' : List Cond} {rm : Room} (n : Nat) (ht : ∀ w ∈ Ts, w.before args s = true) (hT : GoodIn Ts (wsV own index C y ws)) (hw : ws = Cond.codeWith y bytes maxL ret hh :: ws') (hrc : rm.cells = mc) (hrs : rm.slots = ms)
    (hd : y.cls = C ∧ y.cls ≠ "java/lang/invoke/MethodHandle" ∧ y.cls ≠ "java/lang/invoke/VarHandle" ∧ (parseMethodDescriptor y.desc).map (fun d => d.parameters.length) = some n) (hR : rm.frames + 1 ≤ R.frames ∧ 8 + (maxL + 11) + rm.locals ≤ R.locals) :
    vx_CVW R s args own C index y bytes maxL ret hh ws rm mc ms n := by
  obtain ⟨hC, hd⟩ := hd
  subst hC
  have ok : ∀ w ∈ wsV own index y.cls y ws, w.before args s = true := fun w h => ht w (hT w h).1
  have hG : GoodIn Ts ws := fun w h => hT w (by unfold wsV; exact List.mem_append_right _ h)
  have hc : Cond.codeWith y bytes maxL ret hh ∈ ws := by rw [hw]; exact List.mem_cons_self
  refine ⟨⟨hrc, hrs, hR.1, hR.2, pay_in ht hG, hc⟩, ht _ (hG _ hc).1, ok _ (by simp [wsV]), ⟨hd.1, hd.2.1⟩, fun sig h => ?_, ok _ (by simp [wsV]), ok _ (by simp [wsV]), ok _ (by simp [wsV])⟩
  have h2 := hd.2.2
  rw [h] at h2
  exact (Option.some.inj h2).symm
theorem vx_runVW {y : MethodName} {bytes cc : ByteArray} {maxL nL mc ms n index : Nat} {ret : Option FieldType} {hh : List (Nat × Nat × Nat × Nat)} {ws : List Cond} {rm : Room} {Pc : Array Value → State → Prop} {Qc : Array Value → State → Outcome → State → Prop} {free : Addr → Prop} {Ts : List Cond} {own C : String} {b : Addr} {As rest : List Value} {g : JFrame}
    (S : CallFix p m c cc nL s args Ts own) (hM : Met l y ws rm Pc Qc mc ms free) (cw : vx_CVW R s args own C index y bytes maxL ret hh ws rm mc ms n) (hp : PreV s H C b Pc As)
    (hg : g.method = m) (hn : As.length = n) (hsize : g.locals.size = nL) (hstack : g.stack = As.reverse ++ .ref b :: rest) (hW : 2 * g.monitorRoom + (rest.map fun v => v.category).sum ≤ 8) (hdg : decode cc g.pc = .ok (.invokevirtual index, 3)) (hf : cells + mc ≤ R.cells ∧ slots + ms ≤ R.slots) :
    va_Run p l e R s m args below meth c H locs cells slots mc ms g rest (Qc (Value.ref b :: As).toArray) free := by
  obtain ⟨⟨hrc, hrs, hfr, hlo, hws, hcw⟩, hcode, hini, hy, hlen, hl, hin, hse⟩ := cw
  have hK : Back l R p e below s args y 3 8 (PreOf R mc ms Pc) (PostOf Qc mc ms free) := va_backW (hh := hh) (bytes := bytes) (maxL := maxL) (ret := ret) hM hp.1 hrc hrs hfr hlo hws hcw (fun a' U hW => word_at hW (Or.inl (by first | rfl | simp [Cond.onTables, Cond.keeps, Cond.steady])) hini)
  obtain ⟨hx, hb, hml, ho, -⟩ := S
  obtain ⟨-, ⟨cellB, hcB, hoB, hclB⟩, hPc⟩ := hp
  intro T hT X
  obtain ⟨v, vm₁, ⟨U', l2, c2, s2⟩, hW₁, X', ⟨g', mk, t, L, e1, e2, hq, h1, hL, h2, h3⟩, st⟩ := vx_callVW X hx (C := C) (hh := hh) (bytes := bytes) (maxL := maxL) (ret := ret) ho hl hin hse hcode hy hK (by rw [hT]; exact hcB) hoB hclB hg (hsize.trans hml.symm) (argsL := As) (rest := rest) (fun sig h => hn.trans (hlen sig h)) hstack hW (by rw [hb]; exact hdg)
    (fun vm₁ hW₁ => ⟨hf.1, hf.2, hPc (T.setVm vm₁) hT hW₁⟩)
  dsimp only [Pt.U, Pt.locs, Pt.cells, Pt.slots] at X' e1 e2 h1 h2 h3 st
  subst h1; subst h2; subst h3
  exact ⟨v, (T.setVm vm₁).calling g' mk (Value.ref b :: As).toArray, t, U', L, hT, X', hL, e1, e2, hq, st⟩
section
variable {y : MethodName} {bytes cc : ByteArray} {maxL nL mc ms n index : Nat} {ret : Option FieldType} {ws : List Cond} {rm : Room} {Pc : Array Value → State → Prop} {Qc : Array Value → State → Outcome → State → Prop} {XC : String → State → State → Prop} {free : Addr → Prop} {Ts : List Cond} {own C : String} {b : Addr} {As rest : List Value} {g : JFrame}
theorem vx_runVX {hh : List (Nat × Nat × Nat × Nat)} (S : CallFix p m c cc nL s args Ts own) (hM : vx_Met l y ws rm Pc Qc XC mc ms free) (cw : vx_CVW R s args own C index y bytes maxL ret hh ws rm mc ms n) (hp : PreV s H C b Pc As)
    (hg : g.method = m) (hn : As.length = n) (hsize : g.locals.size = nL) (hstack : g.stack = As.reverse ++ .ref b :: rest) (hW : 2 * g.monitorRoom + (rest.map fun v => v.category).sum ≤ 8) (hdg : decode cc g.pc = .ok (.invokevirtual index, 3)) (hf : cells + mc ≤ R.cells ∧ slots + ms ≤ R.slots) :
    vx_Run p l e R s m args below meth c H locs cells slots mc ms g rest (Qc (Value.ref b :: As).toArray) XC free := by
  obtain ⟨⟨hrc, hrs, hfr, hlo, hws, hcw⟩, hcode, hini, hy, hlen, hl, hin, hse⟩ := cw
  have hK : vx_Back l R p e below s args y 3 8 (PreOf R mc ms Pc) (PostOf Qc mc ms free) (vx_Post XC mc ms free) := vx_backW (hh := hh) (bytes := bytes) (maxL := maxL) (ret := ret) hM hp.1 hrc hrs hfr hlo hws hcw (fun a' U hW => word_at hW (Or.inl (by first | rfl | simp [Cond.onTables, Cond.keeps, Cond.steady])) hini)
  obtain ⟨hx, hb, hml, ho, -⟩ := S
  obtain ⟨-, ⟨cellB, hcB, hoB, hclB⟩, hPc⟩ := hp
  intro T hT X
  rcases vx_callVX X hx (C := C) (hh := hh) (bytes := bytes) (maxL := maxL) (ret := ret) ho hl hin hse hcode hy hK (by rw [hT]; exact hcB) hoB hclB hg (hsize.trans hml.symm) (argsL := As) (rest := rest) (fun sig h => hn.trans (hlen sig h)) hstack hW (by rw [hb]; exact hdg)
    (fun vm₁ hW₁ => ⟨hf.1, hf.2, hPc (T.setVm vm₁) hT hW₁⟩) with ⟨v, vm₁, ⟨U', l2, c2, s2⟩, hW₁, X', ⟨g', mk, t, L, e1, e2, hq, h1, hL, h2, h3⟩, st⟩ | ⟨q, vm₁, ⟨U', l2, c2, s2⟩, hW₁, X', ⟨g', mk, t, L, E, ce, e1, e2, hq, hce, hcv, hcl, h1, hL, h2, h3⟩, st⟩
  · dsimp only [Pt.U, Pt.locs, Pt.cells, Pt.slots] at X' e1 e2 h1 h2 h3 st
    subst h1; subst h2; subst h3
    exact Or.inl ⟨v, (T.setVm vm₁).calling g' mk (Value.ref b :: As).toArray, t, U', L, hT, X', hL, e1, e2, hq, st⟩
  · dsimp only [Pt.U, Pt.locs, Pt.cells, Pt.slots] at X' e1 e2 h1 h2 h3 st hcl
    subst h1; subst h2; subst h3
    exact Or.inr ⟨q, (T.setVm vm₁).calling g' mk (Value.ref b :: As).toArray, t, U', L, E, ce, hT, X', hL, e1, e2, hq, hce, hcv, vx_cls hW₁ hcl, st⟩
theorem vx_runSX {hh : List (Nat × Nat × Nat × Nat)} (S : CallFix p m c cc nL s args Ts own) (hM : vx_Met l y ws rm Pc Qc XC mc ms free) (cw : vx_CSW R s args own index y bytes maxL ret hh ws rm mc ms n) (hp : PreS s H Pc As)
    (hg : g.method = m) (hn : As.length = n) (hsize : g.locals.size = nL) (hstack : g.stack = As.reverse ++ rest) (hW : 2 * g.monitorRoom + (rest.map fun v => v.category).sum ≤ 8) (hdg : decode cc g.pc = .ok (.invokestatic index, 3)) (hf : cells + mc ≤ R.cells ∧ slots + ms ≤ R.slots) :
    vx_Run p l e R s m args below meth c H locs cells slots mc ms g rest (Qc As.toArray) XC free := by
  obtain ⟨⟨hrc, hrs, hfr, hlo, hws, hcw⟩, hcode, hini, hy, hlen, hl, hstt⟩ := cw
  have hK : vx_Back l R p e below s args y 3 8 (PreOf R mc ms Pc) (PostOf Qc mc ms free) (vx_Post XC mc ms free) := vx_backW (hh := hh) (bytes := bytes) (maxL := maxL) (ret := ret) hM hp.1 hrc hrs hfr hlo hws hcw (fun a' U hW => word_at hW (Or.inl (by first | rfl | simp [Cond.onTables, Cond.keeps, Cond.steady])) hini)
  obtain ⟨hx, hb, hml, ho, -⟩ := S
  intro T hT X
  rcases vx_callSX X hx (hh := hh) (bytes := bytes) (maxL := maxL) (ret := ret) ho hl hstt hini hcode hy hK hg (hsize.trans hml.symm) (argsL := As) (rest := rest) (fun sig h => hn.trans (hlen sig h)) hstack hW (by rw [hb]; exact hdg)
    (fun vm₁ hW₁ => ⟨hf.1, hf.2, hp.2 (T.setVm vm₁) hT hW₁⟩) with ⟨v, vm₁, ⟨U', l2, c2, s2⟩, hW₁, X', ⟨g', mk, t, L, e1, e2, hq, h1, hL, h2, h3⟩, st⟩ | ⟨q, vm₁, ⟨U', l2, c2, s2⟩, hW₁, X', ⟨g', mk, t, L, E, ce, e1, e2, hq, hce, hcv, hcl, h1, hL, h2, h3⟩, st⟩
  · dsimp only [Pt.U, Pt.locs, Pt.cells, Pt.slots] at X' e1 e2 h1 h2 h3 st
    subst h1; subst h2; subst h3
    exact Or.inl ⟨v, (T.setVm vm₁).calling g' mk As.toArray, t, U', L, hT, X', hL, e1, e2, hq, st⟩
  · dsimp only [Pt.U, Pt.locs, Pt.cells, Pt.slots] at X' e1 e2 h1 h2 h3 st hcl
    subst h1; subst h2; subst h3
    exact Or.inr ⟨q, (T.setVm vm₁).calling g' mk As.toArray, t, U', L, E, ce, hT, X', hL, e1, e2, hq, hce, hcv, vx_cls hW₁ hcl, st⟩
end
end VXH
theorem vx_ofWH {l : Launch} {y : MethodName} {ws ws' : List Cond} {rm : Room} {Pc : Array Value → State → Prop} {Qc : Array Value → State → Outcome → State → Prop} {XC : String → State → State → Prop} {mc ms : Nat} {free : Addr → Prop} {cc : ByteArray} {maxL : Nat} {ret : Option FieldType} {hh : List (Nat × Nat × Nat × Nat)}
    (hy : plainName y.cls = true) (hw : ws = Cond.codeWith y cc maxL ret hh :: ws')
    (body : ∀ p e s m args below meth c s₁, BodyLoose p l y (headSpec ws rm) cc maxL ret e s m args below meth c s₁ → c.maxLocals = maxL → Pc args s →
      W p l e (headSpec ws rm).room s m args below meth c s.heap [] 0 0 (vx_MQ below Qc XC args s mc ms free) (entryFrame m args maxL)) : vx_Met l y ws rm Pc Qc XC mc ms free := by
  refine MetFree.of_bodyS (code := cc) (maxLocals := maxL) (ret := ret) hy ?_ ?_
  · intro args s m h hn
    obtain ⟨m9, meth, c, hn9, h1, h2, h3, h4, -, h5, h6, -⟩ := Cond.codeWith_spec (atoms_spec (ws := ws) h _ (by rw [hw]; exact List.mem_cons_self))
    cases hn.symm.trans hn9
    exact ⟨meth, c, h1, h2, h3, h4, h5, h6⟩
  · intro p e s m args below meth c s₁ B hml hP _
    have hh0 : s₁.heap = s.heap := by rw [B.state]; rfl
    obtain ⟨t, a1, o, b1, b2, b3⟩ := body p e s m args below meth c s₁ B hml hP s₁ hh0 (Stand.of_body B)
    exact ⟨t, o, a1, b1, b2, b3⟩
/-! ===== END ===== -/
end
section
/-! ===== BEGIN printed: names, fields, word lists, decode rows ===== -/
def RX0 : String := "SplaySequence$Node"
def TX0 : u_T := fun k => match k with
  | 0 => ("SplaySequence$Node", "left", "LSplaySequence$Node;", false)
  | 1 => ("SplaySequence$Node", "right", "LSplaySequence$Node;", false)
  | 2 => ("SplaySequence$Node", "parent", "LSplaySequence$Node;", false)
  | 3 => ("SplaySequence$Node", "count", "I", false)
  | _ => ("SplaySequence$Node", "value", "I", false)
def tyX0 : Nat → FieldType := fun k => match k with
  | 0 => .object "SplaySequence$Node"
  | 1 => .object "SplaySequence$Node"
  | 2 => .object "SplaySequence$Node"
  | 3 => .int
  | _ => .int
abbrev wsX00 : List Cond := u_ws RX0 TX0 5
theorem nmX0 : ∀ a, a < 5 → ∀ b, b < 5 → a ≠ b → (TX0 a).2.1 ≠ (TX0 b).2.1 := by decide +kernel
theorem tyX0_ok : ∀ k, k < 5 → parseFieldDescriptor (TX0 k).2.2.1 = some (tyX0 k) := by decide +kernel
abbrev cX0_init : ByteArray := prog_2_method_1_code
def yX0_init : MethodName := ⟨RX0, "<init>", "(I)V"⟩
abbrev cX0_countOf : ByteArray := prog_2_method_2_code
def yX0_countOf : MethodName := ⟨RX0, "countOf", "(LSplaySequence$Node;)I"⟩
abbrev cX0_isLeftChild : ByteArray := prog_2_method_3_code
def yX0_isLeftChild : MethodName := ⟨RX0, "isLeftChild", "()Z"⟩
abbrev cX0_takeLeft : ByteArray := prog_2_method_4_code
def yX0_takeLeft : MethodName := ⟨RX0, "takeLeft", "(LSplaySequence$Node;)V"⟩
abbrev cX0_takeRight : ByteArray := prog_2_method_5_code
def yX0_takeRight : MethodName := ⟨RX0, "takeRight", "(LSplaySequence$Node;)V"⟩
abbrev cX0_dropLeft : ByteArray := prog_2_method_6_code
def yX0_dropLeft : MethodName := ⟨RX0, "dropLeft", "()LSplaySequence$Node;"⟩
abbrev cX0_dropRight : ByteArray := prog_2_method_7_code
def yX0_dropRight : MethodName := ⟨RX0, "dropRight", "()LSplaySequence$Node;"⟩
abbrev cX0_swapSides : ByteArray := prog_2_method_8_code
def yX0_swapSides : MethodName := ⟨RX0, "swapSides", "()V"⟩
abbrev cX0_position : ByteArray := prog_2_method_9_code
def yX0_position : MethodName := ⟨RX0, "position", "()I"⟩
abbrev cX0_nodesAbove : ByteArray := prog_2_method_10_code
def yX0_nodesAbove : MethodName := ⟨RX0, "nodesAbove", "()I"⟩
abbrev cX0_top : ByteArray := prog_2_method_11_code
def yX0_top : MethodName := ⟨RX0, "top", "()LSplaySequence$Node;"⟩
abbrev cX0_nextOfWalk : ByteArray := prog_2_method_12_code
def yX0_nextOfWalk : MethodName := ⟨RX0, "nextOfWalk", "()LSplaySequence$Node;"⟩
def RX1 : String := "SplaySequence$Row"
def TX1 : u_T := fun k => match k with
  | 0 => ("SplaySequence$Row", "values", "[I", true)
  | _ => ("SplaySequence$Row", "length", "I", false)
def tyX1 : Nat → FieldType := fun k => match k with
  | 0 => .array .int
  | _ => .int
abbrev wsX10 : List Cond := u_ws RX1 TX1 2
theorem nmX1 : ∀ a, a < 2 → ∀ b, b < 2 → a ≠ b → (TX1 a).2.1 ≠ (TX1 b).2.1 := by decide +kernel
theorem tyX1_ok : ∀ k, k < 2 → parseFieldDescriptor (TX1 k).2.2.1 = some (tyX1 k) := by decide +kernel
abbrev cX1_init : ByteArray := prog_3_method_1_code
def yX1_init : MethodName := ⟨RX1, "<init>", "()V"⟩
abbrev cX1_valueAt : ByteArray := prog_3_method_2_code
def yX1_valueAt : MethodName := ⟨RX1, "valueAt", "(I)I"⟩
abbrev cX1_replace : ByteArray := prog_3_method_3_code
def yX1_replace : MethodName := ⟨RX1, "replace", "(II)V"⟩
abbrev cX1_open : ByteArray := prog_3_method_4_code
def yX1_open : MethodName := ⟨RX1, "open", "(II)V"⟩
abbrev cX1_close : ByteArray := prog_3_method_5_code
def yX1_close : MethodName := ⟨RX1, "close", "(I)V"⟩
abbrev cX1_turnRound : ByteArray := prog_3_method_6_code
def yX1_turnRound : MethodName := ⟨RX1, "turnRound", "(II)V"⟩
abbrev cX1_addToAll : ByteArray := prog_3_method_7_code
def yX1_addToAll : MethodName := ⟨RX1, "addToAll", "(III)V"⟩
abbrev cX1_total : ByteArray := prog_3_method_8_code
def yX1_total : MethodName := ⟨RX1, "total", "(II)I"⟩
abbrev cX1_moveOut : ByteArray := prog_3_method_9_code
def yX1_moveOut : MethodName := ⟨RX1, "moveOut", "(IILSplaySequence$Row;)V"⟩
abbrev cX1_moveIn : ByteArray := prog_3_method_10_code
def yX1_moveIn : MethodName := ⟨RX1, "moveIn", "(ILSplaySequence$Row;)V"⟩
abbrev cX1_hasRange : ByteArray := prog_3_method_11_code
def yX1_hasRange : MethodName := ⟨RX1, "hasRange", "(II)Z"⟩
def RX2 : String := "SplaySequence$Splayer"
def TX2 : u_T := fun k => match k with
  | 0 => ("SplaySequence$Splayer", "callSteps", "I", false)
  | 1 => ("SplaySequence$Splayer", "callRotations", "I", false)
  | 2 => ("SplaySequence$Splayer", "allSteps", "I", false)
  | _ => ("SplaySequence$Splayer", "allSplays", "I", false)
def tyX2 : Nat → FieldType := fun k => match k with
  | 0 => .int
  | 1 => .int
  | 2 => .int
  | _ => .int
abbrev wsX20 : List Cond := u_ws RX2 TX2 4
theorem nmX2 : ∀ a, a < 4 → ∀ b, b < 4 → a ≠ b → (TX2 a).2.1 ≠ (TX2 b).2.1 := by decide +kernel
theorem tyX2_ok : ∀ k, k < 4 → parseFieldDescriptor (TX2 k).2.2.1 = some (tyX2 k) := by decide +kernel
abbrev cX2_init : ByteArray := prog_4_method_1_code
def yX2_init : MethodName := ⟨RX2, "<init>", "()V"⟩
abbrev cX2_beginCall : ByteArray := prog_4_method_2_code
def yX2_beginCall : MethodName := ⟨RX2, "beginCall", "()V"⟩
abbrev cX2_splay : ByteArray := prog_4_method_3_code
def yX2_splay : MethodName := ⟨RX2, "splay", "(LSplaySequence$Tree;LSplaySequence$Node;)V"⟩
abbrev cX2_rotate : ByteArray := prog_4_method_4_code
def yX2_rotate : MethodName := ⟨RX2, "rotate", "(LSplaySequence$Node;)V"⟩
abbrev cX2_split : ByteArray := prog_4_method_5_code
def yX2_split : MethodName := ⟨RX2, "split", "(LSplaySequence$Tree;ILSplaySequence$Tree;)V"⟩
abbrev cX2_join : ByteArray := prog_4_method_6_code
def yX2_join : MethodName := ⟨RX2, "join", "(LSplaySequence$Tree;LSplaySequence$Tree;)V"⟩
def RX3 : String := "SplaySequence$Tree"
def TX3 : u_T := fun k => match k with
  | _ => ("SplaySequence$Tree", "root", "LSplaySequence$Node;", false)
def tyX3 : Nat → FieldType := fun k => match k with
  | _ => .object "SplaySequence$Node"
abbrev wsX30 : List Cond := u_ws RX3 TX3 1
theorem nmX3 : ∀ a, a < 1 → ∀ b, b < 1 → a ≠ b → (TX3 a).2.1 ≠ (TX3 b).2.1 := by decide +kernel
theorem tyX3_ok : ∀ k, k < 1 → parseFieldDescriptor (TX3 k).2.2.1 = some (tyX3 k) := by decide +kernel
abbrev cX3_init : ByteArray := prog_5_method_1_code
def yX3_init : MethodName := ⟨RX3, "<init>", "()V"⟩
abbrev cX3_count : ByteArray := prog_5_method_2_code
def yX3_count : MethodName := ⟨RX3, "count", "()I"⟩
abbrev cX3_find : ByteArray := prog_5_method_3_code
def yX3_find : MethodName := ⟨RX3, "find", "(I)LSplaySequence$Node;"⟩
abbrev cX3_last : ByteArray := prog_5_method_4_code
def yX3_last : MethodName := ⟨RX3, "last", "()LSplaySequence$Node;"⟩
abbrev cX3_holds : ByteArray := prog_5_method_5_code
def yX3_holds : MethodName := ⟨RX3, "holds", "(LSplaySequence$Node;)Z"⟩
abbrev cX3_takeAll : ByteArray := prog_5_method_6_code
def yX3_takeAll : MethodName := ⟨RX3, "takeAll", "()LSplaySequence$Node;"⟩
abbrev cX3_turnRound : ByteArray := prog_5_method_7_code
def yX3_turnRound : MethodName := ⟨RX3, "turnRound", "()V"⟩
abbrev cX3_addToAll : ByteArray := prog_5_method_8_code
def yX3_addToAll : MethodName := ⟨RX3, "addToAll", "(I)V"⟩
abbrev cX3_total : ByteArray := prog_5_method_9_code
def yX3_total : MethodName := ⟨RX3, "total", "()I"⟩
abbrev cX3_lowest : ByteArray := prog_5_method_10_code
def yX3_lowest : MethodName := ⟨RX3, "lowest", "()I"⟩
abbrev cX3_sumOfRanks : ByteArray := prog_5_method_11_code
def yX3_sumOfRanks : MethodName := ⟨RX3, "sumOfRanks", "()I"⟩
abbrev cX3_levels : ByteArray := prog_5_method_12_code
def yX3_levels : MethodName := ⟨RX3, "levels", "()I"⟩
abbrev cX3_rankOf : ByteArray := prog_5_method_13_code
def yX3_rankOf : MethodName := ⟨RX3, "rankOf", "(I)I"⟩
def RX4 : String := "SplaySequence"
def TX4 : u_T := fun k => match k with
  | 0 => ("SplaySequence", "sequence", "LSplaySequence$Tree;", true)
  | 1 => ("SplaySequence", "clipboard", "LSplaySequence$Tree;", true)
  | 2 => ("SplaySequence", "range", "LSplaySequence$Tree;", true)
  | 3 => ("SplaySequence", "tail", "LSplaySequence$Tree;", true)
  | 4 => ("SplaySequence", "splayer", "LSplaySequence$Splayer;", true)
  | 5 => ("SplaySequence", "fingers", "[LSplaySequence$Node;", true)
  | 6 => ("SplaySequence", "row", "LSplaySequence$Row;", true)
  | _ => ("SplaySequence", "clippedRow", "LSplaySequence$Row;", true)
def tyX4 : Nat → FieldType := fun k => match k with
  | 0 => .object "SplaySequence$Tree"
  | 1 => .object "SplaySequence$Tree"
  | 2 => .object "SplaySequence$Tree"
  | 3 => .object "SplaySequence$Tree"
  | 4 => .object "SplaySequence$Splayer"
  | 5 => .array (.object "SplaySequence$Node")
  | 6 => .object "SplaySequence$Row"
  | _ => .object "SplaySequence$Row"
abbrev wsX40 : List Cond := u_ws RX4 TX4 8
theorem nmX4 : ∀ a, a < 8 → ∀ b, b < 8 → a ≠ b → (TX4 a).2.1 ≠ (TX4 b).2.1 := by decide +kernel
theorem tyX4_ok : ∀ k, k < 8 → parseFieldDescriptor (TX4 k).2.2.1 = some (tyX4 k) := by decide +kernel
abbrev cX4_init : ByteArray := prog_1_method_1_code
def yX4_init : MethodName := ⟨RX4, "<init>", "()V"⟩
abbrev cX4_insert : ByteArray := prog_1_method_2_code
def yX4_insert : MethodName := ⟨RX4, "insert", "(II)I"⟩
abbrev cX4_remove : ByteArray := prog_1_method_3_code
def yX4_remove : MethodName := ⟨RX4, "remove", "(I)I"⟩
abbrev cX4_get : ByteArray := prog_1_method_4_code
def yX4_get : MethodName := ⟨RX4, "get", "(I)I"⟩
abbrev cX4_set : ByteArray := prog_1_method_5_code
def yX4_set : MethodName := ⟨RX4, "set", "(II)I"⟩
abbrev cX4_reverse : ByteArray := prog_1_method_6_code
def yX4_reverse : MethodName := ⟨RX4, "reverse", "(II)I"⟩
abbrev cX4_raise : ByteArray := prog_1_method_7_code
def yX4_raise : MethodName := ⟨RX4, "raise", "(III)I"⟩
abbrev cX4_sum : ByteArray := prog_1_method_8_code
def yX4_sum : MethodName := ⟨RX4, "sum", "(II)I"⟩
abbrev cX4_least : ByteArray := prog_1_method_9_code
def yX4_least : MethodName := ⟨RX4, "least", "(II)I"⟩
abbrev cX4_cut : ByteArray := prog_1_method_10_code
def yX4_cut : MethodName := ⟨RX4, "cut", "(II)I"⟩
abbrev cX4_paste : ByteArray := prog_1_method_11_code
def yX4_paste : MethodName := ⟨RX4, "paste", "(I)I"⟩
abbrev cX4_point : ByteArray := prog_1_method_12_code
def yX4_point : MethodName := ⟨RX4, "point", "(II)I"⟩
abbrev cX4_follow : ByteArray := prog_1_method_13_code
def yX4_follow : MethodName := ⟨RX4, "follow", "(I)I"⟩
abbrev cX4_move : ByteArray := prog_1_method_14_code
def yX4_move : MethodName := ⟨RX4, "move", "(II)I"⟩
abbrev cX4_lastSteps : ByteArray := prog_1_method_15_code
def yX4_lastSteps : MethodName := ⟨RX4, "lastSteps", "()I"⟩
abbrev cX4_lastRotations : ByteArray := prog_1_method_16_code
def yX4_lastRotations : MethodName := ⟨RX4, "lastRotations", "()I"⟩
abbrev cX4_steps : ByteArray := prog_1_method_17_code
def yX4_steps : MethodName := ⟨RX4, "steps", "()I"⟩
abbrev cX4_splays : ByteArray := prog_1_method_18_code
def yX4_splays : MethodName := ⟨RX4, "splays", "()I"⟩
abbrev cX4_potential : ByteArray := prog_1_method_19_code
def yX4_potential : MethodName := ⟨RX4, "potential", "()I"⟩
abbrev cX4_size : ByteArray := prog_1_method_20_code
def yX4_size : MethodName := ⟨RX4, "size", "()I"⟩
abbrev cX4_clipped : ByteArray := prog_1_method_21_code
def yX4_clipped : MethodName := ⟨RX4, "clipped", "()I"⟩
abbrev cX4_root : ByteArray := prog_1_method_22_code
def yX4_root : MethodName := ⟨RX4, "root", "()I"⟩
abbrev cX4_height : ByteArray := prog_1_method_23_code
def yX4_height : MethodName := ⟨RX4, "height", "()I"⟩
abbrev cX4_depth : ByteArray := prog_1_method_24_code
def yX4_depth : MethodName := ⟨RX4, "depth", "(I)I"⟩
abbrev cX4_subtree : ByteArray := prog_1_method_25_code
def yX4_subtree : MethodName := ⟨RX4, "subtree", "(I)I"⟩
abbrev cX4_child : ByteArray := prog_1_method_26_code
def yX4_child : MethodName := ⟨RX4, "child", "(IZ)I"⟩
abbrev cX4_whereIs : ByteArray := prog_1_method_27_code
def yX4_whereIs : MethodName := ⟨RX4, "whereIs", "(I)I"⟩
abbrev cX4_plain : ByteArray := prog_1_method_28_code
def yX4_plain : MethodName := ⟨RX4, "plain", "(I)I"⟩
abbrev cX4_plainSum : ByteArray := prog_1_method_29_code
def yX4_plainSum : MethodName := ⟨RX4, "plainSum", "(II)I"⟩
abbrev cX4_nodeAt : ByteArray := prog_1_method_30_code
def yX4_nodeAt : MethodName := ⟨RX4, "nodeAt", "(I)LSplaySequence$Node;"⟩
abbrev cX4_checkGap : ByteArray := prog_1_method_31_code
def yX4_checkGap : MethodName := ⟨RX4, "checkGap", "(I)V"⟩
abbrev cX4_checkRange : ByteArray := prog_1_method_32_code
def yX4_checkRange : MethodName := ⟨RX4, "checkRange", "(II)V"⟩
abbrev cX4_checkFinger : ByteArray := prog_1_method_33_code
def yX4_checkFinger : MethodName := ⟨RX4, "checkFinger", "(I)V"⟩
abbrev cX4_checkAmount : ByteArray := prog_1_method_34_code
def yX4_checkAmount : MethodName := ⟨RX4, "checkAmount", "(I)V"⟩
abbrev cX4_positionOrNone : ByteArray := prog_1_method_35_code
def yX4_positionOrNone : MethodName := ⟨RX4, "positionOrNone", "(LSplaySequence$Node;)I"⟩
abbrev cX4_liftFingersFrom : ByteArray := prog_1_method_36_code
def yX4_liftFingersFrom : MethodName := ⟨RX4, "liftFingersFrom", "(LSplaySequence$Node;)V"⟩
abbrev cX4_takeRange : ByteArray := prog_1_method_37_code
def yX4_takeRange : MethodName := ⟨RX4, "takeRange", "(II)V"⟩
abbrev cX4_putRangeBack : ByteArray := prog_1_method_38_code
def yX4_putRangeBack : MethodName := ⟨RX4, "putRangeBack", "()V"⟩
def RX5 : String := "SplaySequenceModel"
def TX5 : u_T := fun k => match k with
  | 0 => ("SplaySequenceModel", "thrown", "I", false)
  | 1 => ("SplaySequenceModel", "tree", "I", false)
  | 2 => ("SplaySequenceModel", "clip", "I", false)
  | 3 => ("SplaySequenceModel", "values", "[I", true)
  | 4 => ("SplaySequenceModel", "left", "[I", true)
  | 5 => ("SplaySequenceModel", "right", "[I", true)
  | 6 => ("SplaySequenceModel", "parent", "[I", true)
  | 7 => ("SplaySequenceModel", "isThere", "[Z", true)
  | 8 => ("SplaySequenceModel", "fingers", "[I", true)
  | 9 => ("SplaySequenceModel", "order", "[I", true)
  | 10 => ("SplaySequenceModel", "many", "I", false)
  | 11 => ("SplaySequenceModel", "first", "I", false)
  | 12 => ("SplaySequenceModel", "second", "I", false)
  | 13 => ("SplaySequenceModel", "latestSteps", "I", false)
  | 14 => ("SplaySequenceModel", "latestRotations", "I", false)
  | 15 => ("SplaySequenceModel", "allSteps", "I", false)
  | 16 => ("SplaySequenceModel", "allSplays", "I", false)
  | 17 => ("SplaySequenceModel", "ahead", "I", false)
  | 18 => ("SplaySequenceModel", "range", "I", false)
  | _ => ("SplaySequenceModel", "behind", "I", false)
def tyX5 : Nat → FieldType := fun k => match k with
  | 0 => .int
  | 1 => .int
  | 2 => .int
  | 3 => .array .int
  | 4 => .array .int
  | 5 => .array .int
  | 6 => .array .int
  | 7 => .array .boolean
  | 8 => .array .int
  | 9 => .array .int
  | 10 => .int
  | 11 => .int
  | 12 => .int
  | 13 => .int
  | 14 => .int
  | 15 => .int
  | 16 => .int
  | 17 => .int
  | 18 => .int
  | _ => .int
abbrev wsX50 : List Cond := u_ws RX5 TX5 20
theorem nmX5 : ∀ a, a < 20 → ∀ b, b < 20 → a ≠ b → (TX5 a).2.1 ≠ (TX5 b).2.1 := by decide +kernel
theorem tyX5_ok : ∀ k, k < 20 → parseFieldDescriptor (TX5 k).2.2.1 = some (tyX5 k) := by decide +kernel
abbrev cX5_init : ByteArray := prog_7_method_1_code
def yX5_init : MethodName := ⟨RX5, "<init>", "()V"⟩
abbrev cX5_thrown : ByteArray := prog_7_method_2_code
def yX5_thrown : MethodName := ⟨RX5, "thrown", "()I"⟩
abbrev cX5_goesWell : ByteArray := prog_7_method_3_code
def yX5_goesWell : MethodName := ⟨RX5, "goesWell", "(I)Z"⟩
abbrev cX5_leftmost : ByteArray := prog_7_method_4_code
def yX5_leftmost : MethodName := ⟨RX5, "leftmost", "(I)I"⟩
abbrev cX5_rightmost : ByteArray := prog_7_method_5_code
def yX5_rightmost : MethodName := ⟨RX5, "rightmost", "(I)I"⟩
abbrev cX5_following : ByteArray := prog_7_method_6_code
def yX5_following : MethodName := ⟨RX5, "following", "(I)I"⟩
abbrev cX5_layOrder : ByteArray := prog_7_method_7_code
def yX5_layOrder : MethodName := ⟨RX5, "layOrder", "(I)V"⟩
abbrev cX5_sizeOf : ByteArray := prog_7_method_8_code
def yX5_sizeOf : MethodName := ⟨RX5, "sizeOf", "(I)I"⟩
abbrev cX5_nodeAt : ByteArray := prog_7_method_9_code
def yX5_nodeAt : MethodName := ⟨RX5, "nodeAt", "(II)I"⟩
abbrev cX5_rootOf : ByteArray := prog_7_method_10_code
def yX5_rootOf : MethodName := ⟨RX5, "rootOf", "(I)I"⟩
abbrev cX5_placeOf : ByteArray := prog_7_method_11_code
def yX5_placeOf : MethodName := ⟨RX5, "placeOf", "(I)I"⟩
abbrev cX5_depthOf : ByteArray := prog_7_method_12_code
def yX5_depthOf : MethodName := ⟨RX5, "depthOf", "(I)I"⟩
abbrev cX5_below : ByteArray := prog_7_method_13_code
def yX5_below : MethodName := ⟨RX5, "below", "(I)I"⟩
abbrev cX5_hang : ByteArray := prog_7_method_14_code
def yX5_hang : MethodName := ⟨RX5, "hang", "(IIZ)V"⟩
abbrev cX5_rotate : ByteArray := prog_7_method_15_code
def yX5_rotate : MethodName := ⟨RX5, "rotate", "(I)V"⟩
abbrev cX5_splay : ByteArray := prog_7_method_16_code
def yX5_splay : MethodName := ⟨RX5, "splay", "(I)V"⟩
abbrev cX5_begins : ByteArray := prog_7_method_17_code
def yX5_begins : MethodName := ⟨RX5, "begins", "()V"⟩
abbrev cX5_split : ByteArray := prog_7_method_18_code
def yX5_split : MethodName := ⟨RX5, "split", "(II)V"⟩
abbrev cX5_join : ByteArray := prog_7_method_19_code
def yX5_join : MethodName := ⟨RX5, "join", "(II)I"⟩
abbrev cX5_count : ByteArray := prog_7_method_20_code
def yX5_count : MethodName := ⟨RX5, "count", "()I"⟩
abbrev cX5_isPlace : ByteArray := prog_7_method_21_code
def yX5_isPlace : MethodName := ⟨RX5, "isPlace", "(I)Z"⟩
abbrev cX5_isRange : ByteArray := prog_7_method_22_code
def yX5_isRange : MethodName := ⟨RX5, "isRange", "(II)Z"⟩
abbrev cX5_isValue : ByteArray := prog_7_method_23_code
def yX5_isValue : MethodName := ⟨RX5, "isValue", "(I)Z"⟩
abbrev cX5_isFinger : ByteArray := prog_7_method_24_code
def yX5_isFinger : MethodName := ⟨RX5, "isFinger", "(I)Z"⟩
abbrev cX5_insert : ByteArray := prog_7_method_25_code
def yX5_insert : MethodName := ⟨RX5, "insert", "(II)I"⟩
abbrev cX5_remove : ByteArray := prog_7_method_26_code
def yX5_remove : MethodName := ⟨RX5, "remove", "(I)I"⟩
abbrev cX5_raiseUp : ByteArray := prog_7_method_27_code
def yX5_raiseUp : MethodName := ⟨RX5, "raiseUp", "(I)I"⟩
abbrev cX5_get : ByteArray := prog_7_method_28_code
def yX5_get : MethodName := ⟨RX5, "get", "(I)I"⟩
abbrev cX5_set : ByteArray := prog_7_method_29_code
def yX5_set : MethodName := ⟨RX5, "set", "(II)I"⟩
abbrev cX5_open : ByteArray := prog_7_method_30_code
def yX5_open : MethodName := ⟨RX5, "open", "(II)V"⟩
abbrev cX5_close : ByteArray := prog_7_method_31_code
def yX5_close : MethodName := ⟨RX5, "close", "()V"⟩
abbrev cX5_turnRound : ByteArray := prog_7_method_32_code
def yX5_turnRound : MethodName := ⟨RX5, "turnRound", "()V"⟩
abbrev cX5_reverse : ByteArray := prog_7_method_33_code
def yX5_reverse : MethodName := ⟨RX5, "reverse", "(II)I"⟩
abbrev cX5_raise : ByteArray := prog_7_method_34_code
def yX5_raise : MethodName := ⟨RX5, "raise", "(III)I"⟩
abbrev cX5_sum : ByteArray := prog_7_method_35_code
def yX5_sum : MethodName := ⟨RX5, "sum", "(II)I"⟩
abbrev cX5_least : ByteArray := prog_7_method_36_code
def yX5_least : MethodName := ⟨RX5, "least", "(II)I"⟩
abbrev cX5_cut : ByteArray := prog_7_method_37_code
def yX5_cut : MethodName := ⟨RX5, "cut", "(II)I"⟩
abbrev cX5_paste : ByteArray := prog_7_method_38_code
def yX5_paste : MethodName := ⟨RX5, "paste", "(I)I"⟩
abbrev cX5_point : ByteArray := prog_7_method_39_code
def yX5_point : MethodName := ⟨RX5, "point", "(II)I"⟩
abbrev cX5_isInSequence : ByteArray := prog_7_method_40_code
def yX5_isInSequence : MethodName := ⟨RX5, "isInSequence", "(I)Z"⟩
abbrev cX5_follow : ByteArray := prog_7_method_41_code
def yX5_follow : MethodName := ⟨RX5, "follow", "(I)I"⟩
abbrev cX5_canMove : ByteArray := prog_7_method_42_code
def yX5_canMove : MethodName := ⟨RX5, "canMove", "(II)Z"⟩
abbrev cX5_move : ByteArray := prog_7_method_43_code
def yX5_move : MethodName := ⟨RX5, "move", "(II)I"⟩
abbrev cX5_lastSteps : ByteArray := prog_7_method_44_code
def yX5_lastSteps : MethodName := ⟨RX5, "lastSteps", "()I"⟩
abbrev cX5_lastRotations : ByteArray := prog_7_method_45_code
def yX5_lastRotations : MethodName := ⟨RX5, "lastRotations", "()I"⟩
abbrev cX5_steps : ByteArray := prog_7_method_46_code
def yX5_steps : MethodName := ⟨RX5, "steps", "()I"⟩
abbrev cX5_splays : ByteArray := prog_7_method_47_code
def yX5_splays : MethodName := ⟨RX5, "splays", "()I"⟩
abbrev cX5_rank : ByteArray := prog_7_method_48_code
def yX5_rank : MethodName := ⟨RX5, "rank", "(I)I"⟩
abbrev cX5_potential : ByteArray := prog_7_method_49_code
def yX5_potential : MethodName := ⟨RX5, "potential", "()I"⟩
abbrev cX5_size : ByteArray := prog_7_method_50_code
def yX5_size : MethodName := ⟨RX5, "size", "()I"⟩
abbrev cX5_clipped : ByteArray := prog_7_method_51_code
def yX5_clipped : MethodName := ⟨RX5, "clipped", "()I"⟩
abbrev cX5_root : ByteArray := prog_7_method_52_code
def yX5_root : MethodName := ⟨RX5, "root", "()I"⟩
abbrev cX5_height : ByteArray := prog_7_method_53_code
def yX5_height : MethodName := ⟨RX5, "height", "()I"⟩
abbrev cX5_depth : ByteArray := prog_7_method_54_code
def yX5_depth : MethodName := ⟨RX5, "depth", "(I)I"⟩
abbrev cX5_subtree : ByteArray := prog_7_method_55_code
def yX5_subtree : MethodName := ⟨RX5, "subtree", "(I)I"⟩
abbrev cX5_child : ByteArray := prog_7_method_56_code
def yX5_child : MethodName := ⟨RX5, "child", "(IZ)I"⟩
abbrev cX5_whereIs : ByteArray := prog_7_method_57_code
def yX5_whereIs : MethodName := ⟨RX5, "whereIs", "(I)I"⟩
abbrev cX5_plain : ByteArray := prog_7_method_58_code
def yX5_plain : MethodName := ⟨RX5, "plain", "(I)I"⟩
abbrev cX5_plainSum : ByteArray := prog_7_method_59_code
def yX5_plainSum : MethodName := ⟨RX5, "plainSum", "(II)I"⟩
def RJ9 : String := "java/lang/Math"
def TJ9 : u_T := fun k => match k with
  | _ => ("", "", "", false)
def tyJ9 : Nat → FieldType := fun k => match k with
  | _ => .int
abbrev wsJ90 : List Cond := u_ws RJ9 TJ9 0
theorem nmJ9 : ∀ a, a < 0 → ∀ b, b < 0 → a ≠ b → (TJ9 a).2.1 ≠ (TJ9 b).2.1 := by decide +kernel
theorem tyJ9_ok : ∀ k, k < 0 → parseFieldDescriptor (TJ9 k).2.2.1 = some (tyJ9 k) := by decide +kernel
abbrev cJ9_max_7cf53 : ByteArray := prog_12_method_65_code
def yJ9_max_7cf53 : MethodName := ⟨RJ9, "max", "(II)I"⟩
abbrev cJ9_min_7cf53 : ByteArray := prog_12_method_69_code
def yJ9_min_7cf53 : MethodName := ⟨RJ9, "min", "(II)I"⟩
def RJ0 : String := "java/lang/String"
def TJ0 : u_T := fun k => match k with
  | _ => ("", "", "", false)
def tyJ0 : Nat → FieldType := fun k => match k with
  | _ => .int
abbrev wsJ00 : List Cond := u_ws RJ0 TJ0 0
theorem nmJ0 : ∀ a, a < 0 → ∀ b, b < 0 → a ≠ b → (TJ0 a).2.1 ≠ (TJ0 b).2.1 := by decide +kernel
theorem tyJ0_ok : ∀ k, k < 0 → parseFieldDescriptor (TJ0 k).2.2.1 = some (tyJ0 k) := by decide +kernel
def RJ10 : String := "java/lang/System"
def TJ10 : u_T := fun k => match k with
  | _ => ("", "", "", false)
def tyJ10 : Nat → FieldType := fun k => match k with
  | _ => .int
abbrev wsJ100 : List Cond := u_ws RJ10 TJ10 0
theorem nmJ10 : ∀ a, a < 0 → ∀ b, b < 0 → a ≠ b → (TJ10 a).2.1 ≠ (TJ10 b).2.1 := by decide +kernel
theorem tyJ10_ok : ∀ k, k < 0 → parseFieldDescriptor (TJ10 k).2.2.1 = some (tyJ10 k) := by decide +kernel
def RL : String := "SplaySequenceLaw"
abbrev cL_insert : ByteArray := method_3_code
def yL_insert : MethodName := ⟨RL, "insert", "(LSplaySequence;II[J)I"⟩
abbrev cL_remove : ByteArray := method_4_code
def yL_remove : MethodName := ⟨RL, "remove", "(LSplaySequence;I[J)I"⟩
abbrev cL_get : ByteArray := method_5_code
def yL_get : MethodName := ⟨RL, "get", "(LSplaySequence;I[J)I"⟩
abbrev cL_set : ByteArray := method_6_code
def yL_set : MethodName := ⟨RL, "set", "(LSplaySequence;II[J)I"⟩
abbrev cL_reverse : ByteArray := method_7_code
def yL_reverse : MethodName := ⟨RL, "reverse", "(LSplaySequence;II[J)I"⟩
abbrev cL_raise : ByteArray := method_8_code
def yL_raise : MethodName := ⟨RL, "raise", "(LSplaySequence;III[J)I"⟩
abbrev cL_sum : ByteArray := method_9_code
def yL_sum : MethodName := ⟨RL, "sum", "(LSplaySequence;II[J)I"⟩
abbrev cL_least : ByteArray := method_10_code
def yL_least : MethodName := ⟨RL, "least", "(LSplaySequence;II[J)I"⟩
abbrev cL_cut : ByteArray := method_11_code
def yL_cut : MethodName := ⟨RL, "cut", "(LSplaySequence;II[J)I"⟩
abbrev cL_paste : ByteArray := method_12_code
def yL_paste : MethodName := ⟨RL, "paste", "(LSplaySequence;I[J)I"⟩
abbrev cL_point : ByteArray := method_13_code
def yL_point : MethodName := ⟨RL, "point", "(LSplaySequence;II[J)I"⟩
abbrev cL_follow : ByteArray := method_14_code
def yL_follow : MethodName := ⟨RL, "follow", "(LSplaySequence;I[J)I"⟩
abbrev cL_move : ByteArray := method_15_code
def yL_move : MethodName := ⟨RL, "move", "(LSplaySequence;II[J)I"⟩
abbrev cL_depth : ByteArray := method_16_code
def yL_depth : MethodName := ⟨RL, "depth", "(LSplaySequence;I[J)I"⟩
abbrev cL_subtree : ByteArray := method_17_code
def yL_subtree : MethodName := ⟨RL, "subtree", "(LSplaySequence;I[J)I"⟩
abbrev cL_child : ByteArray := method_18_code
def yL_child : MethodName := ⟨RL, "child", "(LSplaySequence;IZ[J)I"⟩
abbrev cL_whereIs : ByteArray := method_19_code
def yL_whereIs : MethodName := ⟨RL, "whereIs", "(LSplaySequence;I[J)I"⟩
abbrev cL_plain : ByteArray := method_20_code
def yL_plain : MethodName := ⟨RL, "plain", "(LSplaySequence;I[J)I"⟩
abbrev cL_plainSum : ByteArray := method_21_code
def yL_plainSum : MethodName := ⟨RL, "plainSum", "(LSplaySequence;II[J)I"⟩
abbrev cL_law : ByteArray := code
def yL_law : MethodName := ⟨RL, "law", "([I)Z"⟩
end
section
theorem dX0_init_0 : decode cX0_init 0 = .ok (.aload_n 0, 1) := by decide +kernel
theorem dX0_init_1 : decode cX0_init 1 = .ok (.invokespecial 1, 3) := by decide +kernel
theorem dX0_init_4 : decode cX0_init 4 = .ok (.aload_n 0, 1) := by decide +kernel
theorem dX0_init_5 : decode cX0_init 5 = .ok (.iconst 1, 1) := by decide +kernel
theorem dX0_init_6 : decode cX0_init 6 = .ok (.putfield 7, 3) := by decide +kernel
theorem dX0_init_9 : decode cX0_init 9 = .ok (.aload_n 0, 1) := by decide +kernel
theorem dX0_init_10 : decode cX0_init 10 = .ok (.iload_n 1, 1) := by decide +kernel
theorem dX0_init_11 : decode cX0_init 11 = .ok (.putfield 13, 3) := by decide +kernel
theorem dX0_init_14 : decode cX0_init 14 = .ok (.return_, 1) := by decide +kernel
theorem dX0_countOf_0 : decode cX0_countOf 0 = .ok (.aload_n 0, 1) := by decide +kernel
theorem dX0_countOf_1 : decode cX0_countOf 1 = .ok (.ifnonnull 7, 3) := by decide +kernel
theorem dX0_countOf_4 : decode cX0_countOf 4 = .ok (.iconst 0, 1) := by decide +kernel
theorem dX0_countOf_5 : decode cX0_countOf 5 = .ok (.goto 7, 3) := by decide +kernel
theorem dX0_countOf_8 : decode cX0_countOf 8 = .ok (.aload_n 0, 1) := by decide +kernel
theorem dX0_countOf_9 : decode cX0_countOf 9 = .ok (.getfield 7, 3) := by decide +kernel
theorem dX0_countOf_12 : decode cX0_countOf 12 = .ok (.ireturn, 1) := by decide +kernel
theorem dX0_isLeftChild_0 : decode cX0_isLeftChild 0 = .ok (.aload_n 0, 1) := by decide +kernel
theorem dX0_isLeftChild_1 : decode cX0_isLeftChild 1 = .ok (.getfield 16, 3) := by decide +kernel
theorem dX0_isLeftChild_4 : decode cX0_isLeftChild 4 = .ok (.ifnull 18, 3) := by decide +kernel
theorem dX0_isLeftChild_7 : decode cX0_isLeftChild 7 = .ok (.aload_n 0, 1) := by decide +kernel
theorem dX0_isLeftChild_8 : decode cX0_isLeftChild 8 = .ok (.getfield 16, 3) := by decide +kernel
theorem dX0_isLeftChild_11 : decode cX0_isLeftChild 11 = .ok (.getfield 20, 3) := by decide +kernel
theorem dX0_isLeftChild_14 : decode cX0_isLeftChild 14 = .ok (.aload_n 0, 1) := by decide +kernel
theorem dX0_isLeftChild_15 : decode cX0_isLeftChild 15 = .ok (.if_acmp .ne 7, 3) := by decide +kernel
theorem dX0_isLeftChild_18 : decode cX0_isLeftChild 18 = .ok (.iconst 1, 1) := by decide +kernel
theorem dX0_isLeftChild_19 : decode cX0_isLeftChild 19 = .ok (.goto 4, 3) := by decide +kernel
theorem dX0_isLeftChild_22 : decode cX0_isLeftChild 22 = .ok (.iconst 0, 1) := by decide +kernel
theorem dX0_isLeftChild_23 : decode cX0_isLeftChild 23 = .ok (.ireturn, 1) := by decide +kernel
theorem dX0_takeLeft_0 : decode cX0_takeLeft 0 = .ok (.aload_n 0, 1) := by decide +kernel
theorem dX0_takeLeft_1 : decode cX0_takeLeft 1 = .ok (.aload_n 1, 1) := by decide +kernel
theorem dX0_takeLeft_2 : decode cX0_takeLeft 2 = .ok (.putfield 20, 3) := by decide +kernel
theorem dX0_takeLeft_5 : decode cX0_takeLeft 5 = .ok (.aload_n 1, 1) := by decide +kernel
theorem dX0_takeLeft_6 : decode cX0_takeLeft 6 = .ok (.ifnull 8, 3) := by decide +kernel
theorem dX0_takeLeft_9 : decode cX0_takeLeft 9 = .ok (.aload_n 1, 1) := by decide +kernel
theorem dX0_takeLeft_10 : decode cX0_takeLeft 10 = .ok (.aload_n 0, 1) := by decide +kernel
theorem dX0_takeLeft_11 : decode cX0_takeLeft 11 = .ok (.putfield 16, 3) := by decide +kernel
theorem dX0_takeLeft_14 : decode cX0_takeLeft 14 = .ok (.aload_n 0, 1) := by decide +kernel
theorem dX0_takeLeft_15 : decode cX0_takeLeft 15 = .ok (.iconst 1, 1) := by decide +kernel
theorem dX0_takeLeft_16 : decode cX0_takeLeft 16 = .ok (.aload_n 0, 1) := by decide +kernel
theorem dX0_takeLeft_17 : decode cX0_takeLeft 17 = .ok (.getfield 20, 3) := by decide +kernel
theorem dX0_takeLeft_20 : decode cX0_takeLeft 20 = .ok (.invokestatic 23, 3) := by decide +kernel
theorem dX0_takeLeft_23 : decode cX0_takeLeft 23 = .ok (.iadd, 1) := by decide +kernel
theorem dX0_takeLeft_24 : decode cX0_takeLeft 24 = .ok (.aload_n 0, 1) := by decide +kernel
theorem dX0_takeLeft_25 : decode cX0_takeLeft 25 = .ok (.getfield 27, 3) := by decide +kernel
theorem dX0_takeLeft_28 : decode cX0_takeLeft 28 = .ok (.invokestatic 23, 3) := by decide +kernel
theorem dX0_takeLeft_31 : decode cX0_takeLeft 31 = .ok (.iadd, 1) := by decide +kernel
theorem dX0_takeLeft_32 : decode cX0_takeLeft 32 = .ok (.putfield 7, 3) := by decide +kernel
theorem dX0_takeLeft_35 : decode cX0_takeLeft 35 = .ok (.return_, 1) := by decide +kernel
theorem dX0_takeRight_0 : decode cX0_takeRight 0 = .ok (.aload_n 0, 1) := by decide +kernel
theorem dX0_takeRight_1 : decode cX0_takeRight 1 = .ok (.aload_n 1, 1) := by decide +kernel
theorem dX0_takeRight_2 : decode cX0_takeRight 2 = .ok (.putfield 27, 3) := by decide +kernel
theorem dX0_takeRight_5 : decode cX0_takeRight 5 = .ok (.aload_n 1, 1) := by decide +kernel
theorem dX0_takeRight_6 : decode cX0_takeRight 6 = .ok (.ifnull 8, 3) := by decide +kernel
theorem dX0_takeRight_9 : decode cX0_takeRight 9 = .ok (.aload_n 1, 1) := by decide +kernel
theorem dX0_takeRight_10 : decode cX0_takeRight 10 = .ok (.aload_n 0, 1) := by decide +kernel
theorem dX0_takeRight_11 : decode cX0_takeRight 11 = .ok (.putfield 16, 3) := by decide +kernel
theorem dX0_takeRight_14 : decode cX0_takeRight 14 = .ok (.aload_n 0, 1) := by decide +kernel
theorem dX0_takeRight_15 : decode cX0_takeRight 15 = .ok (.iconst 1, 1) := by decide +kernel
theorem dX0_takeRight_16 : decode cX0_takeRight 16 = .ok (.aload_n 0, 1) := by decide +kernel
theorem dX0_takeRight_17 : decode cX0_takeRight 17 = .ok (.getfield 20, 3) := by decide +kernel
theorem dX0_takeRight_20 : decode cX0_takeRight 20 = .ok (.invokestatic 23, 3) := by decide +kernel
theorem dX0_takeRight_23 : decode cX0_takeRight 23 = .ok (.iadd, 1) := by decide +kernel
theorem dX0_takeRight_24 : decode cX0_takeRight 24 = .ok (.aload_n 0, 1) := by decide +kernel
theorem dX0_takeRight_25 : decode cX0_takeRight 25 = .ok (.getfield 27, 3) := by decide +kernel
theorem dX0_takeRight_28 : decode cX0_takeRight 28 = .ok (.invokestatic 23, 3) := by decide +kernel
theorem dX0_takeRight_31 : decode cX0_takeRight 31 = .ok (.iadd, 1) := by decide +kernel
theorem dX0_takeRight_32 : decode cX0_takeRight 32 = .ok (.putfield 7, 3) := by decide +kernel
theorem dX0_takeRight_35 : decode cX0_takeRight 35 = .ok (.return_, 1) := by decide +kernel
theorem dX0_dropLeft_0 : decode cX0_dropLeft 0 = .ok (.aload_n 0, 1) := by decide +kernel
theorem dX0_dropLeft_1 : decode cX0_dropLeft 1 = .ok (.getfield 20, 3) := by decide +kernel
theorem dX0_dropLeft_4 : decode cX0_dropLeft 4 = .ok (.astore_n 1, 1) := by decide +kernel
theorem dX0_dropLeft_5 : decode cX0_dropLeft 5 = .ok (.aload_n 1, 1) := by decide +kernel
theorem dX0_dropLeft_6 : decode cX0_dropLeft 6 = .ok (.ifnull 8, 3) := by decide +kernel
theorem dX0_dropLeft_9 : decode cX0_dropLeft 9 = .ok (.aload_n 1, 1) := by decide +kernel
theorem dX0_dropLeft_10 : decode cX0_dropLeft 10 = .ok (.aconst_null, 1) := by decide +kernel
theorem dX0_dropLeft_11 : decode cX0_dropLeft 11 = .ok (.putfield 16, 3) := by decide +kernel
theorem dX0_dropLeft_14 : decode cX0_dropLeft 14 = .ok (.aload_n 0, 1) := by decide +kernel
theorem dX0_dropLeft_15 : decode cX0_dropLeft 15 = .ok (.aconst_null, 1) := by decide +kernel
theorem dX0_dropLeft_16 : decode cX0_dropLeft 16 = .ok (.invokevirtual 30, 3) := by decide +kernel
theorem dX0_dropLeft_19 : decode cX0_dropLeft 19 = .ok (.aload_n 1, 1) := by decide +kernel
theorem dX0_dropLeft_20 : decode cX0_dropLeft 20 = .ok (.areturn, 1) := by decide +kernel
theorem dX0_dropRight_0 : decode cX0_dropRight 0 = .ok (.aload_n 0, 1) := by decide +kernel
theorem dX0_dropRight_1 : decode cX0_dropRight 1 = .ok (.getfield 27, 3) := by decide +kernel
theorem dX0_dropRight_4 : decode cX0_dropRight 4 = .ok (.astore_n 1, 1) := by decide +kernel
theorem dX0_dropRight_5 : decode cX0_dropRight 5 = .ok (.aload_n 1, 1) := by decide +kernel
theorem dX0_dropRight_6 : decode cX0_dropRight 6 = .ok (.ifnull 8, 3) := by decide +kernel
theorem dX0_dropRight_9 : decode cX0_dropRight 9 = .ok (.aload_n 1, 1) := by decide +kernel
theorem dX0_dropRight_10 : decode cX0_dropRight 10 = .ok (.aconst_null, 1) := by decide +kernel
theorem dX0_dropRight_11 : decode cX0_dropRight 11 = .ok (.putfield 16, 3) := by decide +kernel
theorem dX0_dropRight_14 : decode cX0_dropRight 14 = .ok (.aload_n 0, 1) := by decide +kernel
theorem dX0_dropRight_15 : decode cX0_dropRight 15 = .ok (.aconst_null, 1) := by decide +kernel
theorem dX0_dropRight_16 : decode cX0_dropRight 16 = .ok (.invokevirtual 34, 3) := by decide +kernel
theorem dX0_dropRight_19 : decode cX0_dropRight 19 = .ok (.aload_n 1, 1) := by decide +kernel
theorem dX0_dropRight_20 : decode cX0_dropRight 20 = .ok (.areturn, 1) := by decide +kernel
theorem dX0_swapSides_0 : decode cX0_swapSides 0 = .ok (.aload_n 0, 1) := by decide +kernel
theorem dX0_swapSides_1 : decode cX0_swapSides 1 = .ok (.getfield 20, 3) := by decide +kernel
theorem dX0_swapSides_4 : decode cX0_swapSides 4 = .ok (.astore_n 1, 1) := by decide +kernel
theorem dX0_swapSides_5 : decode cX0_swapSides 5 = .ok (.aload_n 0, 1) := by decide +kernel
theorem dX0_swapSides_6 : decode cX0_swapSides 6 = .ok (.aload_n 0, 1) := by decide +kernel
theorem dX0_swapSides_7 : decode cX0_swapSides 7 = .ok (.getfield 27, 3) := by decide +kernel
theorem dX0_swapSides_10 : decode cX0_swapSides 10 = .ok (.putfield 20, 3) := by decide +kernel
theorem dX0_swapSides_13 : decode cX0_swapSides 13 = .ok (.aload_n 0, 1) := by decide +kernel
theorem dX0_swapSides_14 : decode cX0_swapSides 14 = .ok (.aload_n 1, 1) := by decide +kernel
theorem dX0_swapSides_15 : decode cX0_swapSides 15 = .ok (.putfield 27, 3) := by decide +kernel
theorem dX0_swapSides_18 : decode cX0_swapSides 18 = .ok (.return_, 1) := by decide +kernel
theorem dX0_position_0 : decode cX0_position 0 = .ok (.aload_n 0, 1) := by decide +kernel
theorem dX0_position_1 : decode cX0_position 1 = .ok (.getfield 20, 3) := by decide +kernel
theorem dX0_position_4 : decode cX0_position 4 = .ok (.invokestatic 23, 3) := by decide +kernel
theorem dX0_position_7 : decode cX0_position 7 = .ok (.istore_n 1, 1) := by decide +kernel
theorem dX0_position_8 : decode cX0_position 8 = .ok (.aload_n 0, 1) := by decide +kernel
theorem dX0_position_9 : decode cX0_position 9 = .ok (.astore_n 2, 1) := by decide +kernel
theorem dX0_position_10 : decode cX0_position 10 = .ok (.aload_n 2, 1) := by decide +kernel
theorem dX0_position_11 : decode cX0_position 11 = .ok (.getfield 16, 3) := by decide +kernel
theorem dX0_position_14 : decode cX0_position 14 = .ok (.ifnull 33, 3) := by decide +kernel
theorem dX0_position_17 : decode cX0_position 17 = .ok (.aload_n 2, 1) := by decide +kernel
theorem dX0_position_18 : decode cX0_position 18 = .ok (.invokevirtual 37, 3) := by decide +kernel
theorem dX0_position_21 : decode cX0_position 21 = .ok (.ifCond .ne 18, 3) := by decide +kernel
theorem dX0_position_24 : decode cX0_position 24 = .ok (.iload_n 1, 1) := by decide +kernel
theorem dX0_position_25 : decode cX0_position 25 = .ok (.aload_n 2, 1) := by decide +kernel
theorem dX0_position_26 : decode cX0_position 26 = .ok (.getfield 16, 3) := by decide +kernel
theorem dX0_position_29 : decode cX0_position 29 = .ok (.getfield 7, 3) := by decide +kernel
theorem dX0_position_32 : decode cX0_position 32 = .ok (.aload_n 2, 1) := by decide +kernel
theorem dX0_position_33 : decode cX0_position 33 = .ok (.getfield 7, 3) := by decide +kernel
theorem dX0_position_36 : decode cX0_position 36 = .ok (.isub, 1) := by decide +kernel
theorem dX0_position_37 : decode cX0_position 37 = .ok (.iadd, 1) := by decide +kernel
theorem dX0_position_38 : decode cX0_position 38 = .ok (.istore_n 1, 1) := by decide +kernel
theorem dX0_position_39 : decode cX0_position 39 = .ok (.aload_n 2, 1) := by decide +kernel
theorem dX0_position_40 : decode cX0_position 40 = .ok (.getfield 16, 3) := by decide +kernel
theorem dX0_position_43 : decode cX0_position 43 = .ok (.astore_n 2, 1) := by decide +kernel
theorem dX0_position_44 : decode cX0_position 44 = .ok (.goto (-34), 3) := by decide +kernel
theorem dX0_position_47 : decode cX0_position 47 = .ok (.iload_n 1, 1) := by decide +kernel
theorem dX0_position_48 : decode cX0_position 48 = .ok (.ireturn, 1) := by decide +kernel
theorem dX0_nodesAbove_0 : decode cX0_nodesAbove 0 = .ok (.iconst 0, 1) := by decide +kernel
theorem dX0_nodesAbove_1 : decode cX0_nodesAbove 1 = .ok (.istore_n 1, 1) := by decide +kernel
theorem dX0_nodesAbove_2 : decode cX0_nodesAbove 2 = .ok (.aload_n 0, 1) := by decide +kernel
theorem dX0_nodesAbove_3 : decode cX0_nodesAbove 3 = .ok (.getfield 16, 3) := by decide +kernel
theorem dX0_nodesAbove_6 : decode cX0_nodesAbove 6 = .ok (.astore_n 2, 1) := by decide +kernel
theorem dX0_nodesAbove_7 : decode cX0_nodesAbove 7 = .ok (.aload_n 2, 1) := by decide +kernel
theorem dX0_nodesAbove_8 : decode cX0_nodesAbove 8 = .ok (.ifnull 14, 3) := by decide +kernel
theorem dX0_nodesAbove_11 : decode cX0_nodesAbove 11 = .ok (.iinc 1 1, 3) := by decide +kernel
theorem dX0_nodesAbove_14 : decode cX0_nodesAbove 14 = .ok (.aload_n 2, 1) := by decide +kernel
theorem dX0_nodesAbove_15 : decode cX0_nodesAbove 15 = .ok (.getfield 16, 3) := by decide +kernel
theorem dX0_nodesAbove_18 : decode cX0_nodesAbove 18 = .ok (.astore_n 2, 1) := by decide +kernel
theorem dX0_nodesAbove_19 : decode cX0_nodesAbove 19 = .ok (.goto (-12), 3) := by decide +kernel
theorem dX0_nodesAbove_22 : decode cX0_nodesAbove 22 = .ok (.iload_n 1, 1) := by decide +kernel
theorem dX0_nodesAbove_23 : decode cX0_nodesAbove 23 = .ok (.ireturn, 1) := by decide +kernel
theorem dX0_top_0 : decode cX0_top 0 = .ok (.aload_n 0, 1) := by decide +kernel
theorem dX0_top_1 : decode cX0_top 1 = .ok (.astore_n 1, 1) := by decide +kernel
theorem dX0_top_2 : decode cX0_top 2 = .ok (.aload_n 1, 1) := by decide +kernel
theorem dX0_top_3 : decode cX0_top 3 = .ok (.getfield 16, 3) := by decide +kernel
theorem dX0_top_6 : decode cX0_top 6 = .ok (.ifnull 11, 3) := by decide +kernel
theorem dX0_top_9 : decode cX0_top 9 = .ok (.aload_n 1, 1) := by decide +kernel
theorem dX0_top_10 : decode cX0_top 10 = .ok (.getfield 16, 3) := by decide +kernel
theorem dX0_top_13 : decode cX0_top 13 = .ok (.astore_n 1, 1) := by decide +kernel
theorem dX0_top_14 : decode cX0_top 14 = .ok (.goto (-12), 3) := by decide +kernel
theorem dX0_top_17 : decode cX0_top 17 = .ok (.aload_n 1, 1) := by decide +kernel
theorem dX0_top_18 : decode cX0_top 18 = .ok (.areturn, 1) := by decide +kernel
theorem dX0_nextOfWalk_0 : decode cX0_nextOfWalk 0 = .ok (.aload_n 0, 1) := by decide +kernel
theorem dX0_nextOfWalk_1 : decode cX0_nextOfWalk 1 = .ok (.getfield 20, 3) := by decide +kernel
theorem dX0_nextOfWalk_4 : decode cX0_nextOfWalk 4 = .ok (.ifnull 8, 3) := by decide +kernel
theorem dX0_nextOfWalk_7 : decode cX0_nextOfWalk 7 = .ok (.aload_n 0, 1) := by decide +kernel
theorem dX0_nextOfWalk_8 : decode cX0_nextOfWalk 8 = .ok (.getfield 20, 3) := by decide +kernel
theorem dX0_nextOfWalk_11 : decode cX0_nextOfWalk 11 = .ok (.areturn, 1) := by decide +kernel
theorem dX0_nextOfWalk_12 : decode cX0_nextOfWalk 12 = .ok (.aload_n 0, 1) := by decide +kernel
theorem dX0_nextOfWalk_13 : decode cX0_nextOfWalk 13 = .ok (.getfield 27, 3) := by decide +kernel
theorem dX0_nextOfWalk_16 : decode cX0_nextOfWalk 16 = .ok (.ifnull 8, 3) := by decide +kernel
theorem dX0_nextOfWalk_19 : decode cX0_nextOfWalk 19 = .ok (.aload_n 0, 1) := by decide +kernel
theorem dX0_nextOfWalk_20 : decode cX0_nextOfWalk 20 = .ok (.getfield 27, 3) := by decide +kernel
theorem dX0_nextOfWalk_23 : decode cX0_nextOfWalk 23 = .ok (.areturn, 1) := by decide +kernel
theorem dX0_nextOfWalk_24 : decode cX0_nextOfWalk 24 = .ok (.aload_n 0, 1) := by decide +kernel
theorem dX0_nextOfWalk_25 : decode cX0_nextOfWalk 25 = .ok (.astore_n 1, 1) := by decide +kernel
theorem dX0_nextOfWalk_26 : decode cX0_nextOfWalk 26 = .ok (.aload_n 1, 1) := by decide +kernel
theorem dX0_nextOfWalk_27 : decode cX0_nextOfWalk 27 = .ok (.getfield 16, 3) := by decide +kernel
theorem dX0_nextOfWalk_30 : decode cX0_nextOfWalk 30 = .ok (.ifnull 36, 3) := by decide +kernel
theorem dX0_nextOfWalk_33 : decode cX0_nextOfWalk 33 = .ok (.aload_n 1, 1) := by decide +kernel
theorem dX0_nextOfWalk_34 : decode cX0_nextOfWalk 34 = .ok (.invokevirtual 37, 3) := by decide +kernel
theorem dX0_nextOfWalk_37 : decode cX0_nextOfWalk 37 = .ok (.ifCond .eq 21, 3) := by decide +kernel
theorem dX0_nextOfWalk_40 : decode cX0_nextOfWalk 40 = .ok (.aload_n 1, 1) := by decide +kernel
theorem dX0_nextOfWalk_41 : decode cX0_nextOfWalk 41 = .ok (.getfield 16, 3) := by decide +kernel
theorem dX0_nextOfWalk_44 : decode cX0_nextOfWalk 44 = .ok (.getfield 27, 3) := by decide +kernel
theorem dX0_nextOfWalk_47 : decode cX0_nextOfWalk 47 = .ok (.ifnull 11, 3) := by decide +kernel
theorem dX0_nextOfWalk_50 : decode cX0_nextOfWalk 50 = .ok (.aload_n 1, 1) := by decide +kernel
theorem dX0_nextOfWalk_51 : decode cX0_nextOfWalk 51 = .ok (.getfield 16, 3) := by decide +kernel
theorem dX0_nextOfWalk_54 : decode cX0_nextOfWalk 54 = .ok (.getfield 27, 3) := by decide +kernel
theorem dX0_nextOfWalk_57 : decode cX0_nextOfWalk 57 = .ok (.areturn, 1) := by decide +kernel
theorem dX0_nextOfWalk_58 : decode cX0_nextOfWalk 58 = .ok (.aload_n 1, 1) := by decide +kernel
theorem dX0_nextOfWalk_59 : decode cX0_nextOfWalk 59 = .ok (.getfield 16, 3) := by decide +kernel
theorem dX0_nextOfWalk_62 : decode cX0_nextOfWalk 62 = .ok (.astore_n 1, 1) := by decide +kernel
theorem dX0_nextOfWalk_63 : decode cX0_nextOfWalk 63 = .ok (.goto (-37), 3) := by decide +kernel
theorem dX0_nextOfWalk_66 : decode cX0_nextOfWalk 66 = .ok (.aconst_null, 1) := by decide +kernel
theorem dX0_nextOfWalk_67 : decode cX0_nextOfWalk 67 = .ok (.areturn, 1) := by decide +kernel
theorem dX1_init_0 : decode cX1_init 0 = .ok (.aload_n 0, 1) := by decide +kernel
theorem dX1_init_1 : decode cX1_init 1 = .ok (.invokespecial 3, 3) := by decide +kernel
theorem dX1_init_4 : decode cX1_init 4 = .ok (.aload_n 0, 1) := by decide +kernel
theorem dX1_init_5 : decode cX1_init 5 = .ok (.bipush 60, 2) := by decide +kernel
theorem dX1_init_7 : decode cX1_init 7 = .ok (.newarray .int, 2) := by decide +kernel
theorem dX1_init_9 : decode cX1_init 9 = .ok (.putfield 9, 3) := by decide +kernel
theorem dX1_init_12 : decode cX1_init 12 = .ok (.return_, 1) := by decide +kernel
theorem dX1_valueAt_0 : decode cX1_valueAt 0 = .ok (.iload_n 1, 1) := by decide +kernel
theorem dX1_valueAt_1 : decode cX1_valueAt 1 = .ok (.ifCond .lt 20, 3) := by decide +kernel
theorem dX1_valueAt_4 : decode cX1_valueAt 4 = .ok (.iload_n 1, 1) := by decide +kernel
theorem dX1_valueAt_5 : decode cX1_valueAt 5 = .ok (.aload_n 0, 1) := by decide +kernel
theorem dX1_valueAt_6 : decode cX1_valueAt 6 = .ok (.getfield 15, 3) := by decide +kernel
theorem dX1_valueAt_9 : decode cX1_valueAt 9 = .ok (.if_icmp .ge 12, 3) := by decide +kernel
theorem dX1_valueAt_12 : decode cX1_valueAt 12 = .ok (.aload_n 0, 1) := by decide +kernel
theorem dX1_valueAt_13 : decode cX1_valueAt 13 = .ok (.getfield 9, 3) := by decide +kernel
theorem dX1_valueAt_16 : decode cX1_valueAt 16 = .ok (.iload_n 1, 1) := by decide +kernel
theorem dX1_valueAt_17 : decode cX1_valueAt 17 = .ok (.iaload, 1) := by decide +kernel
theorem dX1_valueAt_18 : decode cX1_valueAt 18 = .ok (.goto 4, 3) := by decide +kernel
theorem dX1_valueAt_21 : decode cX1_valueAt 21 = .ok (.iconst 0, 1) := by decide +kernel
theorem dX1_valueAt_22 : decode cX1_valueAt 22 = .ok (.ireturn, 1) := by decide +kernel
theorem dX1_replace_0 : decode cX1_replace 0 = .ok (.iload_n 1, 1) := by decide +kernel
theorem dX1_replace_1 : decode cX1_replace 1 = .ok (.ifCond .lt 18, 3) := by decide +kernel
theorem dX1_replace_4 : decode cX1_replace 4 = .ok (.iload_n 1, 1) := by decide +kernel
theorem dX1_replace_5 : decode cX1_replace 5 = .ok (.aload_n 0, 1) := by decide +kernel
theorem dX1_replace_6 : decode cX1_replace 6 = .ok (.getfield 15, 3) := by decide +kernel
theorem dX1_replace_9 : decode cX1_replace 9 = .ok (.if_icmp .ge 10, 3) := by decide +kernel
theorem dX1_replace_12 : decode cX1_replace 12 = .ok (.aload_n 0, 1) := by decide +kernel
theorem dX1_replace_13 : decode cX1_replace 13 = .ok (.getfield 9, 3) := by decide +kernel
theorem dX1_replace_16 : decode cX1_replace 16 = .ok (.iload_n 1, 1) := by decide +kernel
theorem dX1_replace_17 : decode cX1_replace 17 = .ok (.iload_n 2, 1) := by decide +kernel
theorem dX1_replace_18 : decode cX1_replace 18 = .ok (.iastore, 1) := by decide +kernel
theorem dX1_replace_19 : decode cX1_replace 19 = .ok (.return_, 1) := by decide +kernel
theorem dX1_open_0 : decode cX1_open 0 = .ok (.iload_n 1, 1) := by decide +kernel
theorem dX1_open_1 : decode cX1_open 1 = .ok (.ifCond .lt 23, 3) := by decide +kernel
theorem dX1_open_4 : decode cX1_open 4 = .ok (.iload_n 1, 1) := by decide +kernel
theorem dX1_open_5 : decode cX1_open 5 = .ok (.aload_n 0, 1) := by decide +kernel
theorem dX1_open_6 : decode cX1_open 6 = .ok (.getfield 15, 3) := by decide +kernel
theorem dX1_open_9 : decode cX1_open 9 = .ok (.if_icmp .gt 15, 3) := by decide +kernel
theorem dX1_open_12 : decode cX1_open 12 = .ok (.aload_n 0, 1) := by decide +kernel
theorem dX1_open_13 : decode cX1_open 13 = .ok (.getfield 15, 3) := by decide +kernel
theorem dX1_open_16 : decode cX1_open 16 = .ok (.aload_n 0, 1) := by decide +kernel
theorem dX1_open_17 : decode cX1_open 17 = .ok (.getfield 9, 3) := by decide +kernel
theorem dX1_open_20 : decode cX1_open 20 = .ok (.arraylength, 1) := by decide +kernel
theorem dX1_open_21 : decode cX1_open 21 = .ok (.if_icmp .lt 4, 3) := by decide +kernel
theorem dX1_open_24 : decode cX1_open 24 = .ok (.return_, 1) := by decide +kernel
theorem dX1_open_25 : decode cX1_open 25 = .ok (.aload_n 0, 1) := by decide +kernel
theorem dX1_open_26 : decode cX1_open 26 = .ok (.getfield 9, 3) := by decide +kernel
theorem dX1_open_29 : decode cX1_open 29 = .ok (.iload_n 1, 1) := by decide +kernel
theorem dX1_open_30 : decode cX1_open 30 = .ok (.aload_n 0, 1) := by decide +kernel
theorem dX1_open_31 : decode cX1_open 31 = .ok (.getfield 9, 3) := by decide +kernel
theorem dX1_open_34 : decode cX1_open 34 = .ok (.iload_n 1, 1) := by decide +kernel
theorem dX1_open_35 : decode cX1_open 35 = .ok (.iconst 1, 1) := by decide +kernel
theorem dX1_open_36 : decode cX1_open 36 = .ok (.iadd, 1) := by decide +kernel
theorem dX1_open_37 : decode cX1_open 37 = .ok (.aload_n 0, 1) := by decide +kernel
theorem dX1_open_38 : decode cX1_open 38 = .ok (.getfield 15, 3) := by decide +kernel
theorem dX1_open_41 : decode cX1_open 41 = .ok (.iload_n 1, 1) := by decide +kernel
theorem dX1_open_42 : decode cX1_open 42 = .ok (.isub, 1) := by decide +kernel
theorem dX1_open_43 : decode cX1_open 43 = .ok (.invokestatic 19, 3) := by decide +kernel
theorem dX1_open_46 : decode cX1_open 46 = .ok (.aload_n 0, 1) := by decide +kernel
theorem dX1_open_47 : decode cX1_open 47 = .ok (.getfield 9, 3) := by decide +kernel
theorem dX1_open_50 : decode cX1_open 50 = .ok (.iload_n 1, 1) := by decide +kernel
theorem dX1_open_51 : decode cX1_open 51 = .ok (.iload_n 2, 1) := by decide +kernel
theorem dX1_open_52 : decode cX1_open 52 = .ok (.iastore, 1) := by decide +kernel
theorem dX1_open_53 : decode cX1_open 53 = .ok (.aload_n 0, 1) := by decide +kernel
theorem dX1_open_54 : decode cX1_open 54 = .ok (.dup, 1) := by decide +kernel
theorem dX1_open_55 : decode cX1_open 55 = .ok (.getfield 15, 3) := by decide +kernel
theorem dX1_open_58 : decode cX1_open 58 = .ok (.iconst 1, 1) := by decide +kernel
theorem dX1_open_59 : decode cX1_open 59 = .ok (.iadd, 1) := by decide +kernel
theorem dX1_open_60 : decode cX1_open 60 = .ok (.putfield 15, 3) := by decide +kernel
theorem dX1_open_63 : decode cX1_open 63 = .ok (.return_, 1) := by decide +kernel
theorem dX1_close_0 : decode cX1_close 0 = .ok (.iload_n 1, 1) := by decide +kernel
theorem dX1_close_1 : decode cX1_close 1 = .ok (.ifCond .lt 44, 3) := by decide +kernel
theorem dX1_close_4 : decode cX1_close 4 = .ok (.iload_n 1, 1) := by decide +kernel
theorem dX1_close_5 : decode cX1_close 5 = .ok (.aload_n 0, 1) := by decide +kernel
theorem dX1_close_6 : decode cX1_close 6 = .ok (.getfield 15, 3) := by decide +kernel
theorem dX1_close_9 : decode cX1_close 9 = .ok (.if_icmp .ge 36, 3) := by decide +kernel
theorem dX1_close_12 : decode cX1_close 12 = .ok (.aload_n 0, 1) := by decide +kernel
theorem dX1_close_13 : decode cX1_close 13 = .ok (.getfield 9, 3) := by decide +kernel
theorem dX1_close_16 : decode cX1_close 16 = .ok (.iload_n 1, 1) := by decide +kernel
theorem dX1_close_17 : decode cX1_close 17 = .ok (.iconst 1, 1) := by decide +kernel
theorem dX1_close_18 : decode cX1_close 18 = .ok (.iadd, 1) := by decide +kernel
theorem dX1_close_19 : decode cX1_close 19 = .ok (.aload_n 0, 1) := by decide +kernel
theorem dX1_close_20 : decode cX1_close 20 = .ok (.getfield 9, 3) := by decide +kernel
theorem dX1_close_23 : decode cX1_close 23 = .ok (.iload_n 1, 1) := by decide +kernel
theorem dX1_close_24 : decode cX1_close 24 = .ok (.aload_n 0, 1) := by decide +kernel
theorem dX1_close_25 : decode cX1_close 25 = .ok (.getfield 15, 3) := by decide +kernel
theorem dX1_close_28 : decode cX1_close 28 = .ok (.iload_n 1, 1) := by decide +kernel
theorem dX1_close_29 : decode cX1_close 29 = .ok (.isub, 1) := by decide +kernel
theorem dX1_close_30 : decode cX1_close 30 = .ok (.iconst 1, 1) := by decide +kernel
theorem dX1_close_31 : decode cX1_close 31 = .ok (.isub, 1) := by decide +kernel
theorem dX1_close_32 : decode cX1_close 32 = .ok (.invokestatic 19, 3) := by decide +kernel
theorem dX1_close_35 : decode cX1_close 35 = .ok (.aload_n 0, 1) := by decide +kernel
theorem dX1_close_36 : decode cX1_close 36 = .ok (.dup, 1) := by decide +kernel
theorem dX1_close_37 : decode cX1_close 37 = .ok (.getfield 15, 3) := by decide +kernel
theorem dX1_close_40 : decode cX1_close 40 = .ok (.iconst 1, 1) := by decide +kernel
theorem dX1_close_41 : decode cX1_close 41 = .ok (.isub, 1) := by decide +kernel
theorem dX1_close_42 : decode cX1_close 42 = .ok (.putfield 15, 3) := by decide +kernel
theorem dX1_close_45 : decode cX1_close 45 = .ok (.return_, 1) := by decide +kernel
theorem dX1_turnRound_0 : decode cX1_turnRound 0 = .ok (.aload_n 0, 1) := by decide +kernel
theorem dX1_turnRound_1 : decode cX1_turnRound 1 = .ok (.iload_n 1, 1) := by decide +kernel
theorem dX1_turnRound_2 : decode cX1_turnRound 2 = .ok (.iload_n 2, 1) := by decide +kernel
theorem dX1_turnRound_3 : decode cX1_turnRound 3 = .ok (.invokevirtual 25, 3) := by decide +kernel
theorem dX1_turnRound_6 : decode cX1_turnRound 6 = .ok (.ifCond .ne 4, 3) := by decide +kernel
theorem dX1_turnRound_9 : decode cX1_turnRound 9 = .ok (.return_, 1) := by decide +kernel
theorem dX1_turnRound_10 : decode cX1_turnRound 10 = .ok (.iload_n 1, 1) := by decide +kernel
theorem dX1_turnRound_11 : decode cX1_turnRound 11 = .ok (.istore_n 3, 1) := by decide +kernel
theorem dX1_turnRound_12 : decode cX1_turnRound 12 = .ok (.iload_n 2, 1) := by decide +kernel
theorem dX1_turnRound_13 : decode cX1_turnRound 13 = .ok (.iconst 1, 1) := by decide +kernel
theorem dX1_turnRound_14 : decode cX1_turnRound 14 = .ok (.isub, 1) := by decide +kernel
theorem dX1_turnRound_15 : decode cX1_turnRound 15 = .ok (.istore 4, 2) := by decide +kernel
theorem dX1_turnRound_17 : decode cX1_turnRound 17 = .ok (.iload_n 3, 1) := by decide +kernel
theorem dX1_turnRound_18 : decode cX1_turnRound 18 = .ok (.iload 4, 2) := by decide +kernel
theorem dX1_turnRound_20 : decode cX1_turnRound 20 = .ok (.if_icmp .ge 42, 3) := by decide +kernel
theorem dX1_turnRound_23 : decode cX1_turnRound 23 = .ok (.aload_n 0, 1) := by decide +kernel
theorem dX1_turnRound_24 : decode cX1_turnRound 24 = .ok (.getfield 9, 3) := by decide +kernel
theorem dX1_turnRound_27 : decode cX1_turnRound 27 = .ok (.iload_n 3, 1) := by decide +kernel
theorem dX1_turnRound_28 : decode cX1_turnRound 28 = .ok (.iaload, 1) := by decide +kernel
theorem dX1_turnRound_29 : decode cX1_turnRound 29 = .ok (.istore 5, 2) := by decide +kernel
theorem dX1_turnRound_31 : decode cX1_turnRound 31 = .ok (.aload_n 0, 1) := by decide +kernel
theorem dX1_turnRound_32 : decode cX1_turnRound 32 = .ok (.getfield 9, 3) := by decide +kernel
theorem dX1_turnRound_35 : decode cX1_turnRound 35 = .ok (.iload_n 3, 1) := by decide +kernel
theorem dX1_turnRound_36 : decode cX1_turnRound 36 = .ok (.aload_n 0, 1) := by decide +kernel
theorem dX1_turnRound_37 : decode cX1_turnRound 37 = .ok (.getfield 9, 3) := by decide +kernel
theorem dX1_turnRound_40 : decode cX1_turnRound 40 = .ok (.iload 4, 2) := by decide +kernel
theorem dX1_turnRound_42 : decode cX1_turnRound 42 = .ok (.iaload, 1) := by decide +kernel
theorem dX1_turnRound_43 : decode cX1_turnRound 43 = .ok (.iastore, 1) := by decide +kernel
theorem dX1_turnRound_44 : decode cX1_turnRound 44 = .ok (.aload_n 0, 1) := by decide +kernel
theorem dX1_turnRound_45 : decode cX1_turnRound 45 = .ok (.getfield 9, 3) := by decide +kernel
theorem dX1_turnRound_48 : decode cX1_turnRound 48 = .ok (.iload 4, 2) := by decide +kernel
theorem dX1_turnRound_50 : decode cX1_turnRound 50 = .ok (.iload 5, 2) := by decide +kernel
theorem dX1_turnRound_52 : decode cX1_turnRound 52 = .ok (.iastore, 1) := by decide +kernel
theorem dX1_turnRound_53 : decode cX1_turnRound 53 = .ok (.iinc 3 1, 3) := by decide +kernel
theorem dX1_turnRound_56 : decode cX1_turnRound 56 = .ok (.iinc 4 (-1), 3) := by decide +kernel
theorem dX1_turnRound_59 : decode cX1_turnRound 59 = .ok (.goto (-42), 3) := by decide +kernel
theorem dX1_turnRound_62 : decode cX1_turnRound 62 = .ok (.return_, 1) := by decide +kernel
theorem dX1_addToAll_0 : decode cX1_addToAll 0 = .ok (.aload_n 0, 1) := by decide +kernel
theorem dX1_addToAll_1 : decode cX1_addToAll 1 = .ok (.iload_n 1, 1) := by decide +kernel
theorem dX1_addToAll_2 : decode cX1_addToAll 2 = .ok (.iload_n 2, 1) := by decide +kernel
theorem dX1_addToAll_3 : decode cX1_addToAll 3 = .ok (.invokevirtual 25, 3) := by decide +kernel
theorem dX1_addToAll_6 : decode cX1_addToAll 6 = .ok (.ifCond .ne 4, 3) := by decide +kernel
theorem dX1_addToAll_9 : decode cX1_addToAll 9 = .ok (.return_, 1) := by decide +kernel
theorem dX1_addToAll_10 : decode cX1_addToAll 10 = .ok (.iload_n 1, 1) := by decide +kernel
theorem dX1_addToAll_11 : decode cX1_addToAll 11 = .ok (.istore 4, 2) := by decide +kernel
theorem dX1_addToAll_13 : decode cX1_addToAll 13 = .ok (.iload 4, 2) := by decide +kernel
theorem dX1_addToAll_15 : decode cX1_addToAll 15 = .ok (.iload_n 2, 1) := by decide +kernel
theorem dX1_addToAll_16 : decode cX1_addToAll 16 = .ok (.if_icmp .ge 20, 3) := by decide +kernel
theorem dX1_addToAll_19 : decode cX1_addToAll 19 = .ok (.aload_n 0, 1) := by decide +kernel
theorem dX1_addToAll_20 : decode cX1_addToAll 20 = .ok (.getfield 9, 3) := by decide +kernel
theorem dX1_addToAll_23 : decode cX1_addToAll 23 = .ok (.iload 4, 2) := by decide +kernel
theorem dX1_addToAll_25 : decode cX1_addToAll 25 = .ok (.dup2, 1) := by decide +kernel
theorem dX1_addToAll_26 : decode cX1_addToAll 26 = .ok (.iaload, 1) := by decide +kernel
theorem dX1_addToAll_27 : decode cX1_addToAll 27 = .ok (.iload_n 3, 1) := by decide +kernel
theorem dX1_addToAll_28 : decode cX1_addToAll 28 = .ok (.iadd, 1) := by decide +kernel
theorem dX1_addToAll_29 : decode cX1_addToAll 29 = .ok (.iastore, 1) := by decide +kernel
theorem dX1_addToAll_30 : decode cX1_addToAll 30 = .ok (.iinc 4 1, 3) := by decide +kernel
theorem dX1_addToAll_33 : decode cX1_addToAll 33 = .ok (.goto (-20), 3) := by decide +kernel
theorem dX1_addToAll_36 : decode cX1_addToAll 36 = .ok (.return_, 1) := by decide +kernel
theorem dX1_total_0 : decode cX1_total 0 = .ok (.aload_n 0, 1) := by decide +kernel
theorem dX1_total_1 : decode cX1_total 1 = .ok (.iload_n 1, 1) := by decide +kernel
theorem dX1_total_2 : decode cX1_total 2 = .ok (.iload_n 2, 1) := by decide +kernel
theorem dX1_total_3 : decode cX1_total 3 = .ok (.invokevirtual 25, 3) := by decide +kernel
theorem dX1_total_6 : decode cX1_total 6 = .ok (.ifCond .ne 5, 3) := by decide +kernel
theorem dX1_total_9 : decode cX1_total 9 = .ok (.iconst 0, 1) := by decide +kernel
theorem dX1_total_10 : decode cX1_total 10 = .ok (.ireturn, 1) := by decide +kernel
theorem dX1_total_11 : decode cX1_total 11 = .ok (.iconst 0, 1) := by decide +kernel
theorem dX1_total_12 : decode cX1_total 12 = .ok (.istore_n 3, 1) := by decide +kernel
theorem dX1_total_13 : decode cX1_total 13 = .ok (.iload_n 1, 1) := by decide +kernel
theorem dX1_total_14 : decode cX1_total 14 = .ok (.istore 4, 2) := by decide +kernel
theorem dX1_total_16 : decode cX1_total 16 = .ok (.iload 4, 2) := by decide +kernel
theorem dX1_total_18 : decode cX1_total 18 = .ok (.iload_n 2, 1) := by decide +kernel
theorem dX1_total_19 : decode cX1_total 19 = .ok (.if_icmp .ge 19, 3) := by decide +kernel
theorem dX1_total_22 : decode cX1_total 22 = .ok (.iload_n 3, 1) := by decide +kernel
theorem dX1_total_23 : decode cX1_total 23 = .ok (.aload_n 0, 1) := by decide +kernel
theorem dX1_total_24 : decode cX1_total 24 = .ok (.getfield 9, 3) := by decide +kernel
theorem dX1_total_27 : decode cX1_total 27 = .ok (.iload 4, 2) := by decide +kernel
theorem dX1_total_29 : decode cX1_total 29 = .ok (.iaload, 1) := by decide +kernel
theorem dX1_total_30 : decode cX1_total 30 = .ok (.iadd, 1) := by decide +kernel
theorem dX1_total_31 : decode cX1_total 31 = .ok (.istore_n 3, 1) := by decide +kernel
theorem dX1_total_32 : decode cX1_total 32 = .ok (.iinc 4 1, 3) := by decide +kernel
theorem dX1_total_35 : decode cX1_total 35 = .ok (.goto (-19), 3) := by decide +kernel
theorem dX1_total_38 : decode cX1_total 38 = .ok (.iload_n 3, 1) := by decide +kernel
theorem dX1_total_39 : decode cX1_total 39 = .ok (.ireturn, 1) := by decide +kernel
theorem dX1_moveOut_0 : decode cX1_moveOut 0 = .ok (.aload_n 0, 1) := by decide +kernel
theorem dX1_moveOut_1 : decode cX1_moveOut 1 = .ok (.iload_n 1, 1) := by decide +kernel
theorem dX1_moveOut_2 : decode cX1_moveOut 2 = .ok (.iload_n 2, 1) := by decide +kernel
theorem dX1_moveOut_3 : decode cX1_moveOut 3 = .ok (.invokevirtual 25, 3) := by decide +kernel
theorem dX1_moveOut_6 : decode cX1_moveOut 6 = .ok (.ifCond .ne 4, 3) := by decide +kernel
theorem dX1_moveOut_9 : decode cX1_moveOut 9 = .ok (.return_, 1) := by decide +kernel
theorem dX1_moveOut_10 : decode cX1_moveOut 10 = .ok (.aload_n 0, 1) := by decide +kernel
theorem dX1_moveOut_11 : decode cX1_moveOut 11 = .ok (.getfield 9, 3) := by decide +kernel
theorem dX1_moveOut_14 : decode cX1_moveOut 14 = .ok (.iload_n 1, 1) := by decide +kernel
theorem dX1_moveOut_15 : decode cX1_moveOut 15 = .ok (.aload_n 3, 1) := by decide +kernel
theorem dX1_moveOut_16 : decode cX1_moveOut 16 = .ok (.getfield 9, 3) := by decide +kernel
theorem dX1_moveOut_19 : decode cX1_moveOut 19 = .ok (.iconst 0, 1) := by decide +kernel
theorem dX1_moveOut_20 : decode cX1_moveOut 20 = .ok (.iload_n 2, 1) := by decide +kernel
theorem dX1_moveOut_21 : decode cX1_moveOut 21 = .ok (.iload_n 1, 1) := by decide +kernel
theorem dX1_moveOut_22 : decode cX1_moveOut 22 = .ok (.isub, 1) := by decide +kernel
theorem dX1_moveOut_23 : decode cX1_moveOut 23 = .ok (.invokestatic 19, 3) := by decide +kernel
theorem dX1_moveOut_26 : decode cX1_moveOut 26 = .ok (.aload_n 0, 1) := by decide +kernel
theorem dX1_moveOut_27 : decode cX1_moveOut 27 = .ok (.getfield 9, 3) := by decide +kernel
theorem dX1_moveOut_30 : decode cX1_moveOut 30 = .ok (.iload_n 2, 1) := by decide +kernel
theorem dX1_moveOut_31 : decode cX1_moveOut 31 = .ok (.aload_n 0, 1) := by decide +kernel
theorem dX1_moveOut_32 : decode cX1_moveOut 32 = .ok (.getfield 9, 3) := by decide +kernel
theorem dX1_moveOut_35 : decode cX1_moveOut 35 = .ok (.iload_n 1, 1) := by decide +kernel
theorem dX1_moveOut_36 : decode cX1_moveOut 36 = .ok (.aload_n 0, 1) := by decide +kernel
theorem dX1_moveOut_37 : decode cX1_moveOut 37 = .ok (.getfield 15, 3) := by decide +kernel
theorem dX1_moveOut_40 : decode cX1_moveOut 40 = .ok (.iload_n 2, 1) := by decide +kernel
theorem dX1_moveOut_41 : decode cX1_moveOut 41 = .ok (.isub, 1) := by decide +kernel
theorem dX1_moveOut_42 : decode cX1_moveOut 42 = .ok (.invokestatic 19, 3) := by decide +kernel
theorem dX1_moveOut_45 : decode cX1_moveOut 45 = .ok (.aload_n 3, 1) := by decide +kernel
theorem dX1_moveOut_46 : decode cX1_moveOut 46 = .ok (.iload_n 2, 1) := by decide +kernel
theorem dX1_moveOut_47 : decode cX1_moveOut 47 = .ok (.iload_n 1, 1) := by decide +kernel
theorem dX1_moveOut_48 : decode cX1_moveOut 48 = .ok (.isub, 1) := by decide +kernel
theorem dX1_moveOut_49 : decode cX1_moveOut 49 = .ok (.putfield 15, 3) := by decide +kernel
theorem dX1_moveOut_52 : decode cX1_moveOut 52 = .ok (.aload_n 0, 1) := by decide +kernel
theorem dX1_moveOut_53 : decode cX1_moveOut 53 = .ok (.dup, 1) := by decide +kernel
theorem dX1_moveOut_54 : decode cX1_moveOut 54 = .ok (.getfield 15, 3) := by decide +kernel
theorem dX1_moveOut_57 : decode cX1_moveOut 57 = .ok (.iload_n 2, 1) := by decide +kernel
theorem dX1_moveOut_58 : decode cX1_moveOut 58 = .ok (.iload_n 1, 1) := by decide +kernel
theorem dX1_moveOut_59 : decode cX1_moveOut 59 = .ok (.isub, 1) := by decide +kernel
theorem dX1_moveOut_60 : decode cX1_moveOut 60 = .ok (.isub, 1) := by decide +kernel
theorem dX1_moveOut_61 : decode cX1_moveOut 61 = .ok (.putfield 15, 3) := by decide +kernel
theorem dX1_moveOut_64 : decode cX1_moveOut 64 = .ok (.return_, 1) := by decide +kernel
theorem dX1_moveIn_0 : decode cX1_moveIn 0 = .ok (.iload_n 1, 1) := by decide +kernel
theorem dX1_moveIn_1 : decode cX1_moveIn 1 = .ok (.ifCond .lt 28, 3) := by decide +kernel
theorem dX1_moveIn_4 : decode cX1_moveIn 4 = .ok (.iload_n 1, 1) := by decide +kernel
theorem dX1_moveIn_5 : decode cX1_moveIn 5 = .ok (.aload_n 0, 1) := by decide +kernel
theorem dX1_moveIn_6 : decode cX1_moveIn 6 = .ok (.getfield 15, 3) := by decide +kernel
theorem dX1_moveIn_9 : decode cX1_moveIn 9 = .ok (.if_icmp .gt 20, 3) := by decide +kernel
theorem dX1_moveIn_12 : decode cX1_moveIn 12 = .ok (.aload_n 2, 1) := by decide +kernel
theorem dX1_moveIn_13 : decode cX1_moveIn 13 = .ok (.getfield 15, 3) := by decide +kernel
theorem dX1_moveIn_16 : decode cX1_moveIn 16 = .ok (.aload_n 0, 1) := by decide +kernel
theorem dX1_moveIn_17 : decode cX1_moveIn 17 = .ok (.getfield 9, 3) := by decide +kernel
theorem dX1_moveIn_20 : decode cX1_moveIn 20 = .ok (.arraylength, 1) := by decide +kernel
theorem dX1_moveIn_21 : decode cX1_moveIn 21 = .ok (.aload_n 0, 1) := by decide +kernel
theorem dX1_moveIn_22 : decode cX1_moveIn 22 = .ok (.getfield 15, 3) := by decide +kernel
theorem dX1_moveIn_25 : decode cX1_moveIn 25 = .ok (.isub, 1) := by decide +kernel
theorem dX1_moveIn_26 : decode cX1_moveIn 26 = .ok (.if_icmp .le 4, 3) := by decide +kernel
theorem dX1_moveIn_29 : decode cX1_moveIn 29 = .ok (.return_, 1) := by decide +kernel
theorem dX1_moveIn_30 : decode cX1_moveIn 30 = .ok (.aload_n 0, 1) := by decide +kernel
theorem dX1_moveIn_31 : decode cX1_moveIn 31 = .ok (.getfield 9, 3) := by decide +kernel
theorem dX1_moveIn_34 : decode cX1_moveIn 34 = .ok (.iload_n 1, 1) := by decide +kernel
theorem dX1_moveIn_35 : decode cX1_moveIn 35 = .ok (.aload_n 0, 1) := by decide +kernel
theorem dX1_moveIn_36 : decode cX1_moveIn 36 = .ok (.getfield 9, 3) := by decide +kernel
theorem dX1_moveIn_39 : decode cX1_moveIn 39 = .ok (.iload_n 1, 1) := by decide +kernel
theorem dX1_moveIn_40 : decode cX1_moveIn 40 = .ok (.aload_n 2, 1) := by decide +kernel
theorem dX1_moveIn_41 : decode cX1_moveIn 41 = .ok (.getfield 15, 3) := by decide +kernel
theorem dX1_moveIn_44 : decode cX1_moveIn 44 = .ok (.iadd, 1) := by decide +kernel
theorem dX1_moveIn_45 : decode cX1_moveIn 45 = .ok (.aload_n 0, 1) := by decide +kernel
theorem dX1_moveIn_46 : decode cX1_moveIn 46 = .ok (.getfield 15, 3) := by decide +kernel
theorem dX1_moveIn_49 : decode cX1_moveIn 49 = .ok (.iload_n 1, 1) := by decide +kernel
theorem dX1_moveIn_50 : decode cX1_moveIn 50 = .ok (.isub, 1) := by decide +kernel
theorem dX1_moveIn_51 : decode cX1_moveIn 51 = .ok (.invokestatic 19, 3) := by decide +kernel
theorem dX1_moveIn_54 : decode cX1_moveIn 54 = .ok (.aload_n 2, 1) := by decide +kernel
theorem dX1_moveIn_55 : decode cX1_moveIn 55 = .ok (.getfield 9, 3) := by decide +kernel
theorem dX1_moveIn_58 : decode cX1_moveIn 58 = .ok (.iconst 0, 1) := by decide +kernel
theorem dX1_moveIn_59 : decode cX1_moveIn 59 = .ok (.aload_n 0, 1) := by decide +kernel
theorem dX1_moveIn_60 : decode cX1_moveIn 60 = .ok (.getfield 9, 3) := by decide +kernel
theorem dX1_moveIn_63 : decode cX1_moveIn 63 = .ok (.iload_n 1, 1) := by decide +kernel
theorem dX1_moveIn_64 : decode cX1_moveIn 64 = .ok (.aload_n 2, 1) := by decide +kernel
theorem dX1_moveIn_65 : decode cX1_moveIn 65 = .ok (.getfield 15, 3) := by decide +kernel
theorem dX1_moveIn_68 : decode cX1_moveIn 68 = .ok (.invokestatic 19, 3) := by decide +kernel
theorem dX1_moveIn_71 : decode cX1_moveIn 71 = .ok (.aload_n 0, 1) := by decide +kernel
theorem dX1_moveIn_72 : decode cX1_moveIn 72 = .ok (.dup, 1) := by decide +kernel
theorem dX1_moveIn_73 : decode cX1_moveIn 73 = .ok (.getfield 15, 3) := by decide +kernel
theorem dX1_moveIn_76 : decode cX1_moveIn 76 = .ok (.aload_n 2, 1) := by decide +kernel
theorem dX1_moveIn_77 : decode cX1_moveIn 77 = .ok (.getfield 15, 3) := by decide +kernel
theorem dX1_moveIn_80 : decode cX1_moveIn 80 = .ok (.iadd, 1) := by decide +kernel
theorem dX1_moveIn_81 : decode cX1_moveIn 81 = .ok (.putfield 15, 3) := by decide +kernel
theorem dX1_moveIn_84 : decode cX1_moveIn 84 = .ok (.aload_n 2, 1) := by decide +kernel
theorem dX1_moveIn_85 : decode cX1_moveIn 85 = .ok (.iconst 0, 1) := by decide +kernel
theorem dX1_moveIn_86 : decode cX1_moveIn 86 = .ok (.putfield 15, 3) := by decide +kernel
theorem dX1_moveIn_89 : decode cX1_moveIn 89 = .ok (.return_, 1) := by decide +kernel
theorem dX1_hasRange_0 : decode cX1_hasRange 0 = .ok (.iload_n 1, 1) := by decide +kernel
theorem dX1_hasRange_1 : decode cX1_hasRange 1 = .ok (.ifCond .lt 20, 3) := by decide +kernel
theorem dX1_hasRange_4 : decode cX1_hasRange 4 = .ok (.iload_n 1, 1) := by decide +kernel
theorem dX1_hasRange_5 : decode cX1_hasRange 5 = .ok (.iload_n 2, 1) := by decide +kernel
theorem dX1_hasRange_6 : decode cX1_hasRange 6 = .ok (.if_icmp .gt 15, 3) := by decide +kernel
theorem dX1_hasRange_9 : decode cX1_hasRange 9 = .ok (.iload_n 2, 1) := by decide +kernel
theorem dX1_hasRange_10 : decode cX1_hasRange 10 = .ok (.aload_n 0, 1) := by decide +kernel
theorem dX1_hasRange_11 : decode cX1_hasRange 11 = .ok (.getfield 15, 3) := by decide +kernel
theorem dX1_hasRange_14 : decode cX1_hasRange 14 = .ok (.if_icmp .gt 7, 3) := by decide +kernel
theorem dX1_hasRange_17 : decode cX1_hasRange 17 = .ok (.iconst 1, 1) := by decide +kernel
theorem dX1_hasRange_18 : decode cX1_hasRange 18 = .ok (.goto 4, 3) := by decide +kernel
theorem dX1_hasRange_21 : decode cX1_hasRange 21 = .ok (.iconst 0, 1) := by decide +kernel
theorem dX1_hasRange_22 : decode cX1_hasRange 22 = .ok (.ireturn, 1) := by decide +kernel
theorem dX2_init_0 : decode cX2_init 0 = .ok (.aload_n 0, 1) := by decide +kernel
theorem dX2_init_1 : decode cX2_init 1 = .ok (.invokespecial 3, 3) := by decide +kernel
theorem dX2_init_4 : decode cX2_init 4 = .ok (.return_, 1) := by decide +kernel
theorem dX2_beginCall_0 : decode cX2_beginCall 0 = .ok (.aload_n 0, 1) := by decide +kernel
theorem dX2_beginCall_1 : decode cX2_beginCall 1 = .ok (.iconst 0, 1) := by decide +kernel
theorem dX2_beginCall_2 : decode cX2_beginCall 2 = .ok (.putfield 9, 3) := by decide +kernel
theorem dX2_beginCall_5 : decode cX2_beginCall 5 = .ok (.aload_n 0, 1) := by decide +kernel
theorem dX2_beginCall_6 : decode cX2_beginCall 6 = .ok (.iconst 0, 1) := by decide +kernel
theorem dX2_beginCall_7 : decode cX2_beginCall 7 = .ok (.putfield 15, 3) := by decide +kernel
theorem dX2_beginCall_10 : decode cX2_beginCall 10 = .ok (.return_, 1) := by decide +kernel
theorem dX2_splay_0 : decode cX2_splay 0 = .ok (.aload_n 0, 1) := by decide +kernel
theorem dX2_splay_1 : decode cX2_splay 1 = .ok (.dup, 1) := by decide +kernel
theorem dX2_splay_2 : decode cX2_splay 2 = .ok (.getfield 18, 3) := by decide +kernel
theorem dX2_splay_5 : decode cX2_splay 5 = .ok (.iconst 1, 1) := by decide +kernel
theorem dX2_splay_6 : decode cX2_splay 6 = .ok (.iadd, 1) := by decide +kernel
theorem dX2_splay_7 : decode cX2_splay 7 = .ok (.putfield 18, 3) := by decide +kernel
theorem dX2_splay_10 : decode cX2_splay 10 = .ok (.iconst 0, 1) := by decide +kernel
theorem dX2_splay_11 : decode cX2_splay 11 = .ok (.istore_n 3, 1) := by decide +kernel
theorem dX2_splay_12 : decode cX2_splay 12 = .ok (.iload_n 3, 1) := by decide +kernel
theorem dX2_splay_13 : decode cX2_splay 13 = .ok (.bipush 60, 2) := by decide +kernel
theorem dX2_splay_15 : decode cX2_splay 15 = .ok (.if_icmp .ge 89, 3) := by decide +kernel
theorem dX2_splay_18 : decode cX2_splay 18 = .ok (.aload_n 2, 1) := by decide +kernel
theorem dX2_splay_19 : decode cX2_splay 19 = .ok (.getfield 21, 3) := by decide +kernel
theorem dX2_splay_22 : decode cX2_splay 22 = .ok (.ifnull 82, 3) := by decide +kernel
theorem dX2_splay_25 : decode cX2_splay 25 = .ok (.aload_n 2, 1) := by decide +kernel
theorem dX2_splay_26 : decode cX2_splay 26 = .ok (.getfield 21, 3) := by decide +kernel
theorem dX2_splay_29 : decode cX2_splay 29 = .ok (.astore 4, 2) := by decide +kernel
theorem dX2_splay_31 : decode cX2_splay 31 = .ok (.aload 4, 2) := by decide +kernel
theorem dX2_splay_33 : decode cX2_splay 33 = .ok (.getfield 21, 3) := by decide +kernel
theorem dX2_splay_36 : decode cX2_splay 36 = .ok (.ifnull 37, 3) := by decide +kernel
theorem dX2_splay_39 : decode cX2_splay 39 = .ok (.aload_n 2, 1) := by decide +kernel
theorem dX2_splay_40 : decode cX2_splay 40 = .ok (.invokevirtual 27, 3) := by decide +kernel
theorem dX2_splay_43 : decode cX2_splay 43 = .ok (.aload 4, 2) := by decide +kernel
theorem dX2_splay_45 : decode cX2_splay 45 = .ok (.invokevirtual 27, 3) := by decide +kernel
theorem dX2_splay_48 : decode cX2_splay 48 = .ok (.if_icmp .ne 7, 3) := by decide +kernel
theorem dX2_splay_51 : decode cX2_splay 51 = .ok (.iconst 1, 1) := by decide +kernel
theorem dX2_splay_52 : decode cX2_splay 52 = .ok (.goto 4, 3) := by decide +kernel
theorem dX2_splay_55 : decode cX2_splay 55 = .ok (.iconst 0, 1) := by decide +kernel
theorem dX2_splay_56 : decode cX2_splay 56 = .ok (.istore 5, 2) := by decide +kernel
theorem dX2_splay_58 : decode cX2_splay 58 = .ok (.aload_n 0, 1) := by decide +kernel
theorem dX2_splay_59 : decode cX2_splay 59 = .ok (.iload 5, 2) := by decide +kernel
theorem dX2_splay_61 : decode cX2_splay 61 = .ok (.ifCond .eq 8, 3) := by decide +kernel
theorem dX2_splay_64 : decode cX2_splay 64 = .ok (.aload 4, 2) := by decide +kernel
theorem dX2_splay_66 : decode cX2_splay 66 = .ok (.goto 4, 3) := by decide +kernel
theorem dX2_splay_69 : decode cX2_splay 69 = .ok (.aload_n 2, 1) := by decide +kernel
theorem dX2_splay_70 : decode cX2_splay 70 = .ok (.invokevirtual 31, 3) := by decide +kernel
theorem dX2_splay_73 : decode cX2_splay 73 = .ok (.aload_n 0, 1) := by decide +kernel
theorem dX2_splay_74 : decode cX2_splay 74 = .ok (.aload_n 2, 1) := by decide +kernel
theorem dX2_splay_75 : decode cX2_splay 75 = .ok (.invokevirtual 31, 3) := by decide +kernel
theorem dX2_splay_78 : decode cX2_splay 78 = .ok (.aload_n 0, 1) := by decide +kernel
theorem dX2_splay_79 : decode cX2_splay 79 = .ok (.dup, 1) := by decide +kernel
theorem dX2_splay_80 : decode cX2_splay 80 = .ok (.getfield 9, 3) := by decide +kernel
theorem dX2_splay_83 : decode cX2_splay 83 = .ok (.iconst 1, 1) := by decide +kernel
theorem dX2_splay_84 : decode cX2_splay 84 = .ok (.iadd, 1) := by decide +kernel
theorem dX2_splay_85 : decode cX2_splay 85 = .ok (.putfield 9, 3) := by decide +kernel
theorem dX2_splay_88 : decode cX2_splay 88 = .ok (.aload_n 0, 1) := by decide +kernel
theorem dX2_splay_89 : decode cX2_splay 89 = .ok (.dup, 1) := by decide +kernel
theorem dX2_splay_90 : decode cX2_splay 90 = .ok (.getfield 35, 3) := by decide +kernel
theorem dX2_splay_93 : decode cX2_splay 93 = .ok (.iconst 1, 1) := by decide +kernel
theorem dX2_splay_94 : decode cX2_splay 94 = .ok (.iadd, 1) := by decide +kernel
theorem dX2_splay_95 : decode cX2_splay 95 = .ok (.putfield 35, 3) := by decide +kernel
theorem dX2_splay_98 : decode cX2_splay 98 = .ok (.iinc 3 1, 3) := by decide +kernel
theorem dX2_splay_101 : decode cX2_splay 101 = .ok (.goto (-89), 3) := by decide +kernel
theorem dX2_splay_104 : decode cX2_splay 104 = .ok (.aload_n 1, 1) := by decide +kernel
theorem dX2_splay_105 : decode cX2_splay 105 = .ok (.aload_n 2, 1) := by decide +kernel
theorem dX2_splay_106 : decode cX2_splay 106 = .ok (.putfield 38, 3) := by decide +kernel
theorem dX2_splay_109 : decode cX2_splay 109 = .ok (.return_, 1) := by decide +kernel
theorem dX2_rotate_0 : decode cX2_rotate 0 = .ok (.aload_n 1, 1) := by decide +kernel
theorem dX2_rotate_1 : decode cX2_rotate 1 = .ok (.getfield 21, 3) := by decide +kernel
theorem dX2_rotate_4 : decode cX2_rotate 4 = .ok (.astore_n 2, 1) := by decide +kernel
theorem dX2_rotate_5 : decode cX2_rotate 5 = .ok (.aload_n 2, 1) := by decide +kernel
theorem dX2_rotate_6 : decode cX2_rotate 6 = .ok (.ifnonnull 4, 3) := by decide +kernel
theorem dX2_rotate_9 : decode cX2_rotate 9 = .ok (.return_, 1) := by decide +kernel
theorem dX2_rotate_10 : decode cX2_rotate 10 = .ok (.aload_n 2, 1) := by decide +kernel
theorem dX2_rotate_11 : decode cX2_rotate 11 = .ok (.getfield 21, 3) := by decide +kernel
theorem dX2_rotate_14 : decode cX2_rotate 14 = .ok (.astore_n 3, 1) := by decide +kernel
theorem dX2_rotate_15 : decode cX2_rotate 15 = .ok (.aload_n 2, 1) := by decide +kernel
theorem dX2_rotate_16 : decode cX2_rotate 16 = .ok (.invokevirtual 27, 3) := by decide +kernel
theorem dX2_rotate_19 : decode cX2_rotate 19 = .ok (.istore 4, 2) := by decide +kernel
theorem dX2_rotate_21 : decode cX2_rotate 21 = .ok (.aload_n 1, 1) := by decide +kernel
theorem dX2_rotate_22 : decode cX2_rotate 22 = .ok (.invokevirtual 27, 3) := by decide +kernel
theorem dX2_rotate_25 : decode cX2_rotate 25 = .ok (.ifCond .eq 19, 3) := by decide +kernel
theorem dX2_rotate_28 : decode cX2_rotate 28 = .ok (.aload_n 2, 1) := by decide +kernel
theorem dX2_rotate_29 : decode cX2_rotate 29 = .ok (.aload_n 1, 1) := by decide +kernel
theorem dX2_rotate_30 : decode cX2_rotate 30 = .ok (.getfield 43, 3) := by decide +kernel
theorem dX2_rotate_33 : decode cX2_rotate 33 = .ok (.invokevirtual 46, 3) := by decide +kernel
theorem dX2_rotate_36 : decode cX2_rotate 36 = .ok (.aload_n 1, 1) := by decide +kernel
theorem dX2_rotate_37 : decode cX2_rotate 37 = .ok (.aload_n 2, 1) := by decide +kernel
theorem dX2_rotate_38 : decode cX2_rotate 38 = .ok (.invokevirtual 49, 3) := by decide +kernel
theorem dX2_rotate_41 : decode cX2_rotate 41 = .ok (.goto 16, 3) := by decide +kernel
theorem dX2_rotate_44 : decode cX2_rotate 44 = .ok (.aload_n 2, 1) := by decide +kernel
theorem dX2_rotate_45 : decode cX2_rotate 45 = .ok (.aload_n 1, 1) := by decide +kernel
theorem dX2_rotate_46 : decode cX2_rotate 46 = .ok (.getfield 52, 3) := by decide +kernel
theorem dX2_rotate_49 : decode cX2_rotate 49 = .ok (.invokevirtual 49, 3) := by decide +kernel
theorem dX2_rotate_52 : decode cX2_rotate 52 = .ok (.aload_n 1, 1) := by decide +kernel
theorem dX2_rotate_53 : decode cX2_rotate 53 = .ok (.aload_n 2, 1) := by decide +kernel
theorem dX2_rotate_54 : decode cX2_rotate 54 = .ok (.invokevirtual 46, 3) := by decide +kernel
theorem dX2_rotate_57 : decode cX2_rotate 57 = .ok (.aload_n 1, 1) := by decide +kernel
theorem dX2_rotate_58 : decode cX2_rotate 58 = .ok (.aload_n 3, 1) := by decide +kernel
theorem dX2_rotate_59 : decode cX2_rotate 59 = .ok (.putfield 21, 3) := by decide +kernel
theorem dX2_rotate_62 : decode cX2_rotate 62 = .ok (.aload_n 3, 1) := by decide +kernel
theorem dX2_rotate_63 : decode cX2_rotate 63 = .ok (.ifnull 21, 3) := by decide +kernel
theorem dX2_rotate_66 : decode cX2_rotate 66 = .ok (.iload 4, 2) := by decide +kernel
theorem dX2_rotate_68 : decode cX2_rotate 68 = .ok (.ifCond .eq 11, 3) := by decide +kernel
theorem dX2_rotate_71 : decode cX2_rotate 71 = .ok (.aload_n 3, 1) := by decide +kernel
theorem dX2_rotate_72 : decode cX2_rotate 72 = .ok (.aload_n 1, 1) := by decide +kernel
theorem dX2_rotate_73 : decode cX2_rotate 73 = .ok (.putfield 52, 3) := by decide +kernel
theorem dX2_rotate_76 : decode cX2_rotate 76 = .ok (.goto 8, 3) := by decide +kernel
theorem dX2_rotate_79 : decode cX2_rotate 79 = .ok (.aload_n 3, 1) := by decide +kernel
theorem dX2_rotate_80 : decode cX2_rotate 80 = .ok (.aload_n 1, 1) := by decide +kernel
theorem dX2_rotate_81 : decode cX2_rotate 81 = .ok (.putfield 43, 3) := by decide +kernel
theorem dX2_rotate_84 : decode cX2_rotate 84 = .ok (.aload_n 0, 1) := by decide +kernel
theorem dX2_rotate_85 : decode cX2_rotate 85 = .ok (.dup, 1) := by decide +kernel
theorem dX2_rotate_86 : decode cX2_rotate 86 = .ok (.getfield 15, 3) := by decide +kernel
theorem dX2_rotate_89 : decode cX2_rotate 89 = .ok (.iconst 1, 1) := by decide +kernel
theorem dX2_rotate_90 : decode cX2_rotate 90 = .ok (.iadd, 1) := by decide +kernel
theorem dX2_rotate_91 : decode cX2_rotate 91 = .ok (.putfield 15, 3) := by decide +kernel
theorem dX2_rotate_94 : decode cX2_rotate 94 = .ok (.return_, 1) := by decide +kernel
theorem dX2_split_0 : decode cX2_split 0 = .ok (.aload_n 1, 1) := by decide +kernel
theorem dX2_split_1 : decode cX2_split 1 = .ok (.iload_n 2, 1) := by decide +kernel
theorem dX2_split_2 : decode cX2_split 2 = .ok (.invokevirtual 55, 3) := by decide +kernel
theorem dX2_split_5 : decode cX2_split 5 = .ok (.astore 4, 2) := by decide +kernel
theorem dX2_split_7 : decode cX2_split 7 = .ok (.aload 4, 2) := by decide +kernel
theorem dX2_split_9 : decode cX2_split 9 = .ok (.ifnonnull 11, 3) := by decide +kernel
theorem dX2_split_12 : decode cX2_split 12 = .ok (.aload_n 3, 1) := by decide +kernel
theorem dX2_split_13 : decode cX2_split 13 = .ok (.aconst_null, 1) := by decide +kernel
theorem dX2_split_14 : decode cX2_split 14 = .ok (.putfield 38, 3) := by decide +kernel
theorem dX2_split_17 : decode cX2_split 17 = .ok (.goto 40, 3) := by decide +kernel
theorem dX2_split_20 : decode cX2_split 20 = .ok (.iload_n 2, 1) := by decide +kernel
theorem dX2_split_21 : decode cX2_split 21 = .ok (.ifCond .ne 14, 3) := by decide +kernel
theorem dX2_split_24 : decode cX2_split 24 = .ok (.aload_n 3, 1) := by decide +kernel
theorem dX2_split_25 : decode cX2_split 25 = .ok (.aload_n 1, 1) := by decide +kernel
theorem dX2_split_26 : decode cX2_split 26 = .ok (.invokevirtual 59, 3) := by decide +kernel
theorem dX2_split_29 : decode cX2_split 29 = .ok (.putfield 38, 3) := by decide +kernel
theorem dX2_split_32 : decode cX2_split 32 = .ok (.goto 25, 3) := by decide +kernel
theorem dX2_split_35 : decode cX2_split 35 = .ok (.aload_n 0, 1) := by decide +kernel
theorem dX2_split_36 : decode cX2_split 36 = .ok (.aload_n 1, 1) := by decide +kernel
theorem dX2_split_37 : decode cX2_split 37 = .ok (.aload 4, 2) := by decide +kernel
theorem dX2_split_39 : decode cX2_split 39 = .ok (.invokevirtual 63, 3) := by decide +kernel
theorem dX2_split_42 : decode cX2_split 42 = .ok (.aload_n 3, 1) := by decide +kernel
theorem dX2_split_43 : decode cX2_split 43 = .ok (.aload 4, 2) := by decide +kernel
theorem dX2_split_45 : decode cX2_split 45 = .ok (.putfield 38, 3) := by decide +kernel
theorem dX2_split_48 : decode cX2_split 48 = .ok (.aload_n 1, 1) := by decide +kernel
theorem dX2_split_49 : decode cX2_split 49 = .ok (.aload 4, 2) := by decide +kernel
theorem dX2_split_51 : decode cX2_split 51 = .ok (.invokevirtual 67, 3) := by decide +kernel
theorem dX2_split_54 : decode cX2_split 54 = .ok (.putfield 38, 3) := by decide +kernel
theorem dX2_split_57 : decode cX2_split 57 = .ok (.return_, 1) := by decide +kernel
theorem dX2_join_0 : decode cX2_join 0 = .ok (.aload_n 1, 1) := by decide +kernel
theorem dX2_join_1 : decode cX2_join 1 = .ok (.invokevirtual 70, 3) := by decide +kernel
theorem dX2_join_4 : decode cX2_join 4 = .ok (.astore_n 3, 1) := by decide +kernel
theorem dX2_join_5 : decode cX2_join 5 = .ok (.aload_n 2, 1) := by decide +kernel
theorem dX2_join_6 : decode cX2_join 6 = .ok (.invokevirtual 59, 3) := by decide +kernel
theorem dX2_join_9 : decode cX2_join 9 = .ok (.astore 4, 2) := by decide +kernel
theorem dX2_join_11 : decode cX2_join 11 = .ok (.aload_n 3, 1) := by decide +kernel
theorem dX2_join_12 : decode cX2_join 12 = .ok (.ifnonnull 12, 3) := by decide +kernel
theorem dX2_join_15 : decode cX2_join 15 = .ok (.aload_n 1, 1) := by decide +kernel
theorem dX2_join_16 : decode cX2_join 16 = .ok (.aload 4, 2) := by decide +kernel
theorem dX2_join_18 : decode cX2_join 18 = .ok (.putfield 38, 3) := by decide +kernel
theorem dX2_join_21 : decode cX2_join 21 = .ok (.goto 20, 3) := by decide +kernel
theorem dX2_join_24 : decode cX2_join 24 = .ok (.aload 4, 2) := by decide +kernel
theorem dX2_join_26 : decode cX2_join 26 = .ok (.ifnull 15, 3) := by decide +kernel
theorem dX2_join_29 : decode cX2_join 29 = .ok (.aload_n 0, 1) := by decide +kernel
theorem dX2_join_30 : decode cX2_join 30 = .ok (.aload_n 1, 1) := by decide +kernel
theorem dX2_join_31 : decode cX2_join 31 = .ok (.aload_n 3, 1) := by decide +kernel
theorem dX2_join_32 : decode cX2_join 32 = .ok (.invokevirtual 63, 3) := by decide +kernel
theorem dX2_join_35 : decode cX2_join 35 = .ok (.aload_n 3, 1) := by decide +kernel
theorem dX2_join_36 : decode cX2_join 36 = .ok (.aload 4, 2) := by decide +kernel
theorem dX2_join_38 : decode cX2_join 38 = .ok (.invokevirtual 49, 3) := by decide +kernel
theorem dX2_join_41 : decode cX2_join 41 = .ok (.return_, 1) := by decide +kernel
theorem dX3_init_0 : decode cX3_init 0 = .ok (.aload_n 0, 1) := by decide +kernel
theorem dX3_init_1 : decode cX3_init 1 = .ok (.invokespecial 1, 3) := by decide +kernel
theorem dX3_init_4 : decode cX3_init 4 = .ok (.return_, 1) := by decide +kernel
theorem dX3_count_0 : decode cX3_count 0 = .ok (.aload_n 0, 1) := by decide +kernel
theorem dX3_count_1 : decode cX3_count 1 = .ok (.getfield 7, 3) := by decide +kernel
theorem dX3_count_4 : decode cX3_count 4 = .ok (.invokestatic 13, 3) := by decide +kernel
theorem dX3_count_7 : decode cX3_count 7 = .ok (.ireturn, 1) := by decide +kernel
theorem dX3_find_0 : decode cX3_find 0 = .ok (.iload_n 1, 1) := by decide +kernel
theorem dX3_find_1 : decode cX3_find 1 = .ok (.istore_n 2, 1) := by decide +kernel
theorem dX3_find_2 : decode cX3_find 2 = .ok (.aload_n 0, 1) := by decide +kernel
theorem dX3_find_3 : decode cX3_find 3 = .ok (.getfield 7, 3) := by decide +kernel
theorem dX3_find_6 : decode cX3_find 6 = .ok (.astore_n 3, 1) := by decide +kernel
theorem dX3_find_7 : decode cX3_find 7 = .ok (.aload_n 3, 1) := by decide +kernel
theorem dX3_find_8 : decode cX3_find 8 = .ok (.ifnull 49, 3) := by decide +kernel
theorem dX3_find_11 : decode cX3_find 11 = .ok (.aload_n 3, 1) := by decide +kernel
theorem dX3_find_12 : decode cX3_find 12 = .ok (.getfield 19, 3) := by decide +kernel
theorem dX3_find_15 : decode cX3_find 15 = .ok (.invokestatic 13, 3) := by decide +kernel
theorem dX3_find_18 : decode cX3_find 18 = .ok (.istore 4, 2) := by decide +kernel
theorem dX3_find_20 : decode cX3_find 20 = .ok (.iload_n 2, 1) := by decide +kernel
theorem dX3_find_21 : decode cX3_find 21 = .ok (.iload 4, 2) := by decide +kernel
theorem dX3_find_23 : decode cX3_find 23 = .ok (.if_icmp .ne 5, 3) := by decide +kernel
theorem dX3_find_26 : decode cX3_find 26 = .ok (.aload_n 3, 1) := by decide +kernel
theorem dX3_find_27 : decode cX3_find 27 = .ok (.areturn, 1) := by decide +kernel
theorem dX3_find_28 : decode cX3_find 28 = .ok (.iload_n 2, 1) := by decide +kernel
theorem dX3_find_29 : decode cX3_find 29 = .ok (.iload 4, 2) := by decide +kernel
theorem dX3_find_31 : decode cX3_find 31 = .ok (.if_icmp .ge 11, 3) := by decide +kernel
theorem dX3_find_34 : decode cX3_find 34 = .ok (.aload_n 3, 1) := by decide +kernel
theorem dX3_find_35 : decode cX3_find 35 = .ok (.getfield 19, 3) := by decide +kernel
theorem dX3_find_38 : decode cX3_find 38 = .ok (.astore_n 3, 1) := by decide +kernel
theorem dX3_find_39 : decode cX3_find 39 = .ok (.goto 15, 3) := by decide +kernel
theorem dX3_find_42 : decode cX3_find 42 = .ok (.iload_n 2, 1) := by decide +kernel
theorem dX3_find_43 : decode cX3_find 43 = .ok (.iload 4, 2) := by decide +kernel
theorem dX3_find_45 : decode cX3_find 45 = .ok (.iconst 1, 1) := by decide +kernel
theorem dX3_find_46 : decode cX3_find 46 = .ok (.iadd, 1) := by decide +kernel
theorem dX3_find_47 : decode cX3_find 47 = .ok (.isub, 1) := by decide +kernel
theorem dX3_find_48 : decode cX3_find 48 = .ok (.istore_n 2, 1) := by decide +kernel
theorem dX3_find_49 : decode cX3_find 49 = .ok (.aload_n 3, 1) := by decide +kernel
theorem dX3_find_50 : decode cX3_find 50 = .ok (.getfield 22, 3) := by decide +kernel
theorem dX3_find_53 : decode cX3_find 53 = .ok (.astore_n 3, 1) := by decide +kernel
theorem dX3_find_54 : decode cX3_find 54 = .ok (.goto (-47), 3) := by decide +kernel
theorem dX3_find_57 : decode cX3_find 57 = .ok (.aconst_null, 1) := by decide +kernel
theorem dX3_find_58 : decode cX3_find 58 = .ok (.areturn, 1) := by decide +kernel
theorem dX3_last_0 : decode cX3_last 0 = .ok (.aload_n 0, 1) := by decide +kernel
theorem dX3_last_1 : decode cX3_last 1 = .ok (.getfield 7, 3) := by decide +kernel
theorem dX3_last_4 : decode cX3_last 4 = .ok (.astore_n 1, 1) := by decide +kernel
theorem dX3_last_5 : decode cX3_last 5 = .ok (.aload_n 1, 1) := by decide +kernel
theorem dX3_last_6 : decode cX3_last 6 = .ok (.ifnull 18, 3) := by decide +kernel
theorem dX3_last_9 : decode cX3_last 9 = .ok (.aload_n 1, 1) := by decide +kernel
theorem dX3_last_10 : decode cX3_last 10 = .ok (.getfield 22, 3) := by decide +kernel
theorem dX3_last_13 : decode cX3_last 13 = .ok (.ifnull 11, 3) := by decide +kernel
theorem dX3_last_16 : decode cX3_last 16 = .ok (.aload_n 1, 1) := by decide +kernel
theorem dX3_last_17 : decode cX3_last 17 = .ok (.getfield 22, 3) := by decide +kernel
theorem dX3_last_20 : decode cX3_last 20 = .ok (.astore_n 1, 1) := by decide +kernel
theorem dX3_last_21 : decode cX3_last 21 = .ok (.goto (-16), 3) := by decide +kernel
theorem dX3_last_24 : decode cX3_last 24 = .ok (.aload_n 1, 1) := by decide +kernel
theorem dX3_last_25 : decode cX3_last 25 = .ok (.areturn, 1) := by decide +kernel
theorem dX3_holds_0 : decode cX3_holds 0 = .ok (.aload_n 1, 1) := by decide +kernel
theorem dX3_holds_1 : decode cX3_holds 1 = .ok (.invokevirtual 25, 3) := by decide +kernel
theorem dX3_holds_4 : decode cX3_holds 4 = .ok (.aload_n 0, 1) := by decide +kernel
theorem dX3_holds_5 : decode cX3_holds 5 = .ok (.getfield 7, 3) := by decide +kernel
theorem dX3_holds_8 : decode cX3_holds 8 = .ok (.if_acmp .ne 7, 3) := by decide +kernel
theorem dX3_holds_11 : decode cX3_holds 11 = .ok (.iconst 1, 1) := by decide +kernel
theorem dX3_holds_12 : decode cX3_holds 12 = .ok (.goto 4, 3) := by decide +kernel
theorem dX3_holds_15 : decode cX3_holds 15 = .ok (.iconst 0, 1) := by decide +kernel
theorem dX3_holds_16 : decode cX3_holds 16 = .ok (.ireturn, 1) := by decide +kernel
theorem dX3_takeAll_0 : decode cX3_takeAll 0 = .ok (.aload_n 0, 1) := by decide +kernel
theorem dX3_takeAll_1 : decode cX3_takeAll 1 = .ok (.getfield 7, 3) := by decide +kernel
theorem dX3_takeAll_4 : decode cX3_takeAll 4 = .ok (.astore_n 1, 1) := by decide +kernel
theorem dX3_takeAll_5 : decode cX3_takeAll 5 = .ok (.aload_n 0, 1) := by decide +kernel
theorem dX3_takeAll_6 : decode cX3_takeAll 6 = .ok (.aconst_null, 1) := by decide +kernel
theorem dX3_takeAll_7 : decode cX3_takeAll 7 = .ok (.putfield 7, 3) := by decide +kernel
theorem dX3_takeAll_10 : decode cX3_takeAll 10 = .ok (.aload_n 1, 1) := by decide +kernel
theorem dX3_takeAll_11 : decode cX3_takeAll 11 = .ok (.areturn, 1) := by decide +kernel
theorem dX3_turnRound_0 : decode cX3_turnRound 0 = .ok (.aload_n 0, 1) := by decide +kernel
theorem dX3_turnRound_1 : decode cX3_turnRound 1 = .ok (.getfield 7, 3) := by decide +kernel
theorem dX3_turnRound_4 : decode cX3_turnRound 4 = .ok (.astore_n 1, 1) := by decide +kernel
theorem dX3_turnRound_5 : decode cX3_turnRound 5 = .ok (.aload_n 0, 1) := by decide +kernel
theorem dX3_turnRound_6 : decode cX3_turnRound 6 = .ok (.invokevirtual 29, 3) := by decide +kernel
theorem dX3_turnRound_9 : decode cX3_turnRound 9 = .ok (.istore_n 2, 1) := by decide +kernel
theorem dX3_turnRound_10 : decode cX3_turnRound 10 = .ok (.iload_n 2, 1) := by decide +kernel
theorem dX3_turnRound_11 : decode cX3_turnRound 11 = .ok (.ifCond .le 22, 3) := by decide +kernel
theorem dX3_turnRound_14 : decode cX3_turnRound 14 = .ok (.aload_n 1, 1) := by decide +kernel
theorem dX3_turnRound_15 : decode cX3_turnRound 15 = .ok (.ifnull 18, 3) := by decide +kernel
theorem dX3_turnRound_18 : decode cX3_turnRound 18 = .ok (.aload_n 1, 1) := by decide +kernel
theorem dX3_turnRound_19 : decode cX3_turnRound 19 = .ok (.invokevirtual 33, 3) := by decide +kernel
theorem dX3_turnRound_22 : decode cX3_turnRound 22 = .ok (.aload_n 1, 1) := by decide +kernel
theorem dX3_turnRound_23 : decode cX3_turnRound 23 = .ok (.invokevirtual 36, 3) := by decide +kernel
theorem dX3_turnRound_26 : decode cX3_turnRound 26 = .ok (.astore_n 1, 1) := by decide +kernel
theorem dX3_turnRound_27 : decode cX3_turnRound 27 = .ok (.iinc 2 (-1), 3) := by decide +kernel
theorem dX3_turnRound_30 : decode cX3_turnRound 30 = .ok (.goto (-20), 3) := by decide +kernel
theorem dX3_turnRound_33 : decode cX3_turnRound 33 = .ok (.return_, 1) := by decide +kernel
theorem dX3_addToAll_0 : decode cX3_addToAll 0 = .ok (.aload_n 0, 1) := by decide +kernel
theorem dX3_addToAll_1 : decode cX3_addToAll 1 = .ok (.getfield 7, 3) := by decide +kernel
theorem dX3_addToAll_4 : decode cX3_addToAll 4 = .ok (.astore_n 2, 1) := by decide +kernel
theorem dX3_addToAll_5 : decode cX3_addToAll 5 = .ok (.aload_n 0, 1) := by decide +kernel
theorem dX3_addToAll_6 : decode cX3_addToAll 6 = .ok (.invokevirtual 29, 3) := by decide +kernel
theorem dX3_addToAll_9 : decode cX3_addToAll 9 = .ok (.istore_n 3, 1) := by decide +kernel
theorem dX3_addToAll_10 : decode cX3_addToAll 10 = .ok (.iload_n 3, 1) := by decide +kernel
theorem dX3_addToAll_11 : decode cX3_addToAll 11 = .ok (.ifCond .le 28, 3) := by decide +kernel
theorem dX3_addToAll_14 : decode cX3_addToAll 14 = .ok (.aload_n 2, 1) := by decide +kernel
theorem dX3_addToAll_15 : decode cX3_addToAll 15 = .ok (.ifnull 24, 3) := by decide +kernel
theorem dX3_addToAll_18 : decode cX3_addToAll 18 = .ok (.aload_n 2, 1) := by decide +kernel
theorem dX3_addToAll_19 : decode cX3_addToAll 19 = .ok (.dup, 1) := by decide +kernel
theorem dX3_addToAll_20 : decode cX3_addToAll 20 = .ok (.getfield 39, 3) := by decide +kernel
theorem dX3_addToAll_23 : decode cX3_addToAll 23 = .ok (.iload_n 1, 1) := by decide +kernel
theorem dX3_addToAll_24 : decode cX3_addToAll 24 = .ok (.iadd, 1) := by decide +kernel
theorem dX3_addToAll_25 : decode cX3_addToAll 25 = .ok (.putfield 39, 3) := by decide +kernel
theorem dX3_addToAll_28 : decode cX3_addToAll 28 = .ok (.aload_n 2, 1) := by decide +kernel
theorem dX3_addToAll_29 : decode cX3_addToAll 29 = .ok (.invokevirtual 36, 3) := by decide +kernel
theorem dX3_addToAll_32 : decode cX3_addToAll 32 = .ok (.astore_n 2, 1) := by decide +kernel
theorem dX3_addToAll_33 : decode cX3_addToAll 33 = .ok (.iinc 3 (-1), 3) := by decide +kernel
theorem dX3_addToAll_36 : decode cX3_addToAll 36 = .ok (.goto (-26), 3) := by decide +kernel
theorem dX3_addToAll_39 : decode cX3_addToAll 39 = .ok (.return_, 1) := by decide +kernel
theorem dX3_total_0 : decode cX3_total 0 = .ok (.iconst 0, 1) := by decide +kernel
theorem dX3_total_1 : decode cX3_total 1 = .ok (.istore_n 1, 1) := by decide +kernel
theorem dX3_total_2 : decode cX3_total 2 = .ok (.aload_n 0, 1) := by decide +kernel
theorem dX3_total_3 : decode cX3_total 3 = .ok (.getfield 7, 3) := by decide +kernel
theorem dX3_total_6 : decode cX3_total 6 = .ok (.astore_n 2, 1) := by decide +kernel
theorem dX3_total_7 : decode cX3_total 7 = .ok (.aload_n 0, 1) := by decide +kernel
theorem dX3_total_8 : decode cX3_total 8 = .ok (.invokevirtual 29, 3) := by decide +kernel
theorem dX3_total_11 : decode cX3_total 11 = .ok (.istore_n 3, 1) := by decide +kernel
theorem dX3_total_12 : decode cX3_total 12 = .ok (.iload_n 3, 1) := by decide +kernel
theorem dX3_total_13 : decode cX3_total 13 = .ok (.ifCond .le 25, 3) := by decide +kernel
theorem dX3_total_16 : decode cX3_total 16 = .ok (.aload_n 2, 1) := by decide +kernel
theorem dX3_total_17 : decode cX3_total 17 = .ok (.ifnull 21, 3) := by decide +kernel
theorem dX3_total_20 : decode cX3_total 20 = .ok (.iload_n 1, 1) := by decide +kernel
theorem dX3_total_21 : decode cX3_total 21 = .ok (.aload_n 2, 1) := by decide +kernel
theorem dX3_total_22 : decode cX3_total 22 = .ok (.getfield 39, 3) := by decide +kernel
theorem dX3_total_25 : decode cX3_total 25 = .ok (.iadd, 1) := by decide +kernel
theorem dX3_total_26 : decode cX3_total 26 = .ok (.istore_n 1, 1) := by decide +kernel
theorem dX3_total_27 : decode cX3_total 27 = .ok (.aload_n 2, 1) := by decide +kernel
theorem dX3_total_28 : decode cX3_total 28 = .ok (.invokevirtual 36, 3) := by decide +kernel
theorem dX3_total_31 : decode cX3_total 31 = .ok (.astore_n 2, 1) := by decide +kernel
theorem dX3_total_32 : decode cX3_total 32 = .ok (.iinc 3 (-1), 3) := by decide +kernel
theorem dX3_total_35 : decode cX3_total 35 = .ok (.goto (-23), 3) := by decide +kernel
theorem dX3_total_38 : decode cX3_total 38 = .ok (.iload_n 1, 1) := by decide +kernel
theorem dX3_total_39 : decode cX3_total 39 = .ok (.ireturn, 1) := by decide +kernel
theorem dX3_lowest_0 : decode cX3_lowest 0 = .ok (.aload_n 0, 1) := by decide +kernel
theorem dX3_lowest_1 : decode cX3_lowest 1 = .ok (.getfield 7, 3) := by decide +kernel
theorem dX3_lowest_4 : decode cX3_lowest 4 = .ok (.ifnonnull 7, 3) := by decide +kernel
theorem dX3_lowest_7 : decode cX3_lowest 7 = .ok (.iconst 0, 1) := by decide +kernel
theorem dX3_lowest_8 : decode cX3_lowest 8 = .ok (.goto 10, 3) := by decide +kernel
theorem dX3_lowest_11 : decode cX3_lowest 11 = .ok (.aload_n 0, 1) := by decide +kernel
theorem dX3_lowest_12 : decode cX3_lowest 12 = .ok (.getfield 7, 3) := by decide +kernel
theorem dX3_lowest_15 : decode cX3_lowest 15 = .ok (.getfield 39, 3) := by decide +kernel
theorem dX3_lowest_18 : decode cX3_lowest 18 = .ok (.istore_n 1, 1) := by decide +kernel
theorem dX3_lowest_19 : decode cX3_lowest 19 = .ok (.aload_n 0, 1) := by decide +kernel
theorem dX3_lowest_20 : decode cX3_lowest 20 = .ok (.getfield 7, 3) := by decide +kernel
theorem dX3_lowest_23 : decode cX3_lowest 23 = .ok (.astore_n 2, 1) := by decide +kernel
theorem dX3_lowest_24 : decode cX3_lowest 24 = .ok (.aload_n 0, 1) := by decide +kernel
theorem dX3_lowest_25 : decode cX3_lowest 25 = .ok (.invokevirtual 29, 3) := by decide +kernel
theorem dX3_lowest_28 : decode cX3_lowest 28 = .ok (.istore_n 3, 1) := by decide +kernel
theorem dX3_lowest_29 : decode cX3_lowest 29 = .ok (.iload_n 3, 1) := by decide +kernel
theorem dX3_lowest_30 : decode cX3_lowest 30 = .ok (.ifCond .le 27, 3) := by decide +kernel
theorem dX3_lowest_33 : decode cX3_lowest 33 = .ok (.aload_n 2, 1) := by decide +kernel
theorem dX3_lowest_34 : decode cX3_lowest 34 = .ok (.ifnull 23, 3) := by decide +kernel
theorem dX3_lowest_37 : decode cX3_lowest 37 = .ok (.iload_n 1, 1) := by decide +kernel
theorem dX3_lowest_38 : decode cX3_lowest 38 = .ok (.aload_n 2, 1) := by decide +kernel
theorem dX3_lowest_39 : decode cX3_lowest 39 = .ok (.getfield 39, 3) := by decide +kernel
theorem dX3_lowest_42 : decode cX3_lowest 42 = .ok (.invokestatic 43, 3) := by decide +kernel
theorem dX3_lowest_45 : decode cX3_lowest 45 = .ok (.istore_n 1, 1) := by decide +kernel
theorem dX3_lowest_46 : decode cX3_lowest 46 = .ok (.aload_n 2, 1) := by decide +kernel
theorem dX3_lowest_47 : decode cX3_lowest 47 = .ok (.invokevirtual 36, 3) := by decide +kernel
theorem dX3_lowest_50 : decode cX3_lowest 50 = .ok (.astore_n 2, 1) := by decide +kernel
theorem dX3_lowest_51 : decode cX3_lowest 51 = .ok (.iinc 3 (-1), 3) := by decide +kernel
theorem dX3_lowest_54 : decode cX3_lowest 54 = .ok (.goto (-25), 3) := by decide +kernel
theorem dX3_lowest_57 : decode cX3_lowest 57 = .ok (.iload_n 1, 1) := by decide +kernel
theorem dX3_lowest_58 : decode cX3_lowest 58 = .ok (.ireturn, 1) := by decide +kernel
theorem dX3_sumOfRanks_0 : decode cX3_sumOfRanks 0 = .ok (.iconst 0, 1) := by decide +kernel
theorem dX3_sumOfRanks_1 : decode cX3_sumOfRanks 1 = .ok (.istore_n 1, 1) := by decide +kernel
theorem dX3_sumOfRanks_2 : decode cX3_sumOfRanks 2 = .ok (.aload_n 0, 1) := by decide +kernel
theorem dX3_sumOfRanks_3 : decode cX3_sumOfRanks 3 = .ok (.getfield 7, 3) := by decide +kernel
theorem dX3_sumOfRanks_6 : decode cX3_sumOfRanks 6 = .ok (.astore_n 2, 1) := by decide +kernel
theorem dX3_sumOfRanks_7 : decode cX3_sumOfRanks 7 = .ok (.aload_n 0, 1) := by decide +kernel
theorem dX3_sumOfRanks_8 : decode cX3_sumOfRanks 8 = .ok (.invokevirtual 29, 3) := by decide +kernel
theorem dX3_sumOfRanks_11 : decode cX3_sumOfRanks 11 = .ok (.istore_n 3, 1) := by decide +kernel
theorem dX3_sumOfRanks_12 : decode cX3_sumOfRanks 12 = .ok (.iload_n 3, 1) := by decide +kernel
theorem dX3_sumOfRanks_13 : decode cX3_sumOfRanks 13 = .ok (.ifCond .le 28, 3) := by decide +kernel
theorem dX3_sumOfRanks_16 : decode cX3_sumOfRanks 16 = .ok (.aload_n 2, 1) := by decide +kernel
theorem dX3_sumOfRanks_17 : decode cX3_sumOfRanks 17 = .ok (.ifnull 24, 3) := by decide +kernel
theorem dX3_sumOfRanks_20 : decode cX3_sumOfRanks 20 = .ok (.iload_n 1, 1) := by decide +kernel
theorem dX3_sumOfRanks_21 : decode cX3_sumOfRanks 21 = .ok (.aload_n 2, 1) := by decide +kernel
theorem dX3_sumOfRanks_22 : decode cX3_sumOfRanks 22 = .ok (.getfield 49, 3) := by decide +kernel
theorem dX3_sumOfRanks_25 : decode cX3_sumOfRanks 25 = .ok (.invokestatic 51, 3) := by decide +kernel
theorem dX3_sumOfRanks_28 : decode cX3_sumOfRanks 28 = .ok (.iadd, 1) := by decide +kernel
theorem dX3_sumOfRanks_29 : decode cX3_sumOfRanks 29 = .ok (.istore_n 1, 1) := by decide +kernel
theorem dX3_sumOfRanks_30 : decode cX3_sumOfRanks 30 = .ok (.aload_n 2, 1) := by decide +kernel
theorem dX3_sumOfRanks_31 : decode cX3_sumOfRanks 31 = .ok (.invokevirtual 36, 3) := by decide +kernel
theorem dX3_sumOfRanks_34 : decode cX3_sumOfRanks 34 = .ok (.astore_n 2, 1) := by decide +kernel
theorem dX3_sumOfRanks_35 : decode cX3_sumOfRanks 35 = .ok (.iinc 3 (-1), 3) := by decide +kernel
theorem dX3_sumOfRanks_38 : decode cX3_sumOfRanks 38 = .ok (.goto (-26), 3) := by decide +kernel
theorem dX3_sumOfRanks_41 : decode cX3_sumOfRanks 41 = .ok (.iload_n 1, 1) := by decide +kernel
theorem dX3_sumOfRanks_42 : decode cX3_sumOfRanks 42 = .ok (.ireturn, 1) := by decide +kernel
theorem dX3_levels_0 : decode cX3_levels 0 = .ok (.iconst 0, 1) := by decide +kernel
theorem dX3_levels_1 : decode cX3_levels 1 = .ok (.istore_n 1, 1) := by decide +kernel
theorem dX3_levels_2 : decode cX3_levels 2 = .ok (.aload_n 0, 1) := by decide +kernel
theorem dX3_levels_3 : decode cX3_levels 3 = .ok (.getfield 7, 3) := by decide +kernel
theorem dX3_levels_6 : decode cX3_levels 6 = .ok (.astore_n 2, 1) := by decide +kernel
theorem dX3_levels_7 : decode cX3_levels 7 = .ok (.aload_n 0, 1) := by decide +kernel
theorem dX3_levels_8 : decode cX3_levels 8 = .ok (.invokevirtual 29, 3) := by decide +kernel
theorem dX3_levels_11 : decode cX3_levels 11 = .ok (.istore_n 3, 1) := by decide +kernel
theorem dX3_levels_12 : decode cX3_levels 12 = .ok (.iload_n 3, 1) := by decide +kernel
theorem dX3_levels_13 : decode cX3_levels 13 = .ok (.ifCond .le 29, 3) := by decide +kernel
theorem dX3_levels_16 : decode cX3_levels 16 = .ok (.aload_n 2, 1) := by decide +kernel
theorem dX3_levels_17 : decode cX3_levels 17 = .ok (.ifnull 25, 3) := by decide +kernel
theorem dX3_levels_20 : decode cX3_levels 20 = .ok (.iload_n 1, 1) := by decide +kernel
theorem dX3_levels_21 : decode cX3_levels 21 = .ok (.aload_n 2, 1) := by decide +kernel
theorem dX3_levels_22 : decode cX3_levels 22 = .ok (.invokevirtual 55, 3) := by decide +kernel
theorem dX3_levels_25 : decode cX3_levels 25 = .ok (.iconst 1, 1) := by decide +kernel
theorem dX3_levels_26 : decode cX3_levels 26 = .ok (.iadd, 1) := by decide +kernel
theorem dX3_levels_27 : decode cX3_levels 27 = .ok (.invokestatic 58, 3) := by decide +kernel
theorem dX3_levels_30 : decode cX3_levels 30 = .ok (.istore_n 1, 1) := by decide +kernel
theorem dX3_levels_31 : decode cX3_levels 31 = .ok (.aload_n 2, 1) := by decide +kernel
theorem dX3_levels_32 : decode cX3_levels 32 = .ok (.invokevirtual 36, 3) := by decide +kernel
theorem dX3_levels_35 : decode cX3_levels 35 = .ok (.astore_n 2, 1) := by decide +kernel
theorem dX3_levels_36 : decode cX3_levels 36 = .ok (.iinc 3 (-1), 3) := by decide +kernel
theorem dX3_levels_39 : decode cX3_levels 39 = .ok (.goto (-27), 3) := by decide +kernel
theorem dX3_levels_42 : decode cX3_levels 42 = .ok (.iload_n 1, 1) := by decide +kernel
theorem dX3_levels_43 : decode cX3_levels 43 = .ok (.ireturn, 1) := by decide +kernel
theorem dX3_rankOf_0 : decode cX3_rankOf 0 = .ok (.iconst 0, 1) := by decide +kernel
theorem dX3_rankOf_1 : decode cX3_rankOf 1 = .ok (.istore_n 1, 1) := by decide +kernel
theorem dX3_rankOf_2 : decode cX3_rankOf 2 = .ok (.iload_n 0, 1) := by decide +kernel
theorem dX3_rankOf_3 : decode cX3_rankOf 3 = .ok (.istore_n 2, 1) := by decide +kernel
theorem dX3_rankOf_4 : decode cX3_rankOf 4 = .ok (.iload_n 2, 1) := by decide +kernel
theorem dX3_rankOf_5 : decode cX3_rankOf 5 = .ok (.iconst 1, 1) := by decide +kernel
theorem dX3_rankOf_6 : decode cX3_rankOf 6 = .ok (.if_icmp .le 13, 3) := by decide +kernel
theorem dX3_rankOf_9 : decode cX3_rankOf 9 = .ok (.iinc 1 1, 3) := by decide +kernel
theorem dX3_rankOf_12 : decode cX3_rankOf 12 = .ok (.iload_n 2, 1) := by decide +kernel
theorem dX3_rankOf_13 : decode cX3_rankOf 13 = .ok (.iconst 1, 1) := by decide +kernel
theorem dX3_rankOf_14 : decode cX3_rankOf 14 = .ok (.ishr, 1) := by decide +kernel
theorem dX3_rankOf_15 : decode cX3_rankOf 15 = .ok (.istore_n 2, 1) := by decide +kernel
theorem dX3_rankOf_16 : decode cX3_rankOf 16 = .ok (.goto (-12), 3) := by decide +kernel
theorem dX3_rankOf_19 : decode cX3_rankOf 19 = .ok (.iload_n 1, 1) := by decide +kernel
theorem dX3_rankOf_20 : decode cX3_rankOf 20 = .ok (.ireturn, 1) := by decide +kernel
theorem dX4_init_0 : decode cX4_init 0 = .ok (.aload_n 0, 1) := by decide +kernel
theorem dX4_init_1 : decode cX4_init 1 = .ok (.invokespecial 1, 3) := by decide +kernel
theorem dX4_init_4 : decode cX4_init 4 = .ok (.aload_n 0, 1) := by decide +kernel
theorem dX4_init_5 : decode cX4_init 5 = .ok (.new 7, 3) := by decide +kernel
theorem dX4_init_8 : decode cX4_init 8 = .ok (.dup, 1) := by decide +kernel
theorem dX4_init_9 : decode cX4_init 9 = .ok (.invokespecial 9, 3) := by decide +kernel
theorem dX4_init_12 : decode cX4_init 12 = .ok (.putfield 10, 3) := by decide +kernel
theorem dX4_init_15 : decode cX4_init 15 = .ok (.aload_n 0, 1) := by decide +kernel
theorem dX4_init_16 : decode cX4_init 16 = .ok (.new 7, 3) := by decide +kernel
theorem dX4_init_19 : decode cX4_init 19 = .ok (.dup, 1) := by decide +kernel
theorem dX4_init_20 : decode cX4_init 20 = .ok (.invokespecial 9, 3) := by decide +kernel
theorem dX4_init_23 : decode cX4_init 23 = .ok (.putfield 16, 3) := by decide +kernel
theorem dX4_init_26 : decode cX4_init 26 = .ok (.aload_n 0, 1) := by decide +kernel
theorem dX4_init_27 : decode cX4_init 27 = .ok (.new 7, 3) := by decide +kernel
theorem dX4_init_30 : decode cX4_init 30 = .ok (.dup, 1) := by decide +kernel
theorem dX4_init_31 : decode cX4_init 31 = .ok (.invokespecial 9, 3) := by decide +kernel
theorem dX4_init_34 : decode cX4_init 34 = .ok (.putfield 19, 3) := by decide +kernel
theorem dX4_init_37 : decode cX4_init 37 = .ok (.aload_n 0, 1) := by decide +kernel
theorem dX4_init_38 : decode cX4_init 38 = .ok (.new 7, 3) := by decide +kernel
theorem dX4_init_41 : decode cX4_init 41 = .ok (.dup, 1) := by decide +kernel
theorem dX4_init_42 : decode cX4_init 42 = .ok (.invokespecial 9, 3) := by decide +kernel
theorem dX4_init_45 : decode cX4_init 45 = .ok (.putfield 22, 3) := by decide +kernel
theorem dX4_init_48 : decode cX4_init 48 = .ok (.aload_n 0, 1) := by decide +kernel
theorem dX4_init_49 : decode cX4_init 49 = .ok (.new 25, 3) := by decide +kernel
theorem dX4_init_52 : decode cX4_init 52 = .ok (.dup, 1) := by decide +kernel
theorem dX4_init_53 : decode cX4_init 53 = .ok (.invokespecial 27, 3) := by decide +kernel
theorem dX4_init_56 : decode cX4_init 56 = .ok (.putfield 28, 3) := by decide +kernel
theorem dX4_init_59 : decode cX4_init 59 = .ok (.aload_n 0, 1) := by decide +kernel
theorem dX4_init_60 : decode cX4_init 60 = .ok (.iconst 4, 1) := by decide +kernel
theorem dX4_init_61 : decode cX4_init 61 = .ok (.anewarray 32, 3) := by decide +kernel
theorem dX4_init_64 : decode cX4_init 64 = .ok (.putfield 34, 3) := by decide +kernel
theorem dX4_init_67 : decode cX4_init 67 = .ok (.aload_n 0, 1) := by decide +kernel
theorem dX4_init_68 : decode cX4_init 68 = .ok (.new 38, 3) := by decide +kernel
theorem dX4_init_71 : decode cX4_init 71 = .ok (.dup, 1) := by decide +kernel
theorem dX4_init_72 : decode cX4_init 72 = .ok (.invokespecial 40, 3) := by decide +kernel
theorem dX4_init_75 : decode cX4_init 75 = .ok (.putfield 41, 3) := by decide +kernel
theorem dX4_init_78 : decode cX4_init 78 = .ok (.aload_n 0, 1) := by decide +kernel
theorem dX4_init_79 : decode cX4_init 79 = .ok (.new 38, 3) := by decide +kernel
theorem dX4_init_82 : decode cX4_init 82 = .ok (.dup, 1) := by decide +kernel
theorem dX4_init_83 : decode cX4_init 83 = .ok (.invokespecial 40, 3) := by decide +kernel
theorem dX4_init_86 : decode cX4_init 86 = .ok (.putfield 45, 3) := by decide +kernel
theorem dX4_init_89 : decode cX4_init 89 = .ok (.return_, 1) := by decide +kernel
theorem dX4_insert_0 : decode cX4_insert 0 = .ok (.aload_n 0, 1) := by decide +kernel
theorem dX4_insert_1 : decode cX4_insert 1 = .ok (.iload_n 1, 1) := by decide +kernel
theorem dX4_insert_2 : decode cX4_insert 2 = .ok (.invokevirtual 48, 3) := by decide +kernel
theorem dX4_insert_5 : decode cX4_insert 5 = .ok (.iload_n 2, 1) := by decide +kernel
theorem dX4_insert_6 : decode cX4_insert 6 = .ok (.invokestatic 52, 3) := by decide +kernel
theorem dX4_insert_9 : decode cX4_insert 9 = .ok (.aload_n 0, 1) := by decide +kernel
theorem dX4_insert_10 : decode cX4_insert 10 = .ok (.getfield 10, 3) := by decide +kernel
theorem dX4_insert_13 : decode cX4_insert 13 = .ok (.invokevirtual 55, 3) := by decide +kernel
theorem dX4_insert_16 : decode cX4_insert 16 = .ok (.aload_n 0, 1) := by decide +kernel
theorem dX4_insert_17 : decode cX4_insert 17 = .ok (.getfield 16, 3) := by decide +kernel
theorem dX4_insert_20 : decode cX4_insert 20 = .ok (.invokevirtual 55, 3) := by decide +kernel
theorem dX4_insert_23 : decode cX4_insert 23 = .ok (.iadd, 1) := by decide +kernel
theorem dX4_insert_24 : decode cX4_insert 24 = .ok (.bipush 60, 2) := by decide +kernel
theorem dX4_insert_26 : decode cX4_insert 26 = .ok (.if_icmp .lt 13, 3) := by decide +kernel
theorem dX4_insert_29 : decode cX4_insert 29 = .ok (.new 59, 3) := by decide +kernel
theorem dX4_insert_32 : decode cX4_insert 32 = .ok (.dup, 1) := by decide +kernel
theorem dX4_insert_33 : decode cX4_insert 33 = .ok (.ldc 61, 2) := by decide +kernel
theorem dX4_insert_35 : decode cX4_insert 35 = .ok (.invokespecial 63, 3) := by decide +kernel
theorem dX4_insert_38 : decode cX4_insert 38 = .ok (.athrow, 1) := by decide +kernel
theorem dX4_insert_39 : decode cX4_insert 39 = .ok (.aload_n 0, 1) := by decide +kernel
theorem dX4_insert_40 : decode cX4_insert 40 = .ok (.getfield 28, 3) := by decide +kernel
theorem dX4_insert_43 : decode cX4_insert 43 = .ok (.invokevirtual 66, 3) := by decide +kernel
theorem dX4_insert_46 : decode cX4_insert 46 = .ok (.aload_n 0, 1) := by decide +kernel
theorem dX4_insert_47 : decode cX4_insert 47 = .ok (.getfield 28, 3) := by decide +kernel
theorem dX4_insert_50 : decode cX4_insert 50 = .ok (.aload_n 0, 1) := by decide +kernel
theorem dX4_insert_51 : decode cX4_insert 51 = .ok (.getfield 10, 3) := by decide +kernel
theorem dX4_insert_54 : decode cX4_insert 54 = .ok (.iload_n 1, 1) := by decide +kernel
theorem dX4_insert_55 : decode cX4_insert 55 = .ok (.aload_n 0, 1) := by decide +kernel
theorem dX4_insert_56 : decode cX4_insert 56 = .ok (.getfield 22, 3) := by decide +kernel
theorem dX4_insert_59 : decode cX4_insert 59 = .ok (.invokevirtual 69, 3) := by decide +kernel
theorem dX4_insert_62 : decode cX4_insert 62 = .ok (.new 32, 3) := by decide +kernel
theorem dX4_insert_65 : decode cX4_insert 65 = .ok (.dup, 1) := by decide +kernel
theorem dX4_insert_66 : decode cX4_insert 66 = .ok (.iload_n 2, 1) := by decide +kernel
theorem dX4_insert_67 : decode cX4_insert 67 = .ok (.invokespecial 73, 3) := by decide +kernel
theorem dX4_insert_70 : decode cX4_insert 70 = .ok (.astore_n 3, 1) := by decide +kernel
theorem dX4_insert_71 : decode cX4_insert 71 = .ok (.aload_n 3, 1) := by decide +kernel
theorem dX4_insert_72 : decode cX4_insert 72 = .ok (.aload_n 0, 1) := by decide +kernel
theorem dX4_insert_73 : decode cX4_insert 73 = .ok (.getfield 10, 3) := by decide +kernel
theorem dX4_insert_76 : decode cX4_insert 76 = .ok (.invokevirtual 75, 3) := by decide +kernel
theorem dX4_insert_79 : decode cX4_insert 79 = .ok (.invokevirtual 79, 3) := by decide +kernel
theorem dX4_insert_82 : decode cX4_insert 82 = .ok (.aload_n 3, 1) := by decide +kernel
theorem dX4_insert_83 : decode cX4_insert 83 = .ok (.aload_n 0, 1) := by decide +kernel
theorem dX4_insert_84 : decode cX4_insert 84 = .ok (.getfield 22, 3) := by decide +kernel
theorem dX4_insert_87 : decode cX4_insert 87 = .ok (.invokevirtual 75, 3) := by decide +kernel
theorem dX4_insert_90 : decode cX4_insert 90 = .ok (.invokevirtual 83, 3) := by decide +kernel
theorem dX4_insert_93 : decode cX4_insert 93 = .ok (.aload_n 0, 1) := by decide +kernel
theorem dX4_insert_94 : decode cX4_insert 94 = .ok (.getfield 10, 3) := by decide +kernel
theorem dX4_insert_97 : decode cX4_insert 97 = .ok (.aload_n 3, 1) := by decide +kernel
theorem dX4_insert_98 : decode cX4_insert 98 = .ok (.putfield 86, 3) := by decide +kernel
theorem dX4_insert_101 : decode cX4_insert 101 = .ok (.aload_n 0, 1) := by decide +kernel
theorem dX4_insert_102 : decode cX4_insert 102 = .ok (.getfield 41, 3) := by decide +kernel
theorem dX4_insert_105 : decode cX4_insert 105 = .ok (.iload_n 1, 1) := by decide +kernel
theorem dX4_insert_106 : decode cX4_insert 106 = .ok (.iload_n 2, 1) := by decide +kernel
theorem dX4_insert_107 : decode cX4_insert 107 = .ok (.invokevirtual 90, 3) := by decide +kernel
theorem dX4_insert_110 : decode cX4_insert 110 = .ok (.aload_n 0, 1) := by decide +kernel
theorem dX4_insert_111 : decode cX4_insert 111 = .ok (.getfield 10, 3) := by decide +kernel
theorem dX4_insert_114 : decode cX4_insert 114 = .ok (.invokevirtual 55, 3) := by decide +kernel
theorem dX4_insert_117 : decode cX4_insert 117 = .ok (.ireturn, 1) := by decide +kernel
theorem dX4_remove_0 : decode cX4_remove 0 = .ok (.aload_n 0, 1) := by decide +kernel
theorem dX4_remove_1 : decode cX4_remove 1 = .ok (.iload_n 1, 1) := by decide +kernel
theorem dX4_remove_2 : decode cX4_remove 2 = .ok (.invokevirtual 94, 3) := by decide +kernel
theorem dX4_remove_5 : decode cX4_remove 5 = .ok (.astore_n 2, 1) := by decide +kernel
theorem dX4_remove_6 : decode cX4_remove 6 = .ok (.aload_n 0, 1) := by decide +kernel
theorem dX4_remove_7 : decode cX4_remove 7 = .ok (.getfield 28, 3) := by decide +kernel
theorem dX4_remove_10 : decode cX4_remove 10 = .ok (.invokevirtual 66, 3) := by decide +kernel
theorem dX4_remove_13 : decode cX4_remove 13 = .ok (.aload_n 0, 1) := by decide +kernel
theorem dX4_remove_14 : decode cX4_remove 14 = .ok (.getfield 28, 3) := by decide +kernel
theorem dX4_remove_17 : decode cX4_remove 17 = .ok (.aload_n 0, 1) := by decide +kernel
theorem dX4_remove_18 : decode cX4_remove 18 = .ok (.getfield 10, 3) := by decide +kernel
theorem dX4_remove_21 : decode cX4_remove 21 = .ok (.aload_n 2, 1) := by decide +kernel
theorem dX4_remove_22 : decode cX4_remove 22 = .ok (.invokevirtual 98, 3) := by decide +kernel
theorem dX4_remove_25 : decode cX4_remove 25 = .ok (.aload_n 0, 1) := by decide +kernel
theorem dX4_remove_26 : decode cX4_remove 26 = .ok (.getfield 10, 3) := by decide +kernel
theorem dX4_remove_29 : decode cX4_remove 29 = .ok (.aload_n 2, 1) := by decide +kernel
theorem dX4_remove_30 : decode cX4_remove 30 = .ok (.invokevirtual 102, 3) := by decide +kernel
theorem dX4_remove_33 : decode cX4_remove 33 = .ok (.putfield 86, 3) := by decide +kernel
theorem dX4_remove_36 : decode cX4_remove 36 = .ok (.aload_n 0, 1) := by decide +kernel
theorem dX4_remove_37 : decode cX4_remove 37 = .ok (.getfield 22, 3) := by decide +kernel
theorem dX4_remove_40 : decode cX4_remove 40 = .ok (.aload_n 2, 1) := by decide +kernel
theorem dX4_remove_41 : decode cX4_remove 41 = .ok (.invokevirtual 105, 3) := by decide +kernel
theorem dX4_remove_44 : decode cX4_remove 44 = .ok (.putfield 86, 3) := by decide +kernel
theorem dX4_remove_47 : decode cX4_remove 47 = .ok (.aload_n 0, 1) := by decide +kernel
theorem dX4_remove_48 : decode cX4_remove 48 = .ok (.getfield 28, 3) := by decide +kernel
theorem dX4_remove_51 : decode cX4_remove 51 = .ok (.aload_n 0, 1) := by decide +kernel
theorem dX4_remove_52 : decode cX4_remove 52 = .ok (.getfield 10, 3) := by decide +kernel
theorem dX4_remove_55 : decode cX4_remove 55 = .ok (.aload_n 0, 1) := by decide +kernel
theorem dX4_remove_56 : decode cX4_remove 56 = .ok (.getfield 22, 3) := by decide +kernel
theorem dX4_remove_59 : decode cX4_remove 59 = .ok (.invokevirtual 108, 3) := by decide +kernel
theorem dX4_remove_62 : decode cX4_remove 62 = .ok (.aload_n 0, 1) := by decide +kernel
theorem dX4_remove_63 : decode cX4_remove 63 = .ok (.aload_n 2, 1) := by decide +kernel
theorem dX4_remove_64 : decode cX4_remove 64 = .ok (.invokevirtual 112, 3) := by decide +kernel
theorem dX4_remove_67 : decode cX4_remove 67 = .ok (.aload_n 0, 1) := by decide +kernel
theorem dX4_remove_68 : decode cX4_remove 68 = .ok (.getfield 41, 3) := by decide +kernel
theorem dX4_remove_71 : decode cX4_remove 71 = .ok (.iload_n 1, 1) := by decide +kernel
theorem dX4_remove_72 : decode cX4_remove 72 = .ok (.invokevirtual 115, 3) := by decide +kernel
theorem dX4_remove_75 : decode cX4_remove 75 = .ok (.aload_n 2, 1) := by decide +kernel
theorem dX4_remove_76 : decode cX4_remove 76 = .ok (.getfield 118, 3) := by decide +kernel
theorem dX4_remove_79 : decode cX4_remove 79 = .ok (.ireturn, 1) := by decide +kernel
theorem dX4_get_0 : decode cX4_get 0 = .ok (.aload_n 0, 1) := by decide +kernel
theorem dX4_get_1 : decode cX4_get 1 = .ok (.iload_n 1, 1) := by decide +kernel
theorem dX4_get_2 : decode cX4_get 2 = .ok (.invokevirtual 94, 3) := by decide +kernel
theorem dX4_get_5 : decode cX4_get 5 = .ok (.astore_n 2, 1) := by decide +kernel
theorem dX4_get_6 : decode cX4_get 6 = .ok (.aload_n 0, 1) := by decide +kernel
theorem dX4_get_7 : decode cX4_get 7 = .ok (.getfield 28, 3) := by decide +kernel
theorem dX4_get_10 : decode cX4_get 10 = .ok (.invokevirtual 66, 3) := by decide +kernel
theorem dX4_get_13 : decode cX4_get 13 = .ok (.aload_n 0, 1) := by decide +kernel
theorem dX4_get_14 : decode cX4_get 14 = .ok (.getfield 28, 3) := by decide +kernel
theorem dX4_get_17 : decode cX4_get 17 = .ok (.aload_n 0, 1) := by decide +kernel
theorem dX4_get_18 : decode cX4_get 18 = .ok (.getfield 10, 3) := by decide +kernel
theorem dX4_get_21 : decode cX4_get 21 = .ok (.aload_n 2, 1) := by decide +kernel
theorem dX4_get_22 : decode cX4_get 22 = .ok (.invokevirtual 98, 3) := by decide +kernel
theorem dX4_get_25 : decode cX4_get 25 = .ok (.aload_n 2, 1) := by decide +kernel
theorem dX4_get_26 : decode cX4_get 26 = .ok (.getfield 118, 3) := by decide +kernel
theorem dX4_get_29 : decode cX4_get 29 = .ok (.ireturn, 1) := by decide +kernel
theorem dX4_set_0 : decode cX4_set 0 = .ok (.aload_n 0, 1) := by decide +kernel
theorem dX4_set_1 : decode cX4_set 1 = .ok (.iload_n 1, 1) := by decide +kernel
theorem dX4_set_2 : decode cX4_set 2 = .ok (.invokevirtual 94, 3) := by decide +kernel
theorem dX4_set_5 : decode cX4_set 5 = .ok (.astore_n 3, 1) := by decide +kernel
theorem dX4_set_6 : decode cX4_set 6 = .ok (.iload_n 2, 1) := by decide +kernel
theorem dX4_set_7 : decode cX4_set 7 = .ok (.invokestatic 52, 3) := by decide +kernel
theorem dX4_set_10 : decode cX4_set 10 = .ok (.aload_n 0, 1) := by decide +kernel
theorem dX4_set_11 : decode cX4_set 11 = .ok (.getfield 28, 3) := by decide +kernel
theorem dX4_set_14 : decode cX4_set 14 = .ok (.invokevirtual 66, 3) := by decide +kernel
theorem dX4_set_17 : decode cX4_set 17 = .ok (.aload_n 0, 1) := by decide +kernel
theorem dX4_set_18 : decode cX4_set 18 = .ok (.getfield 28, 3) := by decide +kernel
theorem dX4_set_21 : decode cX4_set 21 = .ok (.aload_n 0, 1) := by decide +kernel
theorem dX4_set_22 : decode cX4_set 22 = .ok (.getfield 10, 3) := by decide +kernel
theorem dX4_set_25 : decode cX4_set 25 = .ok (.aload_n 3, 1) := by decide +kernel
theorem dX4_set_26 : decode cX4_set 26 = .ok (.invokevirtual 98, 3) := by decide +kernel
theorem dX4_set_29 : decode cX4_set 29 = .ok (.aload_n 3, 1) := by decide +kernel
theorem dX4_set_30 : decode cX4_set 30 = .ok (.getfield 118, 3) := by decide +kernel
theorem dX4_set_33 : decode cX4_set 33 = .ok (.istore 4, 2) := by decide +kernel
theorem dX4_set_35 : decode cX4_set 35 = .ok (.aload_n 3, 1) := by decide +kernel
theorem dX4_set_36 : decode cX4_set 36 = .ok (.iload_n 2, 1) := by decide +kernel
theorem dX4_set_37 : decode cX4_set 37 = .ok (.putfield 118, 3) := by decide +kernel
theorem dX4_set_40 : decode cX4_set 40 = .ok (.aload_n 0, 1) := by decide +kernel
theorem dX4_set_41 : decode cX4_set 41 = .ok (.getfield 41, 3) := by decide +kernel
theorem dX4_set_44 : decode cX4_set 44 = .ok (.iload_n 1, 1) := by decide +kernel
theorem dX4_set_45 : decode cX4_set 45 = .ok (.iload_n 2, 1) := by decide +kernel
theorem dX4_set_46 : decode cX4_set 46 = .ok (.invokevirtual 122, 3) := by decide +kernel
theorem dX4_set_49 : decode cX4_set 49 = .ok (.iload 4, 2) := by decide +kernel
theorem dX4_set_51 : decode cX4_set 51 = .ok (.ireturn, 1) := by decide +kernel
theorem dX4_reverse_0 : decode cX4_reverse 0 = .ok (.aload_n 0, 1) := by decide +kernel
theorem dX4_reverse_1 : decode cX4_reverse 1 = .ok (.iload_n 1, 1) := by decide +kernel
theorem dX4_reverse_2 : decode cX4_reverse 2 = .ok (.iload_n 2, 1) := by decide +kernel
theorem dX4_reverse_3 : decode cX4_reverse 3 = .ok (.invokevirtual 125, 3) := by decide +kernel
theorem dX4_reverse_6 : decode cX4_reverse 6 = .ok (.aload_n 0, 1) := by decide +kernel
theorem dX4_reverse_7 : decode cX4_reverse 7 = .ok (.getfield 28, 3) := by decide +kernel
theorem dX4_reverse_10 : decode cX4_reverse 10 = .ok (.invokevirtual 66, 3) := by decide +kernel
theorem dX4_reverse_13 : decode cX4_reverse 13 = .ok (.aload_n 0, 1) := by decide +kernel
theorem dX4_reverse_14 : decode cX4_reverse 14 = .ok (.iload_n 1, 1) := by decide +kernel
theorem dX4_reverse_15 : decode cX4_reverse 15 = .ok (.iload_n 2, 1) := by decide +kernel
theorem dX4_reverse_16 : decode cX4_reverse 16 = .ok (.invokevirtual 128, 3) := by decide +kernel
theorem dX4_reverse_19 : decode cX4_reverse 19 = .ok (.aload_n 0, 1) := by decide +kernel
theorem dX4_reverse_20 : decode cX4_reverse 20 = .ok (.getfield 19, 3) := by decide +kernel
theorem dX4_reverse_23 : decode cX4_reverse 23 = .ok (.invokevirtual 131, 3) := by decide +kernel
theorem dX4_reverse_26 : decode cX4_reverse 26 = .ok (.aload_n 0, 1) := by decide +kernel
theorem dX4_reverse_27 : decode cX4_reverse 27 = .ok (.invokevirtual 134, 3) := by decide +kernel
theorem dX4_reverse_30 : decode cX4_reverse 30 = .ok (.aload_n 0, 1) := by decide +kernel
theorem dX4_reverse_31 : decode cX4_reverse 31 = .ok (.getfield 41, 3) := by decide +kernel
theorem dX4_reverse_34 : decode cX4_reverse 34 = .ok (.iload_n 1, 1) := by decide +kernel
theorem dX4_reverse_35 : decode cX4_reverse 35 = .ok (.iload_n 2, 1) := by decide +kernel
theorem dX4_reverse_36 : decode cX4_reverse 36 = .ok (.invokevirtual 137, 3) := by decide +kernel
theorem dX4_reverse_39 : decode cX4_reverse 39 = .ok (.iload_n 2, 1) := by decide +kernel
theorem dX4_reverse_40 : decode cX4_reverse 40 = .ok (.iload_n 1, 1) := by decide +kernel
theorem dX4_reverse_41 : decode cX4_reverse 41 = .ok (.isub, 1) := by decide +kernel
theorem dX4_reverse_42 : decode cX4_reverse 42 = .ok (.ireturn, 1) := by decide +kernel
theorem dX4_raise_0 : decode cX4_raise 0 = .ok (.aload_n 0, 1) := by decide +kernel
theorem dX4_raise_1 : decode cX4_raise 1 = .ok (.iload_n 1, 1) := by decide +kernel
theorem dX4_raise_2 : decode cX4_raise 2 = .ok (.iload_n 2, 1) := by decide +kernel
theorem dX4_raise_3 : decode cX4_raise 3 = .ok (.invokevirtual 125, 3) := by decide +kernel
theorem dX4_raise_6 : decode cX4_raise 6 = .ok (.iload_n 3, 1) := by decide +kernel
theorem dX4_raise_7 : decode cX4_raise 7 = .ok (.invokestatic 52, 3) := by decide +kernel
theorem dX4_raise_10 : decode cX4_raise 10 = .ok (.aload_n 0, 1) := by decide +kernel
theorem dX4_raise_11 : decode cX4_raise 11 = .ok (.getfield 28, 3) := by decide +kernel
theorem dX4_raise_14 : decode cX4_raise 14 = .ok (.invokevirtual 66, 3) := by decide +kernel
theorem dX4_raise_17 : decode cX4_raise 17 = .ok (.aload_n 0, 1) := by decide +kernel
theorem dX4_raise_18 : decode cX4_raise 18 = .ok (.iload_n 1, 1) := by decide +kernel
theorem dX4_raise_19 : decode cX4_raise 19 = .ok (.iload_n 2, 1) := by decide +kernel
theorem dX4_raise_20 : decode cX4_raise 20 = .ok (.invokevirtual 128, 3) := by decide +kernel
theorem dX4_raise_23 : decode cX4_raise 23 = .ok (.aload_n 0, 1) := by decide +kernel
theorem dX4_raise_24 : decode cX4_raise 24 = .ok (.getfield 19, 3) := by decide +kernel
theorem dX4_raise_27 : decode cX4_raise 27 = .ok (.iload_n 3, 1) := by decide +kernel
theorem dX4_raise_28 : decode cX4_raise 28 = .ok (.invokevirtual 139, 3) := by decide +kernel
theorem dX4_raise_31 : decode cX4_raise 31 = .ok (.aload_n 0, 1) := by decide +kernel
theorem dX4_raise_32 : decode cX4_raise 32 = .ok (.invokevirtual 134, 3) := by decide +kernel
theorem dX4_raise_35 : decode cX4_raise 35 = .ok (.aload_n 0, 1) := by decide +kernel
theorem dX4_raise_36 : decode cX4_raise 36 = .ok (.getfield 41, 3) := by decide +kernel
theorem dX4_raise_39 : decode cX4_raise 39 = .ok (.iload_n 1, 1) := by decide +kernel
theorem dX4_raise_40 : decode cX4_raise 40 = .ok (.iload_n 2, 1) := by decide +kernel
theorem dX4_raise_41 : decode cX4_raise 41 = .ok (.iload_n 3, 1) := by decide +kernel
theorem dX4_raise_42 : decode cX4_raise 42 = .ok (.invokevirtual 142, 3) := by decide +kernel
theorem dX4_raise_45 : decode cX4_raise 45 = .ok (.iload_n 2, 1) := by decide +kernel
theorem dX4_raise_46 : decode cX4_raise 46 = .ok (.iload_n 1, 1) := by decide +kernel
theorem dX4_raise_47 : decode cX4_raise 47 = .ok (.isub, 1) := by decide +kernel
theorem dX4_raise_48 : decode cX4_raise 48 = .ok (.ireturn, 1) := by decide +kernel
theorem dX4_sum_0 : decode cX4_sum 0 = .ok (.aload_n 0, 1) := by decide +kernel
theorem dX4_sum_1 : decode cX4_sum 1 = .ok (.iload_n 1, 1) := by decide +kernel
theorem dX4_sum_2 : decode cX4_sum 2 = .ok (.iload_n 2, 1) := by decide +kernel
theorem dX4_sum_3 : decode cX4_sum 3 = .ok (.invokevirtual 125, 3) := by decide +kernel
theorem dX4_sum_6 : decode cX4_sum 6 = .ok (.aload_n 0, 1) := by decide +kernel
theorem dX4_sum_7 : decode cX4_sum 7 = .ok (.getfield 28, 3) := by decide +kernel
theorem dX4_sum_10 : decode cX4_sum 10 = .ok (.invokevirtual 66, 3) := by decide +kernel
theorem dX4_sum_13 : decode cX4_sum 13 = .ok (.aload_n 0, 1) := by decide +kernel
theorem dX4_sum_14 : decode cX4_sum 14 = .ok (.iload_n 1, 1) := by decide +kernel
theorem dX4_sum_15 : decode cX4_sum 15 = .ok (.iload_n 2, 1) := by decide +kernel
theorem dX4_sum_16 : decode cX4_sum 16 = .ok (.invokevirtual 128, 3) := by decide +kernel
theorem dX4_sum_19 : decode cX4_sum 19 = .ok (.aload_n 0, 1) := by decide +kernel
theorem dX4_sum_20 : decode cX4_sum 20 = .ok (.getfield 19, 3) := by decide +kernel
theorem dX4_sum_23 : decode cX4_sum 23 = .ok (.invokevirtual 145, 3) := by decide +kernel
theorem dX4_sum_26 : decode cX4_sum 26 = .ok (.istore_n 3, 1) := by decide +kernel
theorem dX4_sum_27 : decode cX4_sum 27 = .ok (.aload_n 0, 1) := by decide +kernel
theorem dX4_sum_28 : decode cX4_sum 28 = .ok (.invokevirtual 134, 3) := by decide +kernel
theorem dX4_sum_31 : decode cX4_sum 31 = .ok (.iload_n 3, 1) := by decide +kernel
theorem dX4_sum_32 : decode cX4_sum 32 = .ok (.ireturn, 1) := by decide +kernel
theorem dX4_least_0 : decode cX4_least 0 = .ok (.aload_n 0, 1) := by decide +kernel
theorem dX4_least_1 : decode cX4_least 1 = .ok (.iload_n 1, 1) := by decide +kernel
theorem dX4_least_2 : decode cX4_least 2 = .ok (.iload_n 2, 1) := by decide +kernel
theorem dX4_least_3 : decode cX4_least 3 = .ok (.invokevirtual 125, 3) := by decide +kernel
theorem dX4_least_6 : decode cX4_least 6 = .ok (.iload_n 1, 1) := by decide +kernel
theorem dX4_least_7 : decode cX4_least 7 = .ok (.iload_n 2, 1) := by decide +kernel
theorem dX4_least_8 : decode cX4_least 8 = .ok (.if_icmp .ne 13, 3) := by decide +kernel
theorem dX4_least_11 : decode cX4_least 11 = .ok (.new 148, 3) := by decide +kernel
theorem dX4_least_14 : decode cX4_least 14 = .ok (.dup, 1) := by decide +kernel
theorem dX4_least_15 : decode cX4_least 15 = .ok (.ldc 150, 2) := by decide +kernel
theorem dX4_least_17 : decode cX4_least 17 = .ok (.invokespecial 152, 3) := by decide +kernel
theorem dX4_least_20 : decode cX4_least 20 = .ok (.athrow, 1) := by decide +kernel
theorem dX4_least_21 : decode cX4_least 21 = .ok (.aload_n 0, 1) := by decide +kernel
theorem dX4_least_22 : decode cX4_least 22 = .ok (.getfield 28, 3) := by decide +kernel
theorem dX4_least_25 : decode cX4_least 25 = .ok (.invokevirtual 66, 3) := by decide +kernel
theorem dX4_least_28 : decode cX4_least 28 = .ok (.aload_n 0, 1) := by decide +kernel
theorem dX4_least_29 : decode cX4_least 29 = .ok (.iload_n 1, 1) := by decide +kernel
theorem dX4_least_30 : decode cX4_least 30 = .ok (.iload_n 2, 1) := by decide +kernel
theorem dX4_least_31 : decode cX4_least 31 = .ok (.invokevirtual 128, 3) := by decide +kernel
theorem dX4_least_34 : decode cX4_least 34 = .ok (.aload_n 0, 1) := by decide +kernel
theorem dX4_least_35 : decode cX4_least 35 = .ok (.getfield 19, 3) := by decide +kernel
theorem dX4_least_38 : decode cX4_least 38 = .ok (.invokevirtual 153, 3) := by decide +kernel
theorem dX4_least_41 : decode cX4_least 41 = .ok (.istore_n 3, 1) := by decide +kernel
theorem dX4_least_42 : decode cX4_least 42 = .ok (.aload_n 0, 1) := by decide +kernel
theorem dX4_least_43 : decode cX4_least 43 = .ok (.invokevirtual 134, 3) := by decide +kernel
theorem dX4_least_46 : decode cX4_least 46 = .ok (.iload_n 3, 1) := by decide +kernel
theorem dX4_least_47 : decode cX4_least 47 = .ok (.ireturn, 1) := by decide +kernel
theorem dX4_cut_0 : decode cX4_cut 0 = .ok (.aload_n 0, 1) := by decide +kernel
theorem dX4_cut_1 : decode cX4_cut 1 = .ok (.iload_n 1, 1) := by decide +kernel
theorem dX4_cut_2 : decode cX4_cut 2 = .ok (.iload_n 2, 1) := by decide +kernel
theorem dX4_cut_3 : decode cX4_cut 3 = .ok (.invokevirtual 125, 3) := by decide +kernel
theorem dX4_cut_6 : decode cX4_cut 6 = .ok (.aload_n 0, 1) := by decide +kernel
theorem dX4_cut_7 : decode cX4_cut 7 = .ok (.getfield 16, 3) := by decide +kernel
theorem dX4_cut_10 : decode cX4_cut 10 = .ok (.invokevirtual 55, 3) := by decide +kernel
theorem dX4_cut_13 : decode cX4_cut 13 = .ok (.ifCond .le 13, 3) := by decide +kernel
theorem dX4_cut_16 : decode cX4_cut 16 = .ok (.new 59, 3) := by decide +kernel
theorem dX4_cut_19 : decode cX4_cut 19 = .ok (.dup, 1) := by decide +kernel
theorem dX4_cut_20 : decode cX4_cut 20 = .ok (.ldc 156, 2) := by decide +kernel
theorem dX4_cut_22 : decode cX4_cut 22 = .ok (.invokespecial 63, 3) := by decide +kernel
theorem dX4_cut_25 : decode cX4_cut 25 = .ok (.athrow, 1) := by decide +kernel
theorem dX4_cut_26 : decode cX4_cut 26 = .ok (.aload_n 0, 1) := by decide +kernel
theorem dX4_cut_27 : decode cX4_cut 27 = .ok (.getfield 28, 3) := by decide +kernel
theorem dX4_cut_30 : decode cX4_cut 30 = .ok (.invokevirtual 66, 3) := by decide +kernel
theorem dX4_cut_33 : decode cX4_cut 33 = .ok (.aload_n 0, 1) := by decide +kernel
theorem dX4_cut_34 : decode cX4_cut 34 = .ok (.iload_n 1, 1) := by decide +kernel
theorem dX4_cut_35 : decode cX4_cut 35 = .ok (.iload_n 2, 1) := by decide +kernel
theorem dX4_cut_36 : decode cX4_cut 36 = .ok (.invokevirtual 128, 3) := by decide +kernel
theorem dX4_cut_39 : decode cX4_cut 39 = .ok (.aload_n 0, 1) := by decide +kernel
theorem dX4_cut_40 : decode cX4_cut 40 = .ok (.getfield 16, 3) := by decide +kernel
theorem dX4_cut_43 : decode cX4_cut 43 = .ok (.aload_n 0, 1) := by decide +kernel
theorem dX4_cut_44 : decode cX4_cut 44 = .ok (.getfield 19, 3) := by decide +kernel
theorem dX4_cut_47 : decode cX4_cut 47 = .ok (.invokevirtual 75, 3) := by decide +kernel
theorem dX4_cut_50 : decode cX4_cut 50 = .ok (.putfield 86, 3) := by decide +kernel
theorem dX4_cut_53 : decode cX4_cut 53 = .ok (.aload_n 0, 1) := by decide +kernel
theorem dX4_cut_54 : decode cX4_cut 54 = .ok (.getfield 28, 3) := by decide +kernel
theorem dX4_cut_57 : decode cX4_cut 57 = .ok (.aload_n 0, 1) := by decide +kernel
theorem dX4_cut_58 : decode cX4_cut 58 = .ok (.getfield 10, 3) := by decide +kernel
theorem dX4_cut_61 : decode cX4_cut 61 = .ok (.aload_n 0, 1) := by decide +kernel
theorem dX4_cut_62 : decode cX4_cut 62 = .ok (.getfield 22, 3) := by decide +kernel
theorem dX4_cut_65 : decode cX4_cut 65 = .ok (.invokevirtual 108, 3) := by decide +kernel
theorem dX4_cut_68 : decode cX4_cut 68 = .ok (.aload_n 0, 1) := by decide +kernel
theorem dX4_cut_69 : decode cX4_cut 69 = .ok (.getfield 41, 3) := by decide +kernel
theorem dX4_cut_72 : decode cX4_cut 72 = .ok (.iload_n 1, 1) := by decide +kernel
theorem dX4_cut_73 : decode cX4_cut 73 = .ok (.iload_n 2, 1) := by decide +kernel
theorem dX4_cut_74 : decode cX4_cut 74 = .ok (.aload_n 0, 1) := by decide +kernel
theorem dX4_cut_75 : decode cX4_cut 75 = .ok (.getfield 45, 3) := by decide +kernel
theorem dX4_cut_78 : decode cX4_cut 78 = .ok (.invokevirtual 158, 3) := by decide +kernel
theorem dX4_cut_81 : decode cX4_cut 81 = .ok (.iload_n 2, 1) := by decide +kernel
theorem dX4_cut_82 : decode cX4_cut 82 = .ok (.iload_n 1, 1) := by decide +kernel
theorem dX4_cut_83 : decode cX4_cut 83 = .ok (.isub, 1) := by decide +kernel
theorem dX4_cut_84 : decode cX4_cut 84 = .ok (.ireturn, 1) := by decide +kernel
theorem dX4_paste_0 : decode cX4_paste 0 = .ok (.aload_n 0, 1) := by decide +kernel
theorem dX4_paste_1 : decode cX4_paste 1 = .ok (.iload_n 1, 1) := by decide +kernel
theorem dX4_paste_2 : decode cX4_paste 2 = .ok (.invokevirtual 48, 3) := by decide +kernel
theorem dX4_paste_5 : decode cX4_paste 5 = .ok (.aload_n 0, 1) := by decide +kernel
theorem dX4_paste_6 : decode cX4_paste 6 = .ok (.getfield 28, 3) := by decide +kernel
theorem dX4_paste_9 : decode cX4_paste 9 = .ok (.invokevirtual 66, 3) := by decide +kernel
theorem dX4_paste_12 : decode cX4_paste 12 = .ok (.aload_n 0, 1) := by decide +kernel
theorem dX4_paste_13 : decode cX4_paste 13 = .ok (.getfield 16, 3) := by decide +kernel
theorem dX4_paste_16 : decode cX4_paste 16 = .ok (.invokevirtual 55, 3) := by decide +kernel
theorem dX4_paste_19 : decode cX4_paste 19 = .ok (.istore_n 2, 1) := by decide +kernel
theorem dX4_paste_20 : decode cX4_paste 20 = .ok (.iload_n 2, 1) := by decide +kernel
theorem dX4_paste_21 : decode cX4_paste 21 = .ok (.ifCond .le 61, 3) := by decide +kernel
theorem dX4_paste_24 : decode cX4_paste 24 = .ok (.aload_n 0, 1) := by decide +kernel
theorem dX4_paste_25 : decode cX4_paste 25 = .ok (.getfield 28, 3) := by decide +kernel
theorem dX4_paste_28 : decode cX4_paste 28 = .ok (.aload_n 0, 1) := by decide +kernel
theorem dX4_paste_29 : decode cX4_paste 29 = .ok (.getfield 10, 3) := by decide +kernel
theorem dX4_paste_32 : decode cX4_paste 32 = .ok (.iload_n 1, 1) := by decide +kernel
theorem dX4_paste_33 : decode cX4_paste 33 = .ok (.aload_n 0, 1) := by decide +kernel
theorem dX4_paste_34 : decode cX4_paste 34 = .ok (.getfield 22, 3) := by decide +kernel
theorem dX4_paste_37 : decode cX4_paste 37 = .ok (.invokevirtual 69, 3) := by decide +kernel
theorem dX4_paste_40 : decode cX4_paste 40 = .ok (.aload_n 0, 1) := by decide +kernel
theorem dX4_paste_41 : decode cX4_paste 41 = .ok (.getfield 28, 3) := by decide +kernel
theorem dX4_paste_44 : decode cX4_paste 44 = .ok (.aload_n 0, 1) := by decide +kernel
theorem dX4_paste_45 : decode cX4_paste 45 = .ok (.getfield 10, 3) := by decide +kernel
theorem dX4_paste_48 : decode cX4_paste 48 = .ok (.aload_n 0, 1) := by decide +kernel
theorem dX4_paste_49 : decode cX4_paste 49 = .ok (.getfield 16, 3) := by decide +kernel
theorem dX4_paste_52 : decode cX4_paste 52 = .ok (.invokevirtual 108, 3) := by decide +kernel
theorem dX4_paste_55 : decode cX4_paste 55 = .ok (.aload_n 0, 1) := by decide +kernel
theorem dX4_paste_56 : decode cX4_paste 56 = .ok (.getfield 28, 3) := by decide +kernel
theorem dX4_paste_59 : decode cX4_paste 59 = .ok (.aload_n 0, 1) := by decide +kernel
theorem dX4_paste_60 : decode cX4_paste 60 = .ok (.getfield 10, 3) := by decide +kernel
theorem dX4_paste_63 : decode cX4_paste 63 = .ok (.aload_n 0, 1) := by decide +kernel
theorem dX4_paste_64 : decode cX4_paste 64 = .ok (.getfield 22, 3) := by decide +kernel
theorem dX4_paste_67 : decode cX4_paste 67 = .ok (.invokevirtual 108, 3) := by decide +kernel
theorem dX4_paste_70 : decode cX4_paste 70 = .ok (.aload_n 0, 1) := by decide +kernel
theorem dX4_paste_71 : decode cX4_paste 71 = .ok (.getfield 41, 3) := by decide +kernel
theorem dX4_paste_74 : decode cX4_paste 74 = .ok (.iload_n 1, 1) := by decide +kernel
theorem dX4_paste_75 : decode cX4_paste 75 = .ok (.aload_n 0, 1) := by decide +kernel
theorem dX4_paste_76 : decode cX4_paste 76 = .ok (.getfield 45, 3) := by decide +kernel
theorem dX4_paste_79 : decode cX4_paste 79 = .ok (.invokevirtual 162, 3) := by decide +kernel
theorem dX4_paste_82 : decode cX4_paste 82 = .ok (.iload_n 2, 1) := by decide +kernel
theorem dX4_paste_83 : decode cX4_paste 83 = .ok (.ireturn, 1) := by decide +kernel
theorem dX4_point_0 : decode cX4_point 0 = .ok (.aload_n 0, 1) := by decide +kernel
theorem dX4_point_1 : decode cX4_point 1 = .ok (.iload_n 1, 1) := by decide +kernel
theorem dX4_point_2 : decode cX4_point 2 = .ok (.invokevirtual 166, 3) := by decide +kernel
theorem dX4_point_5 : decode cX4_point 5 = .ok (.aload_n 0, 1) := by decide +kernel
theorem dX4_point_6 : decode cX4_point 6 = .ok (.iload_n 2, 1) := by decide +kernel
theorem dX4_point_7 : decode cX4_point 7 = .ok (.invokevirtual 94, 3) := by decide +kernel
theorem dX4_point_10 : decode cX4_point 10 = .ok (.astore_n 3, 1) := by decide +kernel
theorem dX4_point_11 : decode cX4_point 11 = .ok (.aload_n 0, 1) := by decide +kernel
theorem dX4_point_12 : decode cX4_point 12 = .ok (.getfield 28, 3) := by decide +kernel
theorem dX4_point_15 : decode cX4_point 15 = .ok (.invokevirtual 66, 3) := by decide +kernel
theorem dX4_point_18 : decode cX4_point 18 = .ok (.aload_n 0, 1) := by decide +kernel
theorem dX4_point_19 : decode cX4_point 19 = .ok (.getfield 28, 3) := by decide +kernel
theorem dX4_point_22 : decode cX4_point 22 = .ok (.aload_n 0, 1) := by decide +kernel
theorem dX4_point_23 : decode cX4_point 23 = .ok (.getfield 10, 3) := by decide +kernel
theorem dX4_point_26 : decode cX4_point 26 = .ok (.aload_n 3, 1) := by decide +kernel
theorem dX4_point_27 : decode cX4_point 27 = .ok (.invokevirtual 98, 3) := by decide +kernel
theorem dX4_point_30 : decode cX4_point 30 = .ok (.aload_n 0, 1) := by decide +kernel
theorem dX4_point_31 : decode cX4_point 31 = .ok (.getfield 34, 3) := by decide +kernel
theorem dX4_point_34 : decode cX4_point 34 = .ok (.iload_n 1, 1) := by decide +kernel
theorem dX4_point_35 : decode cX4_point 35 = .ok (.aload_n 3, 1) := by decide +kernel
theorem dX4_point_36 : decode cX4_point 36 = .ok (.aastore, 1) := by decide +kernel
theorem dX4_point_37 : decode cX4_point 37 = .ok (.aload_n 3, 1) := by decide +kernel
theorem dX4_point_38 : decode cX4_point 38 = .ok (.getfield 118, 3) := by decide +kernel
theorem dX4_point_41 : decode cX4_point 41 = .ok (.ireturn, 1) := by decide +kernel
theorem dX4_follow_0 : decode cX4_follow 0 = .ok (.aload_n 0, 1) := by decide +kernel
theorem dX4_follow_1 : decode cX4_follow 1 = .ok (.iload_n 1, 1) := by decide +kernel
theorem dX4_follow_2 : decode cX4_follow 2 = .ok (.invokevirtual 166, 3) := by decide +kernel
theorem dX4_follow_5 : decode cX4_follow 5 = .ok (.aload_n 0, 1) := by decide +kernel
theorem dX4_follow_6 : decode cX4_follow 6 = .ok (.getfield 34, 3) := by decide +kernel
theorem dX4_follow_9 : decode cX4_follow 9 = .ok (.iload_n 1, 1) := by decide +kernel
theorem dX4_follow_10 : decode cX4_follow 10 = .ok (.aaload, 1) := by decide +kernel
theorem dX4_follow_11 : decode cX4_follow 11 = .ok (.astore_n 2, 1) := by decide +kernel
theorem dX4_follow_12 : decode cX4_follow 12 = .ok (.aload_n 0, 1) := by decide +kernel
theorem dX4_follow_13 : decode cX4_follow 13 = .ok (.getfield 28, 3) := by decide +kernel
theorem dX4_follow_16 : decode cX4_follow 16 = .ok (.invokevirtual 66, 3) := by decide +kernel
theorem dX4_follow_19 : decode cX4_follow 19 = .ok (.aload_n 2, 1) := by decide +kernel
theorem dX4_follow_20 : decode cX4_follow 20 = .ok (.ifnull 14, 3) := by decide +kernel
theorem dX4_follow_23 : decode cX4_follow 23 = .ok (.aload_n 0, 1) := by decide +kernel
theorem dX4_follow_24 : decode cX4_follow 24 = .ok (.getfield 10, 3) := by decide +kernel
theorem dX4_follow_27 : decode cX4_follow 27 = .ok (.aload_n 2, 1) := by decide +kernel
theorem dX4_follow_28 : decode cX4_follow 28 = .ok (.invokevirtual 169, 3) := by decide +kernel
theorem dX4_follow_31 : decode cX4_follow 31 = .ok (.ifCond .ne 5, 3) := by decide +kernel
theorem dX4_follow_34 : decode cX4_follow 34 = .ok (.iconst (-1), 1) := by decide +kernel
theorem dX4_follow_35 : decode cX4_follow 35 = .ok (.ireturn, 1) := by decide +kernel
theorem dX4_follow_36 : decode cX4_follow 36 = .ok (.aload_n 0, 1) := by decide +kernel
theorem dX4_follow_37 : decode cX4_follow 37 = .ok (.getfield 28, 3) := by decide +kernel
theorem dX4_follow_40 : decode cX4_follow 40 = .ok (.aload_n 0, 1) := by decide +kernel
theorem dX4_follow_41 : decode cX4_follow 41 = .ok (.getfield 10, 3) := by decide +kernel
theorem dX4_follow_44 : decode cX4_follow 44 = .ok (.aload_n 2, 1) := by decide +kernel
theorem dX4_follow_45 : decode cX4_follow 45 = .ok (.invokevirtual 98, 3) := by decide +kernel
theorem dX4_follow_48 : decode cX4_follow 48 = .ok (.aload_n 2, 1) := by decide +kernel
theorem dX4_follow_49 : decode cX4_follow 49 = .ok (.invokevirtual 173, 3) := by decide +kernel
theorem dX4_follow_52 : decode cX4_follow 52 = .ok (.ireturn, 1) := by decide +kernel
theorem dX4_move_0 : decode cX4_move 0 = .ok (.aload_n 0, 1) := by decide +kernel
theorem dX4_move_1 : decode cX4_move 1 = .ok (.iload_n 1, 1) := by decide +kernel
theorem dX4_move_2 : decode cX4_move 2 = .ok (.invokevirtual 166, 3) := by decide +kernel
theorem dX4_move_5 : decode cX4_move 5 = .ok (.aload_n 0, 1) := by decide +kernel
theorem dX4_move_6 : decode cX4_move 6 = .ok (.getfield 34, 3) := by decide +kernel
theorem dX4_move_9 : decode cX4_move 9 = .ok (.iload_n 1, 1) := by decide +kernel
theorem dX4_move_10 : decode cX4_move 10 = .ok (.aaload, 1) := by decide +kernel
theorem dX4_move_11 : decode cX4_move 11 = .ok (.astore_n 3, 1) := by decide +kernel
theorem dX4_move_12 : decode cX4_move 12 = .ok (.aload_n 3, 1) := by decide +kernel
theorem dX4_move_13 : decode cX4_move 13 = .ok (.ifnull 14, 3) := by decide +kernel
theorem dX4_move_16 : decode cX4_move 16 = .ok (.aload_n 0, 1) := by decide +kernel
theorem dX4_move_17 : decode cX4_move 17 = .ok (.getfield 10, 3) := by decide +kernel
theorem dX4_move_20 : decode cX4_move 20 = .ok (.aload_n 3, 1) := by decide +kernel
theorem dX4_move_21 : decode cX4_move 21 = .ok (.invokevirtual 169, 3) := by decide +kernel
theorem dX4_move_24 : decode cX4_move 24 = .ok (.ifCond .ne 13, 3) := by decide +kernel
theorem dX4_move_27 : decode cX4_move 27 = .ok (.new 59, 3) := by decide +kernel
theorem dX4_move_30 : decode cX4_move 30 = .ok (.dup, 1) := by decide +kernel
theorem dX4_move_31 : decode cX4_move 31 = .ok (.ldc 176, 2) := by decide +kernel
theorem dX4_move_33 : decode cX4_move 33 = .ok (.invokespecial 63, 3) := by decide +kernel
theorem dX4_move_36 : decode cX4_move 36 = .ok (.athrow, 1) := by decide +kernel
theorem dX4_move_37 : decode cX4_move 37 = .ok (.aload_n 3, 1) := by decide +kernel
theorem dX4_move_38 : decode cX4_move 38 = .ok (.invokevirtual 173, 3) := by decide +kernel
theorem dX4_move_41 : decode cX4_move 41 = .ok (.i2l, 1) := by decide +kernel
theorem dX4_move_42 : decode cX4_move 42 = .ok (.iload_n 2, 1) := by decide +kernel
theorem dX4_move_43 : decode cX4_move 43 = .ok (.i2l, 1) := by decide +kernel
theorem dX4_move_44 : decode cX4_move 44 = .ok (.ladd, 1) := by decide +kernel
theorem dX4_move_45 : decode cX4_move 45 = .ok (.lstore 4, 2) := by decide +kernel
theorem dX4_move_47 : decode cX4_move 47 = .ok (.lload 4, 2) := by decide +kernel
theorem dX4_move_49 : decode cX4_move 49 = .ok (.lconst 0, 1) := by decide +kernel
theorem dX4_move_50 : decode cX4_move 50 = .ok (.lcmp, 1) := by decide +kernel
theorem dX4_move_51 : decode cX4_move 51 = .ok (.ifCond .lt 17, 3) := by decide +kernel
theorem dX4_move_54 : decode cX4_move 54 = .ok (.lload 4, 2) := by decide +kernel
theorem dX4_move_56 : decode cX4_move 56 = .ok (.aload_n 0, 1) := by decide +kernel
theorem dX4_move_57 : decode cX4_move 57 = .ok (.getfield 10, 3) := by decide +kernel
theorem dX4_move_60 : decode cX4_move 60 = .ok (.invokevirtual 55, 3) := by decide +kernel
theorem dX4_move_63 : decode cX4_move 63 = .ok (.i2l, 1) := by decide +kernel
theorem dX4_move_64 : decode cX4_move 64 = .ok (.lcmp, 1) := by decide +kernel
theorem dX4_move_65 : decode cX4_move 65 = .ok (.ifCond .lt 13, 3) := by decide +kernel
theorem dX4_move_68 : decode cX4_move 68 = .ok (.new 59, 3) := by decide +kernel
theorem dX4_move_71 : decode cX4_move 71 = .ok (.dup, 1) := by decide +kernel
theorem dX4_move_72 : decode cX4_move 72 = .ok (.ldc 178, 2) := by decide +kernel
theorem dX4_move_74 : decode cX4_move 74 = .ok (.invokespecial 63, 3) := by decide +kernel
theorem dX4_move_77 : decode cX4_move 77 = .ok (.athrow, 1) := by decide +kernel
theorem dX4_move_78 : decode cX4_move 78 = .ok (.lload 4, 2) := by decide +kernel
theorem dX4_move_80 : decode cX4_move 80 = .ok (.l2i, 1) := by decide +kernel
theorem dX4_move_81 : decode cX4_move 81 = .ok (.istore 6, 2) := by decide +kernel
theorem dX4_move_83 : decode cX4_move 83 = .ok (.aload_n 0, 1) := by decide +kernel
theorem dX4_move_84 : decode cX4_move 84 = .ok (.iload 6, 2) := by decide +kernel
theorem dX4_move_86 : decode cX4_move 86 = .ok (.invokevirtual 94, 3) := by decide +kernel
theorem dX4_move_89 : decode cX4_move 89 = .ok (.astore 7, 2) := by decide +kernel
theorem dX4_move_91 : decode cX4_move 91 = .ok (.aload_n 0, 1) := by decide +kernel
theorem dX4_move_92 : decode cX4_move 92 = .ok (.getfield 28, 3) := by decide +kernel
theorem dX4_move_95 : decode cX4_move 95 = .ok (.invokevirtual 66, 3) := by decide +kernel
theorem dX4_move_98 : decode cX4_move 98 = .ok (.aload_n 0, 1) := by decide +kernel
theorem dX4_move_99 : decode cX4_move 99 = .ok (.getfield 28, 3) := by decide +kernel
theorem dX4_move_102 : decode cX4_move 102 = .ok (.aload_n 0, 1) := by decide +kernel
theorem dX4_move_103 : decode cX4_move 103 = .ok (.getfield 10, 3) := by decide +kernel
theorem dX4_move_106 : decode cX4_move 106 = .ok (.aload_n 3, 1) := by decide +kernel
theorem dX4_move_107 : decode cX4_move 107 = .ok (.invokevirtual 98, 3) := by decide +kernel
theorem dX4_move_110 : decode cX4_move 110 = .ok (.aload_n 0, 1) := by decide +kernel
theorem dX4_move_111 : decode cX4_move 111 = .ok (.getfield 28, 3) := by decide +kernel
theorem dX4_move_114 : decode cX4_move 114 = .ok (.aload_n 0, 1) := by decide +kernel
theorem dX4_move_115 : decode cX4_move 115 = .ok (.getfield 10, 3) := by decide +kernel
theorem dX4_move_118 : decode cX4_move 118 = .ok (.aload 7, 2) := by decide +kernel
theorem dX4_move_120 : decode cX4_move 120 = .ok (.invokevirtual 98, 3) := by decide +kernel
theorem dX4_move_123 : decode cX4_move 123 = .ok (.aload_n 0, 1) := by decide +kernel
theorem dX4_move_124 : decode cX4_move 124 = .ok (.getfield 34, 3) := by decide +kernel
theorem dX4_move_127 : decode cX4_move 127 = .ok (.iload_n 1, 1) := by decide +kernel
theorem dX4_move_128 : decode cX4_move 128 = .ok (.aload 7, 2) := by decide +kernel
theorem dX4_move_130 : decode cX4_move 130 = .ok (.aastore, 1) := by decide +kernel
theorem dX4_move_131 : decode cX4_move 131 = .ok (.iload 6, 2) := by decide +kernel
theorem dX4_move_133 : decode cX4_move 133 = .ok (.ireturn, 1) := by decide +kernel
theorem dX4_lastSteps_0 : decode cX4_lastSteps 0 = .ok (.aload_n 0, 1) := by decide +kernel
theorem dX4_lastSteps_1 : decode cX4_lastSteps 1 = .ok (.getfield 28, 3) := by decide +kernel
theorem dX4_lastSteps_4 : decode cX4_lastSteps 4 = .ok (.getfield 180, 3) := by decide +kernel
theorem dX4_lastSteps_7 : decode cX4_lastSteps 7 = .ok (.ireturn, 1) := by decide +kernel
theorem dX4_lastRotations_0 : decode cX4_lastRotations 0 = .ok (.aload_n 0, 1) := by decide +kernel
theorem dX4_lastRotations_1 : decode cX4_lastRotations 1 = .ok (.getfield 28, 3) := by decide +kernel
theorem dX4_lastRotations_4 : decode cX4_lastRotations 4 = .ok (.getfield 183, 3) := by decide +kernel
theorem dX4_lastRotations_7 : decode cX4_lastRotations 7 = .ok (.ireturn, 1) := by decide +kernel
theorem dX4_steps_0 : decode cX4_steps 0 = .ok (.aload_n 0, 1) := by decide +kernel
theorem dX4_steps_1 : decode cX4_steps 1 = .ok (.getfield 28, 3) := by decide +kernel
theorem dX4_steps_4 : decode cX4_steps 4 = .ok (.getfield 186, 3) := by decide +kernel
theorem dX4_steps_7 : decode cX4_steps 7 = .ok (.ireturn, 1) := by decide +kernel
theorem dX4_splays_0 : decode cX4_splays 0 = .ok (.aload_n 0, 1) := by decide +kernel
theorem dX4_splays_1 : decode cX4_splays 1 = .ok (.getfield 28, 3) := by decide +kernel
theorem dX4_splays_4 : decode cX4_splays 4 = .ok (.getfield 189, 3) := by decide +kernel
theorem dX4_splays_7 : decode cX4_splays 7 = .ok (.ireturn, 1) := by decide +kernel
theorem dX4_potential_0 : decode cX4_potential 0 = .ok (.aload_n 0, 1) := by decide +kernel
theorem dX4_potential_1 : decode cX4_potential 1 = .ok (.getfield 10, 3) := by decide +kernel
theorem dX4_potential_4 : decode cX4_potential 4 = .ok (.invokevirtual 192, 3) := by decide +kernel
theorem dX4_potential_7 : decode cX4_potential 7 = .ok (.aload_n 0, 1) := by decide +kernel
theorem dX4_potential_8 : decode cX4_potential 8 = .ok (.getfield 16, 3) := by decide +kernel
theorem dX4_potential_11 : decode cX4_potential 11 = .ok (.invokevirtual 192, 3) := by decide +kernel
theorem dX4_potential_14 : decode cX4_potential 14 = .ok (.iadd, 1) := by decide +kernel
theorem dX4_potential_15 : decode cX4_potential 15 = .ok (.ireturn, 1) := by decide +kernel
theorem dX4_size_0 : decode cX4_size 0 = .ok (.aload_n 0, 1) := by decide +kernel
theorem dX4_size_1 : decode cX4_size 1 = .ok (.getfield 10, 3) := by decide +kernel
theorem dX4_size_4 : decode cX4_size 4 = .ok (.invokevirtual 55, 3) := by decide +kernel
theorem dX4_size_7 : decode cX4_size 7 = .ok (.ireturn, 1) := by decide +kernel
theorem dX4_clipped_0 : decode cX4_clipped 0 = .ok (.aload_n 0, 1) := by decide +kernel
theorem dX4_clipped_1 : decode cX4_clipped 1 = .ok (.getfield 16, 3) := by decide +kernel
theorem dX4_clipped_4 : decode cX4_clipped 4 = .ok (.invokevirtual 55, 3) := by decide +kernel
theorem dX4_clipped_7 : decode cX4_clipped 7 = .ok (.ireturn, 1) := by decide +kernel
theorem dX4_root_0 : decode cX4_root 0 = .ok (.aload_n 0, 1) := by decide +kernel
theorem dX4_root_1 : decode cX4_root 1 = .ok (.getfield 10, 3) := by decide +kernel
theorem dX4_root_4 : decode cX4_root 4 = .ok (.getfield 86, 3) := by decide +kernel
theorem dX4_root_7 : decode cX4_root 7 = .ok (.invokestatic 195, 3) := by decide +kernel
theorem dX4_root_10 : decode cX4_root 10 = .ok (.ireturn, 1) := by decide +kernel
theorem dX4_height_0 : decode cX4_height 0 = .ok (.aload_n 0, 1) := by decide +kernel
theorem dX4_height_1 : decode cX4_height 1 = .ok (.getfield 10, 3) := by decide +kernel
theorem dX4_height_4 : decode cX4_height 4 = .ok (.invokevirtual 199, 3) := by decide +kernel
theorem dX4_height_7 : decode cX4_height 7 = .ok (.ireturn, 1) := by decide +kernel
theorem dX4_depth_0 : decode cX4_depth 0 = .ok (.aload_n 0, 1) := by decide +kernel
theorem dX4_depth_1 : decode cX4_depth 1 = .ok (.iload_n 1, 1) := by decide +kernel
theorem dX4_depth_2 : decode cX4_depth 2 = .ok (.invokevirtual 94, 3) := by decide +kernel
theorem dX4_depth_5 : decode cX4_depth 5 = .ok (.invokevirtual 202, 3) := by decide +kernel
theorem dX4_depth_8 : decode cX4_depth 8 = .ok (.ireturn, 1) := by decide +kernel
theorem dX4_subtree_0 : decode cX4_subtree 0 = .ok (.aload_n 0, 1) := by decide +kernel
theorem dX4_subtree_1 : decode cX4_subtree 1 = .ok (.iload_n 1, 1) := by decide +kernel
theorem dX4_subtree_2 : decode cX4_subtree 2 = .ok (.invokevirtual 94, 3) := by decide +kernel
theorem dX4_subtree_5 : decode cX4_subtree 5 = .ok (.getfield 205, 3) := by decide +kernel
theorem dX4_subtree_8 : decode cX4_subtree 8 = .ok (.ireturn, 1) := by decide +kernel
theorem dX4_child_0 : decode cX4_child 0 = .ok (.aload_n 0, 1) := by decide +kernel
theorem dX4_child_1 : decode cX4_child 1 = .ok (.iload_n 1, 1) := by decide +kernel
theorem dX4_child_2 : decode cX4_child 2 = .ok (.invokevirtual 94, 3) := by decide +kernel
theorem dX4_child_5 : decode cX4_child 5 = .ok (.astore_n 3, 1) := by decide +kernel
theorem dX4_child_6 : decode cX4_child 6 = .ok (.iload_n 2, 1) := by decide +kernel
theorem dX4_child_7 : decode cX4_child 7 = .ok (.ifCond .eq 10, 3) := by decide +kernel
theorem dX4_child_10 : decode cX4_child 10 = .ok (.aload_n 3, 1) := by decide +kernel
theorem dX4_child_11 : decode cX4_child 11 = .ok (.getfield 207, 3) := by decide +kernel
theorem dX4_child_14 : decode cX4_child 14 = .ok (.goto 7, 3) := by decide +kernel
theorem dX4_child_17 : decode cX4_child 17 = .ok (.aload_n 3, 1) := by decide +kernel
theorem dX4_child_18 : decode cX4_child 18 = .ok (.getfield 210, 3) := by decide +kernel
theorem dX4_child_21 : decode cX4_child 21 = .ok (.invokestatic 195, 3) := by decide +kernel
theorem dX4_child_24 : decode cX4_child 24 = .ok (.ireturn, 1) := by decide +kernel
theorem dX4_whereIs_0 : decode cX4_whereIs 0 = .ok (.aload_n 0, 1) := by decide +kernel
theorem dX4_whereIs_1 : decode cX4_whereIs 1 = .ok (.iload_n 1, 1) := by decide +kernel
theorem dX4_whereIs_2 : decode cX4_whereIs 2 = .ok (.invokevirtual 166, 3) := by decide +kernel
theorem dX4_whereIs_5 : decode cX4_whereIs 5 = .ok (.aload_n 0, 1) := by decide +kernel
theorem dX4_whereIs_6 : decode cX4_whereIs 6 = .ok (.getfield 34, 3) := by decide +kernel
theorem dX4_whereIs_9 : decode cX4_whereIs 9 = .ok (.iload_n 1, 1) := by decide +kernel
theorem dX4_whereIs_10 : decode cX4_whereIs 10 = .ok (.aaload, 1) := by decide +kernel
theorem dX4_whereIs_11 : decode cX4_whereIs 11 = .ok (.astore_n 2, 1) := by decide +kernel
theorem dX4_whereIs_12 : decode cX4_whereIs 12 = .ok (.aload_n 2, 1) := by decide +kernel
theorem dX4_whereIs_13 : decode cX4_whereIs 13 = .ok (.ifnonnull 5, 3) := by decide +kernel
theorem dX4_whereIs_16 : decode cX4_whereIs 16 = .ok (.iconst 0, 1) := by decide +kernel
theorem dX4_whereIs_17 : decode cX4_whereIs 17 = .ok (.ireturn, 1) := by decide +kernel
theorem dX4_whereIs_18 : decode cX4_whereIs 18 = .ok (.aload_n 0, 1) := by decide +kernel
theorem dX4_whereIs_19 : decode cX4_whereIs 19 = .ok (.getfield 10, 3) := by decide +kernel
theorem dX4_whereIs_22 : decode cX4_whereIs 22 = .ok (.aload_n 2, 1) := by decide +kernel
theorem dX4_whereIs_23 : decode cX4_whereIs 23 = .ok (.invokevirtual 169, 3) := by decide +kernel
theorem dX4_whereIs_26 : decode cX4_whereIs 26 = .ok (.ifCond .eq 7, 3) := by decide +kernel
theorem dX4_whereIs_29 : decode cX4_whereIs 29 = .ok (.iconst 1, 1) := by decide +kernel
theorem dX4_whereIs_30 : decode cX4_whereIs 30 = .ok (.goto 4, 3) := by decide +kernel
theorem dX4_whereIs_33 : decode cX4_whereIs 33 = .ok (.iconst 2, 1) := by decide +kernel
theorem dX4_whereIs_34 : decode cX4_whereIs 34 = .ok (.ireturn, 1) := by decide +kernel
theorem dX4_plain_0 : decode cX4_plain 0 = .ok (.aload_n 0, 1) := by decide +kernel
theorem dX4_plain_1 : decode cX4_plain 1 = .ok (.iload_n 1, 1) := by decide +kernel
theorem dX4_plain_2 : decode cX4_plain 2 = .ok (.invokevirtual 94, 3) := by decide +kernel
theorem dX4_plain_5 : decode cX4_plain 5 = .ok (.pop, 1) := by decide +kernel
theorem dX4_plain_6 : decode cX4_plain 6 = .ok (.aload_n 0, 1) := by decide +kernel
theorem dX4_plain_7 : decode cX4_plain 7 = .ok (.getfield 41, 3) := by decide +kernel
theorem dX4_plain_10 : decode cX4_plain 10 = .ok (.iload_n 1, 1) := by decide +kernel
theorem dX4_plain_11 : decode cX4_plain 11 = .ok (.invokevirtual 213, 3) := by decide +kernel
theorem dX4_plain_14 : decode cX4_plain 14 = .ok (.ireturn, 1) := by decide +kernel
theorem dX4_plainSum_0 : decode cX4_plainSum 0 = .ok (.aload_n 0, 1) := by decide +kernel
theorem dX4_plainSum_1 : decode cX4_plainSum 1 = .ok (.iload_n 1, 1) := by decide +kernel
theorem dX4_plainSum_2 : decode cX4_plainSum 2 = .ok (.iload_n 2, 1) := by decide +kernel
theorem dX4_plainSum_3 : decode cX4_plainSum 3 = .ok (.invokevirtual 125, 3) := by decide +kernel
theorem dX4_plainSum_6 : decode cX4_plainSum 6 = .ok (.aload_n 0, 1) := by decide +kernel
theorem dX4_plainSum_7 : decode cX4_plainSum 7 = .ok (.getfield 41, 3) := by decide +kernel
theorem dX4_plainSum_10 : decode cX4_plainSum 10 = .ok (.iload_n 1, 1) := by decide +kernel
theorem dX4_plainSum_11 : decode cX4_plainSum 11 = .ok (.iload_n 2, 1) := by decide +kernel
theorem dX4_plainSum_12 : decode cX4_plainSum 12 = .ok (.invokevirtual 217, 3) := by decide +kernel
theorem dX4_plainSum_15 : decode cX4_plainSum 15 = .ok (.ireturn, 1) := by decide +kernel
theorem dX4_nodeAt_0 : decode cX4_nodeAt 0 = .ok (.aload_n 0, 1) := by decide +kernel
theorem dX4_nodeAt_1 : decode cX4_nodeAt 1 = .ok (.getfield 10, 3) := by decide +kernel
theorem dX4_nodeAt_4 : decode cX4_nodeAt 4 = .ok (.iload_n 1, 1) := by decide +kernel
theorem dX4_nodeAt_5 : decode cX4_nodeAt 5 = .ok (.invokevirtual 220, 3) := by decide +kernel
theorem dX4_nodeAt_8 : decode cX4_nodeAt 8 = .ok (.astore_n 2, 1) := by decide +kernel
theorem dX4_nodeAt_9 : decode cX4_nodeAt 9 = .ok (.aload_n 2, 1) := by decide +kernel
theorem dX4_nodeAt_10 : decode cX4_nodeAt 10 = .ok (.ifnonnull 13, 3) := by decide +kernel
theorem dX4_nodeAt_13 : decode cX4_nodeAt 13 = .ok (.new 223, 3) := by decide +kernel
theorem dX4_nodeAt_16 : decode cX4_nodeAt 16 = .ok (.dup, 1) := by decide +kernel
theorem dX4_nodeAt_17 : decode cX4_nodeAt 17 = .ok (.ldc 225, 2) := by decide +kernel
theorem dX4_nodeAt_19 : decode cX4_nodeAt 19 = .ok (.invokespecial 227, 3) := by decide +kernel
theorem dX4_nodeAt_22 : decode cX4_nodeAt 22 = .ok (.athrow, 1) := by decide +kernel
theorem dX4_nodeAt_23 : decode cX4_nodeAt 23 = .ok (.aload_n 2, 1) := by decide +kernel
theorem dX4_nodeAt_24 : decode cX4_nodeAt 24 = .ok (.areturn, 1) := by decide +kernel
theorem dX4_checkGap_0 : decode cX4_checkGap 0 = .ok (.iload_n 1, 1) := by decide +kernel
theorem dX4_checkGap_1 : decode cX4_checkGap 1 = .ok (.ifCond .lt 14, 3) := by decide +kernel
theorem dX4_checkGap_4 : decode cX4_checkGap 4 = .ok (.iload_n 1, 1) := by decide +kernel
theorem dX4_checkGap_5 : decode cX4_checkGap 5 = .ok (.aload_n 0, 1) := by decide +kernel
theorem dX4_checkGap_6 : decode cX4_checkGap 6 = .ok (.getfield 10, 3) := by decide +kernel
theorem dX4_checkGap_9 : decode cX4_checkGap 9 = .ok (.invokevirtual 55, 3) := by decide +kernel
theorem dX4_checkGap_12 : decode cX4_checkGap 12 = .ok (.if_icmp .le 13, 3) := by decide +kernel
theorem dX4_checkGap_15 : decode cX4_checkGap 15 = .ok (.new 223, 3) := by decide +kernel
theorem dX4_checkGap_18 : decode cX4_checkGap 18 = .ok (.dup, 1) := by decide +kernel
theorem dX4_checkGap_19 : decode cX4_checkGap 19 = .ok (.ldc 225, 2) := by decide +kernel
theorem dX4_checkGap_21 : decode cX4_checkGap 21 = .ok (.invokespecial 227, 3) := by decide +kernel
theorem dX4_checkGap_24 : decode cX4_checkGap 24 = .ok (.athrow, 1) := by decide +kernel
theorem dX4_checkGap_25 : decode cX4_checkGap 25 = .ok (.return_, 1) := by decide +kernel
theorem dX4_checkRange_0 : decode cX4_checkRange 0 = .ok (.iload_n 1, 1) := by decide +kernel
theorem dX4_checkRange_1 : decode cX4_checkRange 1 = .ok (.ifCond .lt 19, 3) := by decide +kernel
theorem dX4_checkRange_4 : decode cX4_checkRange 4 = .ok (.iload_n 1, 1) := by decide +kernel
theorem dX4_checkRange_5 : decode cX4_checkRange 5 = .ok (.iload_n 2, 1) := by decide +kernel
theorem dX4_checkRange_6 : decode cX4_checkRange 6 = .ok (.if_icmp .gt 14, 3) := by decide +kernel
theorem dX4_checkRange_9 : decode cX4_checkRange 9 = .ok (.iload_n 2, 1) := by decide +kernel
theorem dX4_checkRange_10 : decode cX4_checkRange 10 = .ok (.aload_n 0, 1) := by decide +kernel
theorem dX4_checkRange_11 : decode cX4_checkRange 11 = .ok (.getfield 10, 3) := by decide +kernel
theorem dX4_checkRange_14 : decode cX4_checkRange 14 = .ok (.invokevirtual 55, 3) := by decide +kernel
theorem dX4_checkRange_17 : decode cX4_checkRange 17 = .ok (.if_icmp .le 13, 3) := by decide +kernel
theorem dX4_checkRange_20 : decode cX4_checkRange 20 = .ok (.new 223, 3) := by decide +kernel
theorem dX4_checkRange_23 : decode cX4_checkRange 23 = .ok (.dup, 1) := by decide +kernel
theorem dX4_checkRange_24 : decode cX4_checkRange 24 = .ok (.ldc 228, 2) := by decide +kernel
theorem dX4_checkRange_26 : decode cX4_checkRange 26 = .ok (.invokespecial 227, 3) := by decide +kernel
theorem dX4_checkRange_29 : decode cX4_checkRange 29 = .ok (.athrow, 1) := by decide +kernel
theorem dX4_checkRange_30 : decode cX4_checkRange 30 = .ok (.return_, 1) := by decide +kernel
theorem dX4_checkFinger_0 : decode cX4_checkFinger 0 = .ok (.iload_n 1, 1) := by decide +kernel
theorem dX4_checkFinger_1 : decode cX4_checkFinger 1 = .ok (.ifCond .lt 12, 3) := by decide +kernel
theorem dX4_checkFinger_4 : decode cX4_checkFinger 4 = .ok (.iload_n 1, 1) := by decide +kernel
theorem dX4_checkFinger_5 : decode cX4_checkFinger 5 = .ok (.aload_n 0, 1) := by decide +kernel
theorem dX4_checkFinger_6 : decode cX4_checkFinger 6 = .ok (.getfield 34, 3) := by decide +kernel
theorem dX4_checkFinger_9 : decode cX4_checkFinger 9 = .ok (.arraylength, 1) := by decide +kernel
theorem dX4_checkFinger_10 : decode cX4_checkFinger 10 = .ok (.if_icmp .lt 13, 3) := by decide +kernel
theorem dX4_checkFinger_13 : decode cX4_checkFinger 13 = .ok (.new 223, 3) := by decide +kernel
theorem dX4_checkFinger_16 : decode cX4_checkFinger 16 = .ok (.dup, 1) := by decide +kernel
theorem dX4_checkFinger_17 : decode cX4_checkFinger 17 = .ok (.ldc 230, 2) := by decide +kernel
theorem dX4_checkFinger_19 : decode cX4_checkFinger 19 = .ok (.invokespecial 227, 3) := by decide +kernel
theorem dX4_checkFinger_22 : decode cX4_checkFinger 22 = .ok (.athrow, 1) := by decide +kernel
theorem dX4_checkFinger_23 : decode cX4_checkFinger 23 = .ok (.return_, 1) := by decide +kernel
theorem dX4_checkAmount_0 : decode cX4_checkAmount 0 = .ok (.iload_n 0, 1) := by decide +kernel
theorem dX4_checkAmount_1 : decode cX4_checkAmount 1 = .ok (.sipush (-1000), 3) := by decide +kernel
theorem dX4_checkAmount_4 : decode cX4_checkAmount 4 = .ok (.if_icmp .lt 10, 3) := by decide +kernel
theorem dX4_checkAmount_7 : decode cX4_checkAmount 7 = .ok (.iload_n 0, 1) := by decide +kernel
theorem dX4_checkAmount_8 : decode cX4_checkAmount 8 = .ok (.sipush 1000, 3) := by decide +kernel
theorem dX4_checkAmount_11 : decode cX4_checkAmount 11 = .ok (.if_icmp .le 13, 3) := by decide +kernel
theorem dX4_checkAmount_14 : decode cX4_checkAmount 14 = .ok (.new 148, 3) := by decide +kernel
theorem dX4_checkAmount_17 : decode cX4_checkAmount 17 = .ok (.dup, 1) := by decide +kernel
theorem dX4_checkAmount_18 : decode cX4_checkAmount 18 = .ok (.ldc 232, 2) := by decide +kernel
theorem dX4_checkAmount_20 : decode cX4_checkAmount 20 = .ok (.invokespecial 152, 3) := by decide +kernel
theorem dX4_checkAmount_23 : decode cX4_checkAmount 23 = .ok (.athrow, 1) := by decide +kernel
theorem dX4_checkAmount_24 : decode cX4_checkAmount 24 = .ok (.return_, 1) := by decide +kernel
theorem dX4_positionOrNone_0 : decode cX4_positionOrNone 0 = .ok (.aload_n 0, 1) := by decide +kernel
theorem dX4_positionOrNone_1 : decode cX4_positionOrNone 1 = .ok (.ifnonnull 7, 3) := by decide +kernel
theorem dX4_positionOrNone_4 : decode cX4_positionOrNone 4 = .ok (.iconst (-1), 1) := by decide +kernel
theorem dX4_positionOrNone_5 : decode cX4_positionOrNone 5 = .ok (.goto 7, 3) := by decide +kernel
theorem dX4_positionOrNone_8 : decode cX4_positionOrNone 8 = .ok (.aload_n 0, 1) := by decide +kernel
theorem dX4_positionOrNone_9 : decode cX4_positionOrNone 9 = .ok (.invokevirtual 173, 3) := by decide +kernel
theorem dX4_positionOrNone_12 : decode cX4_positionOrNone 12 = .ok (.ireturn, 1) := by decide +kernel
theorem dX4_liftFingersFrom_0 : decode cX4_liftFingersFrom 0 = .ok (.iconst 0, 1) := by decide +kernel
theorem dX4_liftFingersFrom_1 : decode cX4_liftFingersFrom 1 = .ok (.istore_n 2, 1) := by decide +kernel
theorem dX4_liftFingersFrom_2 : decode cX4_liftFingersFrom 2 = .ok (.iload_n 2, 1) := by decide +kernel
theorem dX4_liftFingersFrom_3 : decode cX4_liftFingersFrom 3 = .ok (.aload_n 0, 1) := by decide +kernel
theorem dX4_liftFingersFrom_4 : decode cX4_liftFingersFrom 4 = .ok (.getfield 34, 3) := by decide +kernel
theorem dX4_liftFingersFrom_7 : decode cX4_liftFingersFrom 7 = .ok (.arraylength, 1) := by decide +kernel
theorem dX4_liftFingersFrom_8 : decode cX4_liftFingersFrom 8 = .ok (.if_icmp .ge 26, 3) := by decide +kernel
theorem dX4_liftFingersFrom_11 : decode cX4_liftFingersFrom 11 = .ok (.aload_n 0, 1) := by decide +kernel
theorem dX4_liftFingersFrom_12 : decode cX4_liftFingersFrom 12 = .ok (.getfield 34, 3) := by decide +kernel
theorem dX4_liftFingersFrom_15 : decode cX4_liftFingersFrom 15 = .ok (.iload_n 2, 1) := by decide +kernel
theorem dX4_liftFingersFrom_16 : decode cX4_liftFingersFrom 16 = .ok (.aaload, 1) := by decide +kernel
theorem dX4_liftFingersFrom_17 : decode cX4_liftFingersFrom 17 = .ok (.aload_n 1, 1) := by decide +kernel
theorem dX4_liftFingersFrom_18 : decode cX4_liftFingersFrom 18 = .ok (.if_acmp .ne 10, 3) := by decide +kernel
theorem dX4_liftFingersFrom_21 : decode cX4_liftFingersFrom 21 = .ok (.aload_n 0, 1) := by decide +kernel
theorem dX4_liftFingersFrom_22 : decode cX4_liftFingersFrom 22 = .ok (.getfield 34, 3) := by decide +kernel
theorem dX4_liftFingersFrom_25 : decode cX4_liftFingersFrom 25 = .ok (.iload_n 2, 1) := by decide +kernel
theorem dX4_liftFingersFrom_26 : decode cX4_liftFingersFrom 26 = .ok (.aconst_null, 1) := by decide +kernel
theorem dX4_liftFingersFrom_27 : decode cX4_liftFingersFrom 27 = .ok (.aastore, 1) := by decide +kernel
theorem dX4_liftFingersFrom_28 : decode cX4_liftFingersFrom 28 = .ok (.iinc 2 1, 3) := by decide +kernel
theorem dX4_liftFingersFrom_31 : decode cX4_liftFingersFrom 31 = .ok (.goto (-29), 3) := by decide +kernel
theorem dX4_liftFingersFrom_34 : decode cX4_liftFingersFrom 34 = .ok (.return_, 1) := by decide +kernel
theorem dX4_takeRange_0 : decode cX4_takeRange 0 = .ok (.iload_n 1, 1) := by decide +kernel
theorem dX4_takeRange_1 : decode cX4_takeRange 1 = .ok (.iload_n 2, 1) := by decide +kernel
theorem dX4_takeRange_2 : decode cX4_takeRange 2 = .ok (.if_icmp .ge 35, 3) := by decide +kernel
theorem dX4_takeRange_5 : decode cX4_takeRange 5 = .ok (.aload_n 0, 1) := by decide +kernel
theorem dX4_takeRange_6 : decode cX4_takeRange 6 = .ok (.getfield 28, 3) := by decide +kernel
theorem dX4_takeRange_9 : decode cX4_takeRange 9 = .ok (.aload_n 0, 1) := by decide +kernel
theorem dX4_takeRange_10 : decode cX4_takeRange 10 = .ok (.getfield 10, 3) := by decide +kernel
theorem dX4_takeRange_13 : decode cX4_takeRange 13 = .ok (.iload_n 2, 1) := by decide +kernel
theorem dX4_takeRange_14 : decode cX4_takeRange 14 = .ok (.aload_n 0, 1) := by decide +kernel
theorem dX4_takeRange_15 : decode cX4_takeRange 15 = .ok (.getfield 22, 3) := by decide +kernel
theorem dX4_takeRange_18 : decode cX4_takeRange 18 = .ok (.invokevirtual 69, 3) := by decide +kernel
theorem dX4_takeRange_21 : decode cX4_takeRange 21 = .ok (.aload_n 0, 1) := by decide +kernel
theorem dX4_takeRange_22 : decode cX4_takeRange 22 = .ok (.getfield 28, 3) := by decide +kernel
theorem dX4_takeRange_25 : decode cX4_takeRange 25 = .ok (.aload_n 0, 1) := by decide +kernel
theorem dX4_takeRange_26 : decode cX4_takeRange 26 = .ok (.getfield 10, 3) := by decide +kernel
theorem dX4_takeRange_29 : decode cX4_takeRange 29 = .ok (.iload_n 1, 1) := by decide +kernel
theorem dX4_takeRange_30 : decode cX4_takeRange 30 = .ok (.aload_n 0, 1) := by decide +kernel
theorem dX4_takeRange_31 : decode cX4_takeRange 31 = .ok (.getfield 19, 3) := by decide +kernel
theorem dX4_takeRange_34 : decode cX4_takeRange 34 = .ok (.invokevirtual 69, 3) := by decide +kernel
theorem dX4_takeRange_37 : decode cX4_takeRange 37 = .ok (.return_, 1) := by decide +kernel
theorem dX4_putRangeBack_0 : decode cX4_putRangeBack 0 = .ok (.aload_n 0, 1) := by decide +kernel
theorem dX4_putRangeBack_1 : decode cX4_putRangeBack 1 = .ok (.getfield 28, 3) := by decide +kernel
theorem dX4_putRangeBack_4 : decode cX4_putRangeBack 4 = .ok (.aload_n 0, 1) := by decide +kernel
theorem dX4_putRangeBack_5 : decode cX4_putRangeBack 5 = .ok (.getfield 10, 3) := by decide +kernel
theorem dX4_putRangeBack_8 : decode cX4_putRangeBack 8 = .ok (.aload_n 0, 1) := by decide +kernel
theorem dX4_putRangeBack_9 : decode cX4_putRangeBack 9 = .ok (.getfield 19, 3) := by decide +kernel
theorem dX4_putRangeBack_12 : decode cX4_putRangeBack 12 = .ok (.invokevirtual 108, 3) := by decide +kernel
theorem dX4_putRangeBack_15 : decode cX4_putRangeBack 15 = .ok (.aload_n 0, 1) := by decide +kernel
theorem dX4_putRangeBack_16 : decode cX4_putRangeBack 16 = .ok (.getfield 28, 3) := by decide +kernel
theorem dX4_putRangeBack_19 : decode cX4_putRangeBack 19 = .ok (.aload_n 0, 1) := by decide +kernel
theorem dX4_putRangeBack_20 : decode cX4_putRangeBack 20 = .ok (.getfield 10, 3) := by decide +kernel
theorem dX4_putRangeBack_23 : decode cX4_putRangeBack 23 = .ok (.aload_n 0, 1) := by decide +kernel
theorem dX4_putRangeBack_24 : decode cX4_putRangeBack 24 = .ok (.getfield 22, 3) := by decide +kernel
theorem dX4_putRangeBack_27 : decode cX4_putRangeBack 27 = .ok (.invokevirtual 108, 3) := by decide +kernel
theorem dX4_putRangeBack_30 : decode cX4_putRangeBack 30 = .ok (.return_, 1) := by decide +kernel
theorem dJ9_max_7cf53_0 : decode cJ9_max_7cf53 0 = .ok (.iload_n 0, 1) := by decide +kernel
theorem dJ9_max_7cf53_1 : decode cJ9_max_7cf53 1 = .ok (.iload_n 1, 1) := by decide +kernel
theorem dJ9_max_7cf53_2 : decode cJ9_max_7cf53 2 = .ok (.if_icmp .lt 7, 3) := by decide +kernel
theorem dJ9_max_7cf53_5 : decode cJ9_max_7cf53 5 = .ok (.iload_n 0, 1) := by decide +kernel
theorem dJ9_max_7cf53_6 : decode cJ9_max_7cf53 6 = .ok (.goto 4, 3) := by decide +kernel
theorem dJ9_max_7cf53_9 : decode cJ9_max_7cf53 9 = .ok (.iload_n 1, 1) := by decide +kernel
theorem dJ9_max_7cf53_10 : decode cJ9_max_7cf53 10 = .ok (.ireturn, 1) := by decide +kernel
theorem dJ9_min_7cf53_0 : decode cJ9_min_7cf53 0 = .ok (.iload_n 0, 1) := by decide +kernel
theorem dJ9_min_7cf53_1 : decode cJ9_min_7cf53 1 = .ok (.iload_n 1, 1) := by decide +kernel
theorem dJ9_min_7cf53_2 : decode cJ9_min_7cf53 2 = .ok (.if_icmp .gt 7, 3) := by decide +kernel
theorem dJ9_min_7cf53_5 : decode cJ9_min_7cf53 5 = .ok (.iload_n 0, 1) := by decide +kernel
theorem dJ9_min_7cf53_6 : decode cJ9_min_7cf53 6 = .ok (.goto 4, 3) := by decide +kernel
theorem dJ9_min_7cf53_9 : decode cJ9_min_7cf53 9 = .ok (.iload_n 1, 1) := by decide +kernel
theorem dJ9_min_7cf53_10 : decode cJ9_min_7cf53 10 = .ok (.ireturn, 1) := by decide +kernel
end
section
theorem dX5_init_0 : decode cX5_init 0 = .ok (.aload_n 0, 1) := by decide +kernel
theorem dX5_init_1 : decode cX5_init 1 = .ok (.invokespecial 1, 3) := by decide +kernel
theorem dX5_init_4 : decode cX5_init 4 = .ok (.aload_n 0, 1) := by decide +kernel
theorem dX5_init_5 : decode cX5_init 5 = .ok (.iconst (-1), 1) := by decide +kernel
theorem dX5_init_6 : decode cX5_init 6 = .ok (.putfield 9, 3) := by decide +kernel
theorem dX5_init_9 : decode cX5_init 9 = .ok (.aload_n 0, 1) := by decide +kernel
theorem dX5_init_10 : decode cX5_init 10 = .ok (.iconst (-1), 1) := by decide +kernel
theorem dX5_init_11 : decode cX5_init 11 = .ok (.putfield 13, 3) := by decide +kernel
theorem dX5_init_14 : decode cX5_init 14 = .ok (.aload_n 0, 1) := by decide +kernel
theorem dX5_init_15 : decode cX5_init 15 = .ok (.bipush 60, 2) := by decide +kernel
theorem dX5_init_17 : decode cX5_init 17 = .ok (.newarray .int, 2) := by decide +kernel
theorem dX5_init_19 : decode cX5_init 19 = .ok (.putfield 16, 3) := by decide +kernel
theorem dX5_init_22 : decode cX5_init 22 = .ok (.aload_n 0, 1) := by decide +kernel
theorem dX5_init_23 : decode cX5_init 23 = .ok (.bipush 60, 2) := by decide +kernel
theorem dX5_init_25 : decode cX5_init 25 = .ok (.newarray .int, 2) := by decide +kernel
theorem dX5_init_27 : decode cX5_init 27 = .ok (.putfield 20, 3) := by decide +kernel
theorem dX5_init_30 : decode cX5_init 30 = .ok (.aload_n 0, 1) := by decide +kernel
theorem dX5_init_31 : decode cX5_init 31 = .ok (.bipush 60, 2) := by decide +kernel
theorem dX5_init_33 : decode cX5_init 33 = .ok (.newarray .int, 2) := by decide +kernel
theorem dX5_init_35 : decode cX5_init 35 = .ok (.putfield 23, 3) := by decide +kernel
theorem dX5_init_38 : decode cX5_init 38 = .ok (.aload_n 0, 1) := by decide +kernel
theorem dX5_init_39 : decode cX5_init 39 = .ok (.bipush 60, 2) := by decide +kernel
theorem dX5_init_41 : decode cX5_init 41 = .ok (.newarray .int, 2) := by decide +kernel
theorem dX5_init_43 : decode cX5_init 43 = .ok (.putfield 26, 3) := by decide +kernel
theorem dX5_init_46 : decode cX5_init 46 = .ok (.aload_n 0, 1) := by decide +kernel
theorem dX5_init_47 : decode cX5_init 47 = .ok (.bipush 60, 2) := by decide +kernel
theorem dX5_init_49 : decode cX5_init 49 = .ok (.newarray .boolean, 2) := by decide +kernel
theorem dX5_init_51 : decode cX5_init 51 = .ok (.putfield 29, 3) := by decide +kernel
theorem dX5_init_54 : decode cX5_init 54 = .ok (.aload_n 0, 1) := by decide +kernel
theorem dX5_init_55 : decode cX5_init 55 = .ok (.iconst 4, 1) := by decide +kernel
theorem dX5_init_56 : decode cX5_init 56 = .ok (.newarray .int, 2) := by decide +kernel
theorem dX5_init_58 : decode cX5_init 58 = .ok (.putfield 33, 3) := by decide +kernel
theorem dX5_init_61 : decode cX5_init 61 = .ok (.aload_n 0, 1) := by decide +kernel
theorem dX5_init_62 : decode cX5_init 62 = .ok (.bipush 60, 2) := by decide +kernel
theorem dX5_init_64 : decode cX5_init 64 = .ok (.newarray .int, 2) := by decide +kernel
theorem dX5_init_66 : decode cX5_init 66 = .ok (.putfield 36, 3) := by decide +kernel
theorem dX5_init_69 : decode cX5_init 69 = .ok (.iconst 0, 1) := by decide +kernel
theorem dX5_init_70 : decode cX5_init 70 = .ok (.istore_n 1, 1) := by decide +kernel
theorem dX5_init_71 : decode cX5_init 71 = .ok (.iload_n 1, 1) := by decide +kernel
theorem dX5_init_72 : decode cX5_init 72 = .ok (.iconst 4, 1) := by decide +kernel
theorem dX5_init_73 : decode cX5_init 73 = .ok (.if_icmp .ge 16, 3) := by decide +kernel
theorem dX5_init_76 : decode cX5_init 76 = .ok (.aload_n 0, 1) := by decide +kernel
theorem dX5_init_77 : decode cX5_init 77 = .ok (.getfield 33, 3) := by decide +kernel
theorem dX5_init_80 : decode cX5_init 80 = .ok (.iload_n 1, 1) := by decide +kernel
theorem dX5_init_81 : decode cX5_init 81 = .ok (.iconst (-1), 1) := by decide +kernel
theorem dX5_init_82 : decode cX5_init 82 = .ok (.iastore, 1) := by decide +kernel
theorem dX5_init_83 : decode cX5_init 83 = .ok (.iinc 1 1, 3) := by decide +kernel
theorem dX5_init_86 : decode cX5_init 86 = .ok (.goto (-15), 3) := by decide +kernel
theorem dX5_init_89 : decode cX5_init 89 = .ok (.return_, 1) := by decide +kernel
theorem dX5_thrown_0 : decode cX5_thrown 0 = .ok (.aload_n 0, 1) := by decide +kernel
theorem dX5_thrown_1 : decode cX5_thrown 1 = .ok (.getfield 39, 3) := by decide +kernel
theorem dX5_thrown_4 : decode cX5_thrown 4 = .ok (.ireturn, 1) := by decide +kernel
theorem dX5_goesWell_0 : decode cX5_goesWell 0 = .ok (.aload_n 0, 1) := by decide +kernel
theorem dX5_goesWell_1 : decode cX5_goesWell 1 = .ok (.iload_n 1, 1) := by decide +kernel
theorem dX5_goesWell_2 : decode cX5_goesWell 2 = .ok (.putfield 39, 3) := by decide +kernel
theorem dX5_goesWell_5 : decode cX5_goesWell 5 = .ok (.iload_n 1, 1) := by decide +kernel
theorem dX5_goesWell_6 : decode cX5_goesWell 6 = .ok (.ifCond .ne 7, 3) := by decide +kernel
theorem dX5_goesWell_9 : decode cX5_goesWell 9 = .ok (.iconst 1, 1) := by decide +kernel
theorem dX5_goesWell_10 : decode cX5_goesWell 10 = .ok (.goto 4, 3) := by decide +kernel
theorem dX5_goesWell_13 : decode cX5_goesWell 13 = .ok (.iconst 0, 1) := by decide +kernel
theorem dX5_goesWell_14 : decode cX5_goesWell 14 = .ok (.ireturn, 1) := by decide +kernel
theorem dX5_leftmost_0 : decode cX5_leftmost 0 = .ok (.iload_n 1, 1) := by decide +kernel
theorem dX5_leftmost_1 : decode cX5_leftmost 1 = .ok (.istore_n 2, 1) := by decide +kernel
theorem dX5_leftmost_2 : decode cX5_leftmost 2 = .ok (.aload_n 0, 1) := by decide +kernel
theorem dX5_leftmost_3 : decode cX5_leftmost 3 = .ok (.getfield 20, 3) := by decide +kernel
theorem dX5_leftmost_6 : decode cX5_leftmost 6 = .ok (.iload_n 2, 1) := by decide +kernel
theorem dX5_leftmost_7 : decode cX5_leftmost 7 = .ok (.iaload, 1) := by decide +kernel
theorem dX5_leftmost_8 : decode cX5_leftmost 8 = .ok (.iconst (-1), 1) := by decide +kernel
theorem dX5_leftmost_9 : decode cX5_leftmost 9 = .ok (.if_icmp .eq 13, 3) := by decide +kernel
theorem dX5_leftmost_12 : decode cX5_leftmost 12 = .ok (.aload_n 0, 1) := by decide +kernel
theorem dX5_leftmost_13 : decode cX5_leftmost 13 = .ok (.getfield 20, 3) := by decide +kernel
theorem dX5_leftmost_16 : decode cX5_leftmost 16 = .ok (.iload_n 2, 1) := by decide +kernel
theorem dX5_leftmost_17 : decode cX5_leftmost 17 = .ok (.iaload, 1) := by decide +kernel
theorem dX5_leftmost_18 : decode cX5_leftmost 18 = .ok (.istore_n 2, 1) := by decide +kernel
theorem dX5_leftmost_19 : decode cX5_leftmost 19 = .ok (.goto (-17), 3) := by decide +kernel
theorem dX5_leftmost_22 : decode cX5_leftmost 22 = .ok (.iload_n 2, 1) := by decide +kernel
theorem dX5_leftmost_23 : decode cX5_leftmost 23 = .ok (.ireturn, 1) := by decide +kernel
theorem dX5_rightmost_0 : decode cX5_rightmost 0 = .ok (.iload_n 1, 1) := by decide +kernel
theorem dX5_rightmost_1 : decode cX5_rightmost 1 = .ok (.istore_n 2, 1) := by decide +kernel
theorem dX5_rightmost_2 : decode cX5_rightmost 2 = .ok (.aload_n 0, 1) := by decide +kernel
theorem dX5_rightmost_3 : decode cX5_rightmost 3 = .ok (.getfield 23, 3) := by decide +kernel
theorem dX5_rightmost_6 : decode cX5_rightmost 6 = .ok (.iload_n 2, 1) := by decide +kernel
theorem dX5_rightmost_7 : decode cX5_rightmost 7 = .ok (.iaload, 1) := by decide +kernel
theorem dX5_rightmost_8 : decode cX5_rightmost 8 = .ok (.iconst (-1), 1) := by decide +kernel
theorem dX5_rightmost_9 : decode cX5_rightmost 9 = .ok (.if_icmp .eq 13, 3) := by decide +kernel
theorem dX5_rightmost_12 : decode cX5_rightmost 12 = .ok (.aload_n 0, 1) := by decide +kernel
theorem dX5_rightmost_13 : decode cX5_rightmost 13 = .ok (.getfield 23, 3) := by decide +kernel
theorem dX5_rightmost_16 : decode cX5_rightmost 16 = .ok (.iload_n 2, 1) := by decide +kernel
theorem dX5_rightmost_17 : decode cX5_rightmost 17 = .ok (.iaload, 1) := by decide +kernel
theorem dX5_rightmost_18 : decode cX5_rightmost 18 = .ok (.istore_n 2, 1) := by decide +kernel
theorem dX5_rightmost_19 : decode cX5_rightmost 19 = .ok (.goto (-17), 3) := by decide +kernel
theorem dX5_rightmost_22 : decode cX5_rightmost 22 = .ok (.iload_n 2, 1) := by decide +kernel
theorem dX5_rightmost_23 : decode cX5_rightmost 23 = .ok (.ireturn, 1) := by decide +kernel
theorem dX5_following_0 : decode cX5_following 0 = .ok (.aload_n 0, 1) := by decide +kernel
theorem dX5_following_1 : decode cX5_following 1 = .ok (.getfield 23, 3) := by decide +kernel
theorem dX5_following_4 : decode cX5_following 4 = .ok (.iload_n 1, 1) := by decide +kernel
theorem dX5_following_5 : decode cX5_following 5 = .ok (.iaload, 1) := by decide +kernel
theorem dX5_following_6 : decode cX5_following 6 = .ok (.iconst (-1), 1) := by decide +kernel
theorem dX5_following_7 : decode cX5_following 7 = .ok (.if_icmp .eq 14, 3) := by decide +kernel
theorem dX5_following_10 : decode cX5_following 10 = .ok (.aload_n 0, 1) := by decide +kernel
theorem dX5_following_11 : decode cX5_following 11 = .ok (.aload_n 0, 1) := by decide +kernel
theorem dX5_following_12 : decode cX5_following 12 = .ok (.getfield 23, 3) := by decide +kernel
theorem dX5_following_15 : decode cX5_following 15 = .ok (.iload_n 1, 1) := by decide +kernel
theorem dX5_following_16 : decode cX5_following 16 = .ok (.iaload, 1) := by decide +kernel
theorem dX5_following_17 : decode cX5_following 17 = .ok (.invokevirtual 42, 3) := by decide +kernel
theorem dX5_following_20 : decode cX5_following 20 = .ok (.ireturn, 1) := by decide +kernel
theorem dX5_following_21 : decode cX5_following 21 = .ok (.iload_n 1, 1) := by decide +kernel
theorem dX5_following_22 : decode cX5_following 22 = .ok (.istore_n 2, 1) := by decide +kernel
theorem dX5_following_23 : decode cX5_following 23 = .ok (.aload_n 0, 1) := by decide +kernel
theorem dX5_following_24 : decode cX5_following 24 = .ok (.getfield 26, 3) := by decide +kernel
theorem dX5_following_27 : decode cX5_following 27 = .ok (.iload_n 2, 1) := by decide +kernel
theorem dX5_following_28 : decode cX5_following 28 = .ok (.iaload, 1) := by decide +kernel
theorem dX5_following_29 : decode cX5_following 29 = .ok (.iconst (-1), 1) := by decide +kernel
theorem dX5_following_30 : decode cX5_following 30 = .ok (.if_icmp .eq 28, 3) := by decide +kernel
theorem dX5_following_33 : decode cX5_following 33 = .ok (.aload_n 0, 1) := by decide +kernel
theorem dX5_following_34 : decode cX5_following 34 = .ok (.getfield 23, 3) := by decide +kernel
theorem dX5_following_37 : decode cX5_following 37 = .ok (.aload_n 0, 1) := by decide +kernel
theorem dX5_following_38 : decode cX5_following 38 = .ok (.getfield 26, 3) := by decide +kernel
theorem dX5_following_41 : decode cX5_following 41 = .ok (.iload_n 2, 1) := by decide +kernel
theorem dX5_following_42 : decode cX5_following 42 = .ok (.iaload, 1) := by decide +kernel
theorem dX5_following_43 : decode cX5_following 43 = .ok (.iaload, 1) := by decide +kernel
theorem dX5_following_44 : decode cX5_following 44 = .ok (.iload_n 2, 1) := by decide +kernel
theorem dX5_following_45 : decode cX5_following 45 = .ok (.if_icmp .ne 13, 3) := by decide +kernel
theorem dX5_following_48 : decode cX5_following 48 = .ok (.aload_n 0, 1) := by decide +kernel
theorem dX5_following_49 : decode cX5_following 49 = .ok (.getfield 26, 3) := by decide +kernel
theorem dX5_following_52 : decode cX5_following 52 = .ok (.iload_n 2, 1) := by decide +kernel
theorem dX5_following_53 : decode cX5_following 53 = .ok (.iaload, 1) := by decide +kernel
theorem dX5_following_54 : decode cX5_following 54 = .ok (.istore_n 2, 1) := by decide +kernel
theorem dX5_following_55 : decode cX5_following 55 = .ok (.goto (-32), 3) := by decide +kernel
theorem dX5_following_58 : decode cX5_following 58 = .ok (.aload_n 0, 1) := by decide +kernel
theorem dX5_following_59 : decode cX5_following 59 = .ok (.getfield 26, 3) := by decide +kernel
theorem dX5_following_62 : decode cX5_following 62 = .ok (.iload_n 2, 1) := by decide +kernel
theorem dX5_following_63 : decode cX5_following 63 = .ok (.iaload, 1) := by decide +kernel
theorem dX5_following_64 : decode cX5_following 64 = .ok (.ireturn, 1) := by decide +kernel
theorem dX5_layOrder_0 : decode cX5_layOrder 0 = .ok (.aload_n 0, 1) := by decide +kernel
theorem dX5_layOrder_1 : decode cX5_layOrder 1 = .ok (.iconst 0, 1) := by decide +kernel
theorem dX5_layOrder_2 : decode cX5_layOrder 2 = .ok (.putfield 46, 3) := by decide +kernel
theorem dX5_layOrder_5 : decode cX5_layOrder 5 = .ok (.iload_n 1, 1) := by decide +kernel
theorem dX5_layOrder_6 : decode cX5_layOrder 6 = .ok (.iconst (-1), 1) := by decide +kernel
theorem dX5_layOrder_7 : decode cX5_layOrder 7 = .ok (.if_icmp .ne 7, 3) := by decide +kernel
theorem dX5_layOrder_10 : decode cX5_layOrder 10 = .ok (.iconst (-1), 1) := by decide +kernel
theorem dX5_layOrder_11 : decode cX5_layOrder 11 = .ok (.goto 8, 3) := by decide +kernel
theorem dX5_layOrder_14 : decode cX5_layOrder 14 = .ok (.aload_n 0, 1) := by decide +kernel
theorem dX5_layOrder_15 : decode cX5_layOrder 15 = .ok (.iload_n 1, 1) := by decide +kernel
theorem dX5_layOrder_16 : decode cX5_layOrder 16 = .ok (.invokevirtual 42, 3) := by decide +kernel
theorem dX5_layOrder_19 : decode cX5_layOrder 19 = .ok (.istore_n 2, 1) := by decide +kernel
theorem dX5_layOrder_20 : decode cX5_layOrder 20 = .ok (.iload_n 2, 1) := by decide +kernel
theorem dX5_layOrder_21 : decode cX5_layOrder 21 = .ok (.iconst (-1), 1) := by decide +kernel
theorem dX5_layOrder_22 : decode cX5_layOrder 22 = .ok (.if_icmp .eq 32, 3) := by decide +kernel
theorem dX5_layOrder_25 : decode cX5_layOrder 25 = .ok (.aload_n 0, 1) := by decide +kernel
theorem dX5_layOrder_26 : decode cX5_layOrder 26 = .ok (.getfield 36, 3) := by decide +kernel
theorem dX5_layOrder_29 : decode cX5_layOrder 29 = .ok (.aload_n 0, 1) := by decide +kernel
theorem dX5_layOrder_30 : decode cX5_layOrder 30 = .ok (.getfield 46, 3) := by decide +kernel
theorem dX5_layOrder_33 : decode cX5_layOrder 33 = .ok (.iload_n 2, 1) := by decide +kernel
theorem dX5_layOrder_34 : decode cX5_layOrder 34 = .ok (.iastore, 1) := by decide +kernel
theorem dX5_layOrder_35 : decode cX5_layOrder 35 = .ok (.aload_n 0, 1) := by decide +kernel
theorem dX5_layOrder_36 : decode cX5_layOrder 36 = .ok (.dup, 1) := by decide +kernel
theorem dX5_layOrder_37 : decode cX5_layOrder 37 = .ok (.getfield 46, 3) := by decide +kernel
theorem dX5_layOrder_40 : decode cX5_layOrder 40 = .ok (.iconst 1, 1) := by decide +kernel
theorem dX5_layOrder_41 : decode cX5_layOrder 41 = .ok (.iadd, 1) := by decide +kernel
theorem dX5_layOrder_42 : decode cX5_layOrder 42 = .ok (.putfield 46, 3) := by decide +kernel
theorem dX5_layOrder_45 : decode cX5_layOrder 45 = .ok (.aload_n 0, 1) := by decide +kernel
theorem dX5_layOrder_46 : decode cX5_layOrder 46 = .ok (.iload_n 2, 1) := by decide +kernel
theorem dX5_layOrder_47 : decode cX5_layOrder 47 = .ok (.invokevirtual 49, 3) := by decide +kernel
theorem dX5_layOrder_50 : decode cX5_layOrder 50 = .ok (.istore_n 2, 1) := by decide +kernel
theorem dX5_layOrder_51 : decode cX5_layOrder 51 = .ok (.goto (-31), 3) := by decide +kernel
theorem dX5_layOrder_54 : decode cX5_layOrder 54 = .ok (.return_, 1) := by decide +kernel
theorem dX5_sizeOf_0 : decode cX5_sizeOf 0 = .ok (.aload_n 0, 1) := by decide +kernel
theorem dX5_sizeOf_1 : decode cX5_sizeOf 1 = .ok (.iload_n 1, 1) := by decide +kernel
theorem dX5_sizeOf_2 : decode cX5_sizeOf 2 = .ok (.invokevirtual 52, 3) := by decide +kernel
theorem dX5_sizeOf_5 : decode cX5_sizeOf 5 = .ok (.aload_n 0, 1) := by decide +kernel
theorem dX5_sizeOf_6 : decode cX5_sizeOf 6 = .ok (.getfield 46, 3) := by decide +kernel
theorem dX5_sizeOf_9 : decode cX5_sizeOf 9 = .ok (.ireturn, 1) := by decide +kernel
theorem dX5_nodeAt_0 : decode cX5_nodeAt 0 = .ok (.aload_n 0, 1) := by decide +kernel
theorem dX5_nodeAt_1 : decode cX5_nodeAt 1 = .ok (.iload_n 1, 1) := by decide +kernel
theorem dX5_nodeAt_2 : decode cX5_nodeAt 2 = .ok (.invokevirtual 52, 3) := by decide +kernel
theorem dX5_nodeAt_5 : decode cX5_nodeAt 5 = .ok (.aload_n 0, 1) := by decide +kernel
theorem dX5_nodeAt_6 : decode cX5_nodeAt 6 = .ok (.getfield 36, 3) := by decide +kernel
theorem dX5_nodeAt_9 : decode cX5_nodeAt 9 = .ok (.iload_n 2, 1) := by decide +kernel
theorem dX5_nodeAt_10 : decode cX5_nodeAt 10 = .ok (.iaload, 1) := by decide +kernel
theorem dX5_nodeAt_11 : decode cX5_nodeAt 11 = .ok (.ireturn, 1) := by decide +kernel
theorem dX5_rootOf_0 : decode cX5_rootOf 0 = .ok (.iload_n 1, 1) := by decide +kernel
theorem dX5_rootOf_1 : decode cX5_rootOf 1 = .ok (.istore_n 2, 1) := by decide +kernel
theorem dX5_rootOf_2 : decode cX5_rootOf 2 = .ok (.aload_n 0, 1) := by decide +kernel
theorem dX5_rootOf_3 : decode cX5_rootOf 3 = .ok (.getfield 26, 3) := by decide +kernel
theorem dX5_rootOf_6 : decode cX5_rootOf 6 = .ok (.iload_n 2, 1) := by decide +kernel
theorem dX5_rootOf_7 : decode cX5_rootOf 7 = .ok (.iaload, 1) := by decide +kernel
theorem dX5_rootOf_8 : decode cX5_rootOf 8 = .ok (.iconst (-1), 1) := by decide +kernel
theorem dX5_rootOf_9 : decode cX5_rootOf 9 = .ok (.if_icmp .eq 13, 3) := by decide +kernel
theorem dX5_rootOf_12 : decode cX5_rootOf 12 = .ok (.aload_n 0, 1) := by decide +kernel
theorem dX5_rootOf_13 : decode cX5_rootOf 13 = .ok (.getfield 26, 3) := by decide +kernel
theorem dX5_rootOf_16 : decode cX5_rootOf 16 = .ok (.iload_n 2, 1) := by decide +kernel
theorem dX5_rootOf_17 : decode cX5_rootOf 17 = .ok (.iaload, 1) := by decide +kernel
theorem dX5_rootOf_18 : decode cX5_rootOf 18 = .ok (.istore_n 2, 1) := by decide +kernel
theorem dX5_rootOf_19 : decode cX5_rootOf 19 = .ok (.goto (-17), 3) := by decide +kernel
theorem dX5_rootOf_22 : decode cX5_rootOf 22 = .ok (.iload_n 2, 1) := by decide +kernel
theorem dX5_rootOf_23 : decode cX5_rootOf 23 = .ok (.ireturn, 1) := by decide +kernel
theorem dX5_placeOf_0 : decode cX5_placeOf 0 = .ok (.aload_n 0, 1) := by decide +kernel
theorem dX5_placeOf_1 : decode cX5_placeOf 1 = .ok (.aload_n 0, 1) := by decide +kernel
theorem dX5_placeOf_2 : decode cX5_placeOf 2 = .ok (.iload_n 1, 1) := by decide +kernel
theorem dX5_placeOf_3 : decode cX5_placeOf 3 = .ok (.invokevirtual 56, 3) := by decide +kernel
theorem dX5_placeOf_6 : decode cX5_placeOf 6 = .ok (.invokevirtual 52, 3) := by decide +kernel
theorem dX5_placeOf_9 : decode cX5_placeOf 9 = .ok (.iconst 0, 1) := by decide +kernel
theorem dX5_placeOf_10 : decode cX5_placeOf 10 = .ok (.istore_n 2, 1) := by decide +kernel
theorem dX5_placeOf_11 : decode cX5_placeOf 11 = .ok (.aload_n 0, 1) := by decide +kernel
theorem dX5_placeOf_12 : decode cX5_placeOf 12 = .ok (.getfield 36, 3) := by decide +kernel
theorem dX5_placeOf_15 : decode cX5_placeOf 15 = .ok (.iload_n 2, 1) := by decide +kernel
theorem dX5_placeOf_16 : decode cX5_placeOf 16 = .ok (.iaload, 1) := by decide +kernel
theorem dX5_placeOf_17 : decode cX5_placeOf 17 = .ok (.iload_n 1, 1) := by decide +kernel
theorem dX5_placeOf_18 : decode cX5_placeOf 18 = .ok (.if_icmp .eq 9, 3) := by decide +kernel
theorem dX5_placeOf_21 : decode cX5_placeOf 21 = .ok (.iinc 2 1, 3) := by decide +kernel
theorem dX5_placeOf_24 : decode cX5_placeOf 24 = .ok (.goto (-13), 3) := by decide +kernel
theorem dX5_placeOf_27 : decode cX5_placeOf 27 = .ok (.iload_n 2, 1) := by decide +kernel
theorem dX5_placeOf_28 : decode cX5_placeOf 28 = .ok (.ireturn, 1) := by decide +kernel
theorem dX5_depthOf_0 : decode cX5_depthOf 0 = .ok (.iconst 0, 1) := by decide +kernel
theorem dX5_depthOf_1 : decode cX5_depthOf 1 = .ok (.istore_n 2, 1) := by decide +kernel
theorem dX5_depthOf_2 : decode cX5_depthOf 2 = .ok (.aload_n 0, 1) := by decide +kernel
theorem dX5_depthOf_3 : decode cX5_depthOf 3 = .ok (.getfield 26, 3) := by decide +kernel
theorem dX5_depthOf_6 : decode cX5_depthOf 6 = .ok (.iload_n 1, 1) := by decide +kernel
theorem dX5_depthOf_7 : decode cX5_depthOf 7 = .ok (.iaload, 1) := by decide +kernel
theorem dX5_depthOf_8 : decode cX5_depthOf 8 = .ok (.istore_n 3, 1) := by decide +kernel
theorem dX5_depthOf_9 : decode cX5_depthOf 9 = .ok (.iload_n 3, 1) := by decide +kernel
theorem dX5_depthOf_10 : decode cX5_depthOf 10 = .ok (.iconst (-1), 1) := by decide +kernel
theorem dX5_depthOf_11 : decode cX5_depthOf 11 = .ok (.if_icmp .eq 16, 3) := by decide +kernel
theorem dX5_depthOf_14 : decode cX5_depthOf 14 = .ok (.iinc 2 1, 3) := by decide +kernel
theorem dX5_depthOf_17 : decode cX5_depthOf 17 = .ok (.aload_n 0, 1) := by decide +kernel
theorem dX5_depthOf_18 : decode cX5_depthOf 18 = .ok (.getfield 26, 3) := by decide +kernel
theorem dX5_depthOf_21 : decode cX5_depthOf 21 = .ok (.iload_n 3, 1) := by decide +kernel
theorem dX5_depthOf_22 : decode cX5_depthOf 22 = .ok (.iaload, 1) := by decide +kernel
theorem dX5_depthOf_23 : decode cX5_depthOf 23 = .ok (.istore_n 3, 1) := by decide +kernel
theorem dX5_depthOf_24 : decode cX5_depthOf 24 = .ok (.goto (-15), 3) := by decide +kernel
theorem dX5_depthOf_27 : decode cX5_depthOf 27 = .ok (.iload_n 2, 1) := by decide +kernel
theorem dX5_depthOf_28 : decode cX5_depthOf 28 = .ok (.ireturn, 1) := by decide +kernel
theorem dX5_below_0 : decode cX5_below 0 = .ok (.iconst 0, 1) := by decide +kernel
theorem dX5_below_1 : decode cX5_below 1 = .ok (.istore_n 2, 1) := by decide +kernel
theorem dX5_below_2 : decode cX5_below 2 = .ok (.iconst 0, 1) := by decide +kernel
theorem dX5_below_3 : decode cX5_below 3 = .ok (.istore_n 3, 1) := by decide +kernel
theorem dX5_below_4 : decode cX5_below 4 = .ok (.iload_n 3, 1) := by decide +kernel
theorem dX5_below_5 : decode cX5_below 5 = .ok (.bipush 60, 2) := by decide +kernel
theorem dX5_below_7 : decode cX5_below 7 = .ok (.if_icmp .ge 63, 3) := by decide +kernel
theorem dX5_below_10 : decode cX5_below 10 = .ok (.aload_n 0, 1) := by decide +kernel
theorem dX5_below_11 : decode cX5_below 11 = .ok (.getfield 29, 3) := by decide +kernel
theorem dX5_below_14 : decode cX5_below 14 = .ok (.iload_n 3, 1) := by decide +kernel
theorem dX5_below_15 : decode cX5_below 15 = .ok (.baload, 1) := by decide +kernel
theorem dX5_below_16 : decode cX5_below 16 = .ok (.ifCond .eq 7, 3) := by decide +kernel
theorem dX5_below_19 : decode cX5_below 19 = .ok (.iload_n 3, 1) := by decide +kernel
theorem dX5_below_20 : decode cX5_below 20 = .ok (.goto 4, 3) := by decide +kernel
theorem dX5_below_23 : decode cX5_below 23 = .ok (.iconst (-1), 1) := by decide +kernel
theorem dX5_below_24 : decode cX5_below 24 = .ok (.istore 4, 2) := by decide +kernel
theorem dX5_below_26 : decode cX5_below 26 = .ok (.iload 4, 2) := by decide +kernel
theorem dX5_below_28 : decode cX5_below 28 = .ok (.iconst (-1), 1) := by decide +kernel
theorem dX5_below_29 : decode cX5_below 29 = .ok (.if_icmp .eq 21, 3) := by decide +kernel
theorem dX5_below_32 : decode cX5_below 32 = .ok (.iload 4, 2) := by decide +kernel
theorem dX5_below_34 : decode cX5_below 34 = .ok (.iload_n 1, 1) := by decide +kernel
theorem dX5_below_35 : decode cX5_below 35 = .ok (.if_icmp .eq 15, 3) := by decide +kernel
theorem dX5_below_38 : decode cX5_below 38 = .ok (.aload_n 0, 1) := by decide +kernel
theorem dX5_below_39 : decode cX5_below 39 = .ok (.getfield 26, 3) := by decide +kernel
theorem dX5_below_42 : decode cX5_below 42 = .ok (.iload 4, 2) := by decide +kernel
theorem dX5_below_44 : decode cX5_below 44 = .ok (.iaload, 1) := by decide +kernel
theorem dX5_below_45 : decode cX5_below 45 = .ok (.istore 4, 2) := by decide +kernel
theorem dX5_below_47 : decode cX5_below 47 = .ok (.goto (-21), 3) := by decide +kernel
theorem dX5_below_50 : decode cX5_below 50 = .ok (.iload_n 2, 1) := by decide +kernel
theorem dX5_below_51 : decode cX5_below 51 = .ok (.iload 4, 2) := by decide +kernel
theorem dX5_below_53 : decode cX5_below 53 = .ok (.iload_n 1, 1) := by decide +kernel
theorem dX5_below_54 : decode cX5_below 54 = .ok (.if_icmp .ne 7, 3) := by decide +kernel
theorem dX5_below_57 : decode cX5_below 57 = .ok (.iconst 1, 1) := by decide +kernel
theorem dX5_below_58 : decode cX5_below 58 = .ok (.goto 4, 3) := by decide +kernel
theorem dX5_below_61 : decode cX5_below 61 = .ok (.iconst 0, 1) := by decide +kernel
theorem dX5_below_62 : decode cX5_below 62 = .ok (.iadd, 1) := by decide +kernel
theorem dX5_below_63 : decode cX5_below 63 = .ok (.istore_n 2, 1) := by decide +kernel
theorem dX5_below_64 : decode cX5_below 64 = .ok (.iinc 3 1, 3) := by decide +kernel
theorem dX5_below_67 : decode cX5_below 67 = .ok (.goto (-63), 3) := by decide +kernel
theorem dX5_below_70 : decode cX5_below 70 = .ok (.iload_n 2, 1) := by decide +kernel
theorem dX5_below_71 : decode cX5_below 71 = .ok (.ireturn, 1) := by decide +kernel
theorem dX5_hang_0 : decode cX5_hang 0 = .ok (.iload_n 1, 1) := by decide +kernel
theorem dX5_hang_1 : decode cX5_hang 1 = .ok (.iconst (-1), 1) := by decide +kernel
theorem dX5_hang_2 : decode cX5_hang 2 = .ok (.if_icmp .eq 10, 3) := by decide +kernel
theorem dX5_hang_5 : decode cX5_hang 5 = .ok (.aload_n 0, 1) := by decide +kernel
theorem dX5_hang_6 : decode cX5_hang 6 = .ok (.getfield 26, 3) := by decide +kernel
theorem dX5_hang_9 : decode cX5_hang 9 = .ok (.iload_n 1, 1) := by decide +kernel
theorem dX5_hang_10 : decode cX5_hang 10 = .ok (.iload_n 2, 1) := by decide +kernel
theorem dX5_hang_11 : decode cX5_hang 11 = .ok (.iastore, 1) := by decide +kernel
theorem dX5_hang_12 : decode cX5_hang 12 = .ok (.iload_n 2, 1) := by decide +kernel
theorem dX5_hang_13 : decode cX5_hang 13 = .ok (.iconst (-1), 1) := by decide +kernel
theorem dX5_hang_14 : decode cX5_hang 14 = .ok (.if_icmp .eq 14, 3) := by decide +kernel
theorem dX5_hang_17 : decode cX5_hang 17 = .ok (.iload_n 3, 1) := by decide +kernel
theorem dX5_hang_18 : decode cX5_hang 18 = .ok (.ifCond .eq 10, 3) := by decide +kernel
theorem dX5_hang_21 : decode cX5_hang 21 = .ok (.aload_n 0, 1) := by decide +kernel
theorem dX5_hang_22 : decode cX5_hang 22 = .ok (.getfield 23, 3) := by decide +kernel
theorem dX5_hang_25 : decode cX5_hang 25 = .ok (.iload_n 2, 1) := by decide +kernel
theorem dX5_hang_26 : decode cX5_hang 26 = .ok (.iload_n 1, 1) := by decide +kernel
theorem dX5_hang_27 : decode cX5_hang 27 = .ok (.iastore, 1) := by decide +kernel
theorem dX5_hang_28 : decode cX5_hang 28 = .ok (.iload_n 2, 1) := by decide +kernel
theorem dX5_hang_29 : decode cX5_hang 29 = .ok (.iconst (-1), 1) := by decide +kernel
theorem dX5_hang_30 : decode cX5_hang 30 = .ok (.if_icmp .eq 14, 3) := by decide +kernel
theorem dX5_hang_33 : decode cX5_hang 33 = .ok (.iload_n 3, 1) := by decide +kernel
theorem dX5_hang_34 : decode cX5_hang 34 = .ok (.ifCond .ne 10, 3) := by decide +kernel
theorem dX5_hang_37 : decode cX5_hang 37 = .ok (.aload_n 0, 1) := by decide +kernel
theorem dX5_hang_38 : decode cX5_hang 38 = .ok (.getfield 20, 3) := by decide +kernel
theorem dX5_hang_41 : decode cX5_hang 41 = .ok (.iload_n 2, 1) := by decide +kernel
theorem dX5_hang_42 : decode cX5_hang 42 = .ok (.iload_n 1, 1) := by decide +kernel
theorem dX5_hang_43 : decode cX5_hang 43 = .ok (.iastore, 1) := by decide +kernel
theorem dX5_hang_44 : decode cX5_hang 44 = .ok (.return_, 1) := by decide +kernel
theorem dX5_rotate_0 : decode cX5_rotate 0 = .ok (.aload_n 0, 1) := by decide +kernel
theorem dX5_rotate_1 : decode cX5_rotate 1 = .ok (.getfield 26, 3) := by decide +kernel
theorem dX5_rotate_4 : decode cX5_rotate 4 = .ok (.iload_n 1, 1) := by decide +kernel
theorem dX5_rotate_5 : decode cX5_rotate 5 = .ok (.iaload, 1) := by decide +kernel
theorem dX5_rotate_6 : decode cX5_rotate 6 = .ok (.istore_n 2, 1) := by decide +kernel
theorem dX5_rotate_7 : decode cX5_rotate 7 = .ok (.aload_n 0, 1) := by decide +kernel
theorem dX5_rotate_8 : decode cX5_rotate 8 = .ok (.getfield 26, 3) := by decide +kernel
theorem dX5_rotate_11 : decode cX5_rotate 11 = .ok (.iload_n 2, 1) := by decide +kernel
theorem dX5_rotate_12 : decode cX5_rotate 12 = .ok (.iaload, 1) := by decide +kernel
theorem dX5_rotate_13 : decode cX5_rotate 13 = .ok (.istore_n 3, 1) := by decide +kernel
theorem dX5_rotate_14 : decode cX5_rotate 14 = .ok (.iload_n 3, 1) := by decide +kernel
theorem dX5_rotate_15 : decode cX5_rotate 15 = .ok (.iconst (-1), 1) := by decide +kernel
theorem dX5_rotate_16 : decode cX5_rotate 16 = .ok (.if_icmp .eq 17, 3) := by decide +kernel
theorem dX5_rotate_19 : decode cX5_rotate 19 = .ok (.aload_n 0, 1) := by decide +kernel
theorem dX5_rotate_20 : decode cX5_rotate 20 = .ok (.getfield 23, 3) := by decide +kernel
theorem dX5_rotate_23 : decode cX5_rotate 23 = .ok (.iload_n 3, 1) := by decide +kernel
theorem dX5_rotate_24 : decode cX5_rotate 24 = .ok (.iaload, 1) := by decide +kernel
theorem dX5_rotate_25 : decode cX5_rotate 25 = .ok (.iload_n 2, 1) := by decide +kernel
theorem dX5_rotate_26 : decode cX5_rotate 26 = .ok (.if_icmp .ne 7, 3) := by decide +kernel
theorem dX5_rotate_29 : decode cX5_rotate 29 = .ok (.iconst 1, 1) := by decide +kernel
theorem dX5_rotate_30 : decode cX5_rotate 30 = .ok (.goto 4, 3) := by decide +kernel
theorem dX5_rotate_33 : decode cX5_rotate 33 = .ok (.iconst 0, 1) := by decide +kernel
theorem dX5_rotate_34 : decode cX5_rotate 34 = .ok (.istore 4, 2) := by decide +kernel
theorem dX5_rotate_36 : decode cX5_rotate 36 = .ok (.aload_n 0, 1) := by decide +kernel
theorem dX5_rotate_37 : decode cX5_rotate 37 = .ok (.getfield 20, 3) := by decide +kernel
theorem dX5_rotate_40 : decode cX5_rotate 40 = .ok (.iload_n 2, 1) := by decide +kernel
theorem dX5_rotate_41 : decode cX5_rotate 41 = .ok (.iaload, 1) := by decide +kernel
theorem dX5_rotate_42 : decode cX5_rotate 42 = .ok (.iload_n 1, 1) := by decide +kernel
theorem dX5_rotate_43 : decode cX5_rotate 43 = .ok (.if_icmp .ne 25, 3) := by decide +kernel
theorem dX5_rotate_46 : decode cX5_rotate 46 = .ok (.aload_n 0, 1) := by decide +kernel
theorem dX5_rotate_47 : decode cX5_rotate 47 = .ok (.aload_n 0, 1) := by decide +kernel
theorem dX5_rotate_48 : decode cX5_rotate 48 = .ok (.getfield 23, 3) := by decide +kernel
theorem dX5_rotate_51 : decode cX5_rotate 51 = .ok (.iload_n 1, 1) := by decide +kernel
theorem dX5_rotate_52 : decode cX5_rotate 52 = .ok (.iaload, 1) := by decide +kernel
theorem dX5_rotate_53 : decode cX5_rotate 53 = .ok (.iload_n 2, 1) := by decide +kernel
theorem dX5_rotate_54 : decode cX5_rotate 54 = .ok (.iconst 0, 1) := by decide +kernel
theorem dX5_rotate_55 : decode cX5_rotate 55 = .ok (.invokevirtual 59, 3) := by decide +kernel
theorem dX5_rotate_58 : decode cX5_rotate 58 = .ok (.aload_n 0, 1) := by decide +kernel
theorem dX5_rotate_59 : decode cX5_rotate 59 = .ok (.iload_n 2, 1) := by decide +kernel
theorem dX5_rotate_60 : decode cX5_rotate 60 = .ok (.iload_n 1, 1) := by decide +kernel
theorem dX5_rotate_61 : decode cX5_rotate 61 = .ok (.iconst 1, 1) := by decide +kernel
theorem dX5_rotate_62 : decode cX5_rotate 62 = .ok (.invokevirtual 59, 3) := by decide +kernel
theorem dX5_rotate_65 : decode cX5_rotate 65 = .ok (.goto 22, 3) := by decide +kernel
theorem dX5_rotate_68 : decode cX5_rotate 68 = .ok (.aload_n 0, 1) := by decide +kernel
theorem dX5_rotate_69 : decode cX5_rotate 69 = .ok (.aload_n 0, 1) := by decide +kernel
theorem dX5_rotate_70 : decode cX5_rotate 70 = .ok (.getfield 20, 3) := by decide +kernel
theorem dX5_rotate_73 : decode cX5_rotate 73 = .ok (.iload_n 1, 1) := by decide +kernel
theorem dX5_rotate_74 : decode cX5_rotate 74 = .ok (.iaload, 1) := by decide +kernel
theorem dX5_rotate_75 : decode cX5_rotate 75 = .ok (.iload_n 2, 1) := by decide +kernel
theorem dX5_rotate_76 : decode cX5_rotate 76 = .ok (.iconst 1, 1) := by decide +kernel
theorem dX5_rotate_77 : decode cX5_rotate 77 = .ok (.invokevirtual 59, 3) := by decide +kernel
theorem dX5_rotate_80 : decode cX5_rotate 80 = .ok (.aload_n 0, 1) := by decide +kernel
theorem dX5_rotate_81 : decode cX5_rotate 81 = .ok (.iload_n 2, 1) := by decide +kernel
theorem dX5_rotate_82 : decode cX5_rotate 82 = .ok (.iload_n 1, 1) := by decide +kernel
theorem dX5_rotate_83 : decode cX5_rotate 83 = .ok (.iconst 0, 1) := by decide +kernel
theorem dX5_rotate_84 : decode cX5_rotate 84 = .ok (.invokevirtual 59, 3) := by decide +kernel
theorem dX5_rotate_87 : decode cX5_rotate 87 = .ok (.aload_n 0, 1) := by decide +kernel
theorem dX5_rotate_88 : decode cX5_rotate 88 = .ok (.iload_n 1, 1) := by decide +kernel
theorem dX5_rotate_89 : decode cX5_rotate 89 = .ok (.iload_n 3, 1) := by decide +kernel
theorem dX5_rotate_90 : decode cX5_rotate 90 = .ok (.iload 4, 2) := by decide +kernel
theorem dX5_rotate_92 : decode cX5_rotate 92 = .ok (.invokevirtual 59, 3) := by decide +kernel
theorem dX5_rotate_95 : decode cX5_rotate 95 = .ok (.aload_n 0, 1) := by decide +kernel
theorem dX5_rotate_96 : decode cX5_rotate 96 = .ok (.dup, 1) := by decide +kernel
theorem dX5_rotate_97 : decode cX5_rotate 97 = .ok (.getfield 63, 3) := by decide +kernel
theorem dX5_rotate_100 : decode cX5_rotate 100 = .ok (.iconst 1, 1) := by decide +kernel
theorem dX5_rotate_101 : decode cX5_rotate 101 = .ok (.iadd, 1) := by decide +kernel
theorem dX5_rotate_102 : decode cX5_rotate 102 = .ok (.putfield 63, 3) := by decide +kernel
theorem dX5_rotate_105 : decode cX5_rotate 105 = .ok (.return_, 1) := by decide +kernel
theorem dX5_splay_0 : decode cX5_splay 0 = .ok (.aload_n 0, 1) := by decide +kernel
theorem dX5_splay_1 : decode cX5_splay 1 = .ok (.dup, 1) := by decide +kernel
theorem dX5_splay_2 : decode cX5_splay 2 = .ok (.getfield 66, 3) := by decide +kernel
theorem dX5_splay_5 : decode cX5_splay 5 = .ok (.iconst 1, 1) := by decide +kernel
theorem dX5_splay_6 : decode cX5_splay 6 = .ok (.iadd, 1) := by decide +kernel
theorem dX5_splay_7 : decode cX5_splay 7 = .ok (.putfield 66, 3) := by decide +kernel
theorem dX5_splay_10 : decode cX5_splay 10 = .ok (.aload_n 0, 1) := by decide +kernel
theorem dX5_splay_11 : decode cX5_splay 11 = .ok (.getfield 26, 3) := by decide +kernel
theorem dX5_splay_14 : decode cX5_splay 14 = .ok (.iload_n 1, 1) := by decide +kernel
theorem dX5_splay_15 : decode cX5_splay 15 = .ok (.iaload, 1) := by decide +kernel
theorem dX5_splay_16 : decode cX5_splay 16 = .ok (.iconst (-1), 1) := by decide +kernel
theorem dX5_splay_17 : decode cX5_splay 17 = .ok (.if_icmp .eq 104, 3) := by decide +kernel
theorem dX5_splay_20 : decode cX5_splay 20 = .ok (.aload_n 0, 1) := by decide +kernel
theorem dX5_splay_21 : decode cX5_splay 21 = .ok (.getfield 26, 3) := by decide +kernel
theorem dX5_splay_24 : decode cX5_splay 24 = .ok (.iload_n 1, 1) := by decide +kernel
theorem dX5_splay_25 : decode cX5_splay 25 = .ok (.iaload, 1) := by decide +kernel
theorem dX5_splay_26 : decode cX5_splay 26 = .ok (.istore_n 2, 1) := by decide +kernel
theorem dX5_splay_27 : decode cX5_splay 27 = .ok (.aload_n 0, 1) := by decide +kernel
theorem dX5_splay_28 : decode cX5_splay 28 = .ok (.getfield 26, 3) := by decide +kernel
theorem dX5_splay_31 : decode cX5_splay 31 = .ok (.iload_n 2, 1) := by decide +kernel
theorem dX5_splay_32 : decode cX5_splay 32 = .ok (.iaload, 1) := by decide +kernel
theorem dX5_splay_33 : decode cX5_splay 33 = .ok (.istore_n 3, 1) := by decide +kernel
theorem dX5_splay_34 : decode cX5_splay 34 = .ok (.iload_n 3, 1) := by decide +kernel
theorem dX5_splay_35 : decode cX5_splay 35 = .ok (.iconst (-1), 1) := by decide +kernel
theorem dX5_splay_36 : decode cX5_splay 36 = .ok (.if_icmp .eq 57, 3) := by decide +kernel
theorem dX5_splay_39 : decode cX5_splay 39 = .ok (.aload_n 0, 1) := by decide +kernel
theorem dX5_splay_40 : decode cX5_splay 40 = .ok (.getfield 20, 3) := by decide +kernel
theorem dX5_splay_43 : decode cX5_splay 43 = .ok (.iload_n 3, 1) := by decide +kernel
theorem dX5_splay_44 : decode cX5_splay 44 = .ok (.iaload, 1) := by decide +kernel
theorem dX5_splay_45 : decode cX5_splay 45 = .ok (.iload_n 2, 1) := by decide +kernel
theorem dX5_splay_46 : decode cX5_splay 46 = .ok (.if_icmp .ne 7, 3) := by decide +kernel
theorem dX5_splay_49 : decode cX5_splay 49 = .ok (.iconst 1, 1) := by decide +kernel
theorem dX5_splay_50 : decode cX5_splay 50 = .ok (.goto 4, 3) := by decide +kernel
theorem dX5_splay_53 : decode cX5_splay 53 = .ok (.iconst 0, 1) := by decide +kernel
theorem dX5_splay_54 : decode cX5_splay 54 = .ok (.aload_n 0, 1) := by decide +kernel
theorem dX5_splay_55 : decode cX5_splay 55 = .ok (.getfield 20, 3) := by decide +kernel
theorem dX5_splay_58 : decode cX5_splay 58 = .ok (.iload_n 2, 1) := by decide +kernel
theorem dX5_splay_59 : decode cX5_splay 59 = .ok (.iaload, 1) := by decide +kernel
theorem dX5_splay_60 : decode cX5_splay 60 = .ok (.iload_n 1, 1) := by decide +kernel
theorem dX5_splay_61 : decode cX5_splay 61 = .ok (.if_icmp .ne 7, 3) := by decide +kernel
theorem dX5_splay_64 : decode cX5_splay 64 = .ok (.iconst 1, 1) := by decide +kernel
theorem dX5_splay_65 : decode cX5_splay 65 = .ok (.goto 4, 3) := by decide +kernel
theorem dX5_splay_68 : decode cX5_splay 68 = .ok (.iconst 0, 1) := by decide +kernel
theorem dX5_splay_69 : decode cX5_splay 69 = .ok (.if_icmp .ne 7, 3) := by decide +kernel
theorem dX5_splay_72 : decode cX5_splay 72 = .ok (.iconst 1, 1) := by decide +kernel
theorem dX5_splay_73 : decode cX5_splay 73 = .ok (.goto 4, 3) := by decide +kernel
theorem dX5_splay_76 : decode cX5_splay 76 = .ok (.iconst 0, 1) := by decide +kernel
theorem dX5_splay_77 : decode cX5_splay 77 = .ok (.istore 4, 2) := by decide +kernel
theorem dX5_splay_79 : decode cX5_splay 79 = .ok (.aload_n 0, 1) := by decide +kernel
theorem dX5_splay_80 : decode cX5_splay 80 = .ok (.iload 4, 2) := by decide +kernel
theorem dX5_splay_82 : decode cX5_splay 82 = .ok (.ifCond .eq 7, 3) := by decide +kernel
theorem dX5_splay_85 : decode cX5_splay 85 = .ok (.iload_n 2, 1) := by decide +kernel
theorem dX5_splay_86 : decode cX5_splay 86 = .ok (.goto 4, 3) := by decide +kernel
theorem dX5_splay_89 : decode cX5_splay 89 = .ok (.iload_n 1, 1) := by decide +kernel
theorem dX5_splay_90 : decode cX5_splay 90 = .ok (.invokevirtual 69, 3) := by decide +kernel
theorem dX5_splay_93 : decode cX5_splay 93 = .ok (.aload_n 0, 1) := by decide +kernel
theorem dX5_splay_94 : decode cX5_splay 94 = .ok (.iload_n 1, 1) := by decide +kernel
theorem dX5_splay_95 : decode cX5_splay 95 = .ok (.invokevirtual 69, 3) := by decide +kernel
theorem dX5_splay_98 : decode cX5_splay 98 = .ok (.aload_n 0, 1) := by decide +kernel
theorem dX5_splay_99 : decode cX5_splay 99 = .ok (.dup, 1) := by decide +kernel
theorem dX5_splay_100 : decode cX5_splay 100 = .ok (.getfield 72, 3) := by decide +kernel
theorem dX5_splay_103 : decode cX5_splay 103 = .ok (.iconst 1, 1) := by decide +kernel
theorem dX5_splay_104 : decode cX5_splay 104 = .ok (.iadd, 1) := by decide +kernel
theorem dX5_splay_105 : decode cX5_splay 105 = .ok (.putfield 72, 3) := by decide +kernel
theorem dX5_splay_108 : decode cX5_splay 108 = .ok (.aload_n 0, 1) := by decide +kernel
theorem dX5_splay_109 : decode cX5_splay 109 = .ok (.dup, 1) := by decide +kernel
theorem dX5_splay_110 : decode cX5_splay 110 = .ok (.getfield 75, 3) := by decide +kernel
theorem dX5_splay_113 : decode cX5_splay 113 = .ok (.iconst 1, 1) := by decide +kernel
theorem dX5_splay_114 : decode cX5_splay 114 = .ok (.iadd, 1) := by decide +kernel
theorem dX5_splay_115 : decode cX5_splay 115 = .ok (.putfield 75, 3) := by decide +kernel
theorem dX5_splay_118 : decode cX5_splay 118 = .ok (.goto (-108), 3) := by decide +kernel
theorem dX5_splay_121 : decode cX5_splay 121 = .ok (.return_, 1) := by decide +kernel
theorem dX5_begins_0 : decode cX5_begins 0 = .ok (.aload_n 0, 1) := by decide +kernel
theorem dX5_begins_1 : decode cX5_begins 1 = .ok (.iconst 0, 1) := by decide +kernel
theorem dX5_begins_2 : decode cX5_begins 2 = .ok (.putfield 72, 3) := by decide +kernel
theorem dX5_begins_5 : decode cX5_begins 5 = .ok (.aload_n 0, 1) := by decide +kernel
theorem dX5_begins_6 : decode cX5_begins 6 = .ok (.iconst 0, 1) := by decide +kernel
theorem dX5_begins_7 : decode cX5_begins 7 = .ok (.putfield 63, 3) := by decide +kernel
theorem dX5_begins_10 : decode cX5_begins 10 = .ok (.return_, 1) := by decide +kernel
theorem dX5_split_0 : decode cX5_split 0 = .ok (.aload_n 0, 1) := by decide +kernel
theorem dX5_split_1 : decode cX5_split 1 = .ok (.iload_n 1, 1) := by decide +kernel
theorem dX5_split_2 : decode cX5_split 2 = .ok (.invokevirtual 78, 3) := by decide +kernel
theorem dX5_split_5 : decode cX5_split 5 = .ok (.istore_n 3, 1) := by decide +kernel
theorem dX5_split_6 : decode cX5_split 6 = .ok (.aload_n 0, 1) := by decide +kernel
theorem dX5_split_7 : decode cX5_split 7 = .ok (.iload_n 2, 1) := by decide +kernel
theorem dX5_split_8 : decode cX5_split 8 = .ok (.ifCond .ne 7, 3) := by decide +kernel
theorem dX5_split_11 : decode cX5_split 11 = .ok (.iconst (-1), 1) := by decide +kernel
theorem dX5_split_12 : decode cX5_split 12 = .ok (.goto 4, 3) := by decide +kernel
theorem dX5_split_15 : decode cX5_split 15 = .ok (.iload_n 1, 1) := by decide +kernel
theorem dX5_split_16 : decode cX5_split 16 = .ok (.putfield 81, 3) := by decide +kernel
theorem dX5_split_19 : decode cX5_split 19 = .ok (.aload_n 0, 1) := by decide +kernel
theorem dX5_split_20 : decode cX5_split 20 = .ok (.iload_n 2, 1) := by decide +kernel
theorem dX5_split_21 : decode cX5_split 21 = .ok (.ifCond .ne 7, 3) := by decide +kernel
theorem dX5_split_24 : decode cX5_split 24 = .ok (.iload_n 1, 1) := by decide +kernel
theorem dX5_split_25 : decode cX5_split 25 = .ok (.goto 4, 3) := by decide +kernel
theorem dX5_split_28 : decode cX5_split 28 = .ok (.iconst (-1), 1) := by decide +kernel
theorem dX5_split_29 : decode cX5_split 29 = .ok (.putfield 84, 3) := by decide +kernel
theorem dX5_split_32 : decode cX5_split 32 = .ok (.iload_n 2, 1) := by decide +kernel
theorem dX5_split_33 : decode cX5_split 33 = .ok (.ifCond .le 57, 3) := by decide +kernel
theorem dX5_split_36 : decode cX5_split 36 = .ok (.iload_n 2, 1) := by decide +kernel
theorem dX5_split_37 : decode cX5_split 37 = .ok (.iload_n 3, 1) := by decide +kernel
theorem dX5_split_38 : decode cX5_split 38 = .ok (.if_icmp .ge 52, 3) := by decide +kernel
theorem dX5_split_41 : decode cX5_split 41 = .ok (.aload_n 0, 1) := by decide +kernel
theorem dX5_split_42 : decode cX5_split 42 = .ok (.iload_n 1, 1) := by decide +kernel
theorem dX5_split_43 : decode cX5_split 43 = .ok (.iload_n 2, 1) := by decide +kernel
theorem dX5_split_44 : decode cX5_split 44 = .ok (.invokevirtual 87, 3) := by decide +kernel
theorem dX5_split_47 : decode cX5_split 47 = .ok (.istore 4, 2) := by decide +kernel
theorem dX5_split_49 : decode cX5_split 49 = .ok (.aload_n 0, 1) := by decide +kernel
theorem dX5_split_50 : decode cX5_split 50 = .ok (.iload 4, 2) := by decide +kernel
theorem dX5_split_52 : decode cX5_split 52 = .ok (.invokevirtual 91, 3) := by decide +kernel
theorem dX5_split_55 : decode cX5_split 55 = .ok (.aload_n 0, 1) := by decide +kernel
theorem dX5_split_56 : decode cX5_split 56 = .ok (.aload_n 0, 1) := by decide +kernel
theorem dX5_split_57 : decode cX5_split 57 = .ok (.getfield 20, 3) := by decide +kernel
theorem dX5_split_60 : decode cX5_split 60 = .ok (.iload 4, 2) := by decide +kernel
theorem dX5_split_62 : decode cX5_split 62 = .ok (.iaload, 1) := by decide +kernel
theorem dX5_split_63 : decode cX5_split 63 = .ok (.putfield 81, 3) := by decide +kernel
theorem dX5_split_66 : decode cX5_split 66 = .ok (.aload_n 0, 1) := by decide +kernel
theorem dX5_split_67 : decode cX5_split 67 = .ok (.iload 4, 2) := by decide +kernel
theorem dX5_split_69 : decode cX5_split 69 = .ok (.putfield 84, 3) := by decide +kernel
theorem dX5_split_72 : decode cX5_split 72 = .ok (.aload_n 0, 1) := by decide +kernel
theorem dX5_split_73 : decode cX5_split 73 = .ok (.getfield 26, 3) := by decide +kernel
theorem dX5_split_76 : decode cX5_split 76 = .ok (.aload_n 0, 1) := by decide +kernel
theorem dX5_split_77 : decode cX5_split 77 = .ok (.getfield 81, 3) := by decide +kernel
theorem dX5_split_80 : decode cX5_split 80 = .ok (.iconst (-1), 1) := by decide +kernel
theorem dX5_split_81 : decode cX5_split 81 = .ok (.iastore, 1) := by decide +kernel
theorem dX5_split_82 : decode cX5_split 82 = .ok (.aload_n 0, 1) := by decide +kernel
theorem dX5_split_83 : decode cX5_split 83 = .ok (.getfield 20, 3) := by decide +kernel
theorem dX5_split_86 : decode cX5_split 86 = .ok (.iload 4, 2) := by decide +kernel
theorem dX5_split_88 : decode cX5_split 88 = .ok (.iconst (-1), 1) := by decide +kernel
theorem dX5_split_89 : decode cX5_split 89 = .ok (.iastore, 1) := by decide +kernel
theorem dX5_split_90 : decode cX5_split 90 = .ok (.return_, 1) := by decide +kernel
theorem dX5_join_0 : decode cX5_join 0 = .ok (.iload_n 1, 1) := by decide +kernel
theorem dX5_join_1 : decode cX5_join 1 = .ok (.iconst (-1), 1) := by decide +kernel
theorem dX5_join_2 : decode cX5_join 2 = .ok (.if_icmp .eq 8, 3) := by decide +kernel
theorem dX5_join_5 : decode cX5_join 5 = .ok (.iload_n 2, 1) := by decide +kernel
theorem dX5_join_6 : decode cX5_join 6 = .ok (.iconst (-1), 1) := by decide +kernel
theorem dX5_join_7 : decode cX5_join 7 = .ok (.if_icmp .ne 14, 3) := by decide +kernel
theorem dX5_join_10 : decode cX5_join 10 = .ok (.iload_n 1, 1) := by decide +kernel
theorem dX5_join_11 : decode cX5_join 11 = .ok (.iconst (-1), 1) := by decide +kernel
theorem dX5_join_12 : decode cX5_join 12 = .ok (.if_icmp .ne 7, 3) := by decide +kernel
theorem dX5_join_15 : decode cX5_join 15 = .ok (.iload_n 2, 1) := by decide +kernel
theorem dX5_join_16 : decode cX5_join 16 = .ok (.goto 4, 3) := by decide +kernel
theorem dX5_join_19 : decode cX5_join 19 = .ok (.iload_n 1, 1) := by decide +kernel
theorem dX5_join_20 : decode cX5_join 20 = .ok (.ireturn, 1) := by decide +kernel
theorem dX5_join_21 : decode cX5_join 21 = .ok (.aload_n 0, 1) := by decide +kernel
theorem dX5_join_22 : decode cX5_join 22 = .ok (.iload_n 1, 1) := by decide +kernel
theorem dX5_join_23 : decode cX5_join 23 = .ok (.invokevirtual 94, 3) := by decide +kernel
theorem dX5_join_26 : decode cX5_join 26 = .ok (.istore_n 3, 1) := by decide +kernel
theorem dX5_join_27 : decode cX5_join 27 = .ok (.aload_n 0, 1) := by decide +kernel
theorem dX5_join_28 : decode cX5_join 28 = .ok (.iload_n 3, 1) := by decide +kernel
theorem dX5_join_29 : decode cX5_join 29 = .ok (.invokevirtual 91, 3) := by decide +kernel
theorem dX5_join_32 : decode cX5_join 32 = .ok (.aload_n 0, 1) := by decide +kernel
theorem dX5_join_33 : decode cX5_join 33 = .ok (.iload_n 2, 1) := by decide +kernel
theorem dX5_join_34 : decode cX5_join 34 = .ok (.iload_n 3, 1) := by decide +kernel
theorem dX5_join_35 : decode cX5_join 35 = .ok (.iconst 1, 1) := by decide +kernel
theorem dX5_join_36 : decode cX5_join 36 = .ok (.invokevirtual 59, 3) := by decide +kernel
theorem dX5_join_39 : decode cX5_join 39 = .ok (.iload_n 3, 1) := by decide +kernel
theorem dX5_join_40 : decode cX5_join 40 = .ok (.ireturn, 1) := by decide +kernel
theorem dX5_count_0 : decode cX5_count 0 = .ok (.aload_n 0, 1) := by decide +kernel
theorem dX5_count_1 : decode cX5_count 1 = .ok (.aload_n 0, 1) := by decide +kernel
theorem dX5_count_2 : decode cX5_count 2 = .ok (.getfield 9, 3) := by decide +kernel
theorem dX5_count_5 : decode cX5_count 5 = .ok (.invokevirtual 78, 3) := by decide +kernel
theorem dX5_count_8 : decode cX5_count 8 = .ok (.ireturn, 1) := by decide +kernel
theorem dX5_isPlace_0 : decode cX5_isPlace 0 = .ok (.iload_n 1, 1) := by decide +kernel
theorem dX5_isPlace_1 : decode cX5_isPlace 1 = .ok (.ifCond .lt 15, 3) := by decide +kernel
theorem dX5_isPlace_4 : decode cX5_isPlace 4 = .ok (.iload_n 1, 1) := by decide +kernel
theorem dX5_isPlace_5 : decode cX5_isPlace 5 = .ok (.aload_n 0, 1) := by decide +kernel
theorem dX5_isPlace_6 : decode cX5_isPlace 6 = .ok (.invokevirtual 97, 3) := by decide +kernel
theorem dX5_isPlace_9 : decode cX5_isPlace 9 = .ok (.if_icmp .ge 7, 3) := by decide +kernel
theorem dX5_isPlace_12 : decode cX5_isPlace 12 = .ok (.iconst 1, 1) := by decide +kernel
theorem dX5_isPlace_13 : decode cX5_isPlace 13 = .ok (.goto 4, 3) := by decide +kernel
theorem dX5_isPlace_16 : decode cX5_isPlace 16 = .ok (.iconst 0, 1) := by decide +kernel
theorem dX5_isPlace_17 : decode cX5_isPlace 17 = .ok (.ireturn, 1) := by decide +kernel
theorem dX5_isRange_0 : decode cX5_isRange 0 = .ok (.iload_n 1, 1) := by decide +kernel
theorem dX5_isRange_1 : decode cX5_isRange 1 = .ok (.ifCond .lt 20, 3) := by decide +kernel
theorem dX5_isRange_4 : decode cX5_isRange 4 = .ok (.iload_n 1, 1) := by decide +kernel
theorem dX5_isRange_5 : decode cX5_isRange 5 = .ok (.iload_n 2, 1) := by decide +kernel
theorem dX5_isRange_6 : decode cX5_isRange 6 = .ok (.if_icmp .gt 15, 3) := by decide +kernel
theorem dX5_isRange_9 : decode cX5_isRange 9 = .ok (.iload_n 2, 1) := by decide +kernel
theorem dX5_isRange_10 : decode cX5_isRange 10 = .ok (.aload_n 0, 1) := by decide +kernel
theorem dX5_isRange_11 : decode cX5_isRange 11 = .ok (.invokevirtual 97, 3) := by decide +kernel
theorem dX5_isRange_14 : decode cX5_isRange 14 = .ok (.if_icmp .gt 7, 3) := by decide +kernel
theorem dX5_isRange_17 : decode cX5_isRange 17 = .ok (.iconst 1, 1) := by decide +kernel
theorem dX5_isRange_18 : decode cX5_isRange 18 = .ok (.goto 4, 3) := by decide +kernel
theorem dX5_isRange_21 : decode cX5_isRange 21 = .ok (.iconst 0, 1) := by decide +kernel
theorem dX5_isRange_22 : decode cX5_isRange 22 = .ok (.ireturn, 1) := by decide +kernel
theorem dX5_isValue_0 : decode cX5_isValue 0 = .ok (.iload_n 0, 1) := by decide +kernel
theorem dX5_isValue_1 : decode cX5_isValue 1 = .ok (.sipush (-1000), 3) := by decide +kernel
theorem dX5_isValue_4 : decode cX5_isValue 4 = .ok (.if_icmp .lt 14, 3) := by decide +kernel
theorem dX5_isValue_7 : decode cX5_isValue 7 = .ok (.iload_n 0, 1) := by decide +kernel
theorem dX5_isValue_8 : decode cX5_isValue 8 = .ok (.sipush 1000, 3) := by decide +kernel
theorem dX5_isValue_11 : decode cX5_isValue 11 = .ok (.if_icmp .gt 7, 3) := by decide +kernel
theorem dX5_isValue_14 : decode cX5_isValue 14 = .ok (.iconst 1, 1) := by decide +kernel
theorem dX5_isValue_15 : decode cX5_isValue 15 = .ok (.goto 4, 3) := by decide +kernel
theorem dX5_isValue_18 : decode cX5_isValue 18 = .ok (.iconst 0, 1) := by decide +kernel
theorem dX5_isValue_19 : decode cX5_isValue 19 = .ok (.ireturn, 1) := by decide +kernel
theorem dX5_isFinger_0 : decode cX5_isFinger 0 = .ok (.iload_n 0, 1) := by decide +kernel
theorem dX5_isFinger_1 : decode cX5_isFinger 1 = .ok (.ifCond .lt 12, 3) := by decide +kernel
theorem dX5_isFinger_4 : decode cX5_isFinger 4 = .ok (.iload_n 0, 1) := by decide +kernel
theorem dX5_isFinger_5 : decode cX5_isFinger 5 = .ok (.iconst 4, 1) := by decide +kernel
theorem dX5_isFinger_6 : decode cX5_isFinger 6 = .ok (.if_icmp .ge 7, 3) := by decide +kernel
theorem dX5_isFinger_9 : decode cX5_isFinger 9 = .ok (.iconst 1, 1) := by decide +kernel
theorem dX5_isFinger_10 : decode cX5_isFinger 10 = .ok (.goto 4, 3) := by decide +kernel
theorem dX5_isFinger_13 : decode cX5_isFinger 13 = .ok (.iconst 0, 1) := by decide +kernel
theorem dX5_isFinger_14 : decode cX5_isFinger 14 = .ok (.ireturn, 1) := by decide +kernel
theorem dX5_insert_0 : decode cX5_insert 0 = .ok (.aload_n 0, 1) := by decide +kernel
theorem dX5_insert_1 : decode cX5_insert 1 = .ok (.iload_n 1, 1) := by decide +kernel
theorem dX5_insert_2 : decode cX5_insert 2 = .ok (.ifCond .lt 11, 3) := by decide +kernel
theorem dX5_insert_5 : decode cX5_insert 5 = .ok (.iload_n 1, 1) := by decide +kernel
theorem dX5_insert_6 : decode cX5_insert 6 = .ok (.aload_n 0, 1) := by decide +kernel
theorem dX5_insert_7 : decode cX5_insert 7 = .ok (.invokevirtual 97, 3) := by decide +kernel
theorem dX5_insert_10 : decode cX5_insert 10 = .ok (.if_icmp .le 7, 3) := by decide +kernel
theorem dX5_insert_13 : decode cX5_insert 13 = .ok (.iconst 1, 1) := by decide +kernel
theorem dX5_insert_14 : decode cX5_insert 14 = .ok (.goto 37, 3) := by decide +kernel
theorem dX5_insert_17 : decode cX5_insert 17 = .ok (.iload_n 2, 1) := by decide +kernel
theorem dX5_insert_18 : decode cX5_insert 18 = .ok (.invokestatic 101, 3) := by decide +kernel
theorem dX5_insert_21 : decode cX5_insert 21 = .ok (.ifCond .ne 7, 3) := by decide +kernel
theorem dX5_insert_24 : decode cX5_insert 24 = .ok (.iconst 2, 1) := by decide +kernel
theorem dX5_insert_25 : decode cX5_insert 25 = .ok (.goto 26, 3) := by decide +kernel
theorem dX5_insert_28 : decode cX5_insert 28 = .ok (.aload_n 0, 1) := by decide +kernel
theorem dX5_insert_29 : decode cX5_insert 29 = .ok (.invokevirtual 97, 3) := by decide +kernel
theorem dX5_insert_32 : decode cX5_insert 32 = .ok (.aload_n 0, 1) := by decide +kernel
theorem dX5_insert_33 : decode cX5_insert 33 = .ok (.aload_n 0, 1) := by decide +kernel
theorem dX5_insert_34 : decode cX5_insert 34 = .ok (.getfield 13, 3) := by decide +kernel
theorem dX5_insert_37 : decode cX5_insert 37 = .ok (.invokevirtual 78, 3) := by decide +kernel
theorem dX5_insert_40 : decode cX5_insert 40 = .ok (.iadd, 1) := by decide +kernel
theorem dX5_insert_41 : decode cX5_insert 41 = .ok (.bipush 60, 2) := by decide +kernel
theorem dX5_insert_43 : decode cX5_insert 43 = .ok (.if_icmp .ne 7, 3) := by decide +kernel
theorem dX5_insert_46 : decode cX5_insert 46 = .ok (.iconst 3, 1) := by decide +kernel
theorem dX5_insert_47 : decode cX5_insert 47 = .ok (.goto 4, 3) := by decide +kernel
theorem dX5_insert_50 : decode cX5_insert 50 = .ok (.iconst 0, 1) := by decide +kernel
theorem dX5_insert_51 : decode cX5_insert 51 = .ok (.invokevirtual 105, 3) := by decide +kernel
theorem dX5_insert_54 : decode cX5_insert 54 = .ok (.ifCond .ne 5, 3) := by decide +kernel
theorem dX5_insert_57 : decode cX5_insert 57 = .ok (.iconst 0, 1) := by decide +kernel
theorem dX5_insert_58 : decode cX5_insert 58 = .ok (.ireturn, 1) := by decide +kernel
theorem dX5_insert_59 : decode cX5_insert 59 = .ok (.aload_n 0, 1) := by decide +kernel
theorem dX5_insert_60 : decode cX5_insert 60 = .ok (.invokevirtual 108, 3) := by decide +kernel
theorem dX5_insert_63 : decode cX5_insert 63 = .ok (.aload_n 0, 1) := by decide +kernel
theorem dX5_insert_64 : decode cX5_insert 64 = .ok (.aload_n 0, 1) := by decide +kernel
theorem dX5_insert_65 : decode cX5_insert 65 = .ok (.getfield 9, 3) := by decide +kernel
theorem dX5_insert_68 : decode cX5_insert 68 = .ok (.iload_n 1, 1) := by decide +kernel
theorem dX5_insert_69 : decode cX5_insert 69 = .ok (.invokevirtual 111, 3) := by decide +kernel
theorem dX5_insert_72 : decode cX5_insert 72 = .ok (.iconst 0, 1) := by decide +kernel
theorem dX5_insert_73 : decode cX5_insert 73 = .ok (.istore_n 3, 1) := by decide +kernel
theorem dX5_insert_74 : decode cX5_insert 74 = .ok (.aload_n 0, 1) := by decide +kernel
theorem dX5_insert_75 : decode cX5_insert 75 = .ok (.getfield 29, 3) := by decide +kernel
theorem dX5_insert_78 : decode cX5_insert 78 = .ok (.iload_n 3, 1) := by decide +kernel
theorem dX5_insert_79 : decode cX5_insert 79 = .ok (.baload, 1) := by decide +kernel
theorem dX5_insert_80 : decode cX5_insert 80 = .ok (.ifCond .eq 9, 3) := by decide +kernel
theorem dX5_insert_83 : decode cX5_insert 83 = .ok (.iinc 3 1, 3) := by decide +kernel
theorem dX5_insert_86 : decode cX5_insert 86 = .ok (.goto (-12), 3) := by decide +kernel
theorem dX5_insert_89 : decode cX5_insert 89 = .ok (.aload_n 0, 1) := by decide +kernel
theorem dX5_insert_90 : decode cX5_insert 90 = .ok (.getfield 29, 3) := by decide +kernel
theorem dX5_insert_93 : decode cX5_insert 93 = .ok (.iload_n 3, 1) := by decide +kernel
theorem dX5_insert_94 : decode cX5_insert 94 = .ok (.iconst 1, 1) := by decide +kernel
theorem dX5_insert_95 : decode cX5_insert 95 = .ok (.bastore, 1) := by decide +kernel
theorem dX5_insert_96 : decode cX5_insert 96 = .ok (.aload_n 0, 1) := by decide +kernel
theorem dX5_insert_97 : decode cX5_insert 97 = .ok (.getfield 16, 3) := by decide +kernel
theorem dX5_insert_100 : decode cX5_insert 100 = .ok (.iload_n 3, 1) := by decide +kernel
theorem dX5_insert_101 : decode cX5_insert 101 = .ok (.iload_n 2, 1) := by decide +kernel
theorem dX5_insert_102 : decode cX5_insert 102 = .ok (.iastore, 1) := by decide +kernel
theorem dX5_insert_103 : decode cX5_insert 103 = .ok (.aload_n 0, 1) := by decide +kernel
theorem dX5_insert_104 : decode cX5_insert 104 = .ok (.getfield 26, 3) := by decide +kernel
theorem dX5_insert_107 : decode cX5_insert 107 = .ok (.iload_n 3, 1) := by decide +kernel
theorem dX5_insert_108 : decode cX5_insert 108 = .ok (.iconst (-1), 1) := by decide +kernel
theorem dX5_insert_109 : decode cX5_insert 109 = .ok (.iastore, 1) := by decide +kernel
theorem dX5_insert_110 : decode cX5_insert 110 = .ok (.aload_n 0, 1) := by decide +kernel
theorem dX5_insert_111 : decode cX5_insert 111 = .ok (.getfield 20, 3) := by decide +kernel
theorem dX5_insert_114 : decode cX5_insert 114 = .ok (.iload_n 3, 1) := by decide +kernel
theorem dX5_insert_115 : decode cX5_insert 115 = .ok (.iconst (-1), 1) := by decide +kernel
theorem dX5_insert_116 : decode cX5_insert 116 = .ok (.iastore, 1) := by decide +kernel
theorem dX5_insert_117 : decode cX5_insert 117 = .ok (.aload_n 0, 1) := by decide +kernel
theorem dX5_insert_118 : decode cX5_insert 118 = .ok (.getfield 23, 3) := by decide +kernel
theorem dX5_insert_121 : decode cX5_insert 121 = .ok (.iload_n 3, 1) := by decide +kernel
theorem dX5_insert_122 : decode cX5_insert 122 = .ok (.iconst (-1), 1) := by decide +kernel
theorem dX5_insert_123 : decode cX5_insert 123 = .ok (.iastore, 1) := by decide +kernel
theorem dX5_insert_124 : decode cX5_insert 124 = .ok (.aload_n 0, 1) := by decide +kernel
theorem dX5_insert_125 : decode cX5_insert 125 = .ok (.aload_n 0, 1) := by decide +kernel
theorem dX5_insert_126 : decode cX5_insert 126 = .ok (.getfield 81, 3) := by decide +kernel
theorem dX5_insert_129 : decode cX5_insert 129 = .ok (.iload_n 3, 1) := by decide +kernel
theorem dX5_insert_130 : decode cX5_insert 130 = .ok (.iconst 0, 1) := by decide +kernel
theorem dX5_insert_131 : decode cX5_insert 131 = .ok (.invokevirtual 59, 3) := by decide +kernel
theorem dX5_insert_134 : decode cX5_insert 134 = .ok (.aload_n 0, 1) := by decide +kernel
theorem dX5_insert_135 : decode cX5_insert 135 = .ok (.aload_n 0, 1) := by decide +kernel
theorem dX5_insert_136 : decode cX5_insert 136 = .ok (.getfield 84, 3) := by decide +kernel
theorem dX5_insert_139 : decode cX5_insert 139 = .ok (.iload_n 3, 1) := by decide +kernel
theorem dX5_insert_140 : decode cX5_insert 140 = .ok (.iconst 1, 1) := by decide +kernel
theorem dX5_insert_141 : decode cX5_insert 141 = .ok (.invokevirtual 59, 3) := by decide +kernel
theorem dX5_insert_144 : decode cX5_insert 144 = .ok (.aload_n 0, 1) := by decide +kernel
theorem dX5_insert_145 : decode cX5_insert 145 = .ok (.iload_n 3, 1) := by decide +kernel
theorem dX5_insert_146 : decode cX5_insert 146 = .ok (.putfield 9, 3) := by decide +kernel
theorem dX5_insert_149 : decode cX5_insert 149 = .ok (.aload_n 0, 1) := by decide +kernel
theorem dX5_insert_150 : decode cX5_insert 150 = .ok (.invokevirtual 97, 3) := by decide +kernel
theorem dX5_insert_153 : decode cX5_insert 153 = .ok (.ireturn, 1) := by decide +kernel
theorem dX5_remove_0 : decode cX5_remove 0 = .ok (.aload_n 0, 1) := by decide +kernel
theorem dX5_remove_1 : decode cX5_remove 1 = .ok (.aload_n 0, 1) := by decide +kernel
theorem dX5_remove_2 : decode cX5_remove 2 = .ok (.iload_n 1, 1) := by decide +kernel
theorem dX5_remove_3 : decode cX5_remove 3 = .ok (.invokevirtual 115, 3) := by decide +kernel
theorem dX5_remove_6 : decode cX5_remove 6 = .ok (.ifCond .eq 7, 3) := by decide +kernel
theorem dX5_remove_9 : decode cX5_remove 9 = .ok (.iconst 0, 1) := by decide +kernel
theorem dX5_remove_10 : decode cX5_remove 10 = .ok (.goto 4, 3) := by decide +kernel
theorem dX5_remove_13 : decode cX5_remove 13 = .ok (.iconst 1, 1) := by decide +kernel
theorem dX5_remove_14 : decode cX5_remove 14 = .ok (.invokevirtual 105, 3) := by decide +kernel
theorem dX5_remove_17 : decode cX5_remove 17 = .ok (.ifCond .ne 5, 3) := by decide +kernel
theorem dX5_remove_20 : decode cX5_remove 20 = .ok (.iconst 0, 1) := by decide +kernel
theorem dX5_remove_21 : decode cX5_remove 21 = .ok (.ireturn, 1) := by decide +kernel
theorem dX5_remove_22 : decode cX5_remove 22 = .ok (.aload_n 0, 1) := by decide +kernel
theorem dX5_remove_23 : decode cX5_remove 23 = .ok (.invokevirtual 108, 3) := by decide +kernel
theorem dX5_remove_26 : decode cX5_remove 26 = .ok (.aload_n 0, 1) := by decide +kernel
theorem dX5_remove_27 : decode cX5_remove 27 = .ok (.aload_n 0, 1) := by decide +kernel
theorem dX5_remove_28 : decode cX5_remove 28 = .ok (.getfield 9, 3) := by decide +kernel
theorem dX5_remove_31 : decode cX5_remove 31 = .ok (.iload_n 1, 1) := by decide +kernel
theorem dX5_remove_32 : decode cX5_remove 32 = .ok (.invokevirtual 87, 3) := by decide +kernel
theorem dX5_remove_35 : decode cX5_remove 35 = .ok (.istore_n 2, 1) := by decide +kernel
theorem dX5_remove_36 : decode cX5_remove 36 = .ok (.aload_n 0, 1) := by decide +kernel
theorem dX5_remove_37 : decode cX5_remove 37 = .ok (.iload_n 2, 1) := by decide +kernel
theorem dX5_remove_38 : decode cX5_remove 38 = .ok (.invokevirtual 91, 3) := by decide +kernel
theorem dX5_remove_41 : decode cX5_remove 41 = .ok (.aload_n 0, 1) := by decide +kernel
theorem dX5_remove_42 : decode cX5_remove 42 = .ok (.getfield 20, 3) := by decide +kernel
theorem dX5_remove_45 : decode cX5_remove 45 = .ok (.iload_n 2, 1) := by decide +kernel
theorem dX5_remove_46 : decode cX5_remove 46 = .ok (.iaload, 1) := by decide +kernel
theorem dX5_remove_47 : decode cX5_remove 47 = .ok (.istore_n 3, 1) := by decide +kernel
theorem dX5_remove_48 : decode cX5_remove 48 = .ok (.aload_n 0, 1) := by decide +kernel
theorem dX5_remove_49 : decode cX5_remove 49 = .ok (.getfield 23, 3) := by decide +kernel
theorem dX5_remove_52 : decode cX5_remove 52 = .ok (.iload_n 2, 1) := by decide +kernel
theorem dX5_remove_53 : decode cX5_remove 53 = .ok (.iaload, 1) := by decide +kernel
theorem dX5_remove_54 : decode cX5_remove 54 = .ok (.istore 4, 2) := by decide +kernel
theorem dX5_remove_56 : decode cX5_remove 56 = .ok (.aload_n 0, 1) := by decide +kernel
theorem dX5_remove_57 : decode cX5_remove 57 = .ok (.iload_n 3, 1) := by decide +kernel
theorem dX5_remove_58 : decode cX5_remove 58 = .ok (.iconst (-1), 1) := by decide +kernel
theorem dX5_remove_59 : decode cX5_remove 59 = .ok (.iconst 0, 1) := by decide +kernel
theorem dX5_remove_60 : decode cX5_remove 60 = .ok (.invokevirtual 59, 3) := by decide +kernel
theorem dX5_remove_63 : decode cX5_remove 63 = .ok (.aload_n 0, 1) := by decide +kernel
theorem dX5_remove_64 : decode cX5_remove 64 = .ok (.iload 4, 2) := by decide +kernel
theorem dX5_remove_66 : decode cX5_remove 66 = .ok (.iconst (-1), 1) := by decide +kernel
theorem dX5_remove_67 : decode cX5_remove 67 = .ok (.iconst 0, 1) := by decide +kernel
theorem dX5_remove_68 : decode cX5_remove 68 = .ok (.invokevirtual 59, 3) := by decide +kernel
theorem dX5_remove_71 : decode cX5_remove 71 = .ok (.aload_n 0, 1) := by decide +kernel
theorem dX5_remove_72 : decode cX5_remove 72 = .ok (.getfield 29, 3) := by decide +kernel
theorem dX5_remove_75 : decode cX5_remove 75 = .ok (.iload_n 2, 1) := by decide +kernel
theorem dX5_remove_76 : decode cX5_remove 76 = .ok (.iconst 0, 1) := by decide +kernel
theorem dX5_remove_77 : decode cX5_remove 77 = .ok (.bastore, 1) := by decide +kernel
theorem dX5_remove_78 : decode cX5_remove 78 = .ok (.aload_n 0, 1) := by decide +kernel
theorem dX5_remove_79 : decode cX5_remove 79 = .ok (.aload_n 0, 1) := by decide +kernel
theorem dX5_remove_80 : decode cX5_remove 80 = .ok (.iload_n 3, 1) := by decide +kernel
theorem dX5_remove_81 : decode cX5_remove 81 = .ok (.iload 4, 2) := by decide +kernel
theorem dX5_remove_83 : decode cX5_remove 83 = .ok (.invokevirtual 118, 3) := by decide +kernel
theorem dX5_remove_86 : decode cX5_remove 86 = .ok (.putfield 9, 3) := by decide +kernel
theorem dX5_remove_89 : decode cX5_remove 89 = .ok (.iconst 0, 1) := by decide +kernel
theorem dX5_remove_90 : decode cX5_remove 90 = .ok (.istore 5, 2) := by decide +kernel
theorem dX5_remove_92 : decode cX5_remove 92 = .ok (.iload 5, 2) := by decide +kernel
theorem dX5_remove_94 : decode cX5_remove 94 = .ok (.iconst 4, 1) := by decide +kernel
theorem dX5_remove_95 : decode cX5_remove 95 = .ok (.if_icmp .ge 38, 3) := by decide +kernel
theorem dX5_remove_98 : decode cX5_remove 98 = .ok (.aload_n 0, 1) := by decide +kernel
theorem dX5_remove_99 : decode cX5_remove 99 = .ok (.getfield 33, 3) := by decide +kernel
theorem dX5_remove_102 : decode cX5_remove 102 = .ok (.iload 5, 2) := by decide +kernel
theorem dX5_remove_104 : decode cX5_remove 104 = .ok (.aload_n 0, 1) := by decide +kernel
theorem dX5_remove_105 : decode cX5_remove 105 = .ok (.getfield 33, 3) := by decide +kernel
theorem dX5_remove_108 : decode cX5_remove 108 = .ok (.iload 5, 2) := by decide +kernel
theorem dX5_remove_110 : decode cX5_remove 110 = .ok (.iaload, 1) := by decide +kernel
theorem dX5_remove_111 : decode cX5_remove 111 = .ok (.iload_n 2, 1) := by decide +kernel
theorem dX5_remove_112 : decode cX5_remove 112 = .ok (.if_icmp .ne 7, 3) := by decide +kernel
theorem dX5_remove_115 : decode cX5_remove 115 = .ok (.iconst (-1), 1) := by decide +kernel
theorem dX5_remove_116 : decode cX5_remove 116 = .ok (.goto 10, 3) := by decide +kernel
theorem dX5_remove_119 : decode cX5_remove 119 = .ok (.aload_n 0, 1) := by decide +kernel
theorem dX5_remove_120 : decode cX5_remove 120 = .ok (.getfield 33, 3) := by decide +kernel
theorem dX5_remove_123 : decode cX5_remove 123 = .ok (.iload 5, 2) := by decide +kernel
theorem dX5_remove_125 : decode cX5_remove 125 = .ok (.iaload, 1) := by decide +kernel
theorem dX5_remove_126 : decode cX5_remove 126 = .ok (.iastore, 1) := by decide +kernel
theorem dX5_remove_127 : decode cX5_remove 127 = .ok (.iinc 5 1, 3) := by decide +kernel
theorem dX5_remove_130 : decode cX5_remove 130 = .ok (.goto (-38), 3) := by decide +kernel
theorem dX5_remove_133 : decode cX5_remove 133 = .ok (.aload_n 0, 1) := by decide +kernel
theorem dX5_remove_134 : decode cX5_remove 134 = .ok (.getfield 16, 3) := by decide +kernel
theorem dX5_remove_137 : decode cX5_remove 137 = .ok (.iload_n 2, 1) := by decide +kernel
theorem dX5_remove_138 : decode cX5_remove 138 = .ok (.iaload, 1) := by decide +kernel
theorem dX5_remove_139 : decode cX5_remove 139 = .ok (.ireturn, 1) := by decide +kernel
theorem dX5_raiseUp_0 : decode cX5_raiseUp 0 = .ok (.aload_n 0, 1) := by decide +kernel
theorem dX5_raiseUp_1 : decode cX5_raiseUp 1 = .ok (.aload_n 0, 1) := by decide +kernel
theorem dX5_raiseUp_2 : decode cX5_raiseUp 2 = .ok (.getfield 9, 3) := by decide +kernel
theorem dX5_raiseUp_5 : decode cX5_raiseUp 5 = .ok (.iload_n 1, 1) := by decide +kernel
theorem dX5_raiseUp_6 : decode cX5_raiseUp 6 = .ok (.invokevirtual 87, 3) := by decide +kernel
theorem dX5_raiseUp_9 : decode cX5_raiseUp 9 = .ok (.istore_n 2, 1) := by decide +kernel
theorem dX5_raiseUp_10 : decode cX5_raiseUp 10 = .ok (.aload_n 0, 1) := by decide +kernel
theorem dX5_raiseUp_11 : decode cX5_raiseUp 11 = .ok (.iload_n 2, 1) := by decide +kernel
theorem dX5_raiseUp_12 : decode cX5_raiseUp 12 = .ok (.invokevirtual 91, 3) := by decide +kernel
theorem dX5_raiseUp_15 : decode cX5_raiseUp 15 = .ok (.aload_n 0, 1) := by decide +kernel
theorem dX5_raiseUp_16 : decode cX5_raiseUp 16 = .ok (.iload_n 2, 1) := by decide +kernel
theorem dX5_raiseUp_17 : decode cX5_raiseUp 17 = .ok (.putfield 9, 3) := by decide +kernel
theorem dX5_raiseUp_20 : decode cX5_raiseUp 20 = .ok (.iload_n 2, 1) := by decide +kernel
theorem dX5_raiseUp_21 : decode cX5_raiseUp 21 = .ok (.ireturn, 1) := by decide +kernel
theorem dX5_get_0 : decode cX5_get 0 = .ok (.aload_n 0, 1) := by decide +kernel
theorem dX5_get_1 : decode cX5_get 1 = .ok (.aload_n 0, 1) := by decide +kernel
theorem dX5_get_2 : decode cX5_get 2 = .ok (.iload_n 1, 1) := by decide +kernel
theorem dX5_get_3 : decode cX5_get 3 = .ok (.invokevirtual 115, 3) := by decide +kernel
theorem dX5_get_6 : decode cX5_get 6 = .ok (.ifCond .eq 7, 3) := by decide +kernel
theorem dX5_get_9 : decode cX5_get 9 = .ok (.iconst 0, 1) := by decide +kernel
theorem dX5_get_10 : decode cX5_get 10 = .ok (.goto 4, 3) := by decide +kernel
theorem dX5_get_13 : decode cX5_get 13 = .ok (.iconst 1, 1) := by decide +kernel
theorem dX5_get_14 : decode cX5_get 14 = .ok (.invokevirtual 105, 3) := by decide +kernel
theorem dX5_get_17 : decode cX5_get 17 = .ok (.ifCond .ne 5, 3) := by decide +kernel
theorem dX5_get_20 : decode cX5_get 20 = .ok (.iconst 0, 1) := by decide +kernel
theorem dX5_get_21 : decode cX5_get 21 = .ok (.ireturn, 1) := by decide +kernel
theorem dX5_get_22 : decode cX5_get 22 = .ok (.aload_n 0, 1) := by decide +kernel
theorem dX5_get_23 : decode cX5_get 23 = .ok (.invokevirtual 108, 3) := by decide +kernel
theorem dX5_get_26 : decode cX5_get 26 = .ok (.aload_n 0, 1) := by decide +kernel
theorem dX5_get_27 : decode cX5_get 27 = .ok (.getfield 16, 3) := by decide +kernel
theorem dX5_get_30 : decode cX5_get 30 = .ok (.aload_n 0, 1) := by decide +kernel
theorem dX5_get_31 : decode cX5_get 31 = .ok (.iload_n 1, 1) := by decide +kernel
theorem dX5_get_32 : decode cX5_get 32 = .ok (.invokevirtual 121, 3) := by decide +kernel
theorem dX5_get_35 : decode cX5_get 35 = .ok (.iaload, 1) := by decide +kernel
theorem dX5_get_36 : decode cX5_get 36 = .ok (.ireturn, 1) := by decide +kernel
theorem dX5_set_0 : decode cX5_set 0 = .ok (.aload_n 0, 1) := by decide +kernel
theorem dX5_set_1 : decode cX5_set 1 = .ok (.aload_n 0, 1) := by decide +kernel
theorem dX5_set_2 : decode cX5_set 2 = .ok (.iload_n 1, 1) := by decide +kernel
theorem dX5_set_3 : decode cX5_set 3 = .ok (.invokevirtual 115, 3) := by decide +kernel
theorem dX5_set_6 : decode cX5_set 6 = .ok (.ifCond .ne 7, 3) := by decide +kernel
theorem dX5_set_9 : decode cX5_set 9 = .ok (.iconst 1, 1) := by decide +kernel
theorem dX5_set_10 : decode cX5_set 10 = .ok (.goto 15, 3) := by decide +kernel
theorem dX5_set_13 : decode cX5_set 13 = .ok (.iload_n 2, 1) := by decide +kernel
theorem dX5_set_14 : decode cX5_set 14 = .ok (.invokestatic 101, 3) := by decide +kernel
theorem dX5_set_17 : decode cX5_set 17 = .ok (.ifCond .ne 7, 3) := by decide +kernel
theorem dX5_set_20 : decode cX5_set 20 = .ok (.iconst 2, 1) := by decide +kernel
theorem dX5_set_21 : decode cX5_set 21 = .ok (.goto 4, 3) := by decide +kernel
theorem dX5_set_24 : decode cX5_set 24 = .ok (.iconst 0, 1) := by decide +kernel
theorem dX5_set_25 : decode cX5_set 25 = .ok (.invokevirtual 105, 3) := by decide +kernel
theorem dX5_set_28 : decode cX5_set 28 = .ok (.ifCond .ne 5, 3) := by decide +kernel
theorem dX5_set_31 : decode cX5_set 31 = .ok (.iconst 0, 1) := by decide +kernel
theorem dX5_set_32 : decode cX5_set 32 = .ok (.ireturn, 1) := by decide +kernel
theorem dX5_set_33 : decode cX5_set 33 = .ok (.aload_n 0, 1) := by decide +kernel
theorem dX5_set_34 : decode cX5_set 34 = .ok (.invokevirtual 108, 3) := by decide +kernel
theorem dX5_set_37 : decode cX5_set 37 = .ok (.aload_n 0, 1) := by decide +kernel
theorem dX5_set_38 : decode cX5_set 38 = .ok (.iload_n 1, 1) := by decide +kernel
theorem dX5_set_39 : decode cX5_set 39 = .ok (.invokevirtual 121, 3) := by decide +kernel
theorem dX5_set_42 : decode cX5_set 42 = .ok (.istore_n 3, 1) := by decide +kernel
theorem dX5_set_43 : decode cX5_set 43 = .ok (.aload_n 0, 1) := by decide +kernel
theorem dX5_set_44 : decode cX5_set 44 = .ok (.getfield 16, 3) := by decide +kernel
theorem dX5_set_47 : decode cX5_set 47 = .ok (.iload_n 3, 1) := by decide +kernel
theorem dX5_set_48 : decode cX5_set 48 = .ok (.iaload, 1) := by decide +kernel
theorem dX5_set_49 : decode cX5_set 49 = .ok (.istore 4, 2) := by decide +kernel
theorem dX5_set_51 : decode cX5_set 51 = .ok (.aload_n 0, 1) := by decide +kernel
theorem dX5_set_52 : decode cX5_set 52 = .ok (.getfield 16, 3) := by decide +kernel
theorem dX5_set_55 : decode cX5_set 55 = .ok (.iload_n 3, 1) := by decide +kernel
theorem dX5_set_56 : decode cX5_set 56 = .ok (.iload_n 2, 1) := by decide +kernel
theorem dX5_set_57 : decode cX5_set 57 = .ok (.iastore, 1) := by decide +kernel
theorem dX5_set_58 : decode cX5_set 58 = .ok (.iload 4, 2) := by decide +kernel
theorem dX5_set_60 : decode cX5_set 60 = .ok (.ireturn, 1) := by decide +kernel
theorem dX5_open_0 : decode cX5_open 0 = .ok (.aload_n 0, 1) := by decide +kernel
theorem dX5_open_1 : decode cX5_open 1 = .ok (.invokevirtual 108, 3) := by decide +kernel
theorem dX5_open_4 : decode cX5_open 4 = .ok (.aload_n 0, 1) := by decide +kernel
theorem dX5_open_5 : decode cX5_open 5 = .ok (.aload_n 0, 1) := by decide +kernel
theorem dX5_open_6 : decode cX5_open 6 = .ok (.getfield 9, 3) := by decide +kernel
theorem dX5_open_9 : decode cX5_open 9 = .ok (.putfield 124, 3) := by decide +kernel
theorem dX5_open_12 : decode cX5_open 12 = .ok (.aload_n 0, 1) := by decide +kernel
theorem dX5_open_13 : decode cX5_open 13 = .ok (.iconst (-1), 1) := by decide +kernel
theorem dX5_open_14 : decode cX5_open 14 = .ok (.putfield 127, 3) := by decide +kernel
theorem dX5_open_17 : decode cX5_open 17 = .ok (.aload_n 0, 1) := by decide +kernel
theorem dX5_open_18 : decode cX5_open 18 = .ok (.iconst (-1), 1) := by decide +kernel
theorem dX5_open_19 : decode cX5_open 19 = .ok (.putfield 130, 3) := by decide +kernel
theorem dX5_open_22 : decode cX5_open 22 = .ok (.iload_n 1, 1) := by decide +kernel
theorem dX5_open_23 : decode cX5_open 23 = .ok (.iload_n 2, 1) := by decide +kernel
theorem dX5_open_24 : decode cX5_open 24 = .ok (.if_icmp .ge 45, 3) := by decide +kernel
theorem dX5_open_27 : decode cX5_open 27 = .ok (.aload_n 0, 1) := by decide +kernel
theorem dX5_open_28 : decode cX5_open 28 = .ok (.aload_n 0, 1) := by decide +kernel
theorem dX5_open_29 : decode cX5_open 29 = .ok (.getfield 9, 3) := by decide +kernel
theorem dX5_open_32 : decode cX5_open 32 = .ok (.iload_n 2, 1) := by decide +kernel
theorem dX5_open_33 : decode cX5_open 33 = .ok (.invokevirtual 111, 3) := by decide +kernel
theorem dX5_open_36 : decode cX5_open 36 = .ok (.aload_n 0, 1) := by decide +kernel
theorem dX5_open_37 : decode cX5_open 37 = .ok (.aload_n 0, 1) := by decide +kernel
theorem dX5_open_38 : decode cX5_open 38 = .ok (.getfield 84, 3) := by decide +kernel
theorem dX5_open_41 : decode cX5_open 41 = .ok (.putfield 130, 3) := by decide +kernel
theorem dX5_open_44 : decode cX5_open 44 = .ok (.aload_n 0, 1) := by decide +kernel
theorem dX5_open_45 : decode cX5_open 45 = .ok (.aload_n 0, 1) := by decide +kernel
theorem dX5_open_46 : decode cX5_open 46 = .ok (.getfield 81, 3) := by decide +kernel
theorem dX5_open_49 : decode cX5_open 49 = .ok (.iload_n 1, 1) := by decide +kernel
theorem dX5_open_50 : decode cX5_open 50 = .ok (.invokevirtual 111, 3) := by decide +kernel
theorem dX5_open_53 : decode cX5_open 53 = .ok (.aload_n 0, 1) := by decide +kernel
theorem dX5_open_54 : decode cX5_open 54 = .ok (.aload_n 0, 1) := by decide +kernel
theorem dX5_open_55 : decode cX5_open 55 = .ok (.getfield 81, 3) := by decide +kernel
theorem dX5_open_58 : decode cX5_open 58 = .ok (.putfield 124, 3) := by decide +kernel
theorem dX5_open_61 : decode cX5_open 61 = .ok (.aload_n 0, 1) := by decide +kernel
theorem dX5_open_62 : decode cX5_open 62 = .ok (.aload_n 0, 1) := by decide +kernel
theorem dX5_open_63 : decode cX5_open 63 = .ok (.getfield 84, 3) := by decide +kernel
theorem dX5_open_66 : decode cX5_open 66 = .ok (.putfield 127, 3) := by decide +kernel
theorem dX5_open_69 : decode cX5_open 69 = .ok (.return_, 1) := by decide +kernel
theorem dX5_close_0 : decode cX5_close 0 = .ok (.aload_n 0, 1) := by decide +kernel
theorem dX5_close_1 : decode cX5_close 1 = .ok (.aload_n 0, 1) := by decide +kernel
theorem dX5_close_2 : decode cX5_close 2 = .ok (.aload_n 0, 1) := by decide +kernel
theorem dX5_close_3 : decode cX5_close 3 = .ok (.aload_n 0, 1) := by decide +kernel
theorem dX5_close_4 : decode cX5_close 4 = .ok (.getfield 124, 3) := by decide +kernel
theorem dX5_close_7 : decode cX5_close 7 = .ok (.aload_n 0, 1) := by decide +kernel
theorem dX5_close_8 : decode cX5_close 8 = .ok (.getfield 127, 3) := by decide +kernel
theorem dX5_close_11 : decode cX5_close 11 = .ok (.invokevirtual 118, 3) := by decide +kernel
theorem dX5_close_14 : decode cX5_close 14 = .ok (.aload_n 0, 1) := by decide +kernel
theorem dX5_close_15 : decode cX5_close 15 = .ok (.getfield 130, 3) := by decide +kernel
theorem dX5_close_18 : decode cX5_close 18 = .ok (.invokevirtual 118, 3) := by decide +kernel
theorem dX5_close_21 : decode cX5_close 21 = .ok (.putfield 9, 3) := by decide +kernel
theorem dX5_close_24 : decode cX5_close 24 = .ok (.return_, 1) := by decide +kernel
theorem dX5_turnRound_0 : decode cX5_turnRound 0 = .ok (.aload_n 0, 1) := by decide +kernel
theorem dX5_turnRound_1 : decode cX5_turnRound 1 = .ok (.aload_n 0, 1) := by decide +kernel
theorem dX5_turnRound_2 : decode cX5_turnRound 2 = .ok (.getfield 127, 3) := by decide +kernel
theorem dX5_turnRound_5 : decode cX5_turnRound 5 = .ok (.invokevirtual 52, 3) := by decide +kernel
theorem dX5_turnRound_8 : decode cX5_turnRound 8 = .ok (.iconst 0, 1) := by decide +kernel
theorem dX5_turnRound_9 : decode cX5_turnRound 9 = .ok (.istore_n 1, 1) := by decide +kernel
theorem dX5_turnRound_10 : decode cX5_turnRound 10 = .ok (.iload_n 1, 1) := by decide +kernel
theorem dX5_turnRound_11 : decode cX5_turnRound 11 = .ok (.aload_n 0, 1) := by decide +kernel
theorem dX5_turnRound_12 : decode cX5_turnRound 12 = .ok (.getfield 46, 3) := by decide +kernel
theorem dX5_turnRound_15 : decode cX5_turnRound 15 = .ok (.if_icmp .ge 42, 3) := by decide +kernel
theorem dX5_turnRound_18 : decode cX5_turnRound 18 = .ok (.aload_n 0, 1) := by decide +kernel
theorem dX5_turnRound_19 : decode cX5_turnRound 19 = .ok (.getfield 36, 3) := by decide +kernel
theorem dX5_turnRound_22 : decode cX5_turnRound 22 = .ok (.iload_n 1, 1) := by decide +kernel
theorem dX5_turnRound_23 : decode cX5_turnRound 23 = .ok (.iaload, 1) := by decide +kernel
theorem dX5_turnRound_24 : decode cX5_turnRound 24 = .ok (.istore_n 2, 1) := by decide +kernel
theorem dX5_turnRound_25 : decode cX5_turnRound 25 = .ok (.aload_n 0, 1) := by decide +kernel
theorem dX5_turnRound_26 : decode cX5_turnRound 26 = .ok (.getfield 20, 3) := by decide +kernel
theorem dX5_turnRound_29 : decode cX5_turnRound 29 = .ok (.iload_n 2, 1) := by decide +kernel
theorem dX5_turnRound_30 : decode cX5_turnRound 30 = .ok (.iaload, 1) := by decide +kernel
theorem dX5_turnRound_31 : decode cX5_turnRound 31 = .ok (.istore_n 3, 1) := by decide +kernel
theorem dX5_turnRound_32 : decode cX5_turnRound 32 = .ok (.aload_n 0, 1) := by decide +kernel
theorem dX5_turnRound_33 : decode cX5_turnRound 33 = .ok (.getfield 20, 3) := by decide +kernel
theorem dX5_turnRound_36 : decode cX5_turnRound 36 = .ok (.iload_n 2, 1) := by decide +kernel
theorem dX5_turnRound_37 : decode cX5_turnRound 37 = .ok (.aload_n 0, 1) := by decide +kernel
theorem dX5_turnRound_38 : decode cX5_turnRound 38 = .ok (.getfield 23, 3) := by decide +kernel
theorem dX5_turnRound_41 : decode cX5_turnRound 41 = .ok (.iload_n 2, 1) := by decide +kernel
theorem dX5_turnRound_42 : decode cX5_turnRound 42 = .ok (.iaload, 1) := by decide +kernel
theorem dX5_turnRound_43 : decode cX5_turnRound 43 = .ok (.iastore, 1) := by decide +kernel
theorem dX5_turnRound_44 : decode cX5_turnRound 44 = .ok (.aload_n 0, 1) := by decide +kernel
theorem dX5_turnRound_45 : decode cX5_turnRound 45 = .ok (.getfield 23, 3) := by decide +kernel
theorem dX5_turnRound_48 : decode cX5_turnRound 48 = .ok (.iload_n 2, 1) := by decide +kernel
theorem dX5_turnRound_49 : decode cX5_turnRound 49 = .ok (.iload_n 3, 1) := by decide +kernel
theorem dX5_turnRound_50 : decode cX5_turnRound 50 = .ok (.iastore, 1) := by decide +kernel
theorem dX5_turnRound_51 : decode cX5_turnRound 51 = .ok (.iinc 1 1, 3) := by decide +kernel
theorem dX5_turnRound_54 : decode cX5_turnRound 54 = .ok (.goto (-44), 3) := by decide +kernel
theorem dX5_turnRound_57 : decode cX5_turnRound 57 = .ok (.return_, 1) := by decide +kernel
theorem dX5_reverse_0 : decode cX5_reverse 0 = .ok (.aload_n 0, 1) := by decide +kernel
theorem dX5_reverse_1 : decode cX5_reverse 1 = .ok (.aload_n 0, 1) := by decide +kernel
theorem dX5_reverse_2 : decode cX5_reverse 2 = .ok (.iload_n 1, 1) := by decide +kernel
theorem dX5_reverse_3 : decode cX5_reverse 3 = .ok (.iload_n 2, 1) := by decide +kernel
theorem dX5_reverse_4 : decode cX5_reverse 4 = .ok (.invokevirtual 133, 3) := by decide +kernel
theorem dX5_reverse_7 : decode cX5_reverse 7 = .ok (.ifCond .eq 7, 3) := by decide +kernel
theorem dX5_reverse_10 : decode cX5_reverse 10 = .ok (.iconst 0, 1) := by decide +kernel
theorem dX5_reverse_11 : decode cX5_reverse 11 = .ok (.goto 4, 3) := by decide +kernel
theorem dX5_reverse_14 : decode cX5_reverse 14 = .ok (.iconst 1, 1) := by decide +kernel
theorem dX5_reverse_15 : decode cX5_reverse 15 = .ok (.invokevirtual 105, 3) := by decide +kernel
theorem dX5_reverse_18 : decode cX5_reverse 18 = .ok (.ifCond .ne 5, 3) := by decide +kernel
theorem dX5_reverse_21 : decode cX5_reverse 21 = .ok (.iconst 0, 1) := by decide +kernel
theorem dX5_reverse_22 : decode cX5_reverse 22 = .ok (.ireturn, 1) := by decide +kernel
theorem dX5_reverse_23 : decode cX5_reverse 23 = .ok (.aload_n 0, 1) := by decide +kernel
theorem dX5_reverse_24 : decode cX5_reverse 24 = .ok (.iload_n 1, 1) := by decide +kernel
theorem dX5_reverse_25 : decode cX5_reverse 25 = .ok (.iload_n 2, 1) := by decide +kernel
theorem dX5_reverse_26 : decode cX5_reverse 26 = .ok (.invokevirtual 137, 3) := by decide +kernel
theorem dX5_reverse_29 : decode cX5_reverse 29 = .ok (.aload_n 0, 1) := by decide +kernel
theorem dX5_reverse_30 : decode cX5_reverse 30 = .ok (.invokevirtual 140, 3) := by decide +kernel
theorem dX5_reverse_33 : decode cX5_reverse 33 = .ok (.aload_n 0, 1) := by decide +kernel
theorem dX5_reverse_34 : decode cX5_reverse 34 = .ok (.invokevirtual 143, 3) := by decide +kernel
theorem dX5_reverse_37 : decode cX5_reverse 37 = .ok (.iload_n 2, 1) := by decide +kernel
theorem dX5_reverse_38 : decode cX5_reverse 38 = .ok (.iload_n 1, 1) := by decide +kernel
theorem dX5_reverse_39 : decode cX5_reverse 39 = .ok (.isub, 1) := by decide +kernel
theorem dX5_reverse_40 : decode cX5_reverse 40 = .ok (.ireturn, 1) := by decide +kernel
theorem dX5_raise_0 : decode cX5_raise 0 = .ok (.aload_n 0, 1) := by decide +kernel
theorem dX5_raise_1 : decode cX5_raise 1 = .ok (.aload_n 0, 1) := by decide +kernel
theorem dX5_raise_2 : decode cX5_raise 2 = .ok (.iload_n 1, 1) := by decide +kernel
theorem dX5_raise_3 : decode cX5_raise 3 = .ok (.iload_n 2, 1) := by decide +kernel
theorem dX5_raise_4 : decode cX5_raise 4 = .ok (.invokevirtual 133, 3) := by decide +kernel
theorem dX5_raise_7 : decode cX5_raise 7 = .ok (.ifCond .ne 7, 3) := by decide +kernel
theorem dX5_raise_10 : decode cX5_raise 10 = .ok (.iconst 1, 1) := by decide +kernel
theorem dX5_raise_11 : decode cX5_raise 11 = .ok (.goto 15, 3) := by decide +kernel
theorem dX5_raise_14 : decode cX5_raise 14 = .ok (.iload_n 3, 1) := by decide +kernel
theorem dX5_raise_15 : decode cX5_raise 15 = .ok (.invokestatic 101, 3) := by decide +kernel
theorem dX5_raise_18 : decode cX5_raise 18 = .ok (.ifCond .ne 7, 3) := by decide +kernel
theorem dX5_raise_21 : decode cX5_raise 21 = .ok (.iconst 2, 1) := by decide +kernel
theorem dX5_raise_22 : decode cX5_raise 22 = .ok (.goto 4, 3) := by decide +kernel
theorem dX5_raise_25 : decode cX5_raise 25 = .ok (.iconst 0, 1) := by decide +kernel
theorem dX5_raise_26 : decode cX5_raise 26 = .ok (.invokevirtual 105, 3) := by decide +kernel
theorem dX5_raise_29 : decode cX5_raise 29 = .ok (.ifCond .ne 5, 3) := by decide +kernel
theorem dX5_raise_32 : decode cX5_raise 32 = .ok (.iconst 0, 1) := by decide +kernel
theorem dX5_raise_33 : decode cX5_raise 33 = .ok (.ireturn, 1) := by decide +kernel
theorem dX5_raise_34 : decode cX5_raise 34 = .ok (.aload_n 0, 1) := by decide +kernel
theorem dX5_raise_35 : decode cX5_raise 35 = .ok (.iload_n 1, 1) := by decide +kernel
theorem dX5_raise_36 : decode cX5_raise 36 = .ok (.iload_n 2, 1) := by decide +kernel
theorem dX5_raise_37 : decode cX5_raise 37 = .ok (.invokevirtual 137, 3) := by decide +kernel
theorem dX5_raise_40 : decode cX5_raise 40 = .ok (.aload_n 0, 1) := by decide +kernel
theorem dX5_raise_41 : decode cX5_raise 41 = .ok (.aload_n 0, 1) := by decide +kernel
theorem dX5_raise_42 : decode cX5_raise 42 = .ok (.getfield 127, 3) := by decide +kernel
theorem dX5_raise_45 : decode cX5_raise 45 = .ok (.invokevirtual 52, 3) := by decide +kernel
theorem dX5_raise_48 : decode cX5_raise 48 = .ok (.iconst 0, 1) := by decide +kernel
theorem dX5_raise_49 : decode cX5_raise 49 = .ok (.istore 4, 2) := by decide +kernel
theorem dX5_raise_51 : decode cX5_raise 51 = .ok (.iload 4, 2) := by decide +kernel
theorem dX5_raise_53 : decode cX5_raise 53 = .ok (.aload_n 0, 1) := by decide +kernel
theorem dX5_raise_54 : decode cX5_raise 54 = .ok (.getfield 46, 3) := by decide +kernel
theorem dX5_raise_57 : decode cX5_raise 57 = .ok (.if_icmp .ge 25, 3) := by decide +kernel
theorem dX5_raise_60 : decode cX5_raise 60 = .ok (.aload_n 0, 1) := by decide +kernel
theorem dX5_raise_61 : decode cX5_raise 61 = .ok (.getfield 16, 3) := by decide +kernel
theorem dX5_raise_64 : decode cX5_raise 64 = .ok (.aload_n 0, 1) := by decide +kernel
theorem dX5_raise_65 : decode cX5_raise 65 = .ok (.getfield 36, 3) := by decide +kernel
theorem dX5_raise_68 : decode cX5_raise 68 = .ok (.iload 4, 2) := by decide +kernel
theorem dX5_raise_70 : decode cX5_raise 70 = .ok (.iaload, 1) := by decide +kernel
theorem dX5_raise_71 : decode cX5_raise 71 = .ok (.dup2, 1) := by decide +kernel
theorem dX5_raise_72 : decode cX5_raise 72 = .ok (.iaload, 1) := by decide +kernel
theorem dX5_raise_73 : decode cX5_raise 73 = .ok (.iload_n 3, 1) := by decide +kernel
theorem dX5_raise_74 : decode cX5_raise 74 = .ok (.iadd, 1) := by decide +kernel
theorem dX5_raise_75 : decode cX5_raise 75 = .ok (.iastore, 1) := by decide +kernel
theorem dX5_raise_76 : decode cX5_raise 76 = .ok (.iinc 4 1, 3) := by decide +kernel
theorem dX5_raise_79 : decode cX5_raise 79 = .ok (.goto (-28), 3) := by decide +kernel
theorem dX5_raise_82 : decode cX5_raise 82 = .ok (.aload_n 0, 1) := by decide +kernel
theorem dX5_raise_83 : decode cX5_raise 83 = .ok (.invokevirtual 143, 3) := by decide +kernel
theorem dX5_raise_86 : decode cX5_raise 86 = .ok (.iload_n 2, 1) := by decide +kernel
theorem dX5_raise_87 : decode cX5_raise 87 = .ok (.iload_n 1, 1) := by decide +kernel
theorem dX5_raise_88 : decode cX5_raise 88 = .ok (.isub, 1) := by decide +kernel
theorem dX5_raise_89 : decode cX5_raise 89 = .ok (.ireturn, 1) := by decide +kernel
theorem dX5_sum_0 : decode cX5_sum 0 = .ok (.aload_n 0, 1) := by decide +kernel
theorem dX5_sum_1 : decode cX5_sum 1 = .ok (.aload_n 0, 1) := by decide +kernel
theorem dX5_sum_2 : decode cX5_sum 2 = .ok (.iload_n 1, 1) := by decide +kernel
theorem dX5_sum_3 : decode cX5_sum 3 = .ok (.iload_n 2, 1) := by decide +kernel
theorem dX5_sum_4 : decode cX5_sum 4 = .ok (.invokevirtual 133, 3) := by decide +kernel
theorem dX5_sum_7 : decode cX5_sum 7 = .ok (.ifCond .eq 7, 3) := by decide +kernel
theorem dX5_sum_10 : decode cX5_sum 10 = .ok (.iconst 0, 1) := by decide +kernel
theorem dX5_sum_11 : decode cX5_sum 11 = .ok (.goto 4, 3) := by decide +kernel
theorem dX5_sum_14 : decode cX5_sum 14 = .ok (.iconst 1, 1) := by decide +kernel
theorem dX5_sum_15 : decode cX5_sum 15 = .ok (.invokevirtual 105, 3) := by decide +kernel
theorem dX5_sum_18 : decode cX5_sum 18 = .ok (.ifCond .ne 5, 3) := by decide +kernel
theorem dX5_sum_21 : decode cX5_sum 21 = .ok (.iconst 0, 1) := by decide +kernel
theorem dX5_sum_22 : decode cX5_sum 22 = .ok (.ireturn, 1) := by decide +kernel
theorem dX5_sum_23 : decode cX5_sum 23 = .ok (.aload_n 0, 1) := by decide +kernel
theorem dX5_sum_24 : decode cX5_sum 24 = .ok (.iload_n 1, 1) := by decide +kernel
theorem dX5_sum_25 : decode cX5_sum 25 = .ok (.iload_n 2, 1) := by decide +kernel
theorem dX5_sum_26 : decode cX5_sum 26 = .ok (.invokevirtual 137, 3) := by decide +kernel
theorem dX5_sum_29 : decode cX5_sum 29 = .ok (.aload_n 0, 1) := by decide +kernel
theorem dX5_sum_30 : decode cX5_sum 30 = .ok (.aload_n 0, 1) := by decide +kernel
theorem dX5_sum_31 : decode cX5_sum 31 = .ok (.getfield 127, 3) := by decide +kernel
theorem dX5_sum_34 : decode cX5_sum 34 = .ok (.invokevirtual 52, 3) := by decide +kernel
theorem dX5_sum_37 : decode cX5_sum 37 = .ok (.iconst 0, 1) := by decide +kernel
theorem dX5_sum_38 : decode cX5_sum 38 = .ok (.istore_n 3, 1) := by decide +kernel
theorem dX5_sum_39 : decode cX5_sum 39 = .ok (.iconst 0, 1) := by decide +kernel
theorem dX5_sum_40 : decode cX5_sum 40 = .ok (.istore 4, 2) := by decide +kernel
theorem dX5_sum_42 : decode cX5_sum 42 = .ok (.iload 4, 2) := by decide +kernel
theorem dX5_sum_44 : decode cX5_sum 44 = .ok (.aload_n 0, 1) := by decide +kernel
theorem dX5_sum_45 : decode cX5_sum 45 = .ok (.getfield 46, 3) := by decide +kernel
theorem dX5_sum_48 : decode cX5_sum 48 = .ok (.if_icmp .ge 24, 3) := by decide +kernel
theorem dX5_sum_51 : decode cX5_sum 51 = .ok (.iload_n 3, 1) := by decide +kernel
theorem dX5_sum_52 : decode cX5_sum 52 = .ok (.aload_n 0, 1) := by decide +kernel
theorem dX5_sum_53 : decode cX5_sum 53 = .ok (.getfield 16, 3) := by decide +kernel
theorem dX5_sum_56 : decode cX5_sum 56 = .ok (.aload_n 0, 1) := by decide +kernel
theorem dX5_sum_57 : decode cX5_sum 57 = .ok (.getfield 36, 3) := by decide +kernel
theorem dX5_sum_60 : decode cX5_sum 60 = .ok (.iload 4, 2) := by decide +kernel
theorem dX5_sum_62 : decode cX5_sum 62 = .ok (.iaload, 1) := by decide +kernel
theorem dX5_sum_63 : decode cX5_sum 63 = .ok (.iaload, 1) := by decide +kernel
theorem dX5_sum_64 : decode cX5_sum 64 = .ok (.iadd, 1) := by decide +kernel
theorem dX5_sum_65 : decode cX5_sum 65 = .ok (.istore_n 3, 1) := by decide +kernel
theorem dX5_sum_66 : decode cX5_sum 66 = .ok (.iinc 4 1, 3) := by decide +kernel
theorem dX5_sum_69 : decode cX5_sum 69 = .ok (.goto (-27), 3) := by decide +kernel
theorem dX5_sum_72 : decode cX5_sum 72 = .ok (.aload_n 0, 1) := by decide +kernel
theorem dX5_sum_73 : decode cX5_sum 73 = .ok (.invokevirtual 143, 3) := by decide +kernel
theorem dX5_sum_76 : decode cX5_sum 76 = .ok (.iload_n 3, 1) := by decide +kernel
theorem dX5_sum_77 : decode cX5_sum 77 = .ok (.ireturn, 1) := by decide +kernel
theorem dX5_least_0 : decode cX5_least 0 = .ok (.aload_n 0, 1) := by decide +kernel
theorem dX5_least_1 : decode cX5_least 1 = .ok (.aload_n 0, 1) := by decide +kernel
theorem dX5_least_2 : decode cX5_least 2 = .ok (.iload_n 1, 1) := by decide +kernel
theorem dX5_least_3 : decode cX5_least 3 = .ok (.iload_n 2, 1) := by decide +kernel
theorem dX5_least_4 : decode cX5_least 4 = .ok (.invokevirtual 133, 3) := by decide +kernel
theorem dX5_least_7 : decode cX5_least 7 = .ok (.ifCond .ne 7, 3) := by decide +kernel
theorem dX5_least_10 : decode cX5_least 10 = .ok (.iconst 1, 1) := by decide +kernel
theorem dX5_least_11 : decode cX5_least 11 = .ok (.goto 13, 3) := by decide +kernel
theorem dX5_least_14 : decode cX5_least 14 = .ok (.iload_n 1, 1) := by decide +kernel
theorem dX5_least_15 : decode cX5_least 15 = .ok (.iload_n 2, 1) := by decide +kernel
theorem dX5_least_16 : decode cX5_least 16 = .ok (.if_icmp .ne 7, 3) := by decide +kernel
theorem dX5_least_19 : decode cX5_least 19 = .ok (.iconst 2, 1) := by decide +kernel
theorem dX5_least_20 : decode cX5_least 20 = .ok (.goto 4, 3) := by decide +kernel
theorem dX5_least_23 : decode cX5_least 23 = .ok (.iconst 0, 1) := by decide +kernel
theorem dX5_least_24 : decode cX5_least 24 = .ok (.invokevirtual 105, 3) := by decide +kernel
theorem dX5_least_27 : decode cX5_least 27 = .ok (.ifCond .ne 5, 3) := by decide +kernel
theorem dX5_least_30 : decode cX5_least 30 = .ok (.iconst 0, 1) := by decide +kernel
theorem dX5_least_31 : decode cX5_least 31 = .ok (.ireturn, 1) := by decide +kernel
theorem dX5_least_32 : decode cX5_least 32 = .ok (.aload_n 0, 1) := by decide +kernel
theorem dX5_least_33 : decode cX5_least 33 = .ok (.iload_n 1, 1) := by decide +kernel
theorem dX5_least_34 : decode cX5_least 34 = .ok (.iload_n 2, 1) := by decide +kernel
theorem dX5_least_35 : decode cX5_least 35 = .ok (.invokevirtual 137, 3) := by decide +kernel
theorem dX5_least_38 : decode cX5_least 38 = .ok (.aload_n 0, 1) := by decide +kernel
theorem dX5_least_39 : decode cX5_least 39 = .ok (.aload_n 0, 1) := by decide +kernel
theorem dX5_least_40 : decode cX5_least 40 = .ok (.getfield 127, 3) := by decide +kernel
theorem dX5_least_43 : decode cX5_least 43 = .ok (.invokevirtual 52, 3) := by decide +kernel
theorem dX5_least_46 : decode cX5_least 46 = .ok (.aload_n 0, 1) := by decide +kernel
theorem dX5_least_47 : decode cX5_least 47 = .ok (.getfield 16, 3) := by decide +kernel
theorem dX5_least_50 : decode cX5_least 50 = .ok (.aload_n 0, 1) := by decide +kernel
theorem dX5_least_51 : decode cX5_least 51 = .ok (.getfield 36, 3) := by decide +kernel
theorem dX5_least_54 : decode cX5_least 54 = .ok (.iconst 0, 1) := by decide +kernel
theorem dX5_least_55 : decode cX5_least 55 = .ok (.iaload, 1) := by decide +kernel
theorem dX5_least_56 : decode cX5_least 56 = .ok (.iaload, 1) := by decide +kernel
theorem dX5_least_57 : decode cX5_least 57 = .ok (.istore_n 3, 1) := by decide +kernel
theorem dX5_least_58 : decode cX5_least 58 = .ok (.iconst 1, 1) := by decide +kernel
theorem dX5_least_59 : decode cX5_least 59 = .ok (.istore 4, 2) := by decide +kernel
theorem dX5_least_61 : decode cX5_least 61 = .ok (.iload 4, 2) := by decide +kernel
theorem dX5_least_63 : decode cX5_least 63 = .ok (.aload_n 0, 1) := by decide +kernel
theorem dX5_least_64 : decode cX5_least 64 = .ok (.getfield 46, 3) := by decide +kernel
theorem dX5_least_67 : decode cX5_least 67 = .ok (.if_icmp .ge 42, 3) := by decide +kernel
theorem dX5_least_70 : decode cX5_least 70 = .ok (.aload_n 0, 1) := by decide +kernel
theorem dX5_least_71 : decode cX5_least 71 = .ok (.getfield 16, 3) := by decide +kernel
theorem dX5_least_74 : decode cX5_least 74 = .ok (.aload_n 0, 1) := by decide +kernel
theorem dX5_least_75 : decode cX5_least 75 = .ok (.getfield 36, 3) := by decide +kernel
theorem dX5_least_78 : decode cX5_least 78 = .ok (.iload 4, 2) := by decide +kernel
theorem dX5_least_80 : decode cX5_least 80 = .ok (.iaload, 1) := by decide +kernel
theorem dX5_least_81 : decode cX5_least 81 = .ok (.iaload, 1) := by decide +kernel
theorem dX5_least_82 : decode cX5_least 82 = .ok (.iload_n 3, 1) := by decide +kernel
theorem dX5_least_83 : decode cX5_least 83 = .ok (.if_icmp .ge 18, 3) := by decide +kernel
theorem dX5_least_86 : decode cX5_least 86 = .ok (.aload_n 0, 1) := by decide +kernel
theorem dX5_least_87 : decode cX5_least 87 = .ok (.getfield 16, 3) := by decide +kernel
theorem dX5_least_90 : decode cX5_least 90 = .ok (.aload_n 0, 1) := by decide +kernel
theorem dX5_least_91 : decode cX5_least 91 = .ok (.getfield 36, 3) := by decide +kernel
theorem dX5_least_94 : decode cX5_least 94 = .ok (.iload 4, 2) := by decide +kernel
theorem dX5_least_96 : decode cX5_least 96 = .ok (.iaload, 1) := by decide +kernel
theorem dX5_least_97 : decode cX5_least 97 = .ok (.iaload, 1) := by decide +kernel
theorem dX5_least_98 : decode cX5_least 98 = .ok (.goto 4, 3) := by decide +kernel
theorem dX5_least_101 : decode cX5_least 101 = .ok (.iload_n 3, 1) := by decide +kernel
theorem dX5_least_102 : decode cX5_least 102 = .ok (.istore_n 3, 1) := by decide +kernel
theorem dX5_least_103 : decode cX5_least 103 = .ok (.iinc 4 1, 3) := by decide +kernel
theorem dX5_least_106 : decode cX5_least 106 = .ok (.goto (-45), 3) := by decide +kernel
theorem dX5_least_109 : decode cX5_least 109 = .ok (.aload_n 0, 1) := by decide +kernel
theorem dX5_least_110 : decode cX5_least 110 = .ok (.invokevirtual 143, 3) := by decide +kernel
theorem dX5_least_113 : decode cX5_least 113 = .ok (.iload_n 3, 1) := by decide +kernel
theorem dX5_least_114 : decode cX5_least 114 = .ok (.ireturn, 1) := by decide +kernel
theorem dX5_cut_0 : decode cX5_cut 0 = .ok (.aload_n 0, 1) := by decide +kernel
theorem dX5_cut_1 : decode cX5_cut 1 = .ok (.aload_n 0, 1) := by decide +kernel
theorem dX5_cut_2 : decode cX5_cut 2 = .ok (.iload_n 1, 1) := by decide +kernel
theorem dX5_cut_3 : decode cX5_cut 3 = .ok (.iload_n 2, 1) := by decide +kernel
theorem dX5_cut_4 : decode cX5_cut 4 = .ok (.invokevirtual 133, 3) := by decide +kernel
theorem dX5_cut_7 : decode cX5_cut 7 = .ok (.ifCond .ne 7, 3) := by decide +kernel
theorem dX5_cut_10 : decode cX5_cut 10 = .ok (.iconst 1, 1) := by decide +kernel
theorem dX5_cut_11 : decode cX5_cut 11 = .ok (.goto 16, 3) := by decide +kernel
theorem dX5_cut_14 : decode cX5_cut 14 = .ok (.aload_n 0, 1) := by decide +kernel
theorem dX5_cut_15 : decode cX5_cut 15 = .ok (.getfield 13, 3) := by decide +kernel
theorem dX5_cut_18 : decode cX5_cut 18 = .ok (.iconst (-1), 1) := by decide +kernel
theorem dX5_cut_19 : decode cX5_cut 19 = .ok (.if_icmp .eq 7, 3) := by decide +kernel
theorem dX5_cut_22 : decode cX5_cut 22 = .ok (.iconst 2, 1) := by decide +kernel
theorem dX5_cut_23 : decode cX5_cut 23 = .ok (.goto 4, 3) := by decide +kernel
theorem dX5_cut_26 : decode cX5_cut 26 = .ok (.iconst 0, 1) := by decide +kernel
theorem dX5_cut_27 : decode cX5_cut 27 = .ok (.invokevirtual 105, 3) := by decide +kernel
theorem dX5_cut_30 : decode cX5_cut 30 = .ok (.ifCond .ne 5, 3) := by decide +kernel
theorem dX5_cut_33 : decode cX5_cut 33 = .ok (.iconst 0, 1) := by decide +kernel
theorem dX5_cut_34 : decode cX5_cut 34 = .ok (.ireturn, 1) := by decide +kernel
theorem dX5_cut_35 : decode cX5_cut 35 = .ok (.aload_n 0, 1) := by decide +kernel
theorem dX5_cut_36 : decode cX5_cut 36 = .ok (.iload_n 1, 1) := by decide +kernel
theorem dX5_cut_37 : decode cX5_cut 37 = .ok (.iload_n 2, 1) := by decide +kernel
theorem dX5_cut_38 : decode cX5_cut 38 = .ok (.invokevirtual 137, 3) := by decide +kernel
theorem dX5_cut_41 : decode cX5_cut 41 = .ok (.aload_n 0, 1) := by decide +kernel
theorem dX5_cut_42 : decode cX5_cut 42 = .ok (.aload_n 0, 1) := by decide +kernel
theorem dX5_cut_43 : decode cX5_cut 43 = .ok (.getfield 127, 3) := by decide +kernel
theorem dX5_cut_46 : decode cX5_cut 46 = .ok (.putfield 13, 3) := by decide +kernel
theorem dX5_cut_49 : decode cX5_cut 49 = .ok (.aload_n 0, 1) := by decide +kernel
theorem dX5_cut_50 : decode cX5_cut 50 = .ok (.aload_n 0, 1) := by decide +kernel
theorem dX5_cut_51 : decode cX5_cut 51 = .ok (.aload_n 0, 1) := by decide +kernel
theorem dX5_cut_52 : decode cX5_cut 52 = .ok (.getfield 124, 3) := by decide +kernel
theorem dX5_cut_55 : decode cX5_cut 55 = .ok (.aload_n 0, 1) := by decide +kernel
theorem dX5_cut_56 : decode cX5_cut 56 = .ok (.getfield 130, 3) := by decide +kernel
theorem dX5_cut_59 : decode cX5_cut 59 = .ok (.invokevirtual 118, 3) := by decide +kernel
theorem dX5_cut_62 : decode cX5_cut 62 = .ok (.putfield 9, 3) := by decide +kernel
theorem dX5_cut_65 : decode cX5_cut 65 = .ok (.iload_n 2, 1) := by decide +kernel
theorem dX5_cut_66 : decode cX5_cut 66 = .ok (.iload_n 1, 1) := by decide +kernel
theorem dX5_cut_67 : decode cX5_cut 67 = .ok (.isub, 1) := by decide +kernel
theorem dX5_cut_68 : decode cX5_cut 68 = .ok (.ireturn, 1) := by decide +kernel
theorem dX5_paste_0 : decode cX5_paste 0 = .ok (.aload_n 0, 1) := by decide +kernel
theorem dX5_paste_1 : decode cX5_paste 1 = .ok (.iload_n 1, 1) := by decide +kernel
theorem dX5_paste_2 : decode cX5_paste 2 = .ok (.ifCond .lt 11, 3) := by decide +kernel
theorem dX5_paste_5 : decode cX5_paste 5 = .ok (.iload_n 1, 1) := by decide +kernel
theorem dX5_paste_6 : decode cX5_paste 6 = .ok (.aload_n 0, 1) := by decide +kernel
theorem dX5_paste_7 : decode cX5_paste 7 = .ok (.invokevirtual 97, 3) := by decide +kernel
theorem dX5_paste_10 : decode cX5_paste 10 = .ok (.if_icmp .le 7, 3) := by decide +kernel
theorem dX5_paste_13 : decode cX5_paste 13 = .ok (.iconst 1, 1) := by decide +kernel
theorem dX5_paste_14 : decode cX5_paste 14 = .ok (.goto 4, 3) := by decide +kernel
theorem dX5_paste_17 : decode cX5_paste 17 = .ok (.iconst 0, 1) := by decide +kernel
theorem dX5_paste_18 : decode cX5_paste 18 = .ok (.invokevirtual 105, 3) := by decide +kernel
theorem dX5_paste_21 : decode cX5_paste 21 = .ok (.ifCond .ne 5, 3) := by decide +kernel
theorem dX5_paste_24 : decode cX5_paste 24 = .ok (.iconst 0, 1) := by decide +kernel
theorem dX5_paste_25 : decode cX5_paste 25 = .ok (.ireturn, 1) := by decide +kernel
theorem dX5_paste_26 : decode cX5_paste 26 = .ok (.aload_n 0, 1) := by decide +kernel
theorem dX5_paste_27 : decode cX5_paste 27 = .ok (.invokevirtual 108, 3) := by decide +kernel
theorem dX5_paste_30 : decode cX5_paste 30 = .ok (.aload_n 0, 1) := by decide +kernel
theorem dX5_paste_31 : decode cX5_paste 31 = .ok (.aload_n 0, 1) := by decide +kernel
theorem dX5_paste_32 : decode cX5_paste 32 = .ok (.getfield 13, 3) := by decide +kernel
theorem dX5_paste_35 : decode cX5_paste 35 = .ok (.invokevirtual 78, 3) := by decide +kernel
theorem dX5_paste_38 : decode cX5_paste 38 = .ok (.istore_n 2, 1) := by decide +kernel
theorem dX5_paste_39 : decode cX5_paste 39 = .ok (.iload_n 2, 1) := by decide +kernel
theorem dX5_paste_40 : decode cX5_paste 40 = .ok (.ifCond .le 43, 3) := by decide +kernel
theorem dX5_paste_43 : decode cX5_paste 43 = .ok (.aload_n 0, 1) := by decide +kernel
theorem dX5_paste_44 : decode cX5_paste 44 = .ok (.aload_n 0, 1) := by decide +kernel
theorem dX5_paste_45 : decode cX5_paste 45 = .ok (.getfield 9, 3) := by decide +kernel
theorem dX5_paste_48 : decode cX5_paste 48 = .ok (.iload_n 1, 1) := by decide +kernel
theorem dX5_paste_49 : decode cX5_paste 49 = .ok (.invokevirtual 111, 3) := by decide +kernel
theorem dX5_paste_52 : decode cX5_paste 52 = .ok (.aload_n 0, 1) := by decide +kernel
theorem dX5_paste_53 : decode cX5_paste 53 = .ok (.getfield 84, 3) := by decide +kernel
theorem dX5_paste_56 : decode cX5_paste 56 = .ok (.istore_n 3, 1) := by decide +kernel
theorem dX5_paste_57 : decode cX5_paste 57 = .ok (.aload_n 0, 1) := by decide +kernel
theorem dX5_paste_58 : decode cX5_paste 58 = .ok (.aload_n 0, 1) := by decide +kernel
theorem dX5_paste_59 : decode cX5_paste 59 = .ok (.aload_n 0, 1) := by decide +kernel
theorem dX5_paste_60 : decode cX5_paste 60 = .ok (.aload_n 0, 1) := by decide +kernel
theorem dX5_paste_61 : decode cX5_paste 61 = .ok (.getfield 81, 3) := by decide +kernel
theorem dX5_paste_64 : decode cX5_paste 64 = .ok (.aload_n 0, 1) := by decide +kernel
theorem dX5_paste_65 : decode cX5_paste 65 = .ok (.getfield 13, 3) := by decide +kernel
theorem dX5_paste_68 : decode cX5_paste 68 = .ok (.invokevirtual 118, 3) := by decide +kernel
theorem dX5_paste_71 : decode cX5_paste 71 = .ok (.iload_n 3, 1) := by decide +kernel
theorem dX5_paste_72 : decode cX5_paste 72 = .ok (.invokevirtual 118, 3) := by decide +kernel
theorem dX5_paste_75 : decode cX5_paste 75 = .ok (.putfield 9, 3) := by decide +kernel
theorem dX5_paste_78 : decode cX5_paste 78 = .ok (.aload_n 0, 1) := by decide +kernel
theorem dX5_paste_79 : decode cX5_paste 79 = .ok (.iconst (-1), 1) := by decide +kernel
theorem dX5_paste_80 : decode cX5_paste 80 = .ok (.putfield 13, 3) := by decide +kernel
theorem dX5_paste_83 : decode cX5_paste 83 = .ok (.iload_n 2, 1) := by decide +kernel
theorem dX5_paste_84 : decode cX5_paste 84 = .ok (.ireturn, 1) := by decide +kernel
theorem dX5_point_0 : decode cX5_point 0 = .ok (.aload_n 0, 1) := by decide +kernel
theorem dX5_point_1 : decode cX5_point 1 = .ok (.iload_n 1, 1) := by decide +kernel
theorem dX5_point_2 : decode cX5_point 2 = .ok (.invokestatic 146, 3) := by decide +kernel
theorem dX5_point_5 : decode cX5_point 5 = .ok (.ifCond .eq 15, 3) := by decide +kernel
theorem dX5_point_8 : decode cX5_point 8 = .ok (.aload_n 0, 1) := by decide +kernel
theorem dX5_point_9 : decode cX5_point 9 = .ok (.iload_n 2, 1) := by decide +kernel
theorem dX5_point_10 : decode cX5_point 10 = .ok (.invokevirtual 115, 3) := by decide +kernel
theorem dX5_point_13 : decode cX5_point 13 = .ok (.ifCond .eq 7, 3) := by decide +kernel
theorem dX5_point_16 : decode cX5_point 16 = .ok (.iconst 0, 1) := by decide +kernel
theorem dX5_point_17 : decode cX5_point 17 = .ok (.goto 4, 3) := by decide +kernel
theorem dX5_point_20 : decode cX5_point 20 = .ok (.iconst 1, 1) := by decide +kernel
theorem dX5_point_21 : decode cX5_point 21 = .ok (.invokevirtual 105, 3) := by decide +kernel
theorem dX5_point_24 : decode cX5_point 24 = .ok (.ifCond .ne 5, 3) := by decide +kernel
theorem dX5_point_27 : decode cX5_point 27 = .ok (.iconst 0, 1) := by decide +kernel
theorem dX5_point_28 : decode cX5_point 28 = .ok (.ireturn, 1) := by decide +kernel
theorem dX5_point_29 : decode cX5_point 29 = .ok (.aload_n 0, 1) := by decide +kernel
theorem dX5_point_30 : decode cX5_point 30 = .ok (.invokevirtual 108, 3) := by decide +kernel
theorem dX5_point_33 : decode cX5_point 33 = .ok (.aload_n 0, 1) := by decide +kernel
theorem dX5_point_34 : decode cX5_point 34 = .ok (.getfield 33, 3) := by decide +kernel
theorem dX5_point_37 : decode cX5_point 37 = .ok (.iload_n 1, 1) := by decide +kernel
theorem dX5_point_38 : decode cX5_point 38 = .ok (.aload_n 0, 1) := by decide +kernel
theorem dX5_point_39 : decode cX5_point 39 = .ok (.iload_n 2, 1) := by decide +kernel
theorem dX5_point_40 : decode cX5_point 40 = .ok (.invokevirtual 121, 3) := by decide +kernel
theorem dX5_point_43 : decode cX5_point 43 = .ok (.iastore, 1) := by decide +kernel
theorem dX5_point_44 : decode cX5_point 44 = .ok (.aload_n 0, 1) := by decide +kernel
theorem dX5_point_45 : decode cX5_point 45 = .ok (.getfield 16, 3) := by decide +kernel
theorem dX5_point_48 : decode cX5_point 48 = .ok (.aload_n 0, 1) := by decide +kernel
theorem dX5_point_49 : decode cX5_point 49 = .ok (.getfield 33, 3) := by decide +kernel
theorem dX5_point_52 : decode cX5_point 52 = .ok (.iload_n 1, 1) := by decide +kernel
theorem dX5_point_53 : decode cX5_point 53 = .ok (.iaload, 1) := by decide +kernel
theorem dX5_point_54 : decode cX5_point 54 = .ok (.iaload, 1) := by decide +kernel
theorem dX5_point_55 : decode cX5_point 55 = .ok (.ireturn, 1) := by decide +kernel
theorem dX5_isInSequence_0 : decode cX5_isInSequence 0 = .ok (.iload_n 1, 1) := by decide +kernel
theorem dX5_isInSequence_1 : decode cX5_isInSequence 1 = .ok (.iconst (-1), 1) := by decide +kernel
theorem dX5_isInSequence_2 : decode cX5_isInSequence 2 = .ok (.if_icmp .eq 19, 3) := by decide +kernel
theorem dX5_isInSequence_5 : decode cX5_isInSequence 5 = .ok (.aload_n 0, 1) := by decide +kernel
theorem dX5_isInSequence_6 : decode cX5_isInSequence 6 = .ok (.iload_n 1, 1) := by decide +kernel
theorem dX5_isInSequence_7 : decode cX5_isInSequence 7 = .ok (.invokevirtual 56, 3) := by decide +kernel
theorem dX5_isInSequence_10 : decode cX5_isInSequence 10 = .ok (.aload_n 0, 1) := by decide +kernel
theorem dX5_isInSequence_11 : decode cX5_isInSequence 11 = .ok (.getfield 9, 3) := by decide +kernel
theorem dX5_isInSequence_14 : decode cX5_isInSequence 14 = .ok (.if_icmp .ne 7, 3) := by decide +kernel
theorem dX5_isInSequence_17 : decode cX5_isInSequence 17 = .ok (.iconst 1, 1) := by decide +kernel
theorem dX5_isInSequence_18 : decode cX5_isInSequence 18 = .ok (.goto 4, 3) := by decide +kernel
theorem dX5_isInSequence_21 : decode cX5_isInSequence 21 = .ok (.iconst 0, 1) := by decide +kernel
theorem dX5_isInSequence_22 : decode cX5_isInSequence 22 = .ok (.ireturn, 1) := by decide +kernel
theorem dX5_follow_0 : decode cX5_follow 0 = .ok (.aload_n 0, 1) := by decide +kernel
theorem dX5_follow_1 : decode cX5_follow 1 = .ok (.iload_n 1, 1) := by decide +kernel
theorem dX5_follow_2 : decode cX5_follow 2 = .ok (.invokestatic 146, 3) := by decide +kernel
theorem dX5_follow_5 : decode cX5_follow 5 = .ok (.ifCond .eq 7, 3) := by decide +kernel
theorem dX5_follow_8 : decode cX5_follow 8 = .ok (.iconst 0, 1) := by decide +kernel
theorem dX5_follow_9 : decode cX5_follow 9 = .ok (.goto 4, 3) := by decide +kernel
theorem dX5_follow_12 : decode cX5_follow 12 = .ok (.iconst 1, 1) := by decide +kernel
theorem dX5_follow_13 : decode cX5_follow 13 = .ok (.invokevirtual 105, 3) := by decide +kernel
theorem dX5_follow_16 : decode cX5_follow 16 = .ok (.ifCond .ne 5, 3) := by decide +kernel
theorem dX5_follow_19 : decode cX5_follow 19 = .ok (.iconst 0, 1) := by decide +kernel
theorem dX5_follow_20 : decode cX5_follow 20 = .ok (.ireturn, 1) := by decide +kernel
theorem dX5_follow_21 : decode cX5_follow 21 = .ok (.aload_n 0, 1) := by decide +kernel
theorem dX5_follow_22 : decode cX5_follow 22 = .ok (.invokevirtual 108, 3) := by decide +kernel
theorem dX5_follow_25 : decode cX5_follow 25 = .ok (.aload_n 0, 1) := by decide +kernel
theorem dX5_follow_26 : decode cX5_follow 26 = .ok (.aload_n 0, 1) := by decide +kernel
theorem dX5_follow_27 : decode cX5_follow 27 = .ok (.getfield 33, 3) := by decide +kernel
theorem dX5_follow_30 : decode cX5_follow 30 = .ok (.iload_n 1, 1) := by decide +kernel
theorem dX5_follow_31 : decode cX5_follow 31 = .ok (.iaload, 1) := by decide +kernel
theorem dX5_follow_32 : decode cX5_follow 32 = .ok (.invokevirtual 149, 3) := by decide +kernel
theorem dX5_follow_35 : decode cX5_follow 35 = .ok (.ifCond .eq 24, 3) := by decide +kernel
theorem dX5_follow_38 : decode cX5_follow 38 = .ok (.aload_n 0, 1) := by decide +kernel
theorem dX5_follow_39 : decode cX5_follow 39 = .ok (.aload_n 0, 1) := by decide +kernel
theorem dX5_follow_40 : decode cX5_follow 40 = .ok (.aload_n 0, 1) := by decide +kernel
theorem dX5_follow_41 : decode cX5_follow 41 = .ok (.aload_n 0, 1) := by decide +kernel
theorem dX5_follow_42 : decode cX5_follow 42 = .ok (.getfield 33, 3) := by decide +kernel
theorem dX5_follow_45 : decode cX5_follow 45 = .ok (.iload_n 1, 1) := by decide +kernel
theorem dX5_follow_46 : decode cX5_follow 46 = .ok (.iaload, 1) := by decide +kernel
theorem dX5_follow_47 : decode cX5_follow 47 = .ok (.invokevirtual 152, 3) := by decide +kernel
theorem dX5_follow_50 : decode cX5_follow 50 = .ok (.invokevirtual 121, 3) := by decide +kernel
theorem dX5_follow_53 : decode cX5_follow 53 = .ok (.invokevirtual 152, 3) := by decide +kernel
theorem dX5_follow_56 : decode cX5_follow 56 = .ok (.goto 4, 3) := by decide +kernel
theorem dX5_follow_59 : decode cX5_follow 59 = .ok (.iconst (-1), 1) := by decide +kernel
theorem dX5_follow_60 : decode cX5_follow 60 = .ok (.ireturn, 1) := by decide +kernel
theorem dX5_canMove_0 : decode cX5_canMove 0 = .ok (.aload_n 0, 1) := by decide +kernel
theorem dX5_canMove_1 : decode cX5_canMove 1 = .ok (.aload_n 0, 1) := by decide +kernel
theorem dX5_canMove_2 : decode cX5_canMove 2 = .ok (.getfield 33, 3) := by decide +kernel
theorem dX5_canMove_5 : decode cX5_canMove 5 = .ok (.iload_n 1, 1) := by decide +kernel
theorem dX5_canMove_6 : decode cX5_canMove 6 = .ok (.iaload, 1) := by decide +kernel
theorem dX5_canMove_7 : decode cX5_canMove 7 = .ok (.invokevirtual 149, 3) := by decide +kernel
theorem dX5_canMove_10 : decode cX5_canMove 10 = .ok (.istore_n 3, 1) := by decide +kernel
theorem dX5_canMove_11 : decode cX5_canMove 11 = .ok (.iload_n 3, 1) := by decide +kernel
theorem dX5_canMove_12 : decode cX5_canMove 12 = .ok (.ifCond .eq 20, 3) := by decide +kernel
theorem dX5_canMove_15 : decode cX5_canMove 15 = .ok (.aload_n 0, 1) := by decide +kernel
theorem dX5_canMove_16 : decode cX5_canMove 16 = .ok (.aload_n 0, 1) := by decide +kernel
theorem dX5_canMove_17 : decode cX5_canMove 17 = .ok (.getfield 33, 3) := by decide +kernel
theorem dX5_canMove_20 : decode cX5_canMove 20 = .ok (.iload_n 1, 1) := by decide +kernel
theorem dX5_canMove_21 : decode cX5_canMove 21 = .ok (.iaload, 1) := by decide +kernel
theorem dX5_canMove_22 : decode cX5_canMove 22 = .ok (.invokevirtual 152, 3) := by decide +kernel
theorem dX5_canMove_25 : decode cX5_canMove 25 = .ok (.i2l, 1) := by decide +kernel
theorem dX5_canMove_26 : decode cX5_canMove 26 = .ok (.iload_n 2, 1) := by decide +kernel
theorem dX5_canMove_27 : decode cX5_canMove 27 = .ok (.i2l, 1) := by decide +kernel
theorem dX5_canMove_28 : decode cX5_canMove 28 = .ok (.ladd, 1) := by decide +kernel
theorem dX5_canMove_29 : decode cX5_canMove 29 = .ok (.goto 6, 3) := by decide +kernel
theorem dX5_canMove_32 : decode cX5_canMove 32 = .ok (.ldc2_w 155, 3) := by decide +kernel
theorem dX5_canMove_35 : decode cX5_canMove 35 = .ok (.lstore 4, 2) := by decide +kernel
theorem dX5_canMove_37 : decode cX5_canMove 37 = .ok (.iload_n 3, 1) := by decide +kernel
theorem dX5_canMove_38 : decode cX5_canMove 38 = .ok (.ifCond .eq 25, 3) := by decide +kernel
theorem dX5_canMove_41 : decode cX5_canMove 41 = .ok (.lload 4, 2) := by decide +kernel
theorem dX5_canMove_43 : decode cX5_canMove 43 = .ok (.lconst 0, 1) := by decide +kernel
theorem dX5_canMove_44 : decode cX5_canMove 44 = .ok (.lcmp, 1) := by decide +kernel
theorem dX5_canMove_45 : decode cX5_canMove 45 = .ok (.ifCond .lt 18, 3) := by decide +kernel
theorem dX5_canMove_48 : decode cX5_canMove 48 = .ok (.lload 4, 2) := by decide +kernel
theorem dX5_canMove_50 : decode cX5_canMove 50 = .ok (.aload_n 0, 1) := by decide +kernel
theorem dX5_canMove_51 : decode cX5_canMove 51 = .ok (.invokevirtual 97, 3) := by decide +kernel
theorem dX5_canMove_54 : decode cX5_canMove 54 = .ok (.i2l, 1) := by decide +kernel
theorem dX5_canMove_55 : decode cX5_canMove 55 = .ok (.lcmp, 1) := by decide +kernel
theorem dX5_canMove_56 : decode cX5_canMove 56 = .ok (.ifCond .ge 7, 3) := by decide +kernel
theorem dX5_canMove_59 : decode cX5_canMove 59 = .ok (.iconst 1, 1) := by decide +kernel
theorem dX5_canMove_60 : decode cX5_canMove 60 = .ok (.goto 4, 3) := by decide +kernel
theorem dX5_canMove_63 : decode cX5_canMove 63 = .ok (.iconst 0, 1) := by decide +kernel
theorem dX5_canMove_64 : decode cX5_canMove 64 = .ok (.ireturn, 1) := by decide +kernel
theorem dX5_move_0 : decode cX5_move 0 = .ok (.aload_n 0, 1) := by decide +kernel
theorem dX5_move_1 : decode cX5_move 1 = .ok (.iload_n 1, 1) := by decide +kernel
theorem dX5_move_2 : decode cX5_move 2 = .ok (.invokestatic 146, 3) := by decide +kernel
theorem dX5_move_5 : decode cX5_move 5 = .ok (.ifCond .ne 7, 3) := by decide +kernel
theorem dX5_move_8 : decode cX5_move 8 = .ok (.iconst 1, 1) := by decide +kernel
theorem dX5_move_9 : decode cX5_move 9 = .ok (.goto 17, 3) := by decide +kernel
theorem dX5_move_12 : decode cX5_move 12 = .ok (.aload_n 0, 1) := by decide +kernel
theorem dX5_move_13 : decode cX5_move 13 = .ok (.iload_n 1, 1) := by decide +kernel
theorem dX5_move_14 : decode cX5_move 14 = .ok (.iload_n 2, 1) := by decide +kernel
theorem dX5_move_15 : decode cX5_move 15 = .ok (.invokevirtual 157, 3) := by decide +kernel
theorem dX5_move_18 : decode cX5_move 18 = .ok (.ifCond .eq 7, 3) := by decide +kernel
theorem dX5_move_21 : decode cX5_move 21 = .ok (.iconst 0, 1) := by decide +kernel
theorem dX5_move_22 : decode cX5_move 22 = .ok (.goto 4, 3) := by decide +kernel
theorem dX5_move_25 : decode cX5_move 25 = .ok (.iconst 2, 1) := by decide +kernel
theorem dX5_move_26 : decode cX5_move 26 = .ok (.invokevirtual 105, 3) := by decide +kernel
theorem dX5_move_29 : decode cX5_move 29 = .ok (.ifCond .ne 5, 3) := by decide +kernel
theorem dX5_move_32 : decode cX5_move 32 = .ok (.iconst 0, 1) := by decide +kernel
theorem dX5_move_33 : decode cX5_move 33 = .ok (.ireturn, 1) := by decide +kernel
theorem dX5_move_34 : decode cX5_move 34 = .ok (.aload_n 0, 1) := by decide +kernel
theorem dX5_move_35 : decode cX5_move 35 = .ok (.invokevirtual 108, 3) := by decide +kernel
theorem dX5_move_38 : decode cX5_move 38 = .ok (.aload_n 0, 1) := by decide +kernel
theorem dX5_move_39 : decode cX5_move 39 = .ok (.aload_n 0, 1) := by decide +kernel
theorem dX5_move_40 : decode cX5_move 40 = .ok (.getfield 33, 3) := by decide +kernel
theorem dX5_move_43 : decode cX5_move 43 = .ok (.iload_n 1, 1) := by decide +kernel
theorem dX5_move_44 : decode cX5_move 44 = .ok (.iaload, 1) := by decide +kernel
theorem dX5_move_45 : decode cX5_move 45 = .ok (.invokevirtual 152, 3) := by decide +kernel
theorem dX5_move_48 : decode cX5_move 48 = .ok (.istore_n 3, 1) := by decide +kernel
theorem dX5_move_49 : decode cX5_move 49 = .ok (.aload_n 0, 1) := by decide +kernel
theorem dX5_move_50 : decode cX5_move 50 = .ok (.iload_n 3, 1) := by decide +kernel
theorem dX5_move_51 : decode cX5_move 51 = .ok (.invokevirtual 121, 3) := by decide +kernel
theorem dX5_move_54 : decode cX5_move 54 = .ok (.istore 4, 2) := by decide +kernel
theorem dX5_move_56 : decode cX5_move 56 = .ok (.aload_n 0, 1) := by decide +kernel
theorem dX5_move_57 : decode cX5_move 57 = .ok (.getfield 33, 3) := by decide +kernel
theorem dX5_move_60 : decode cX5_move 60 = .ok (.iload_n 1, 1) := by decide +kernel
theorem dX5_move_61 : decode cX5_move 61 = .ok (.aload_n 0, 1) := by decide +kernel
theorem dX5_move_62 : decode cX5_move 62 = .ok (.iload_n 3, 1) := by decide +kernel
theorem dX5_move_63 : decode cX5_move 63 = .ok (.iload_n 2, 1) := by decide +kernel
theorem dX5_move_64 : decode cX5_move 64 = .ok (.iadd, 1) := by decide +kernel
theorem dX5_move_65 : decode cX5_move 65 = .ok (.invokevirtual 121, 3) := by decide +kernel
theorem dX5_move_68 : decode cX5_move 68 = .ok (.iastore, 1) := by decide +kernel
theorem dX5_move_69 : decode cX5_move 69 = .ok (.iload_n 3, 1) := by decide +kernel
theorem dX5_move_70 : decode cX5_move 70 = .ok (.iload_n 2, 1) := by decide +kernel
theorem dX5_move_71 : decode cX5_move 71 = .ok (.iadd, 1) := by decide +kernel
theorem dX5_move_72 : decode cX5_move 72 = .ok (.ireturn, 1) := by decide +kernel
theorem dX5_lastSteps_0 : decode cX5_lastSteps 0 = .ok (.aload_n 0, 1) := by decide +kernel
theorem dX5_lastSteps_1 : decode cX5_lastSteps 1 = .ok (.iconst 0, 1) := by decide +kernel
theorem dX5_lastSteps_2 : decode cX5_lastSteps 2 = .ok (.putfield 39, 3) := by decide +kernel
theorem dX5_lastSteps_5 : decode cX5_lastSteps 5 = .ok (.aload_n 0, 1) := by decide +kernel
theorem dX5_lastSteps_6 : decode cX5_lastSteps 6 = .ok (.getfield 72, 3) := by decide +kernel
theorem dX5_lastSteps_9 : decode cX5_lastSteps 9 = .ok (.ireturn, 1) := by decide +kernel
theorem dX5_lastRotations_0 : decode cX5_lastRotations 0 = .ok (.aload_n 0, 1) := by decide +kernel
theorem dX5_lastRotations_1 : decode cX5_lastRotations 1 = .ok (.iconst 0, 1) := by decide +kernel
theorem dX5_lastRotations_2 : decode cX5_lastRotations 2 = .ok (.putfield 39, 3) := by decide +kernel
theorem dX5_lastRotations_5 : decode cX5_lastRotations 5 = .ok (.aload_n 0, 1) := by decide +kernel
theorem dX5_lastRotations_6 : decode cX5_lastRotations 6 = .ok (.getfield 63, 3) := by decide +kernel
theorem dX5_lastRotations_9 : decode cX5_lastRotations 9 = .ok (.ireturn, 1) := by decide +kernel
theorem dX5_steps_0 : decode cX5_steps 0 = .ok (.aload_n 0, 1) := by decide +kernel
theorem dX5_steps_1 : decode cX5_steps 1 = .ok (.iconst 0, 1) := by decide +kernel
theorem dX5_steps_2 : decode cX5_steps 2 = .ok (.putfield 39, 3) := by decide +kernel
theorem dX5_steps_5 : decode cX5_steps 5 = .ok (.aload_n 0, 1) := by decide +kernel
theorem dX5_steps_6 : decode cX5_steps 6 = .ok (.getfield 75, 3) := by decide +kernel
theorem dX5_steps_9 : decode cX5_steps 9 = .ok (.ireturn, 1) := by decide +kernel
theorem dX5_splays_0 : decode cX5_splays 0 = .ok (.aload_n 0, 1) := by decide +kernel
theorem dX5_splays_1 : decode cX5_splays 1 = .ok (.iconst 0, 1) := by decide +kernel
theorem dX5_splays_2 : decode cX5_splays 2 = .ok (.putfield 39, 3) := by decide +kernel
theorem dX5_splays_5 : decode cX5_splays 5 = .ok (.aload_n 0, 1) := by decide +kernel
theorem dX5_splays_6 : decode cX5_splays 6 = .ok (.getfield 66, 3) := by decide +kernel
theorem dX5_splays_9 : decode cX5_splays 9 = .ok (.ireturn, 1) := by decide +kernel
theorem dX5_rank_0 : decode cX5_rank 0 = .ok (.iconst 0, 1) := by decide +kernel
theorem dX5_rank_1 : decode cX5_rank 1 = .ok (.istore_n 1, 1) := by decide +kernel
theorem dX5_rank_2 : decode cX5_rank 2 = .ok (.iconst 2, 1) := by decide +kernel
theorem dX5_rank_3 : decode cX5_rank 3 = .ok (.iload_n 1, 1) := by decide +kernel
theorem dX5_rank_4 : decode cX5_rank 4 = .ok (.ishl, 1) := by decide +kernel
theorem dX5_rank_5 : decode cX5_rank 5 = .ok (.iload_n 0, 1) := by decide +kernel
theorem dX5_rank_6 : decode cX5_rank 6 = .ok (.if_icmp .gt 9, 3) := by decide +kernel
theorem dX5_rank_9 : decode cX5_rank 9 = .ok (.iinc 1 1, 3) := by decide +kernel
theorem dX5_rank_12 : decode cX5_rank 12 = .ok (.goto (-10), 3) := by decide +kernel
theorem dX5_rank_15 : decode cX5_rank 15 = .ok (.iload_n 1, 1) := by decide +kernel
theorem dX5_rank_16 : decode cX5_rank 16 = .ok (.ireturn, 1) := by decide +kernel
theorem dX5_potential_0 : decode cX5_potential 0 = .ok (.aload_n 0, 1) := by decide +kernel
theorem dX5_potential_1 : decode cX5_potential 1 = .ok (.iconst 0, 1) := by decide +kernel
theorem dX5_potential_2 : decode cX5_potential 2 = .ok (.putfield 39, 3) := by decide +kernel
theorem dX5_potential_5 : decode cX5_potential 5 = .ok (.iconst 0, 1) := by decide +kernel
theorem dX5_potential_6 : decode cX5_potential 6 = .ok (.istore_n 1, 1) := by decide +kernel
theorem dX5_potential_7 : decode cX5_potential 7 = .ok (.iconst 0, 1) := by decide +kernel
theorem dX5_potential_8 : decode cX5_potential 8 = .ok (.istore_n 2, 1) := by decide +kernel
theorem dX5_potential_9 : decode cX5_potential 9 = .ok (.iload_n 2, 1) := by decide +kernel
theorem dX5_potential_10 : decode cX5_potential 10 = .ok (.bipush 60, 2) := by decide +kernel
theorem dX5_potential_12 : decode cX5_potential 12 = .ok (.if_icmp .ge 33, 3) := by decide +kernel
theorem dX5_potential_15 : decode cX5_potential 15 = .ok (.iload_n 1, 1) := by decide +kernel
theorem dX5_potential_16 : decode cX5_potential 16 = .ok (.aload_n 0, 1) := by decide +kernel
theorem dX5_potential_17 : decode cX5_potential 17 = .ok (.getfield 29, 3) := by decide +kernel
theorem dX5_potential_20 : decode cX5_potential 20 = .ok (.iload_n 2, 1) := by decide +kernel
theorem dX5_potential_21 : decode cX5_potential 21 = .ok (.baload, 1) := by decide +kernel
theorem dX5_potential_22 : decode cX5_potential 22 = .ok (.ifCond .eq 14, 3) := by decide +kernel
theorem dX5_potential_25 : decode cX5_potential 25 = .ok (.aload_n 0, 1) := by decide +kernel
theorem dX5_potential_26 : decode cX5_potential 26 = .ok (.iload_n 2, 1) := by decide +kernel
theorem dX5_potential_27 : decode cX5_potential 27 = .ok (.invokevirtual 160, 3) := by decide +kernel
theorem dX5_potential_30 : decode cX5_potential 30 = .ok (.invokestatic 163, 3) := by decide +kernel
theorem dX5_potential_33 : decode cX5_potential 33 = .ok (.goto 4, 3) := by decide +kernel
theorem dX5_potential_36 : decode cX5_potential 36 = .ok (.iconst 0, 1) := by decide +kernel
theorem dX5_potential_37 : decode cX5_potential 37 = .ok (.iadd, 1) := by decide +kernel
theorem dX5_potential_38 : decode cX5_potential 38 = .ok (.istore_n 1, 1) := by decide +kernel
theorem dX5_potential_39 : decode cX5_potential 39 = .ok (.iinc 2 1, 3) := by decide +kernel
theorem dX5_potential_42 : decode cX5_potential 42 = .ok (.goto (-33), 3) := by decide +kernel
theorem dX5_potential_45 : decode cX5_potential 45 = .ok (.iload_n 1, 1) := by decide +kernel
theorem dX5_potential_46 : decode cX5_potential 46 = .ok (.ireturn, 1) := by decide +kernel
theorem dX5_size_0 : decode cX5_size 0 = .ok (.aload_n 0, 1) := by decide +kernel
theorem dX5_size_1 : decode cX5_size 1 = .ok (.iconst 0, 1) := by decide +kernel
theorem dX5_size_2 : decode cX5_size 2 = .ok (.putfield 39, 3) := by decide +kernel
theorem dX5_size_5 : decode cX5_size 5 = .ok (.aload_n 0, 1) := by decide +kernel
theorem dX5_size_6 : decode cX5_size 6 = .ok (.invokevirtual 97, 3) := by decide +kernel
theorem dX5_size_9 : decode cX5_size 9 = .ok (.ireturn, 1) := by decide +kernel
theorem dX5_clipped_0 : decode cX5_clipped 0 = .ok (.aload_n 0, 1) := by decide +kernel
theorem dX5_clipped_1 : decode cX5_clipped 1 = .ok (.iconst 0, 1) := by decide +kernel
theorem dX5_clipped_2 : decode cX5_clipped 2 = .ok (.putfield 39, 3) := by decide +kernel
theorem dX5_clipped_5 : decode cX5_clipped 5 = .ok (.aload_n 0, 1) := by decide +kernel
theorem dX5_clipped_6 : decode cX5_clipped 6 = .ok (.aload_n 0, 1) := by decide +kernel
theorem dX5_clipped_7 : decode cX5_clipped 7 = .ok (.getfield 13, 3) := by decide +kernel
theorem dX5_clipped_10 : decode cX5_clipped 10 = .ok (.invokevirtual 78, 3) := by decide +kernel
theorem dX5_clipped_13 : decode cX5_clipped 13 = .ok (.ireturn, 1) := by decide +kernel
theorem dX5_root_0 : decode cX5_root 0 = .ok (.aload_n 0, 1) := by decide +kernel
theorem dX5_root_1 : decode cX5_root 1 = .ok (.iconst 0, 1) := by decide +kernel
theorem dX5_root_2 : decode cX5_root 2 = .ok (.putfield 39, 3) := by decide +kernel
theorem dX5_root_5 : decode cX5_root 5 = .ok (.aload_n 0, 1) := by decide +kernel
theorem dX5_root_6 : decode cX5_root 6 = .ok (.getfield 9, 3) := by decide +kernel
theorem dX5_root_9 : decode cX5_root 9 = .ok (.iconst (-1), 1) := by decide +kernel
theorem dX5_root_10 : decode cX5_root 10 = .ok (.if_icmp .ne 7, 3) := by decide +kernel
theorem dX5_root_13 : decode cX5_root 13 = .ok (.iconst (-1), 1) := by decide +kernel
theorem dX5_root_14 : decode cX5_root 14 = .ok (.goto 11, 3) := by decide +kernel
theorem dX5_root_17 : decode cX5_root 17 = .ok (.aload_n 0, 1) := by decide +kernel
theorem dX5_root_18 : decode cX5_root 18 = .ok (.aload_n 0, 1) := by decide +kernel
theorem dX5_root_19 : decode cX5_root 19 = .ok (.getfield 9, 3) := by decide +kernel
theorem dX5_root_22 : decode cX5_root 22 = .ok (.invokevirtual 152, 3) := by decide +kernel
theorem dX5_root_25 : decode cX5_root 25 = .ok (.ireturn, 1) := by decide +kernel
theorem dX5_height_0 : decode cX5_height 0 = .ok (.aload_n 0, 1) := by decide +kernel
theorem dX5_height_1 : decode cX5_height 1 = .ok (.iconst 0, 1) := by decide +kernel
theorem dX5_height_2 : decode cX5_height 2 = .ok (.putfield 39, 3) := by decide +kernel
theorem dX5_height_5 : decode cX5_height 5 = .ok (.iconst 0, 1) := by decide +kernel
theorem dX5_height_6 : decode cX5_height 6 = .ok (.istore_n 1, 1) := by decide +kernel
theorem dX5_height_7 : decode cX5_height 7 = .ok (.aload_n 0, 1) := by decide +kernel
theorem dX5_height_8 : decode cX5_height 8 = .ok (.aload_n 0, 1) := by decide +kernel
theorem dX5_height_9 : decode cX5_height 9 = .ok (.getfield 9, 3) := by decide +kernel
theorem dX5_height_12 : decode cX5_height 12 = .ok (.invokevirtual 52, 3) := by decide +kernel
theorem dX5_height_15 : decode cX5_height 15 = .ok (.iconst 0, 1) := by decide +kernel
theorem dX5_height_16 : decode cX5_height 16 = .ok (.istore_n 2, 1) := by decide +kernel
theorem dX5_height_17 : decode cX5_height 17 = .ok (.iload_n 2, 1) := by decide +kernel
theorem dX5_height_18 : decode cX5_height 18 = .ok (.aload_n 0, 1) := by decide +kernel
theorem dX5_height_19 : decode cX5_height 19 = .ok (.getfield 46, 3) := by decide +kernel
theorem dX5_height_22 : decode cX5_height 22 = .ok (.if_icmp .ge 33, 3) := by decide +kernel
theorem dX5_height_25 : decode cX5_height 25 = .ok (.aload_n 0, 1) := by decide +kernel
theorem dX5_height_26 : decode cX5_height 26 = .ok (.aload_n 0, 1) := by decide +kernel
theorem dX5_height_27 : decode cX5_height 27 = .ok (.getfield 36, 3) := by decide +kernel
theorem dX5_height_30 : decode cX5_height 30 = .ok (.iload_n 2, 1) := by decide +kernel
theorem dX5_height_31 : decode cX5_height 31 = .ok (.iaload, 1) := by decide +kernel
theorem dX5_height_32 : decode cX5_height 32 = .ok (.invokevirtual 166, 3) := by decide +kernel
theorem dX5_height_35 : decode cX5_height 35 = .ok (.iconst 1, 1) := by decide +kernel
theorem dX5_height_36 : decode cX5_height 36 = .ok (.iadd, 1) := by decide +kernel
theorem dX5_height_37 : decode cX5_height 37 = .ok (.istore_n 3, 1) := by decide +kernel
theorem dX5_height_38 : decode cX5_height 38 = .ok (.iload_n 3, 1) := by decide +kernel
theorem dX5_height_39 : decode cX5_height 39 = .ok (.iload_n 1, 1) := by decide +kernel
theorem dX5_height_40 : decode cX5_height 40 = .ok (.if_icmp .le 7, 3) := by decide +kernel
theorem dX5_height_43 : decode cX5_height 43 = .ok (.iload_n 3, 1) := by decide +kernel
theorem dX5_height_44 : decode cX5_height 44 = .ok (.goto 4, 3) := by decide +kernel
theorem dX5_height_47 : decode cX5_height 47 = .ok (.iload_n 1, 1) := by decide +kernel
theorem dX5_height_48 : decode cX5_height 48 = .ok (.istore_n 1, 1) := by decide +kernel
theorem dX5_height_49 : decode cX5_height 49 = .ok (.iinc 2 1, 3) := by decide +kernel
theorem dX5_height_52 : decode cX5_height 52 = .ok (.goto (-35), 3) := by decide +kernel
theorem dX5_height_55 : decode cX5_height 55 = .ok (.iload_n 1, 1) := by decide +kernel
theorem dX5_height_56 : decode cX5_height 56 = .ok (.ireturn, 1) := by decide +kernel
theorem dX5_depth_0 : decode cX5_depth 0 = .ok (.aload_n 0, 1) := by decide +kernel
theorem dX5_depth_1 : decode cX5_depth 1 = .ok (.aload_n 0, 1) := by decide +kernel
theorem dX5_depth_2 : decode cX5_depth 2 = .ok (.iload_n 1, 1) := by decide +kernel
theorem dX5_depth_3 : decode cX5_depth 3 = .ok (.invokevirtual 115, 3) := by decide +kernel
theorem dX5_depth_6 : decode cX5_depth 6 = .ok (.ifCond .eq 7, 3) := by decide +kernel
theorem dX5_depth_9 : decode cX5_depth 9 = .ok (.iconst 0, 1) := by decide +kernel
theorem dX5_depth_10 : decode cX5_depth 10 = .ok (.goto 4, 3) := by decide +kernel
theorem dX5_depth_13 : decode cX5_depth 13 = .ok (.iconst 1, 1) := by decide +kernel
theorem dX5_depth_14 : decode cX5_depth 14 = .ok (.invokevirtual 105, 3) := by decide +kernel
theorem dX5_depth_17 : decode cX5_depth 17 = .ok (.ifCond .eq 19, 3) := by decide +kernel
theorem dX5_depth_20 : decode cX5_depth 20 = .ok (.aload_n 0, 1) := by decide +kernel
theorem dX5_depth_21 : decode cX5_depth 21 = .ok (.aload_n 0, 1) := by decide +kernel
theorem dX5_depth_22 : decode cX5_depth 22 = .ok (.aload_n 0, 1) := by decide +kernel
theorem dX5_depth_23 : decode cX5_depth 23 = .ok (.getfield 9, 3) := by decide +kernel
theorem dX5_depth_26 : decode cX5_depth 26 = .ok (.iload_n 1, 1) := by decide +kernel
theorem dX5_depth_27 : decode cX5_depth 27 = .ok (.invokevirtual 87, 3) := by decide +kernel
theorem dX5_depth_30 : decode cX5_depth 30 = .ok (.invokevirtual 166, 3) := by decide +kernel
theorem dX5_depth_33 : decode cX5_depth 33 = .ok (.goto 4, 3) := by decide +kernel
theorem dX5_depth_36 : decode cX5_depth 36 = .ok (.iconst 0, 1) := by decide +kernel
theorem dX5_depth_37 : decode cX5_depth 37 = .ok (.ireturn, 1) := by decide +kernel
theorem dX5_subtree_0 : decode cX5_subtree 0 = .ok (.aload_n 0, 1) := by decide +kernel
theorem dX5_subtree_1 : decode cX5_subtree 1 = .ok (.aload_n 0, 1) := by decide +kernel
theorem dX5_subtree_2 : decode cX5_subtree 2 = .ok (.iload_n 1, 1) := by decide +kernel
theorem dX5_subtree_3 : decode cX5_subtree 3 = .ok (.invokevirtual 115, 3) := by decide +kernel
theorem dX5_subtree_6 : decode cX5_subtree 6 = .ok (.ifCond .eq 7, 3) := by decide +kernel
theorem dX5_subtree_9 : decode cX5_subtree 9 = .ok (.iconst 0, 1) := by decide +kernel
theorem dX5_subtree_10 : decode cX5_subtree 10 = .ok (.goto 4, 3) := by decide +kernel
theorem dX5_subtree_13 : decode cX5_subtree 13 = .ok (.iconst 1, 1) := by decide +kernel
theorem dX5_subtree_14 : decode cX5_subtree 14 = .ok (.invokevirtual 105, 3) := by decide +kernel
theorem dX5_subtree_17 : decode cX5_subtree 17 = .ok (.ifCond .eq 19, 3) := by decide +kernel
theorem dX5_subtree_20 : decode cX5_subtree 20 = .ok (.aload_n 0, 1) := by decide +kernel
theorem dX5_subtree_21 : decode cX5_subtree 21 = .ok (.aload_n 0, 1) := by decide +kernel
theorem dX5_subtree_22 : decode cX5_subtree 22 = .ok (.aload_n 0, 1) := by decide +kernel
theorem dX5_subtree_23 : decode cX5_subtree 23 = .ok (.getfield 9, 3) := by decide +kernel
theorem dX5_subtree_26 : decode cX5_subtree 26 = .ok (.iload_n 1, 1) := by decide +kernel
theorem dX5_subtree_27 : decode cX5_subtree 27 = .ok (.invokevirtual 87, 3) := by decide +kernel
theorem dX5_subtree_30 : decode cX5_subtree 30 = .ok (.invokevirtual 160, 3) := by decide +kernel
theorem dX5_subtree_33 : decode cX5_subtree 33 = .ok (.goto 4, 3) := by decide +kernel
theorem dX5_subtree_36 : decode cX5_subtree 36 = .ok (.iconst 0, 1) := by decide +kernel
theorem dX5_subtree_37 : decode cX5_subtree 37 = .ok (.ireturn, 1) := by decide +kernel
theorem dX5_child_0 : decode cX5_child 0 = .ok (.aload_n 0, 1) := by decide +kernel
theorem dX5_child_1 : decode cX5_child 1 = .ok (.aload_n 0, 1) := by decide +kernel
theorem dX5_child_2 : decode cX5_child 2 = .ok (.iload_n 1, 1) := by decide +kernel
theorem dX5_child_3 : decode cX5_child 3 = .ok (.invokevirtual 115, 3) := by decide +kernel
theorem dX5_child_6 : decode cX5_child 6 = .ok (.ifCond .eq 7, 3) := by decide +kernel
theorem dX5_child_9 : decode cX5_child 9 = .ok (.iconst 0, 1) := by decide +kernel
theorem dX5_child_10 : decode cX5_child 10 = .ok (.goto 4, 3) := by decide +kernel
theorem dX5_child_13 : decode cX5_child 13 = .ok (.iconst 1, 1) := by decide +kernel
theorem dX5_child_14 : decode cX5_child 14 = .ok (.invokevirtual 105, 3) := by decide +kernel
theorem dX5_child_17 : decode cX5_child 17 = .ok (.ifCond .ne 5, 3) := by decide +kernel
theorem dX5_child_20 : decode cX5_child 20 = .ok (.iconst 0, 1) := by decide +kernel
theorem dX5_child_21 : decode cX5_child 21 = .ok (.ireturn, 1) := by decide +kernel
theorem dX5_child_22 : decode cX5_child 22 = .ok (.aload_n 0, 1) := by decide +kernel
theorem dX5_child_23 : decode cX5_child 23 = .ok (.aload_n 0, 1) := by decide +kernel
theorem dX5_child_24 : decode cX5_child 24 = .ok (.getfield 9, 3) := by decide +kernel
theorem dX5_child_27 : decode cX5_child 27 = .ok (.iload_n 1, 1) := by decide +kernel
theorem dX5_child_28 : decode cX5_child 28 = .ok (.invokevirtual 87, 3) := by decide +kernel
theorem dX5_child_31 : decode cX5_child 31 = .ok (.istore_n 3, 1) := by decide +kernel
theorem dX5_child_32 : decode cX5_child 32 = .ok (.iload_n 2, 1) := by decide +kernel
theorem dX5_child_33 : decode cX5_child 33 = .ok (.ifCond .eq 12, 3) := by decide +kernel
theorem dX5_child_36 : decode cX5_child 36 = .ok (.aload_n 0, 1) := by decide +kernel
theorem dX5_child_37 : decode cX5_child 37 = .ok (.getfield 23, 3) := by decide +kernel
theorem dX5_child_40 : decode cX5_child 40 = .ok (.iload_n 3, 1) := by decide +kernel
theorem dX5_child_41 : decode cX5_child 41 = .ok (.iaload, 1) := by decide +kernel
theorem dX5_child_42 : decode cX5_child 42 = .ok (.goto 9, 3) := by decide +kernel
theorem dX5_child_45 : decode cX5_child 45 = .ok (.aload_n 0, 1) := by decide +kernel
theorem dX5_child_46 : decode cX5_child 46 = .ok (.getfield 20, 3) := by decide +kernel
theorem dX5_child_49 : decode cX5_child 49 = .ok (.iload_n 3, 1) := by decide +kernel
theorem dX5_child_50 : decode cX5_child 50 = .ok (.iaload, 1) := by decide +kernel
theorem dX5_child_51 : decode cX5_child 51 = .ok (.istore 4, 2) := by decide +kernel
theorem dX5_child_53 : decode cX5_child 53 = .ok (.iload 4, 2) := by decide +kernel
theorem dX5_child_55 : decode cX5_child 55 = .ok (.iconst (-1), 1) := by decide +kernel
theorem dX5_child_56 : decode cX5_child 56 = .ok (.if_icmp .ne 7, 3) := by decide +kernel
theorem dX5_child_59 : decode cX5_child 59 = .ok (.iconst (-1), 1) := by decide +kernel
theorem dX5_child_60 : decode cX5_child 60 = .ok (.goto 9, 3) := by decide +kernel
theorem dX5_child_63 : decode cX5_child 63 = .ok (.aload_n 0, 1) := by decide +kernel
theorem dX5_child_64 : decode cX5_child 64 = .ok (.iload 4, 2) := by decide +kernel
theorem dX5_child_66 : decode cX5_child 66 = .ok (.invokevirtual 152, 3) := by decide +kernel
theorem dX5_child_69 : decode cX5_child 69 = .ok (.ireturn, 1) := by decide +kernel
theorem dX5_whereIs_0 : decode cX5_whereIs 0 = .ok (.aload_n 0, 1) := by decide +kernel
theorem dX5_whereIs_1 : decode cX5_whereIs 1 = .ok (.iload_n 1, 1) := by decide +kernel
theorem dX5_whereIs_2 : decode cX5_whereIs 2 = .ok (.invokestatic 146, 3) := by decide +kernel
theorem dX5_whereIs_5 : decode cX5_whereIs 5 = .ok (.ifCond .eq 7, 3) := by decide +kernel
theorem dX5_whereIs_8 : decode cX5_whereIs 8 = .ok (.iconst 0, 1) := by decide +kernel
theorem dX5_whereIs_9 : decode cX5_whereIs 9 = .ok (.goto 4, 3) := by decide +kernel
theorem dX5_whereIs_12 : decode cX5_whereIs 12 = .ok (.iconst 1, 1) := by decide +kernel
theorem dX5_whereIs_13 : decode cX5_whereIs 13 = .ok (.invokevirtual 105, 3) := by decide +kernel
theorem dX5_whereIs_16 : decode cX5_whereIs 16 = .ok (.ifCond .ne 5, 3) := by decide +kernel
theorem dX5_whereIs_19 : decode cX5_whereIs 19 = .ok (.iconst 0, 1) := by decide +kernel
theorem dX5_whereIs_20 : decode cX5_whereIs 20 = .ok (.ireturn, 1) := by decide +kernel
theorem dX5_whereIs_21 : decode cX5_whereIs 21 = .ok (.aload_n 0, 1) := by decide +kernel
theorem dX5_whereIs_22 : decode cX5_whereIs 22 = .ok (.getfield 33, 3) := by decide +kernel
theorem dX5_whereIs_25 : decode cX5_whereIs 25 = .ok (.iload_n 1, 1) := by decide +kernel
theorem dX5_whereIs_26 : decode cX5_whereIs 26 = .ok (.iaload, 1) := by decide +kernel
theorem dX5_whereIs_27 : decode cX5_whereIs 27 = .ok (.iconst (-1), 1) := by decide +kernel
theorem dX5_whereIs_28 : decode cX5_whereIs 28 = .ok (.if_icmp .ne 7, 3) := by decide +kernel
theorem dX5_whereIs_31 : decode cX5_whereIs 31 = .ok (.iconst 0, 1) := by decide +kernel
theorem dX5_whereIs_32 : decode cX5_whereIs 32 = .ok (.goto 21, 3) := by decide +kernel
theorem dX5_whereIs_35 : decode cX5_whereIs 35 = .ok (.aload_n 0, 1) := by decide +kernel
theorem dX5_whereIs_36 : decode cX5_whereIs 36 = .ok (.aload_n 0, 1) := by decide +kernel
theorem dX5_whereIs_37 : decode cX5_whereIs 37 = .ok (.getfield 33, 3) := by decide +kernel
theorem dX5_whereIs_40 : decode cX5_whereIs 40 = .ok (.iload_n 1, 1) := by decide +kernel
theorem dX5_whereIs_41 : decode cX5_whereIs 41 = .ok (.iaload, 1) := by decide +kernel
theorem dX5_whereIs_42 : decode cX5_whereIs 42 = .ok (.invokevirtual 149, 3) := by decide +kernel
theorem dX5_whereIs_45 : decode cX5_whereIs 45 = .ok (.ifCond .eq 7, 3) := by decide +kernel
theorem dX5_whereIs_48 : decode cX5_whereIs 48 = .ok (.iconst 1, 1) := by decide +kernel
theorem dX5_whereIs_49 : decode cX5_whereIs 49 = .ok (.goto 4, 3) := by decide +kernel
theorem dX5_whereIs_52 : decode cX5_whereIs 52 = .ok (.iconst 2, 1) := by decide +kernel
theorem dX5_whereIs_53 : decode cX5_whereIs 53 = .ok (.ireturn, 1) := by decide +kernel
theorem dX5_plain_0 : decode cX5_plain 0 = .ok (.aload_n 0, 1) := by decide +kernel
theorem dX5_plain_1 : decode cX5_plain 1 = .ok (.aload_n 0, 1) := by decide +kernel
theorem dX5_plain_2 : decode cX5_plain 2 = .ok (.iload_n 1, 1) := by decide +kernel
theorem dX5_plain_3 : decode cX5_plain 3 = .ok (.invokevirtual 115, 3) := by decide +kernel
theorem dX5_plain_6 : decode cX5_plain 6 = .ok (.ifCond .eq 7, 3) := by decide +kernel
theorem dX5_plain_9 : decode cX5_plain 9 = .ok (.iconst 0, 1) := by decide +kernel
theorem dX5_plain_10 : decode cX5_plain 10 = .ok (.goto 4, 3) := by decide +kernel
theorem dX5_plain_13 : decode cX5_plain 13 = .ok (.iconst 1, 1) := by decide +kernel
theorem dX5_plain_14 : decode cX5_plain 14 = .ok (.invokevirtual 105, 3) := by decide +kernel
theorem dX5_plain_17 : decode cX5_plain 17 = .ok (.ifCond .eq 20, 3) := by decide +kernel
theorem dX5_plain_20 : decode cX5_plain 20 = .ok (.aload_n 0, 1) := by decide +kernel
theorem dX5_plain_21 : decode cX5_plain 21 = .ok (.getfield 16, 3) := by decide +kernel
theorem dX5_plain_24 : decode cX5_plain 24 = .ok (.aload_n 0, 1) := by decide +kernel
theorem dX5_plain_25 : decode cX5_plain 25 = .ok (.aload_n 0, 1) := by decide +kernel
theorem dX5_plain_26 : decode cX5_plain 26 = .ok (.getfield 9, 3) := by decide +kernel
theorem dX5_plain_29 : decode cX5_plain 29 = .ok (.iload_n 1, 1) := by decide +kernel
theorem dX5_plain_30 : decode cX5_plain 30 = .ok (.invokevirtual 87, 3) := by decide +kernel
theorem dX5_plain_33 : decode cX5_plain 33 = .ok (.iaload, 1) := by decide +kernel
theorem dX5_plain_34 : decode cX5_plain 34 = .ok (.goto 4, 3) := by decide +kernel
theorem dX5_plain_37 : decode cX5_plain 37 = .ok (.iconst 0, 1) := by decide +kernel
theorem dX5_plain_38 : decode cX5_plain 38 = .ok (.ireturn, 1) := by decide +kernel
theorem dX5_plainSum_0 : decode cX5_plainSum 0 = .ok (.aload_n 0, 1) := by decide +kernel
theorem dX5_plainSum_1 : decode cX5_plainSum 1 = .ok (.aload_n 0, 1) := by decide +kernel
theorem dX5_plainSum_2 : decode cX5_plainSum 2 = .ok (.iload_n 1, 1) := by decide +kernel
theorem dX5_plainSum_3 : decode cX5_plainSum 3 = .ok (.iload_n 2, 1) := by decide +kernel
theorem dX5_plainSum_4 : decode cX5_plainSum 4 = .ok (.invokevirtual 133, 3) := by decide +kernel
theorem dX5_plainSum_7 : decode cX5_plainSum 7 = .ok (.ifCond .eq 7, 3) := by decide +kernel
theorem dX5_plainSum_10 : decode cX5_plainSum 10 = .ok (.iconst 0, 1) := by decide +kernel
theorem dX5_plainSum_11 : decode cX5_plainSum 11 = .ok (.goto 4, 3) := by decide +kernel
theorem dX5_plainSum_14 : decode cX5_plainSum 14 = .ok (.iconst 1, 1) := by decide +kernel
theorem dX5_plainSum_15 : decode cX5_plainSum 15 = .ok (.invokevirtual 105, 3) := by decide +kernel
theorem dX5_plainSum_18 : decode cX5_plainSum 18 = .ok (.ifCond .ne 5, 3) := by decide +kernel
theorem dX5_plainSum_21 : decode cX5_plainSum 21 = .ok (.iconst 0, 1) := by decide +kernel
theorem dX5_plainSum_22 : decode cX5_plainSum 22 = .ok (.ireturn, 1) := by decide +kernel
theorem dX5_plainSum_23 : decode cX5_plainSum 23 = .ok (.aload_n 0, 1) := by decide +kernel
theorem dX5_plainSum_24 : decode cX5_plainSum 24 = .ok (.aload_n 0, 1) := by decide +kernel
theorem dX5_plainSum_25 : decode cX5_plainSum 25 = .ok (.getfield 9, 3) := by decide +kernel
theorem dX5_plainSum_28 : decode cX5_plainSum 28 = .ok (.invokevirtual 52, 3) := by decide +kernel
theorem dX5_plainSum_31 : decode cX5_plainSum 31 = .ok (.iconst 0, 1) := by decide +kernel
theorem dX5_plainSum_32 : decode cX5_plainSum 32 = .ok (.istore_n 3, 1) := by decide +kernel
theorem dX5_plainSum_33 : decode cX5_plainSum 33 = .ok (.iload_n 1, 1) := by decide +kernel
theorem dX5_plainSum_34 : decode cX5_plainSum 34 = .ok (.istore 4, 2) := by decide +kernel
theorem dX5_plainSum_36 : decode cX5_plainSum 36 = .ok (.iload 4, 2) := by decide +kernel
theorem dX5_plainSum_38 : decode cX5_plainSum 38 = .ok (.iload_n 2, 1) := by decide +kernel
theorem dX5_plainSum_39 : decode cX5_plainSum 39 = .ok (.if_icmp .ge 24, 3) := by decide +kernel
theorem dX5_plainSum_42 : decode cX5_plainSum 42 = .ok (.iload_n 3, 1) := by decide +kernel
theorem dX5_plainSum_43 : decode cX5_plainSum 43 = .ok (.aload_n 0, 1) := by decide +kernel
theorem dX5_plainSum_44 : decode cX5_plainSum 44 = .ok (.getfield 16, 3) := by decide +kernel
theorem dX5_plainSum_47 : decode cX5_plainSum 47 = .ok (.aload_n 0, 1) := by decide +kernel
theorem dX5_plainSum_48 : decode cX5_plainSum 48 = .ok (.getfield 36, 3) := by decide +kernel
theorem dX5_plainSum_51 : decode cX5_plainSum 51 = .ok (.iload 4, 2) := by decide +kernel
theorem dX5_plainSum_53 : decode cX5_plainSum 53 = .ok (.iaload, 1) := by decide +kernel
theorem dX5_plainSum_54 : decode cX5_plainSum 54 = .ok (.iaload, 1) := by decide +kernel
theorem dX5_plainSum_55 : decode cX5_plainSum 55 = .ok (.iadd, 1) := by decide +kernel
theorem dX5_plainSum_56 : decode cX5_plainSum 56 = .ok (.istore_n 3, 1) := by decide +kernel
theorem dX5_plainSum_57 : decode cX5_plainSum 57 = .ok (.iinc 4 1, 3) := by decide +kernel
theorem dX5_plainSum_60 : decode cX5_plainSum 60 = .ok (.goto (-24), 3) := by decide +kernel
theorem dX5_plainSum_63 : decode cX5_plainSum 63 = .ok (.iload_n 3, 1) := by decide +kernel
theorem dX5_plainSum_64 : decode cX5_plainSum 64 = .ok (.ireturn, 1) := by decide +kernel
end
section
theorem dL_insert_0 : decode cL_insert 0 = .ok (.aload_n 3, 1) := by decide +kernel
theorem dL_insert_1 : decode cL_insert 1 = .ok (.iconst 0, 1) := by decide +kernel
theorem dL_insert_2 : decode cL_insert 2 = .ok (.aload_n 0, 1) := by decide +kernel
theorem dL_insert_3 : decode cL_insert 3 = .ok (.iload_n 1, 1) := by decide +kernel
theorem dL_insert_4 : decode cL_insert 4 = .ok (.iload_n 2, 1) := by decide +kernel
theorem dL_insert_5 : decode cL_insert 5 = .ok (.invokevirtual 7, 3) := by decide +kernel
theorem dL_insert_8 : decode cL_insert 8 = .ok (.i2l, 1) := by decide +kernel
theorem dL_insert_9 : decode cL_insert 9 = .ok (.lastore, 1) := by decide +kernel
theorem dL_insert_10 : decode cL_insert 10 = .ok (.goto 15, 3) := by decide +kernel
theorem dL_insert_13 : decode cL_insert 13 = .ok (.astore 4, 2) := by decide +kernel
theorem dL_insert_15 : decode cL_insert 15 = .ok (.iconst 1, 1) := by decide +kernel
theorem dL_insert_16 : decode cL_insert 16 = .ok (.ireturn, 1) := by decide +kernel
theorem dL_insert_17 : decode cL_insert 17 = .ok (.astore 4, 2) := by decide +kernel
theorem dL_insert_19 : decode cL_insert 19 = .ok (.iconst 2, 1) := by decide +kernel
theorem dL_insert_20 : decode cL_insert 20 = .ok (.ireturn, 1) := by decide +kernel
theorem dL_insert_21 : decode cL_insert 21 = .ok (.astore 4, 2) := by decide +kernel
theorem dL_insert_23 : decode cL_insert 23 = .ok (.iconst 3, 1) := by decide +kernel
theorem dL_insert_24 : decode cL_insert 24 = .ok (.ireturn, 1) := by decide +kernel
theorem dL_insert_25 : decode cL_insert 25 = .ok (.iconst 0, 1) := by decide +kernel
theorem dL_insert_26 : decode cL_insert 26 = .ok (.ireturn, 1) := by decide +kernel
theorem dL_remove_0 : decode cL_remove 0 = .ok (.aload_n 2, 1) := by decide +kernel
theorem dL_remove_1 : decode cL_remove 1 = .ok (.iconst 0, 1) := by decide +kernel
theorem dL_remove_2 : decode cL_remove 2 = .ok (.aload_n 0, 1) := by decide +kernel
theorem dL_remove_3 : decode cL_remove 3 = .ok (.iload_n 1, 1) := by decide +kernel
theorem dL_remove_4 : decode cL_remove 4 = .ok (.invokevirtual 19, 3) := by decide +kernel
theorem dL_remove_7 : decode cL_remove 7 = .ok (.i2l, 1) := by decide +kernel
theorem dL_remove_8 : decode cL_remove 8 = .ok (.lastore, 1) := by decide +kernel
theorem dL_remove_9 : decode cL_remove 9 = .ok (.goto 6, 3) := by decide +kernel
theorem dL_remove_12 : decode cL_remove 12 = .ok (.astore_n 3, 1) := by decide +kernel
theorem dL_remove_13 : decode cL_remove 13 = .ok (.iconst 1, 1) := by decide +kernel
theorem dL_remove_14 : decode cL_remove 14 = .ok (.ireturn, 1) := by decide +kernel
theorem dL_remove_15 : decode cL_remove 15 = .ok (.iconst 0, 1) := by decide +kernel
theorem dL_remove_16 : decode cL_remove 16 = .ok (.ireturn, 1) := by decide +kernel
theorem dL_get_0 : decode cL_get 0 = .ok (.aload_n 2, 1) := by decide +kernel
theorem dL_get_1 : decode cL_get 1 = .ok (.iconst 0, 1) := by decide +kernel
theorem dL_get_2 : decode cL_get 2 = .ok (.aload_n 0, 1) := by decide +kernel
theorem dL_get_3 : decode cL_get 3 = .ok (.iload_n 1, 1) := by decide +kernel
theorem dL_get_4 : decode cL_get 4 = .ok (.invokevirtual 23, 3) := by decide +kernel
theorem dL_get_7 : decode cL_get 7 = .ok (.i2l, 1) := by decide +kernel
theorem dL_get_8 : decode cL_get 8 = .ok (.lastore, 1) := by decide +kernel
theorem dL_get_9 : decode cL_get 9 = .ok (.goto 6, 3) := by decide +kernel
theorem dL_get_12 : decode cL_get 12 = .ok (.astore_n 3, 1) := by decide +kernel
theorem dL_get_13 : decode cL_get 13 = .ok (.iconst 1, 1) := by decide +kernel
theorem dL_get_14 : decode cL_get 14 = .ok (.ireturn, 1) := by decide +kernel
theorem dL_get_15 : decode cL_get 15 = .ok (.iconst 0, 1) := by decide +kernel
theorem dL_get_16 : decode cL_get 16 = .ok (.ireturn, 1) := by decide +kernel
theorem dL_set_0 : decode cL_set 0 = .ok (.aload_n 3, 1) := by decide +kernel
theorem dL_set_1 : decode cL_set 1 = .ok (.iconst 0, 1) := by decide +kernel
theorem dL_set_2 : decode cL_set 2 = .ok (.aload_n 0, 1) := by decide +kernel
theorem dL_set_3 : decode cL_set 3 = .ok (.iload_n 1, 1) := by decide +kernel
theorem dL_set_4 : decode cL_set 4 = .ok (.iload_n 2, 1) := by decide +kernel
theorem dL_set_5 : decode cL_set 5 = .ok (.invokevirtual 26, 3) := by decide +kernel
theorem dL_set_8 : decode cL_set 8 = .ok (.i2l, 1) := by decide +kernel
theorem dL_set_9 : decode cL_set 9 = .ok (.lastore, 1) := by decide +kernel
theorem dL_set_10 : decode cL_set 10 = .ok (.goto 11, 3) := by decide +kernel
theorem dL_set_13 : decode cL_set 13 = .ok (.astore 4, 2) := by decide +kernel
theorem dL_set_15 : decode cL_set 15 = .ok (.iconst 1, 1) := by decide +kernel
theorem dL_set_16 : decode cL_set 16 = .ok (.ireturn, 1) := by decide +kernel
theorem dL_set_17 : decode cL_set 17 = .ok (.astore 4, 2) := by decide +kernel
theorem dL_set_19 : decode cL_set 19 = .ok (.iconst 2, 1) := by decide +kernel
theorem dL_set_20 : decode cL_set 20 = .ok (.ireturn, 1) := by decide +kernel
theorem dL_set_21 : decode cL_set 21 = .ok (.iconst 0, 1) := by decide +kernel
theorem dL_set_22 : decode cL_set 22 = .ok (.ireturn, 1) := by decide +kernel
theorem dL_reverse_0 : decode cL_reverse 0 = .ok (.aload_n 3, 1) := by decide +kernel
theorem dL_reverse_1 : decode cL_reverse 1 = .ok (.iconst 0, 1) := by decide +kernel
theorem dL_reverse_2 : decode cL_reverse 2 = .ok (.aload_n 0, 1) := by decide +kernel
theorem dL_reverse_3 : decode cL_reverse 3 = .ok (.iload_n 1, 1) := by decide +kernel
theorem dL_reverse_4 : decode cL_reverse 4 = .ok (.iload_n 2, 1) := by decide +kernel
theorem dL_reverse_5 : decode cL_reverse 5 = .ok (.invokevirtual 29, 3) := by decide +kernel
theorem dL_reverse_8 : decode cL_reverse 8 = .ok (.i2l, 1) := by decide +kernel
theorem dL_reverse_9 : decode cL_reverse 9 = .ok (.lastore, 1) := by decide +kernel
theorem dL_reverse_10 : decode cL_reverse 10 = .ok (.goto 7, 3) := by decide +kernel
theorem dL_reverse_13 : decode cL_reverse 13 = .ok (.astore 4, 2) := by decide +kernel
theorem dL_reverse_15 : decode cL_reverse 15 = .ok (.iconst 1, 1) := by decide +kernel
theorem dL_reverse_16 : decode cL_reverse 16 = .ok (.ireturn, 1) := by decide +kernel
theorem dL_reverse_17 : decode cL_reverse 17 = .ok (.iconst 0, 1) := by decide +kernel
theorem dL_reverse_18 : decode cL_reverse 18 = .ok (.ireturn, 1) := by decide +kernel
theorem dL_raise_0 : decode cL_raise 0 = .ok (.aload 4, 2) := by decide +kernel
theorem dL_raise_2 : decode cL_raise 2 = .ok (.iconst 0, 1) := by decide +kernel
theorem dL_raise_3 : decode cL_raise 3 = .ok (.aload_n 0, 1) := by decide +kernel
theorem dL_raise_4 : decode cL_raise 4 = .ok (.iload_n 1, 1) := by decide +kernel
theorem dL_raise_5 : decode cL_raise 5 = .ok (.iload_n 2, 1) := by decide +kernel
theorem dL_raise_6 : decode cL_raise 6 = .ok (.iload_n 3, 1) := by decide +kernel
theorem dL_raise_7 : decode cL_raise 7 = .ok (.invokevirtual 32, 3) := by decide +kernel
theorem dL_raise_10 : decode cL_raise 10 = .ok (.i2l, 1) := by decide +kernel
theorem dL_raise_11 : decode cL_raise 11 = .ok (.lastore, 1) := by decide +kernel
theorem dL_raise_12 : decode cL_raise 12 = .ok (.goto 11, 3) := by decide +kernel
theorem dL_raise_15 : decode cL_raise 15 = .ok (.astore 5, 2) := by decide +kernel
theorem dL_raise_17 : decode cL_raise 17 = .ok (.iconst 1, 1) := by decide +kernel
theorem dL_raise_18 : decode cL_raise 18 = .ok (.ireturn, 1) := by decide +kernel
theorem dL_raise_19 : decode cL_raise 19 = .ok (.astore 5, 2) := by decide +kernel
theorem dL_raise_21 : decode cL_raise 21 = .ok (.iconst 2, 1) := by decide +kernel
theorem dL_raise_22 : decode cL_raise 22 = .ok (.ireturn, 1) := by decide +kernel
theorem dL_raise_23 : decode cL_raise 23 = .ok (.iconst 0, 1) := by decide +kernel
theorem dL_raise_24 : decode cL_raise 24 = .ok (.ireturn, 1) := by decide +kernel
theorem dL_sum_0 : decode cL_sum 0 = .ok (.aload_n 3, 1) := by decide +kernel
theorem dL_sum_1 : decode cL_sum 1 = .ok (.iconst 0, 1) := by decide +kernel
theorem dL_sum_2 : decode cL_sum 2 = .ok (.aload_n 0, 1) := by decide +kernel
theorem dL_sum_3 : decode cL_sum 3 = .ok (.iload_n 1, 1) := by decide +kernel
theorem dL_sum_4 : decode cL_sum 4 = .ok (.iload_n 2, 1) := by decide +kernel
theorem dL_sum_5 : decode cL_sum 5 = .ok (.invokevirtual 36, 3) := by decide +kernel
theorem dL_sum_8 : decode cL_sum 8 = .ok (.i2l, 1) := by decide +kernel
theorem dL_sum_9 : decode cL_sum 9 = .ok (.lastore, 1) := by decide +kernel
theorem dL_sum_10 : decode cL_sum 10 = .ok (.goto 7, 3) := by decide +kernel
theorem dL_sum_13 : decode cL_sum 13 = .ok (.astore 4, 2) := by decide +kernel
theorem dL_sum_15 : decode cL_sum 15 = .ok (.iconst 1, 1) := by decide +kernel
theorem dL_sum_16 : decode cL_sum 16 = .ok (.ireturn, 1) := by decide +kernel
theorem dL_sum_17 : decode cL_sum 17 = .ok (.iconst 0, 1) := by decide +kernel
theorem dL_sum_18 : decode cL_sum 18 = .ok (.ireturn, 1) := by decide +kernel
theorem dL_least_0 : decode cL_least 0 = .ok (.aload_n 3, 1) := by decide +kernel
theorem dL_least_1 : decode cL_least 1 = .ok (.iconst 0, 1) := by decide +kernel
theorem dL_least_2 : decode cL_least 2 = .ok (.aload_n 0, 1) := by decide +kernel
theorem dL_least_3 : decode cL_least 3 = .ok (.iload_n 1, 1) := by decide +kernel
theorem dL_least_4 : decode cL_least 4 = .ok (.iload_n 2, 1) := by decide +kernel
theorem dL_least_5 : decode cL_least 5 = .ok (.invokevirtual 39, 3) := by decide +kernel
theorem dL_least_8 : decode cL_least 8 = .ok (.i2l, 1) := by decide +kernel
theorem dL_least_9 : decode cL_least 9 = .ok (.lastore, 1) := by decide +kernel
theorem dL_least_10 : decode cL_least 10 = .ok (.goto 11, 3) := by decide +kernel
theorem dL_least_13 : decode cL_least 13 = .ok (.astore 4, 2) := by decide +kernel
theorem dL_least_15 : decode cL_least 15 = .ok (.iconst 1, 1) := by decide +kernel
theorem dL_least_16 : decode cL_least 16 = .ok (.ireturn, 1) := by decide +kernel
theorem dL_least_17 : decode cL_least 17 = .ok (.astore 4, 2) := by decide +kernel
theorem dL_least_19 : decode cL_least 19 = .ok (.iconst 2, 1) := by decide +kernel
theorem dL_least_20 : decode cL_least 20 = .ok (.ireturn, 1) := by decide +kernel
theorem dL_least_21 : decode cL_least 21 = .ok (.iconst 0, 1) := by decide +kernel
theorem dL_least_22 : decode cL_least 22 = .ok (.ireturn, 1) := by decide +kernel
theorem dL_cut_0 : decode cL_cut 0 = .ok (.aload_n 3, 1) := by decide +kernel
theorem dL_cut_1 : decode cL_cut 1 = .ok (.iconst 0, 1) := by decide +kernel
theorem dL_cut_2 : decode cL_cut 2 = .ok (.aload_n 0, 1) := by decide +kernel
theorem dL_cut_3 : decode cL_cut 3 = .ok (.iload_n 1, 1) := by decide +kernel
theorem dL_cut_4 : decode cL_cut 4 = .ok (.iload_n 2, 1) := by decide +kernel
theorem dL_cut_5 : decode cL_cut 5 = .ok (.invokevirtual 42, 3) := by decide +kernel
theorem dL_cut_8 : decode cL_cut 8 = .ok (.i2l, 1) := by decide +kernel
theorem dL_cut_9 : decode cL_cut 9 = .ok (.lastore, 1) := by decide +kernel
theorem dL_cut_10 : decode cL_cut 10 = .ok (.goto 11, 3) := by decide +kernel
theorem dL_cut_13 : decode cL_cut 13 = .ok (.astore 4, 2) := by decide +kernel
theorem dL_cut_15 : decode cL_cut 15 = .ok (.iconst 1, 1) := by decide +kernel
theorem dL_cut_16 : decode cL_cut 16 = .ok (.ireturn, 1) := by decide +kernel
theorem dL_cut_17 : decode cL_cut 17 = .ok (.astore 4, 2) := by decide +kernel
theorem dL_cut_19 : decode cL_cut 19 = .ok (.iconst 2, 1) := by decide +kernel
theorem dL_cut_20 : decode cL_cut 20 = .ok (.ireturn, 1) := by decide +kernel
theorem dL_cut_21 : decode cL_cut 21 = .ok (.iconst 0, 1) := by decide +kernel
theorem dL_cut_22 : decode cL_cut 22 = .ok (.ireturn, 1) := by decide +kernel
theorem dL_paste_0 : decode cL_paste 0 = .ok (.aload_n 2, 1) := by decide +kernel
theorem dL_paste_1 : decode cL_paste 1 = .ok (.iconst 0, 1) := by decide +kernel
theorem dL_paste_2 : decode cL_paste 2 = .ok (.aload_n 0, 1) := by decide +kernel
theorem dL_paste_3 : decode cL_paste 3 = .ok (.iload_n 1, 1) := by decide +kernel
theorem dL_paste_4 : decode cL_paste 4 = .ok (.invokevirtual 45, 3) := by decide +kernel
theorem dL_paste_7 : decode cL_paste 7 = .ok (.i2l, 1) := by decide +kernel
theorem dL_paste_8 : decode cL_paste 8 = .ok (.lastore, 1) := by decide +kernel
theorem dL_paste_9 : decode cL_paste 9 = .ok (.goto 6, 3) := by decide +kernel
theorem dL_paste_12 : decode cL_paste 12 = .ok (.astore_n 3, 1) := by decide +kernel
theorem dL_paste_13 : decode cL_paste 13 = .ok (.iconst 1, 1) := by decide +kernel
theorem dL_paste_14 : decode cL_paste 14 = .ok (.ireturn, 1) := by decide +kernel
theorem dL_paste_15 : decode cL_paste 15 = .ok (.iconst 0, 1) := by decide +kernel
theorem dL_paste_16 : decode cL_paste 16 = .ok (.ireturn, 1) := by decide +kernel
theorem dL_point_0 : decode cL_point 0 = .ok (.aload_n 3, 1) := by decide +kernel
theorem dL_point_1 : decode cL_point 1 = .ok (.iconst 0, 1) := by decide +kernel
theorem dL_point_2 : decode cL_point 2 = .ok (.aload_n 0, 1) := by decide +kernel
theorem dL_point_3 : decode cL_point 3 = .ok (.iload_n 1, 1) := by decide +kernel
theorem dL_point_4 : decode cL_point 4 = .ok (.iload_n 2, 1) := by decide +kernel
theorem dL_point_5 : decode cL_point 5 = .ok (.invokevirtual 48, 3) := by decide +kernel
theorem dL_point_8 : decode cL_point 8 = .ok (.i2l, 1) := by decide +kernel
theorem dL_point_9 : decode cL_point 9 = .ok (.lastore, 1) := by decide +kernel
theorem dL_point_10 : decode cL_point 10 = .ok (.goto 7, 3) := by decide +kernel
theorem dL_point_13 : decode cL_point 13 = .ok (.astore 4, 2) := by decide +kernel
theorem dL_point_15 : decode cL_point 15 = .ok (.iconst 1, 1) := by decide +kernel
theorem dL_point_16 : decode cL_point 16 = .ok (.ireturn, 1) := by decide +kernel
theorem dL_point_17 : decode cL_point 17 = .ok (.iconst 0, 1) := by decide +kernel
theorem dL_point_18 : decode cL_point 18 = .ok (.ireturn, 1) := by decide +kernel
theorem dL_follow_0 : decode cL_follow 0 = .ok (.aload_n 2, 1) := by decide +kernel
theorem dL_follow_1 : decode cL_follow 1 = .ok (.iconst 0, 1) := by decide +kernel
theorem dL_follow_2 : decode cL_follow 2 = .ok (.aload_n 0, 1) := by decide +kernel
theorem dL_follow_3 : decode cL_follow 3 = .ok (.iload_n 1, 1) := by decide +kernel
theorem dL_follow_4 : decode cL_follow 4 = .ok (.invokevirtual 51, 3) := by decide +kernel
theorem dL_follow_7 : decode cL_follow 7 = .ok (.i2l, 1) := by decide +kernel
theorem dL_follow_8 : decode cL_follow 8 = .ok (.lastore, 1) := by decide +kernel
theorem dL_follow_9 : decode cL_follow 9 = .ok (.goto 6, 3) := by decide +kernel
theorem dL_follow_12 : decode cL_follow 12 = .ok (.astore_n 3, 1) := by decide +kernel
theorem dL_follow_13 : decode cL_follow 13 = .ok (.iconst 1, 1) := by decide +kernel
theorem dL_follow_14 : decode cL_follow 14 = .ok (.ireturn, 1) := by decide +kernel
theorem dL_follow_15 : decode cL_follow 15 = .ok (.iconst 0, 1) := by decide +kernel
theorem dL_follow_16 : decode cL_follow 16 = .ok (.ireturn, 1) := by decide +kernel
theorem dL_move_0 : decode cL_move 0 = .ok (.aload_n 3, 1) := by decide +kernel
theorem dL_move_1 : decode cL_move 1 = .ok (.iconst 0, 1) := by decide +kernel
theorem dL_move_2 : decode cL_move 2 = .ok (.aload_n 0, 1) := by decide +kernel
theorem dL_move_3 : decode cL_move 3 = .ok (.iload_n 1, 1) := by decide +kernel
theorem dL_move_4 : decode cL_move 4 = .ok (.iload_n 2, 1) := by decide +kernel
theorem dL_move_5 : decode cL_move 5 = .ok (.invokevirtual 54, 3) := by decide +kernel
theorem dL_move_8 : decode cL_move 8 = .ok (.i2l, 1) := by decide +kernel
theorem dL_move_9 : decode cL_move 9 = .ok (.lastore, 1) := by decide +kernel
theorem dL_move_10 : decode cL_move 10 = .ok (.goto 11, 3) := by decide +kernel
theorem dL_move_13 : decode cL_move 13 = .ok (.astore 4, 2) := by decide +kernel
theorem dL_move_15 : decode cL_move 15 = .ok (.iconst 1, 1) := by decide +kernel
theorem dL_move_16 : decode cL_move 16 = .ok (.ireturn, 1) := by decide +kernel
theorem dL_move_17 : decode cL_move 17 = .ok (.astore 4, 2) := by decide +kernel
theorem dL_move_19 : decode cL_move 19 = .ok (.iconst 2, 1) := by decide +kernel
theorem dL_move_20 : decode cL_move 20 = .ok (.ireturn, 1) := by decide +kernel
theorem dL_move_21 : decode cL_move 21 = .ok (.iconst 0, 1) := by decide +kernel
theorem dL_move_22 : decode cL_move 22 = .ok (.ireturn, 1) := by decide +kernel
theorem dL_depth_0 : decode cL_depth 0 = .ok (.aload_n 2, 1) := by decide +kernel
theorem dL_depth_1 : decode cL_depth 1 = .ok (.iconst 0, 1) := by decide +kernel
theorem dL_depth_2 : decode cL_depth 2 = .ok (.aload_n 0, 1) := by decide +kernel
theorem dL_depth_3 : decode cL_depth 3 = .ok (.iload_n 1, 1) := by decide +kernel
theorem dL_depth_4 : decode cL_depth 4 = .ok (.invokevirtual 57, 3) := by decide +kernel
theorem dL_depth_7 : decode cL_depth 7 = .ok (.i2l, 1) := by decide +kernel
theorem dL_depth_8 : decode cL_depth 8 = .ok (.lastore, 1) := by decide +kernel
theorem dL_depth_9 : decode cL_depth 9 = .ok (.goto 6, 3) := by decide +kernel
theorem dL_depth_12 : decode cL_depth 12 = .ok (.astore_n 3, 1) := by decide +kernel
theorem dL_depth_13 : decode cL_depth 13 = .ok (.iconst 1, 1) := by decide +kernel
theorem dL_depth_14 : decode cL_depth 14 = .ok (.ireturn, 1) := by decide +kernel
theorem dL_depth_15 : decode cL_depth 15 = .ok (.iconst 0, 1) := by decide +kernel
theorem dL_depth_16 : decode cL_depth 16 = .ok (.ireturn, 1) := by decide +kernel
theorem dL_subtree_0 : decode cL_subtree 0 = .ok (.aload_n 2, 1) := by decide +kernel
theorem dL_subtree_1 : decode cL_subtree 1 = .ok (.iconst 0, 1) := by decide +kernel
theorem dL_subtree_2 : decode cL_subtree 2 = .ok (.aload_n 0, 1) := by decide +kernel
theorem dL_subtree_3 : decode cL_subtree 3 = .ok (.iload_n 1, 1) := by decide +kernel
theorem dL_subtree_4 : decode cL_subtree 4 = .ok (.invokevirtual 60, 3) := by decide +kernel
theorem dL_subtree_7 : decode cL_subtree 7 = .ok (.i2l, 1) := by decide +kernel
theorem dL_subtree_8 : decode cL_subtree 8 = .ok (.lastore, 1) := by decide +kernel
theorem dL_subtree_9 : decode cL_subtree 9 = .ok (.goto 6, 3) := by decide +kernel
theorem dL_subtree_12 : decode cL_subtree 12 = .ok (.astore_n 3, 1) := by decide +kernel
theorem dL_subtree_13 : decode cL_subtree 13 = .ok (.iconst 1, 1) := by decide +kernel
theorem dL_subtree_14 : decode cL_subtree 14 = .ok (.ireturn, 1) := by decide +kernel
theorem dL_subtree_15 : decode cL_subtree 15 = .ok (.iconst 0, 1) := by decide +kernel
theorem dL_subtree_16 : decode cL_subtree 16 = .ok (.ireturn, 1) := by decide +kernel
theorem dL_child_0 : decode cL_child 0 = .ok (.aload_n 3, 1) := by decide +kernel
theorem dL_child_1 : decode cL_child 1 = .ok (.iconst 0, 1) := by decide +kernel
theorem dL_child_2 : decode cL_child 2 = .ok (.aload_n 0, 1) := by decide +kernel
theorem dL_child_3 : decode cL_child 3 = .ok (.iload_n 1, 1) := by decide +kernel
theorem dL_child_4 : decode cL_child 4 = .ok (.iload_n 2, 1) := by decide +kernel
theorem dL_child_5 : decode cL_child 5 = .ok (.invokevirtual 63, 3) := by decide +kernel
theorem dL_child_8 : decode cL_child 8 = .ok (.i2l, 1) := by decide +kernel
theorem dL_child_9 : decode cL_child 9 = .ok (.lastore, 1) := by decide +kernel
theorem dL_child_10 : decode cL_child 10 = .ok (.goto 7, 3) := by decide +kernel
theorem dL_child_13 : decode cL_child 13 = .ok (.astore 4, 2) := by decide +kernel
theorem dL_child_15 : decode cL_child 15 = .ok (.iconst 1, 1) := by decide +kernel
theorem dL_child_16 : decode cL_child 16 = .ok (.ireturn, 1) := by decide +kernel
theorem dL_child_17 : decode cL_child 17 = .ok (.iconst 0, 1) := by decide +kernel
theorem dL_child_18 : decode cL_child 18 = .ok (.ireturn, 1) := by decide +kernel
theorem dL_whereIs_0 : decode cL_whereIs 0 = .ok (.aload_n 2, 1) := by decide +kernel
theorem dL_whereIs_1 : decode cL_whereIs 1 = .ok (.iconst 0, 1) := by decide +kernel
theorem dL_whereIs_2 : decode cL_whereIs 2 = .ok (.aload_n 0, 1) := by decide +kernel
theorem dL_whereIs_3 : decode cL_whereIs 3 = .ok (.iload_n 1, 1) := by decide +kernel
theorem dL_whereIs_4 : decode cL_whereIs 4 = .ok (.invokevirtual 67, 3) := by decide +kernel
theorem dL_whereIs_7 : decode cL_whereIs 7 = .ok (.i2l, 1) := by decide +kernel
theorem dL_whereIs_8 : decode cL_whereIs 8 = .ok (.lastore, 1) := by decide +kernel
theorem dL_whereIs_9 : decode cL_whereIs 9 = .ok (.goto 6, 3) := by decide +kernel
theorem dL_whereIs_12 : decode cL_whereIs 12 = .ok (.astore_n 3, 1) := by decide +kernel
theorem dL_whereIs_13 : decode cL_whereIs 13 = .ok (.iconst 1, 1) := by decide +kernel
theorem dL_whereIs_14 : decode cL_whereIs 14 = .ok (.ireturn, 1) := by decide +kernel
theorem dL_whereIs_15 : decode cL_whereIs 15 = .ok (.iconst 0, 1) := by decide +kernel
theorem dL_whereIs_16 : decode cL_whereIs 16 = .ok (.ireturn, 1) := by decide +kernel
theorem dL_plain_0 : decode cL_plain 0 = .ok (.aload_n 2, 1) := by decide +kernel
theorem dL_plain_1 : decode cL_plain 1 = .ok (.iconst 0, 1) := by decide +kernel
theorem dL_plain_2 : decode cL_plain 2 = .ok (.aload_n 0, 1) := by decide +kernel
theorem dL_plain_3 : decode cL_plain 3 = .ok (.iload_n 1, 1) := by decide +kernel
theorem dL_plain_4 : decode cL_plain 4 = .ok (.invokevirtual 70, 3) := by decide +kernel
theorem dL_plain_7 : decode cL_plain 7 = .ok (.i2l, 1) := by decide +kernel
theorem dL_plain_8 : decode cL_plain 8 = .ok (.lastore, 1) := by decide +kernel
theorem dL_plain_9 : decode cL_plain 9 = .ok (.goto 6, 3) := by decide +kernel
theorem dL_plain_12 : decode cL_plain 12 = .ok (.astore_n 3, 1) := by decide +kernel
theorem dL_plain_13 : decode cL_plain 13 = .ok (.iconst 1, 1) := by decide +kernel
theorem dL_plain_14 : decode cL_plain 14 = .ok (.ireturn, 1) := by decide +kernel
theorem dL_plain_15 : decode cL_plain 15 = .ok (.iconst 0, 1) := by decide +kernel
theorem dL_plain_16 : decode cL_plain 16 = .ok (.ireturn, 1) := by decide +kernel
theorem dL_plainSum_0 : decode cL_plainSum 0 = .ok (.aload_n 3, 1) := by decide +kernel
theorem dL_plainSum_1 : decode cL_plainSum 1 = .ok (.iconst 0, 1) := by decide +kernel
theorem dL_plainSum_2 : decode cL_plainSum 2 = .ok (.aload_n 0, 1) := by decide +kernel
theorem dL_plainSum_3 : decode cL_plainSum 3 = .ok (.iload_n 1, 1) := by decide +kernel
theorem dL_plainSum_4 : decode cL_plainSum 4 = .ok (.iload_n 2, 1) := by decide +kernel
theorem dL_plainSum_5 : decode cL_plainSum 5 = .ok (.invokevirtual 73, 3) := by decide +kernel
theorem dL_plainSum_8 : decode cL_plainSum 8 = .ok (.i2l, 1) := by decide +kernel
theorem dL_plainSum_9 : decode cL_plainSum 9 = .ok (.lastore, 1) := by decide +kernel
theorem dL_plainSum_10 : decode cL_plainSum 10 = .ok (.goto 7, 3) := by decide +kernel
theorem dL_plainSum_13 : decode cL_plainSum 13 = .ok (.astore 4, 2) := by decide +kernel
theorem dL_plainSum_15 : decode cL_plainSum 15 = .ok (.iconst 1, 1) := by decide +kernel
theorem dL_plainSum_16 : decode cL_plainSum 16 = .ok (.ireturn, 1) := by decide +kernel
theorem dL_plainSum_17 : decode cL_plainSum 17 = .ok (.iconst 0, 1) := by decide +kernel
theorem dL_plainSum_18 : decode cL_plainSum 18 = .ok (.ireturn, 1) := by decide +kernel
theorem dL_law_0 : decode cL_law 0 = .ok (.new 8, 3) := by decide +kernel
theorem dL_law_3 : decode cL_law 3 = .ok (.dup, 1) := by decide +kernel
theorem dL_law_4 : decode cL_law 4 = .ok (.invokespecial 76, 3) := by decide +kernel
theorem dL_law_7 : decode cL_law 7 = .ok (.astore_n 1, 1) := by decide +kernel
theorem dL_law_8 : decode cL_law 8 = .ok (.new 77, 3) := by decide +kernel
theorem dL_law_11 : decode cL_law 11 = .ok (.dup, 1) := by decide +kernel
theorem dL_law_12 : decode cL_law 12 = .ok (.invokespecial 79, 3) := by decide +kernel
theorem dL_law_15 : decode cL_law 15 = .ok (.astore_n 2, 1) := by decide +kernel
theorem dL_law_16 : decode cL_law 16 = .ok (.iconst 1, 1) := by decide +kernel
theorem dL_law_17 : decode cL_law 17 = .ok (.newarray .long, 2) := by decide +kernel
theorem dL_law_19 : decode cL_law 19 = .ok (.astore_n 3, 1) := by decide +kernel
theorem dL_law_20 : decode cL_law 20 = .ok (.iconst 0, 1) := by decide +kernel
theorem dL_law_21 : decode cL_law 21 = .ok (.istore 4, 2) := by decide +kernel
theorem dL_law_23 : decode cL_law 23 = .ok (.iload 4, 2) := by decide +kernel
theorem dL_law_25 : decode cL_law 25 = .ok (.aload_n 0, 1) := by decide +kernel
theorem dL_law_26 : decode cL_law 26 = .ok (.arraylength, 1) := by decide +kernel
theorem dL_law_27 : decode cL_law 27 = .ok (.iconst 4, 1) := by decide +kernel
theorem dL_law_28 : decode cL_law 28 = .ok (.isub, 1) := by decide +kernel
theorem dL_law_29 : decode cL_law 29 = .ok (.if_icmp .gt 1482, 3) := by decide +kernel
theorem dL_law_32 : decode cL_law 32 = .ok (.aload_n 0, 1) := by decide +kernel
theorem dL_law_33 : decode cL_law 33 = .ok (.iload 4, 2) := by decide +kernel
theorem dL_law_35 : decode cL_law 35 = .ok (.iaload, 1) := by decide +kernel
theorem dL_law_36 : decode cL_law 36 = .ok (.bipush 31, 2) := by decide +kernel
theorem dL_law_38 : decode cL_law 38 = .ok (.iand, 1) := by decide +kernel
theorem dL_law_39 : decode cL_law 39 = .ok (.tableswitch 1466 0 27 #[125, 193, 249, 305, 373, 441, 521, 589, 657, 725, 781, 849, 905, 973, 986, 999, 1012, 1025, 1038, 1051, 1064, 1077, 1090, 1146, 1202, 1286, 1342, 1398], 125) := by decide +kernel
theorem dL_law_164 : decode cL_law 164 = .ok (.aload_n 1, 1) := by decide +kernel
theorem dL_law_165 : decode cL_law 165 = .ok (.aload_n 0, 1) := by decide +kernel
theorem dL_law_166 : decode cL_law 166 = .ok (.iload 4, 2) := by decide +kernel
theorem dL_law_168 : decode cL_law 168 = .ok (.iconst 1, 1) := by decide +kernel
theorem dL_law_169 : decode cL_law 169 = .ok (.iadd, 1) := by decide +kernel
theorem dL_law_170 : decode cL_law 170 = .ok (.iaload, 1) := by decide +kernel
theorem dL_law_171 : decode cL_law 171 = .ok (.aload_n 0, 1) := by decide +kernel
theorem dL_law_172 : decode cL_law 172 = .ok (.iload 4, 2) := by decide +kernel
theorem dL_law_174 : decode cL_law 174 = .ok (.iconst 2, 1) := by decide +kernel
theorem dL_law_175 : decode cL_law 175 = .ok (.iadd, 1) := by decide +kernel
theorem dL_law_176 : decode cL_law 176 = .ok (.iaload, 1) := by decide +kernel
theorem dL_law_177 : decode cL_law 177 = .ok (.aload_n 3, 1) := by decide +kernel
theorem dL_law_178 : decode cL_law 178 = .ok (.invokestatic 80, 3) := by decide +kernel
theorem dL_law_181 : decode cL_law 181 = .ok (.istore 5, 2) := by decide +kernel
theorem dL_law_183 : decode cL_law 183 = .ok (.aload_n 2, 1) := by decide +kernel
theorem dL_law_184 : decode cL_law 184 = .ok (.aload_n 0, 1) := by decide +kernel
theorem dL_law_185 : decode cL_law 185 = .ok (.iload 4, 2) := by decide +kernel
theorem dL_law_187 : decode cL_law 187 = .ok (.iconst 1, 1) := by decide +kernel
theorem dL_law_188 : decode cL_law 188 = .ok (.iadd, 1) := by decide +kernel
theorem dL_law_189 : decode cL_law 189 = .ok (.iaload, 1) := by decide +kernel
theorem dL_law_190 : decode cL_law 190 = .ok (.aload_n 0, 1) := by decide +kernel
theorem dL_law_191 : decode cL_law 191 = .ok (.iload 4, 2) := by decide +kernel
theorem dL_law_193 : decode cL_law 193 = .ok (.iconst 2, 1) := by decide +kernel
theorem dL_law_194 : decode cL_law 194 = .ok (.iadd, 1) := by decide +kernel
theorem dL_law_195 : decode cL_law 195 = .ok (.iaload, 1) := by decide +kernel
theorem dL_law_196 : decode cL_law 196 = .ok (.invokevirtual 85, 3) := by decide +kernel
theorem dL_law_199 : decode cL_law 199 = .ok (.istore 6, 2) := by decide +kernel
theorem dL_law_201 : decode cL_law 201 = .ok (.aload_n 2, 1) := by decide +kernel
theorem dL_law_202 : decode cL_law 202 = .ok (.invokevirtual 86, 3) := by decide +kernel
theorem dL_law_205 : decode cL_law 205 = .ok (.iload 5, 2) := by decide +kernel
theorem dL_law_207 : decode cL_law 207 = .ok (.if_icmp .eq 5, 3) := by decide +kernel
theorem dL_law_210 : decode cL_law 210 = .ok (.iconst 0, 1) := by decide +kernel
theorem dL_law_211 : decode cL_law 211 = .ok (.ireturn, 1) := by decide +kernel
theorem dL_law_212 : decode cL_law 212 = .ok (.iload 5, 2) := by decide +kernel
theorem dL_law_214 : decode cL_law 214 = .ok (.ifCond .ne 15, 3) := by decide +kernel
theorem dL_law_217 : decode cL_law 217 = .ok (.aload_n 3, 1) := by decide +kernel
theorem dL_law_218 : decode cL_law 218 = .ok (.iconst 0, 1) := by decide +kernel
theorem dL_law_219 : decode cL_law 219 = .ok (.laload, 1) := by decide +kernel
theorem dL_law_220 : decode cL_law 220 = .ok (.iload 6, 2) := by decide +kernel
theorem dL_law_222 : decode cL_law 222 = .ok (.i2l, 1) := by decide +kernel
theorem dL_law_223 : decode cL_law 223 = .ok (.lcmp, 1) := by decide +kernel
theorem dL_law_224 : decode cL_law 224 = .ok (.ifCond .eq 5, 3) := by decide +kernel
theorem dL_law_227 : decode cL_law 227 = .ok (.iconst 0, 1) := by decide +kernel
theorem dL_law_228 : decode cL_law 228 = .ok (.ireturn, 1) := by decide +kernel
theorem dL_law_229 : decode cL_law 229 = .ok (.goto 1276, 3) := by decide +kernel
theorem dL_law_232 : decode cL_law 232 = .ok (.aload_n 1, 1) := by decide +kernel
theorem dL_law_233 : decode cL_law 233 = .ok (.aload_n 0, 1) := by decide +kernel
theorem dL_law_234 : decode cL_law 234 = .ok (.iload 4, 2) := by decide +kernel
theorem dL_law_236 : decode cL_law 236 = .ok (.iconst 1, 1) := by decide +kernel
theorem dL_law_237 : decode cL_law 237 = .ok (.iadd, 1) := by decide +kernel
theorem dL_law_238 : decode cL_law 238 = .ok (.iaload, 1) := by decide +kernel
theorem dL_law_239 : decode cL_law 239 = .ok (.aload_n 3, 1) := by decide +kernel
theorem dL_law_240 : decode cL_law 240 = .ok (.invokestatic 90, 3) := by decide +kernel
theorem dL_law_243 : decode cL_law 243 = .ok (.istore 5, 2) := by decide +kernel
theorem dL_law_245 : decode cL_law 245 = .ok (.aload_n 2, 1) := by decide +kernel
theorem dL_law_246 : decode cL_law 246 = .ok (.aload_n 0, 1) := by decide +kernel
theorem dL_law_247 : decode cL_law 247 = .ok (.iload 4, 2) := by decide +kernel
theorem dL_law_249 : decode cL_law 249 = .ok (.iconst 1, 1) := by decide +kernel
theorem dL_law_250 : decode cL_law 250 = .ok (.iadd, 1) := by decide +kernel
theorem dL_law_251 : decode cL_law 251 = .ok (.iaload, 1) := by decide +kernel
theorem dL_law_252 : decode cL_law 252 = .ok (.invokevirtual 93, 3) := by decide +kernel
theorem dL_law_255 : decode cL_law 255 = .ok (.istore 6, 2) := by decide +kernel
theorem dL_law_257 : decode cL_law 257 = .ok (.aload_n 2, 1) := by decide +kernel
theorem dL_law_258 : decode cL_law 258 = .ok (.invokevirtual 86, 3) := by decide +kernel
theorem dL_law_261 : decode cL_law 261 = .ok (.iload 5, 2) := by decide +kernel
theorem dL_law_263 : decode cL_law 263 = .ok (.if_icmp .eq 5, 3) := by decide +kernel
theorem dL_law_266 : decode cL_law 266 = .ok (.iconst 0, 1) := by decide +kernel
theorem dL_law_267 : decode cL_law 267 = .ok (.ireturn, 1) := by decide +kernel
theorem dL_law_268 : decode cL_law 268 = .ok (.iload 5, 2) := by decide +kernel
theorem dL_law_270 : decode cL_law 270 = .ok (.ifCond .ne 15, 3) := by decide +kernel
theorem dL_law_273 : decode cL_law 273 = .ok (.aload_n 3, 1) := by decide +kernel
theorem dL_law_274 : decode cL_law 274 = .ok (.iconst 0, 1) := by decide +kernel
theorem dL_law_275 : decode cL_law 275 = .ok (.laload, 1) := by decide +kernel
theorem dL_law_276 : decode cL_law 276 = .ok (.iload 6, 2) := by decide +kernel
theorem dL_law_278 : decode cL_law 278 = .ok (.i2l, 1) := by decide +kernel
theorem dL_law_279 : decode cL_law 279 = .ok (.lcmp, 1) := by decide +kernel
theorem dL_law_280 : decode cL_law 280 = .ok (.ifCond .eq 5, 3) := by decide +kernel
theorem dL_law_283 : decode cL_law 283 = .ok (.iconst 0, 1) := by decide +kernel
theorem dL_law_284 : decode cL_law 284 = .ok (.ireturn, 1) := by decide +kernel
theorem dL_law_285 : decode cL_law 285 = .ok (.goto 1220, 3) := by decide +kernel
theorem dL_law_288 : decode cL_law 288 = .ok (.aload_n 1, 1) := by decide +kernel
theorem dL_law_289 : decode cL_law 289 = .ok (.aload_n 0, 1) := by decide +kernel
theorem dL_law_290 : decode cL_law 290 = .ok (.iload 4, 2) := by decide +kernel
theorem dL_law_292 : decode cL_law 292 = .ok (.iconst 1, 1) := by decide +kernel
theorem dL_law_293 : decode cL_law 293 = .ok (.iadd, 1) := by decide +kernel
theorem dL_law_294 : decode cL_law 294 = .ok (.iaload, 1) := by decide +kernel
theorem dL_law_295 : decode cL_law 295 = .ok (.aload_n 3, 1) := by decide +kernel
theorem dL_law_296 : decode cL_law 296 = .ok (.invokestatic 94, 3) := by decide +kernel
theorem dL_law_299 : decode cL_law 299 = .ok (.istore 5, 2) := by decide +kernel
theorem dL_law_301 : decode cL_law 301 = .ok (.aload_n 2, 1) := by decide +kernel
theorem dL_law_302 : decode cL_law 302 = .ok (.aload_n 0, 1) := by decide +kernel
theorem dL_law_303 : decode cL_law 303 = .ok (.iload 4, 2) := by decide +kernel
theorem dL_law_305 : decode cL_law 305 = .ok (.iconst 1, 1) := by decide +kernel
theorem dL_law_306 : decode cL_law 306 = .ok (.iadd, 1) := by decide +kernel
theorem dL_law_307 : decode cL_law 307 = .ok (.iaload, 1) := by decide +kernel
theorem dL_law_308 : decode cL_law 308 = .ok (.invokevirtual 96, 3) := by decide +kernel
theorem dL_law_311 : decode cL_law 311 = .ok (.istore 6, 2) := by decide +kernel
theorem dL_law_313 : decode cL_law 313 = .ok (.aload_n 2, 1) := by decide +kernel
theorem dL_law_314 : decode cL_law 314 = .ok (.invokevirtual 86, 3) := by decide +kernel
theorem dL_law_317 : decode cL_law 317 = .ok (.iload 5, 2) := by decide +kernel
theorem dL_law_319 : decode cL_law 319 = .ok (.if_icmp .eq 5, 3) := by decide +kernel
theorem dL_law_322 : decode cL_law 322 = .ok (.iconst 0, 1) := by decide +kernel
theorem dL_law_323 : decode cL_law 323 = .ok (.ireturn, 1) := by decide +kernel
theorem dL_law_324 : decode cL_law 324 = .ok (.iload 5, 2) := by decide +kernel
theorem dL_law_326 : decode cL_law 326 = .ok (.ifCond .ne 15, 3) := by decide +kernel
theorem dL_law_329 : decode cL_law 329 = .ok (.aload_n 3, 1) := by decide +kernel
theorem dL_law_330 : decode cL_law 330 = .ok (.iconst 0, 1) := by decide +kernel
theorem dL_law_331 : decode cL_law 331 = .ok (.laload, 1) := by decide +kernel
theorem dL_law_332 : decode cL_law 332 = .ok (.iload 6, 2) := by decide +kernel
theorem dL_law_334 : decode cL_law 334 = .ok (.i2l, 1) := by decide +kernel
theorem dL_law_335 : decode cL_law 335 = .ok (.lcmp, 1) := by decide +kernel
theorem dL_law_336 : decode cL_law 336 = .ok (.ifCond .eq 5, 3) := by decide +kernel
theorem dL_law_339 : decode cL_law 339 = .ok (.iconst 0, 1) := by decide +kernel
theorem dL_law_340 : decode cL_law 340 = .ok (.ireturn, 1) := by decide +kernel
theorem dL_law_341 : decode cL_law 341 = .ok (.goto 1164, 3) := by decide +kernel
theorem dL_law_344 : decode cL_law 344 = .ok (.aload_n 1, 1) := by decide +kernel
theorem dL_law_345 : decode cL_law 345 = .ok (.aload_n 0, 1) := by decide +kernel
theorem dL_law_346 : decode cL_law 346 = .ok (.iload 4, 2) := by decide +kernel
theorem dL_law_348 : decode cL_law 348 = .ok (.iconst 1, 1) := by decide +kernel
theorem dL_law_349 : decode cL_law 349 = .ok (.iadd, 1) := by decide +kernel
theorem dL_law_350 : decode cL_law 350 = .ok (.iaload, 1) := by decide +kernel
theorem dL_law_351 : decode cL_law 351 = .ok (.aload_n 0, 1) := by decide +kernel
theorem dL_law_352 : decode cL_law 352 = .ok (.iload 4, 2) := by decide +kernel
theorem dL_law_354 : decode cL_law 354 = .ok (.iconst 2, 1) := by decide +kernel
theorem dL_law_355 : decode cL_law 355 = .ok (.iadd, 1) := by decide +kernel
theorem dL_law_356 : decode cL_law 356 = .ok (.iaload, 1) := by decide +kernel
theorem dL_law_357 : decode cL_law 357 = .ok (.aload_n 3, 1) := by decide +kernel
theorem dL_law_358 : decode cL_law 358 = .ok (.invokestatic 97, 3) := by decide +kernel
theorem dL_law_361 : decode cL_law 361 = .ok (.istore 5, 2) := by decide +kernel
theorem dL_law_363 : decode cL_law 363 = .ok (.aload_n 2, 1) := by decide +kernel
theorem dL_law_364 : decode cL_law 364 = .ok (.aload_n 0, 1) := by decide +kernel
theorem dL_law_365 : decode cL_law 365 = .ok (.iload 4, 2) := by decide +kernel
theorem dL_law_367 : decode cL_law 367 = .ok (.iconst 1, 1) := by decide +kernel
theorem dL_law_368 : decode cL_law 368 = .ok (.iadd, 1) := by decide +kernel
theorem dL_law_369 : decode cL_law 369 = .ok (.iaload, 1) := by decide +kernel
theorem dL_law_370 : decode cL_law 370 = .ok (.aload_n 0, 1) := by decide +kernel
theorem dL_law_371 : decode cL_law 371 = .ok (.iload 4, 2) := by decide +kernel
theorem dL_law_373 : decode cL_law 373 = .ok (.iconst 2, 1) := by decide +kernel
theorem dL_law_374 : decode cL_law 374 = .ok (.iadd, 1) := by decide +kernel
theorem dL_law_375 : decode cL_law 375 = .ok (.iaload, 1) := by decide +kernel
theorem dL_law_376 : decode cL_law 376 = .ok (.invokevirtual 99, 3) := by decide +kernel
theorem dL_law_379 : decode cL_law 379 = .ok (.istore 6, 2) := by decide +kernel
theorem dL_law_381 : decode cL_law 381 = .ok (.aload_n 2, 1) := by decide +kernel
theorem dL_law_382 : decode cL_law 382 = .ok (.invokevirtual 86, 3) := by decide +kernel
theorem dL_law_385 : decode cL_law 385 = .ok (.iload 5, 2) := by decide +kernel
theorem dL_law_387 : decode cL_law 387 = .ok (.if_icmp .eq 5, 3) := by decide +kernel
theorem dL_law_390 : decode cL_law 390 = .ok (.iconst 0, 1) := by decide +kernel
theorem dL_law_391 : decode cL_law 391 = .ok (.ireturn, 1) := by decide +kernel
theorem dL_law_392 : decode cL_law 392 = .ok (.iload 5, 2) := by decide +kernel
theorem dL_law_394 : decode cL_law 394 = .ok (.ifCond .ne 15, 3) := by decide +kernel
theorem dL_law_397 : decode cL_law 397 = .ok (.aload_n 3, 1) := by decide +kernel
theorem dL_law_398 : decode cL_law 398 = .ok (.iconst 0, 1) := by decide +kernel
theorem dL_law_399 : decode cL_law 399 = .ok (.laload, 1) := by decide +kernel
theorem dL_law_400 : decode cL_law 400 = .ok (.iload 6, 2) := by decide +kernel
theorem dL_law_402 : decode cL_law 402 = .ok (.i2l, 1) := by decide +kernel
theorem dL_law_403 : decode cL_law 403 = .ok (.lcmp, 1) := by decide +kernel
theorem dL_law_404 : decode cL_law 404 = .ok (.ifCond .eq 5, 3) := by decide +kernel
theorem dL_law_407 : decode cL_law 407 = .ok (.iconst 0, 1) := by decide +kernel
theorem dL_law_408 : decode cL_law 408 = .ok (.ireturn, 1) := by decide +kernel
theorem dL_law_409 : decode cL_law 409 = .ok (.goto 1096, 3) := by decide +kernel
theorem dL_law_412 : decode cL_law 412 = .ok (.aload_n 1, 1) := by decide +kernel
theorem dL_law_413 : decode cL_law 413 = .ok (.aload_n 0, 1) := by decide +kernel
theorem dL_law_414 : decode cL_law 414 = .ok (.iload 4, 2) := by decide +kernel
theorem dL_law_416 : decode cL_law 416 = .ok (.iconst 1, 1) := by decide +kernel
theorem dL_law_417 : decode cL_law 417 = .ok (.iadd, 1) := by decide +kernel
theorem dL_law_418 : decode cL_law 418 = .ok (.iaload, 1) := by decide +kernel
theorem dL_law_419 : decode cL_law 419 = .ok (.aload_n 0, 1) := by decide +kernel
theorem dL_law_420 : decode cL_law 420 = .ok (.iload 4, 2) := by decide +kernel
theorem dL_law_422 : decode cL_law 422 = .ok (.iconst 2, 1) := by decide +kernel
theorem dL_law_423 : decode cL_law 423 = .ok (.iadd, 1) := by decide +kernel
theorem dL_law_424 : decode cL_law 424 = .ok (.iaload, 1) := by decide +kernel
theorem dL_law_425 : decode cL_law 425 = .ok (.aload_n 3, 1) := by decide +kernel
theorem dL_law_426 : decode cL_law 426 = .ok (.invokestatic 100, 3) := by decide +kernel
theorem dL_law_429 : decode cL_law 429 = .ok (.istore 5, 2) := by decide +kernel
theorem dL_law_431 : decode cL_law 431 = .ok (.aload_n 2, 1) := by decide +kernel
theorem dL_law_432 : decode cL_law 432 = .ok (.aload_n 0, 1) := by decide +kernel
theorem dL_law_433 : decode cL_law 433 = .ok (.iload 4, 2) := by decide +kernel
theorem dL_law_435 : decode cL_law 435 = .ok (.iconst 1, 1) := by decide +kernel
theorem dL_law_436 : decode cL_law 436 = .ok (.iadd, 1) := by decide +kernel
theorem dL_law_437 : decode cL_law 437 = .ok (.iaload, 1) := by decide +kernel
theorem dL_law_438 : decode cL_law 438 = .ok (.aload_n 0, 1) := by decide +kernel
theorem dL_law_439 : decode cL_law 439 = .ok (.iload 4, 2) := by decide +kernel
theorem dL_law_441 : decode cL_law 441 = .ok (.iconst 2, 1) := by decide +kernel
theorem dL_law_442 : decode cL_law 442 = .ok (.iadd, 1) := by decide +kernel
theorem dL_law_443 : decode cL_law 443 = .ok (.iaload, 1) := by decide +kernel
theorem dL_law_444 : decode cL_law 444 = .ok (.invokevirtual 102, 3) := by decide +kernel
theorem dL_law_447 : decode cL_law 447 = .ok (.istore 6, 2) := by decide +kernel
theorem dL_law_449 : decode cL_law 449 = .ok (.aload_n 2, 1) := by decide +kernel
theorem dL_law_450 : decode cL_law 450 = .ok (.invokevirtual 86, 3) := by decide +kernel
theorem dL_law_453 : decode cL_law 453 = .ok (.iload 5, 2) := by decide +kernel
theorem dL_law_455 : decode cL_law 455 = .ok (.if_icmp .eq 5, 3) := by decide +kernel
theorem dL_law_458 : decode cL_law 458 = .ok (.iconst 0, 1) := by decide +kernel
theorem dL_law_459 : decode cL_law 459 = .ok (.ireturn, 1) := by decide +kernel
theorem dL_law_460 : decode cL_law 460 = .ok (.iload 5, 2) := by decide +kernel
theorem dL_law_462 : decode cL_law 462 = .ok (.ifCond .ne 15, 3) := by decide +kernel
theorem dL_law_465 : decode cL_law 465 = .ok (.aload_n 3, 1) := by decide +kernel
theorem dL_law_466 : decode cL_law 466 = .ok (.iconst 0, 1) := by decide +kernel
theorem dL_law_467 : decode cL_law 467 = .ok (.laload, 1) := by decide +kernel
theorem dL_law_468 : decode cL_law 468 = .ok (.iload 6, 2) := by decide +kernel
theorem dL_law_470 : decode cL_law 470 = .ok (.i2l, 1) := by decide +kernel
theorem dL_law_471 : decode cL_law 471 = .ok (.lcmp, 1) := by decide +kernel
theorem dL_law_472 : decode cL_law 472 = .ok (.ifCond .eq 5, 3) := by decide +kernel
theorem dL_law_475 : decode cL_law 475 = .ok (.iconst 0, 1) := by decide +kernel
theorem dL_law_476 : decode cL_law 476 = .ok (.ireturn, 1) := by decide +kernel
theorem dL_law_477 : decode cL_law 477 = .ok (.goto 1028, 3) := by decide +kernel
theorem dL_law_480 : decode cL_law 480 = .ok (.aload_n 1, 1) := by decide +kernel
theorem dL_law_481 : decode cL_law 481 = .ok (.aload_n 0, 1) := by decide +kernel
theorem dL_law_482 : decode cL_law 482 = .ok (.iload 4, 2) := by decide +kernel
theorem dL_law_484 : decode cL_law 484 = .ok (.iconst 1, 1) := by decide +kernel
theorem dL_law_485 : decode cL_law 485 = .ok (.iadd, 1) := by decide +kernel
theorem dL_law_486 : decode cL_law 486 = .ok (.iaload, 1) := by decide +kernel
theorem dL_law_487 : decode cL_law 487 = .ok (.aload_n 0, 1) := by decide +kernel
theorem dL_law_488 : decode cL_law 488 = .ok (.iload 4, 2) := by decide +kernel
theorem dL_law_490 : decode cL_law 490 = .ok (.iconst 2, 1) := by decide +kernel
theorem dL_law_491 : decode cL_law 491 = .ok (.iadd, 1) := by decide +kernel
theorem dL_law_492 : decode cL_law 492 = .ok (.iaload, 1) := by decide +kernel
theorem dL_law_493 : decode cL_law 493 = .ok (.aload_n 0, 1) := by decide +kernel
theorem dL_law_494 : decode cL_law 494 = .ok (.iload 4, 2) := by decide +kernel
theorem dL_law_496 : decode cL_law 496 = .ok (.iconst 3, 1) := by decide +kernel
theorem dL_law_497 : decode cL_law 497 = .ok (.iadd, 1) := by decide +kernel
theorem dL_law_498 : decode cL_law 498 = .ok (.iaload, 1) := by decide +kernel
theorem dL_law_499 : decode cL_law 499 = .ok (.aload_n 3, 1) := by decide +kernel
theorem dL_law_500 : decode cL_law 500 = .ok (.invokestatic 103, 3) := by decide +kernel
theorem dL_law_503 : decode cL_law 503 = .ok (.istore 5, 2) := by decide +kernel
theorem dL_law_505 : decode cL_law 505 = .ok (.aload_n 2, 1) := by decide +kernel
theorem dL_law_506 : decode cL_law 506 = .ok (.aload_n 0, 1) := by decide +kernel
theorem dL_law_507 : decode cL_law 507 = .ok (.iload 4, 2) := by decide +kernel
theorem dL_law_509 : decode cL_law 509 = .ok (.iconst 1, 1) := by decide +kernel
theorem dL_law_510 : decode cL_law 510 = .ok (.iadd, 1) := by decide +kernel
theorem dL_law_511 : decode cL_law 511 = .ok (.iaload, 1) := by decide +kernel
theorem dL_law_512 : decode cL_law 512 = .ok (.aload_n 0, 1) := by decide +kernel
theorem dL_law_513 : decode cL_law 513 = .ok (.iload 4, 2) := by decide +kernel
theorem dL_law_515 : decode cL_law 515 = .ok (.iconst 2, 1) := by decide +kernel
theorem dL_law_516 : decode cL_law 516 = .ok (.iadd, 1) := by decide +kernel
theorem dL_law_517 : decode cL_law 517 = .ok (.iaload, 1) := by decide +kernel
theorem dL_law_518 : decode cL_law 518 = .ok (.aload_n 0, 1) := by decide +kernel
theorem dL_law_519 : decode cL_law 519 = .ok (.iload 4, 2) := by decide +kernel
theorem dL_law_521 : decode cL_law 521 = .ok (.iconst 3, 1) := by decide +kernel
theorem dL_law_522 : decode cL_law 522 = .ok (.iadd, 1) := by decide +kernel
theorem dL_law_523 : decode cL_law 523 = .ok (.iaload, 1) := by decide +kernel
theorem dL_law_524 : decode cL_law 524 = .ok (.invokevirtual 106, 3) := by decide +kernel
theorem dL_law_527 : decode cL_law 527 = .ok (.istore 6, 2) := by decide +kernel
theorem dL_law_529 : decode cL_law 529 = .ok (.aload_n 2, 1) := by decide +kernel
theorem dL_law_530 : decode cL_law 530 = .ok (.invokevirtual 86, 3) := by decide +kernel
theorem dL_law_533 : decode cL_law 533 = .ok (.iload 5, 2) := by decide +kernel
theorem dL_law_535 : decode cL_law 535 = .ok (.if_icmp .eq 5, 3) := by decide +kernel
theorem dL_law_538 : decode cL_law 538 = .ok (.iconst 0, 1) := by decide +kernel
theorem dL_law_539 : decode cL_law 539 = .ok (.ireturn, 1) := by decide +kernel
theorem dL_law_540 : decode cL_law 540 = .ok (.iload 5, 2) := by decide +kernel
theorem dL_law_542 : decode cL_law 542 = .ok (.ifCond .ne 15, 3) := by decide +kernel
theorem dL_law_545 : decode cL_law 545 = .ok (.aload_n 3, 1) := by decide +kernel
theorem dL_law_546 : decode cL_law 546 = .ok (.iconst 0, 1) := by decide +kernel
theorem dL_law_547 : decode cL_law 547 = .ok (.laload, 1) := by decide +kernel
theorem dL_law_548 : decode cL_law 548 = .ok (.iload 6, 2) := by decide +kernel
theorem dL_law_550 : decode cL_law 550 = .ok (.i2l, 1) := by decide +kernel
theorem dL_law_551 : decode cL_law 551 = .ok (.lcmp, 1) := by decide +kernel
theorem dL_law_552 : decode cL_law 552 = .ok (.ifCond .eq 5, 3) := by decide +kernel
theorem dL_law_555 : decode cL_law 555 = .ok (.iconst 0, 1) := by decide +kernel
theorem dL_law_556 : decode cL_law 556 = .ok (.ireturn, 1) := by decide +kernel
theorem dL_law_557 : decode cL_law 557 = .ok (.goto 948, 3) := by decide +kernel
theorem dL_law_560 : decode cL_law 560 = .ok (.aload_n 1, 1) := by decide +kernel
theorem dL_law_561 : decode cL_law 561 = .ok (.aload_n 0, 1) := by decide +kernel
theorem dL_law_562 : decode cL_law 562 = .ok (.iload 4, 2) := by decide +kernel
theorem dL_law_564 : decode cL_law 564 = .ok (.iconst 1, 1) := by decide +kernel
theorem dL_law_565 : decode cL_law 565 = .ok (.iadd, 1) := by decide +kernel
theorem dL_law_566 : decode cL_law 566 = .ok (.iaload, 1) := by decide +kernel
theorem dL_law_567 : decode cL_law 567 = .ok (.aload_n 0, 1) := by decide +kernel
theorem dL_law_568 : decode cL_law 568 = .ok (.iload 4, 2) := by decide +kernel
theorem dL_law_570 : decode cL_law 570 = .ok (.iconst 2, 1) := by decide +kernel
theorem dL_law_571 : decode cL_law 571 = .ok (.iadd, 1) := by decide +kernel
theorem dL_law_572 : decode cL_law 572 = .ok (.iaload, 1) := by decide +kernel
theorem dL_law_573 : decode cL_law 573 = .ok (.aload_n 3, 1) := by decide +kernel
theorem dL_law_574 : decode cL_law 574 = .ok (.invokestatic 107, 3) := by decide +kernel
theorem dL_law_577 : decode cL_law 577 = .ok (.istore 5, 2) := by decide +kernel
theorem dL_law_579 : decode cL_law 579 = .ok (.aload_n 2, 1) := by decide +kernel
theorem dL_law_580 : decode cL_law 580 = .ok (.aload_n 0, 1) := by decide +kernel
theorem dL_law_581 : decode cL_law 581 = .ok (.iload 4, 2) := by decide +kernel
theorem dL_law_583 : decode cL_law 583 = .ok (.iconst 1, 1) := by decide +kernel
theorem dL_law_584 : decode cL_law 584 = .ok (.iadd, 1) := by decide +kernel
theorem dL_law_585 : decode cL_law 585 = .ok (.iaload, 1) := by decide +kernel
theorem dL_law_586 : decode cL_law 586 = .ok (.aload_n 0, 1) := by decide +kernel
theorem dL_law_587 : decode cL_law 587 = .ok (.iload 4, 2) := by decide +kernel
theorem dL_law_589 : decode cL_law 589 = .ok (.iconst 2, 1) := by decide +kernel
theorem dL_law_590 : decode cL_law 590 = .ok (.iadd, 1) := by decide +kernel
theorem dL_law_591 : decode cL_law 591 = .ok (.iaload, 1) := by decide +kernel
theorem dL_law_592 : decode cL_law 592 = .ok (.invokevirtual 109, 3) := by decide +kernel
theorem dL_law_595 : decode cL_law 595 = .ok (.istore 6, 2) := by decide +kernel
theorem dL_law_597 : decode cL_law 597 = .ok (.aload_n 2, 1) := by decide +kernel
theorem dL_law_598 : decode cL_law 598 = .ok (.invokevirtual 86, 3) := by decide +kernel
theorem dL_law_601 : decode cL_law 601 = .ok (.iload 5, 2) := by decide +kernel
theorem dL_law_603 : decode cL_law 603 = .ok (.if_icmp .eq 5, 3) := by decide +kernel
theorem dL_law_606 : decode cL_law 606 = .ok (.iconst 0, 1) := by decide +kernel
theorem dL_law_607 : decode cL_law 607 = .ok (.ireturn, 1) := by decide +kernel
theorem dL_law_608 : decode cL_law 608 = .ok (.iload 5, 2) := by decide +kernel
theorem dL_law_610 : decode cL_law 610 = .ok (.ifCond .ne 15, 3) := by decide +kernel
theorem dL_law_613 : decode cL_law 613 = .ok (.aload_n 3, 1) := by decide +kernel
theorem dL_law_614 : decode cL_law 614 = .ok (.iconst 0, 1) := by decide +kernel
theorem dL_law_615 : decode cL_law 615 = .ok (.laload, 1) := by decide +kernel
theorem dL_law_616 : decode cL_law 616 = .ok (.iload 6, 2) := by decide +kernel
theorem dL_law_618 : decode cL_law 618 = .ok (.i2l, 1) := by decide +kernel
theorem dL_law_619 : decode cL_law 619 = .ok (.lcmp, 1) := by decide +kernel
theorem dL_law_620 : decode cL_law 620 = .ok (.ifCond .eq 5, 3) := by decide +kernel
theorem dL_law_623 : decode cL_law 623 = .ok (.iconst 0, 1) := by decide +kernel
theorem dL_law_624 : decode cL_law 624 = .ok (.ireturn, 1) := by decide +kernel
theorem dL_law_625 : decode cL_law 625 = .ok (.goto 880, 3) := by decide +kernel
theorem dL_law_628 : decode cL_law 628 = .ok (.aload_n 1, 1) := by decide +kernel
theorem dL_law_629 : decode cL_law 629 = .ok (.aload_n 0, 1) := by decide +kernel
theorem dL_law_630 : decode cL_law 630 = .ok (.iload 4, 2) := by decide +kernel
theorem dL_law_632 : decode cL_law 632 = .ok (.iconst 1, 1) := by decide +kernel
theorem dL_law_633 : decode cL_law 633 = .ok (.iadd, 1) := by decide +kernel
theorem dL_law_634 : decode cL_law 634 = .ok (.iaload, 1) := by decide +kernel
theorem dL_law_635 : decode cL_law 635 = .ok (.aload_n 0, 1) := by decide +kernel
theorem dL_law_636 : decode cL_law 636 = .ok (.iload 4, 2) := by decide +kernel
theorem dL_law_638 : decode cL_law 638 = .ok (.iconst 2, 1) := by decide +kernel
theorem dL_law_639 : decode cL_law 639 = .ok (.iadd, 1) := by decide +kernel
theorem dL_law_640 : decode cL_law 640 = .ok (.iaload, 1) := by decide +kernel
theorem dL_law_641 : decode cL_law 641 = .ok (.aload_n 3, 1) := by decide +kernel
theorem dL_law_642 : decode cL_law 642 = .ok (.invokestatic 110, 3) := by decide +kernel
theorem dL_law_645 : decode cL_law 645 = .ok (.istore 5, 2) := by decide +kernel
theorem dL_law_647 : decode cL_law 647 = .ok (.aload_n 2, 1) := by decide +kernel
theorem dL_law_648 : decode cL_law 648 = .ok (.aload_n 0, 1) := by decide +kernel
theorem dL_law_649 : decode cL_law 649 = .ok (.iload 4, 2) := by decide +kernel
theorem dL_law_651 : decode cL_law 651 = .ok (.iconst 1, 1) := by decide +kernel
theorem dL_law_652 : decode cL_law 652 = .ok (.iadd, 1) := by decide +kernel
theorem dL_law_653 : decode cL_law 653 = .ok (.iaload, 1) := by decide +kernel
theorem dL_law_654 : decode cL_law 654 = .ok (.aload_n 0, 1) := by decide +kernel
theorem dL_law_655 : decode cL_law 655 = .ok (.iload 4, 2) := by decide +kernel
theorem dL_law_657 : decode cL_law 657 = .ok (.iconst 2, 1) := by decide +kernel
theorem dL_law_658 : decode cL_law 658 = .ok (.iadd, 1) := by decide +kernel
theorem dL_law_659 : decode cL_law 659 = .ok (.iaload, 1) := by decide +kernel
theorem dL_law_660 : decode cL_law 660 = .ok (.invokevirtual 112, 3) := by decide +kernel
theorem dL_law_663 : decode cL_law 663 = .ok (.istore 6, 2) := by decide +kernel
theorem dL_law_665 : decode cL_law 665 = .ok (.aload_n 2, 1) := by decide +kernel
theorem dL_law_666 : decode cL_law 666 = .ok (.invokevirtual 86, 3) := by decide +kernel
theorem dL_law_669 : decode cL_law 669 = .ok (.iload 5, 2) := by decide +kernel
theorem dL_law_671 : decode cL_law 671 = .ok (.if_icmp .eq 5, 3) := by decide +kernel
theorem dL_law_674 : decode cL_law 674 = .ok (.iconst 0, 1) := by decide +kernel
theorem dL_law_675 : decode cL_law 675 = .ok (.ireturn, 1) := by decide +kernel
theorem dL_law_676 : decode cL_law 676 = .ok (.iload 5, 2) := by decide +kernel
theorem dL_law_678 : decode cL_law 678 = .ok (.ifCond .ne 15, 3) := by decide +kernel
theorem dL_law_681 : decode cL_law 681 = .ok (.aload_n 3, 1) := by decide +kernel
theorem dL_law_682 : decode cL_law 682 = .ok (.iconst 0, 1) := by decide +kernel
theorem dL_law_683 : decode cL_law 683 = .ok (.laload, 1) := by decide +kernel
theorem dL_law_684 : decode cL_law 684 = .ok (.iload 6, 2) := by decide +kernel
theorem dL_law_686 : decode cL_law 686 = .ok (.i2l, 1) := by decide +kernel
theorem dL_law_687 : decode cL_law 687 = .ok (.lcmp, 1) := by decide +kernel
theorem dL_law_688 : decode cL_law 688 = .ok (.ifCond .eq 5, 3) := by decide +kernel
theorem dL_law_691 : decode cL_law 691 = .ok (.iconst 0, 1) := by decide +kernel
theorem dL_law_692 : decode cL_law 692 = .ok (.ireturn, 1) := by decide +kernel
theorem dL_law_693 : decode cL_law 693 = .ok (.goto 812, 3) := by decide +kernel
theorem dL_law_696 : decode cL_law 696 = .ok (.aload_n 1, 1) := by decide +kernel
theorem dL_law_697 : decode cL_law 697 = .ok (.aload_n 0, 1) := by decide +kernel
theorem dL_law_698 : decode cL_law 698 = .ok (.iload 4, 2) := by decide +kernel
theorem dL_law_700 : decode cL_law 700 = .ok (.iconst 1, 1) := by decide +kernel
theorem dL_law_701 : decode cL_law 701 = .ok (.iadd, 1) := by decide +kernel
theorem dL_law_702 : decode cL_law 702 = .ok (.iaload, 1) := by decide +kernel
theorem dL_law_703 : decode cL_law 703 = .ok (.aload_n 0, 1) := by decide +kernel
theorem dL_law_704 : decode cL_law 704 = .ok (.iload 4, 2) := by decide +kernel
theorem dL_law_706 : decode cL_law 706 = .ok (.iconst 2, 1) := by decide +kernel
theorem dL_law_707 : decode cL_law 707 = .ok (.iadd, 1) := by decide +kernel
theorem dL_law_708 : decode cL_law 708 = .ok (.iaload, 1) := by decide +kernel
theorem dL_law_709 : decode cL_law 709 = .ok (.aload_n 3, 1) := by decide +kernel
theorem dL_law_710 : decode cL_law 710 = .ok (.invokestatic 113, 3) := by decide +kernel
theorem dL_law_713 : decode cL_law 713 = .ok (.istore 5, 2) := by decide +kernel
theorem dL_law_715 : decode cL_law 715 = .ok (.aload_n 2, 1) := by decide +kernel
theorem dL_law_716 : decode cL_law 716 = .ok (.aload_n 0, 1) := by decide +kernel
theorem dL_law_717 : decode cL_law 717 = .ok (.iload 4, 2) := by decide +kernel
theorem dL_law_719 : decode cL_law 719 = .ok (.iconst 1, 1) := by decide +kernel
theorem dL_law_720 : decode cL_law 720 = .ok (.iadd, 1) := by decide +kernel
theorem dL_law_721 : decode cL_law 721 = .ok (.iaload, 1) := by decide +kernel
theorem dL_law_722 : decode cL_law 722 = .ok (.aload_n 0, 1) := by decide +kernel
theorem dL_law_723 : decode cL_law 723 = .ok (.iload 4, 2) := by decide +kernel
theorem dL_law_725 : decode cL_law 725 = .ok (.iconst 2, 1) := by decide +kernel
theorem dL_law_726 : decode cL_law 726 = .ok (.iadd, 1) := by decide +kernel
theorem dL_law_727 : decode cL_law 727 = .ok (.iaload, 1) := by decide +kernel
theorem dL_law_728 : decode cL_law 728 = .ok (.invokevirtual 115, 3) := by decide +kernel
theorem dL_law_731 : decode cL_law 731 = .ok (.istore 6, 2) := by decide +kernel
theorem dL_law_733 : decode cL_law 733 = .ok (.aload_n 2, 1) := by decide +kernel
theorem dL_law_734 : decode cL_law 734 = .ok (.invokevirtual 86, 3) := by decide +kernel
theorem dL_law_737 : decode cL_law 737 = .ok (.iload 5, 2) := by decide +kernel
theorem dL_law_739 : decode cL_law 739 = .ok (.if_icmp .eq 5, 3) := by decide +kernel
theorem dL_law_742 : decode cL_law 742 = .ok (.iconst 0, 1) := by decide +kernel
theorem dL_law_743 : decode cL_law 743 = .ok (.ireturn, 1) := by decide +kernel
theorem dL_law_744 : decode cL_law 744 = .ok (.iload 5, 2) := by decide +kernel
theorem dL_law_746 : decode cL_law 746 = .ok (.ifCond .ne 15, 3) := by decide +kernel
theorem dL_law_749 : decode cL_law 749 = .ok (.aload_n 3, 1) := by decide +kernel
theorem dL_law_750 : decode cL_law 750 = .ok (.iconst 0, 1) := by decide +kernel
theorem dL_law_751 : decode cL_law 751 = .ok (.laload, 1) := by decide +kernel
theorem dL_law_752 : decode cL_law 752 = .ok (.iload 6, 2) := by decide +kernel
theorem dL_law_754 : decode cL_law 754 = .ok (.i2l, 1) := by decide +kernel
theorem dL_law_755 : decode cL_law 755 = .ok (.lcmp, 1) := by decide +kernel
theorem dL_law_756 : decode cL_law 756 = .ok (.ifCond .eq 5, 3) := by decide +kernel
theorem dL_law_759 : decode cL_law 759 = .ok (.iconst 0, 1) := by decide +kernel
theorem dL_law_760 : decode cL_law 760 = .ok (.ireturn, 1) := by decide +kernel
theorem dL_law_761 : decode cL_law 761 = .ok (.goto 744, 3) := by decide +kernel
theorem dL_law_764 : decode cL_law 764 = .ok (.aload_n 1, 1) := by decide +kernel
theorem dL_law_765 : decode cL_law 765 = .ok (.aload_n 0, 1) := by decide +kernel
theorem dL_law_766 : decode cL_law 766 = .ok (.iload 4, 2) := by decide +kernel
theorem dL_law_768 : decode cL_law 768 = .ok (.iconst 1, 1) := by decide +kernel
theorem dL_law_769 : decode cL_law 769 = .ok (.iadd, 1) := by decide +kernel
theorem dL_law_770 : decode cL_law 770 = .ok (.iaload, 1) := by decide +kernel
theorem dL_law_771 : decode cL_law 771 = .ok (.aload_n 3, 1) := by decide +kernel
theorem dL_law_772 : decode cL_law 772 = .ok (.invokestatic 116, 3) := by decide +kernel
theorem dL_law_775 : decode cL_law 775 = .ok (.istore 5, 2) := by decide +kernel
theorem dL_law_777 : decode cL_law 777 = .ok (.aload_n 2, 1) := by decide +kernel
theorem dL_law_778 : decode cL_law 778 = .ok (.aload_n 0, 1) := by decide +kernel
theorem dL_law_779 : decode cL_law 779 = .ok (.iload 4, 2) := by decide +kernel
theorem dL_law_781 : decode cL_law 781 = .ok (.iconst 1, 1) := by decide +kernel
theorem dL_law_782 : decode cL_law 782 = .ok (.iadd, 1) := by decide +kernel
theorem dL_law_783 : decode cL_law 783 = .ok (.iaload, 1) := by decide +kernel
theorem dL_law_784 : decode cL_law 784 = .ok (.invokevirtual 118, 3) := by decide +kernel
theorem dL_law_787 : decode cL_law 787 = .ok (.istore 6, 2) := by decide +kernel
theorem dL_law_789 : decode cL_law 789 = .ok (.aload_n 2, 1) := by decide +kernel
theorem dL_law_790 : decode cL_law 790 = .ok (.invokevirtual 86, 3) := by decide +kernel
theorem dL_law_793 : decode cL_law 793 = .ok (.iload 5, 2) := by decide +kernel
theorem dL_law_795 : decode cL_law 795 = .ok (.if_icmp .eq 5, 3) := by decide +kernel
theorem dL_law_798 : decode cL_law 798 = .ok (.iconst 0, 1) := by decide +kernel
theorem dL_law_799 : decode cL_law 799 = .ok (.ireturn, 1) := by decide +kernel
theorem dL_law_800 : decode cL_law 800 = .ok (.iload 5, 2) := by decide +kernel
theorem dL_law_802 : decode cL_law 802 = .ok (.ifCond .ne 15, 3) := by decide +kernel
theorem dL_law_805 : decode cL_law 805 = .ok (.aload_n 3, 1) := by decide +kernel
theorem dL_law_806 : decode cL_law 806 = .ok (.iconst 0, 1) := by decide +kernel
theorem dL_law_807 : decode cL_law 807 = .ok (.laload, 1) := by decide +kernel
theorem dL_law_808 : decode cL_law 808 = .ok (.iload 6, 2) := by decide +kernel
theorem dL_law_810 : decode cL_law 810 = .ok (.i2l, 1) := by decide +kernel
theorem dL_law_811 : decode cL_law 811 = .ok (.lcmp, 1) := by decide +kernel
theorem dL_law_812 : decode cL_law 812 = .ok (.ifCond .eq 5, 3) := by decide +kernel
theorem dL_law_815 : decode cL_law 815 = .ok (.iconst 0, 1) := by decide +kernel
theorem dL_law_816 : decode cL_law 816 = .ok (.ireturn, 1) := by decide +kernel
theorem dL_law_817 : decode cL_law 817 = .ok (.goto 688, 3) := by decide +kernel
theorem dL_law_820 : decode cL_law 820 = .ok (.aload_n 1, 1) := by decide +kernel
theorem dL_law_821 : decode cL_law 821 = .ok (.aload_n 0, 1) := by decide +kernel
theorem dL_law_822 : decode cL_law 822 = .ok (.iload 4, 2) := by decide +kernel
theorem dL_law_824 : decode cL_law 824 = .ok (.iconst 1, 1) := by decide +kernel
theorem dL_law_825 : decode cL_law 825 = .ok (.iadd, 1) := by decide +kernel
theorem dL_law_826 : decode cL_law 826 = .ok (.iaload, 1) := by decide +kernel
theorem dL_law_827 : decode cL_law 827 = .ok (.aload_n 0, 1) := by decide +kernel
theorem dL_law_828 : decode cL_law 828 = .ok (.iload 4, 2) := by decide +kernel
theorem dL_law_830 : decode cL_law 830 = .ok (.iconst 2, 1) := by decide +kernel
theorem dL_law_831 : decode cL_law 831 = .ok (.iadd, 1) := by decide +kernel
theorem dL_law_832 : decode cL_law 832 = .ok (.iaload, 1) := by decide +kernel
theorem dL_law_833 : decode cL_law 833 = .ok (.aload_n 3, 1) := by decide +kernel
theorem dL_law_834 : decode cL_law 834 = .ok (.invokestatic 119, 3) := by decide +kernel
theorem dL_law_837 : decode cL_law 837 = .ok (.istore 5, 2) := by decide +kernel
theorem dL_law_839 : decode cL_law 839 = .ok (.aload_n 2, 1) := by decide +kernel
theorem dL_law_840 : decode cL_law 840 = .ok (.aload_n 0, 1) := by decide +kernel
theorem dL_law_841 : decode cL_law 841 = .ok (.iload 4, 2) := by decide +kernel
theorem dL_law_843 : decode cL_law 843 = .ok (.iconst 1, 1) := by decide +kernel
theorem dL_law_844 : decode cL_law 844 = .ok (.iadd, 1) := by decide +kernel
theorem dL_law_845 : decode cL_law 845 = .ok (.iaload, 1) := by decide +kernel
theorem dL_law_846 : decode cL_law 846 = .ok (.aload_n 0, 1) := by decide +kernel
theorem dL_law_847 : decode cL_law 847 = .ok (.iload 4, 2) := by decide +kernel
theorem dL_law_849 : decode cL_law 849 = .ok (.iconst 2, 1) := by decide +kernel
theorem dL_law_850 : decode cL_law 850 = .ok (.iadd, 1) := by decide +kernel
theorem dL_law_851 : decode cL_law 851 = .ok (.iaload, 1) := by decide +kernel
theorem dL_law_852 : decode cL_law 852 = .ok (.invokevirtual 121, 3) := by decide +kernel
theorem dL_law_855 : decode cL_law 855 = .ok (.istore 6, 2) := by decide +kernel
theorem dL_law_857 : decode cL_law 857 = .ok (.aload_n 2, 1) := by decide +kernel
theorem dL_law_858 : decode cL_law 858 = .ok (.invokevirtual 86, 3) := by decide +kernel
theorem dL_law_861 : decode cL_law 861 = .ok (.iload 5, 2) := by decide +kernel
theorem dL_law_863 : decode cL_law 863 = .ok (.if_icmp .eq 5, 3) := by decide +kernel
theorem dL_law_866 : decode cL_law 866 = .ok (.iconst 0, 1) := by decide +kernel
theorem dL_law_867 : decode cL_law 867 = .ok (.ireturn, 1) := by decide +kernel
theorem dL_law_868 : decode cL_law 868 = .ok (.iload 5, 2) := by decide +kernel
theorem dL_law_870 : decode cL_law 870 = .ok (.ifCond .ne 15, 3) := by decide +kernel
theorem dL_law_873 : decode cL_law 873 = .ok (.aload_n 3, 1) := by decide +kernel
theorem dL_law_874 : decode cL_law 874 = .ok (.iconst 0, 1) := by decide +kernel
theorem dL_law_875 : decode cL_law 875 = .ok (.laload, 1) := by decide +kernel
theorem dL_law_876 : decode cL_law 876 = .ok (.iload 6, 2) := by decide +kernel
theorem dL_law_878 : decode cL_law 878 = .ok (.i2l, 1) := by decide +kernel
theorem dL_law_879 : decode cL_law 879 = .ok (.lcmp, 1) := by decide +kernel
theorem dL_law_880 : decode cL_law 880 = .ok (.ifCond .eq 5, 3) := by decide +kernel
theorem dL_law_883 : decode cL_law 883 = .ok (.iconst 0, 1) := by decide +kernel
theorem dL_law_884 : decode cL_law 884 = .ok (.ireturn, 1) := by decide +kernel
theorem dL_law_885 : decode cL_law 885 = .ok (.goto 620, 3) := by decide +kernel
theorem dL_law_888 : decode cL_law 888 = .ok (.aload_n 1, 1) := by decide +kernel
theorem dL_law_889 : decode cL_law 889 = .ok (.aload_n 0, 1) := by decide +kernel
theorem dL_law_890 : decode cL_law 890 = .ok (.iload 4, 2) := by decide +kernel
theorem dL_law_892 : decode cL_law 892 = .ok (.iconst 1, 1) := by decide +kernel
theorem dL_law_893 : decode cL_law 893 = .ok (.iadd, 1) := by decide +kernel
theorem dL_law_894 : decode cL_law 894 = .ok (.iaload, 1) := by decide +kernel
theorem dL_law_895 : decode cL_law 895 = .ok (.aload_n 3, 1) := by decide +kernel
theorem dL_law_896 : decode cL_law 896 = .ok (.invokestatic 122, 3) := by decide +kernel
theorem dL_law_899 : decode cL_law 899 = .ok (.istore 5, 2) := by decide +kernel
theorem dL_law_901 : decode cL_law 901 = .ok (.aload_n 2, 1) := by decide +kernel
theorem dL_law_902 : decode cL_law 902 = .ok (.aload_n 0, 1) := by decide +kernel
theorem dL_law_903 : decode cL_law 903 = .ok (.iload 4, 2) := by decide +kernel
theorem dL_law_905 : decode cL_law 905 = .ok (.iconst 1, 1) := by decide +kernel
theorem dL_law_906 : decode cL_law 906 = .ok (.iadd, 1) := by decide +kernel
theorem dL_law_907 : decode cL_law 907 = .ok (.iaload, 1) := by decide +kernel
theorem dL_law_908 : decode cL_law 908 = .ok (.invokevirtual 124, 3) := by decide +kernel
theorem dL_law_911 : decode cL_law 911 = .ok (.istore 6, 2) := by decide +kernel
theorem dL_law_913 : decode cL_law 913 = .ok (.aload_n 2, 1) := by decide +kernel
theorem dL_law_914 : decode cL_law 914 = .ok (.invokevirtual 86, 3) := by decide +kernel
theorem dL_law_917 : decode cL_law 917 = .ok (.iload 5, 2) := by decide +kernel
theorem dL_law_919 : decode cL_law 919 = .ok (.if_icmp .eq 5, 3) := by decide +kernel
theorem dL_law_922 : decode cL_law 922 = .ok (.iconst 0, 1) := by decide +kernel
theorem dL_law_923 : decode cL_law 923 = .ok (.ireturn, 1) := by decide +kernel
theorem dL_law_924 : decode cL_law 924 = .ok (.iload 5, 2) := by decide +kernel
theorem dL_law_926 : decode cL_law 926 = .ok (.ifCond .ne 15, 3) := by decide +kernel
theorem dL_law_929 : decode cL_law 929 = .ok (.aload_n 3, 1) := by decide +kernel
theorem dL_law_930 : decode cL_law 930 = .ok (.iconst 0, 1) := by decide +kernel
theorem dL_law_931 : decode cL_law 931 = .ok (.laload, 1) := by decide +kernel
theorem dL_law_932 : decode cL_law 932 = .ok (.iload 6, 2) := by decide +kernel
theorem dL_law_934 : decode cL_law 934 = .ok (.i2l, 1) := by decide +kernel
theorem dL_law_935 : decode cL_law 935 = .ok (.lcmp, 1) := by decide +kernel
theorem dL_law_936 : decode cL_law 936 = .ok (.ifCond .eq 5, 3) := by decide +kernel
theorem dL_law_939 : decode cL_law 939 = .ok (.iconst 0, 1) := by decide +kernel
theorem dL_law_940 : decode cL_law 940 = .ok (.ireturn, 1) := by decide +kernel
theorem dL_law_941 : decode cL_law 941 = .ok (.goto 564, 3) := by decide +kernel
theorem dL_law_944 : decode cL_law 944 = .ok (.aload_n 1, 1) := by decide +kernel
theorem dL_law_945 : decode cL_law 945 = .ok (.aload_n 0, 1) := by decide +kernel
theorem dL_law_946 : decode cL_law 946 = .ok (.iload 4, 2) := by decide +kernel
theorem dL_law_948 : decode cL_law 948 = .ok (.iconst 1, 1) := by decide +kernel
theorem dL_law_949 : decode cL_law 949 = .ok (.iadd, 1) := by decide +kernel
theorem dL_law_950 : decode cL_law 950 = .ok (.iaload, 1) := by decide +kernel
theorem dL_law_951 : decode cL_law 951 = .ok (.aload_n 0, 1) := by decide +kernel
theorem dL_law_952 : decode cL_law 952 = .ok (.iload 4, 2) := by decide +kernel
theorem dL_law_954 : decode cL_law 954 = .ok (.iconst 2, 1) := by decide +kernel
theorem dL_law_955 : decode cL_law 955 = .ok (.iadd, 1) := by decide +kernel
theorem dL_law_956 : decode cL_law 956 = .ok (.iaload, 1) := by decide +kernel
theorem dL_law_957 : decode cL_law 957 = .ok (.aload_n 3, 1) := by decide +kernel
theorem dL_law_958 : decode cL_law 958 = .ok (.invokestatic 125, 3) := by decide +kernel
theorem dL_law_961 : decode cL_law 961 = .ok (.istore 5, 2) := by decide +kernel
theorem dL_law_963 : decode cL_law 963 = .ok (.aload_n 2, 1) := by decide +kernel
theorem dL_law_964 : decode cL_law 964 = .ok (.aload_n 0, 1) := by decide +kernel
theorem dL_law_965 : decode cL_law 965 = .ok (.iload 4, 2) := by decide +kernel
theorem dL_law_967 : decode cL_law 967 = .ok (.iconst 1, 1) := by decide +kernel
theorem dL_law_968 : decode cL_law 968 = .ok (.iadd, 1) := by decide +kernel
theorem dL_law_969 : decode cL_law 969 = .ok (.iaload, 1) := by decide +kernel
theorem dL_law_970 : decode cL_law 970 = .ok (.aload_n 0, 1) := by decide +kernel
theorem dL_law_971 : decode cL_law 971 = .ok (.iload 4, 2) := by decide +kernel
theorem dL_law_973 : decode cL_law 973 = .ok (.iconst 2, 1) := by decide +kernel
theorem dL_law_974 : decode cL_law 974 = .ok (.iadd, 1) := by decide +kernel
theorem dL_law_975 : decode cL_law 975 = .ok (.iaload, 1) := by decide +kernel
theorem dL_law_976 : decode cL_law 976 = .ok (.invokevirtual 127, 3) := by decide +kernel
theorem dL_law_979 : decode cL_law 979 = .ok (.istore 6, 2) := by decide +kernel
theorem dL_law_981 : decode cL_law 981 = .ok (.aload_n 2, 1) := by decide +kernel
theorem dL_law_982 : decode cL_law 982 = .ok (.invokevirtual 86, 3) := by decide +kernel
theorem dL_law_985 : decode cL_law 985 = .ok (.iload 5, 2) := by decide +kernel
theorem dL_law_987 : decode cL_law 987 = .ok (.if_icmp .eq 5, 3) := by decide +kernel
theorem dL_law_990 : decode cL_law 990 = .ok (.iconst 0, 1) := by decide +kernel
theorem dL_law_991 : decode cL_law 991 = .ok (.ireturn, 1) := by decide +kernel
theorem dL_law_992 : decode cL_law 992 = .ok (.iload 5, 2) := by decide +kernel
theorem dL_law_994 : decode cL_law 994 = .ok (.ifCond .ne 15, 3) := by decide +kernel
theorem dL_law_997 : decode cL_law 997 = .ok (.aload_n 3, 1) := by decide +kernel
theorem dL_law_998 : decode cL_law 998 = .ok (.iconst 0, 1) := by decide +kernel
theorem dL_law_999 : decode cL_law 999 = .ok (.laload, 1) := by decide +kernel
theorem dL_law_1000 : decode cL_law 1000 = .ok (.iload 6, 2) := by decide +kernel
theorem dL_law_1002 : decode cL_law 1002 = .ok (.i2l, 1) := by decide +kernel
theorem dL_law_1003 : decode cL_law 1003 = .ok (.lcmp, 1) := by decide +kernel
theorem dL_law_1004 : decode cL_law 1004 = .ok (.ifCond .eq 5, 3) := by decide +kernel
theorem dL_law_1007 : decode cL_law 1007 = .ok (.iconst 0, 1) := by decide +kernel
theorem dL_law_1008 : decode cL_law 1008 = .ok (.ireturn, 1) := by decide +kernel
theorem dL_law_1009 : decode cL_law 1009 = .ok (.goto 496, 3) := by decide +kernel
theorem dL_law_1012 : decode cL_law 1012 = .ok (.aload_n 1, 1) := by decide +kernel
theorem dL_law_1013 : decode cL_law 1013 = .ok (.invokevirtual 128, 3) := by decide +kernel
theorem dL_law_1016 : decode cL_law 1016 = .ok (.aload_n 2, 1) := by decide +kernel
theorem dL_law_1017 : decode cL_law 1017 = .ok (.invokevirtual 131, 3) := by decide +kernel
theorem dL_law_1020 : decode cL_law 1020 = .ok (.if_icmp .eq 485, 3) := by decide +kernel
theorem dL_law_1023 : decode cL_law 1023 = .ok (.iconst 0, 1) := by decide +kernel
theorem dL_law_1024 : decode cL_law 1024 = .ok (.ireturn, 1) := by decide +kernel
theorem dL_law_1025 : decode cL_law 1025 = .ok (.aload_n 1, 1) := by decide +kernel
theorem dL_law_1026 : decode cL_law 1026 = .ok (.invokevirtual 132, 3) := by decide +kernel
theorem dL_law_1029 : decode cL_law 1029 = .ok (.aload_n 2, 1) := by decide +kernel
theorem dL_law_1030 : decode cL_law 1030 = .ok (.invokevirtual 135, 3) := by decide +kernel
theorem dL_law_1033 : decode cL_law 1033 = .ok (.if_icmp .eq 472, 3) := by decide +kernel
theorem dL_law_1036 : decode cL_law 1036 = .ok (.iconst 0, 1) := by decide +kernel
theorem dL_law_1037 : decode cL_law 1037 = .ok (.ireturn, 1) := by decide +kernel
theorem dL_law_1038 : decode cL_law 1038 = .ok (.aload_n 1, 1) := by decide +kernel
theorem dL_law_1039 : decode cL_law 1039 = .ok (.invokevirtual 136, 3) := by decide +kernel
theorem dL_law_1042 : decode cL_law 1042 = .ok (.aload_n 2, 1) := by decide +kernel
theorem dL_law_1043 : decode cL_law 1043 = .ok (.invokevirtual 139, 3) := by decide +kernel
theorem dL_law_1046 : decode cL_law 1046 = .ok (.if_icmp .eq 459, 3) := by decide +kernel
theorem dL_law_1049 : decode cL_law 1049 = .ok (.iconst 0, 1) := by decide +kernel
theorem dL_law_1050 : decode cL_law 1050 = .ok (.ireturn, 1) := by decide +kernel
theorem dL_law_1051 : decode cL_law 1051 = .ok (.aload_n 1, 1) := by decide +kernel
theorem dL_law_1052 : decode cL_law 1052 = .ok (.invokevirtual 140, 3) := by decide +kernel
theorem dL_law_1055 : decode cL_law 1055 = .ok (.aload_n 2, 1) := by decide +kernel
theorem dL_law_1056 : decode cL_law 1056 = .ok (.invokevirtual 143, 3) := by decide +kernel
theorem dL_law_1059 : decode cL_law 1059 = .ok (.if_icmp .eq 446, 3) := by decide +kernel
theorem dL_law_1062 : decode cL_law 1062 = .ok (.iconst 0, 1) := by decide +kernel
theorem dL_law_1063 : decode cL_law 1063 = .ok (.ireturn, 1) := by decide +kernel
theorem dL_law_1064 : decode cL_law 1064 = .ok (.aload_n 1, 1) := by decide +kernel
theorem dL_law_1065 : decode cL_law 1065 = .ok (.invokevirtual 144, 3) := by decide +kernel
theorem dL_law_1068 : decode cL_law 1068 = .ok (.aload_n 2, 1) := by decide +kernel
theorem dL_law_1069 : decode cL_law 1069 = .ok (.invokevirtual 147, 3) := by decide +kernel
theorem dL_law_1072 : decode cL_law 1072 = .ok (.if_icmp .eq 433, 3) := by decide +kernel
theorem dL_law_1075 : decode cL_law 1075 = .ok (.iconst 0, 1) := by decide +kernel
theorem dL_law_1076 : decode cL_law 1076 = .ok (.ireturn, 1) := by decide +kernel
theorem dL_law_1077 : decode cL_law 1077 = .ok (.aload_n 1, 1) := by decide +kernel
theorem dL_law_1078 : decode cL_law 1078 = .ok (.invokevirtual 148, 3) := by decide +kernel
theorem dL_law_1081 : decode cL_law 1081 = .ok (.aload_n 2, 1) := by decide +kernel
theorem dL_law_1082 : decode cL_law 1082 = .ok (.invokevirtual 151, 3) := by decide +kernel
theorem dL_law_1085 : decode cL_law 1085 = .ok (.if_icmp .eq 420, 3) := by decide +kernel
theorem dL_law_1088 : decode cL_law 1088 = .ok (.iconst 0, 1) := by decide +kernel
theorem dL_law_1089 : decode cL_law 1089 = .ok (.ireturn, 1) := by decide +kernel
theorem dL_law_1090 : decode cL_law 1090 = .ok (.aload_n 1, 1) := by decide +kernel
theorem dL_law_1091 : decode cL_law 1091 = .ok (.invokevirtual 152, 3) := by decide +kernel
theorem dL_law_1094 : decode cL_law 1094 = .ok (.aload_n 2, 1) := by decide +kernel
theorem dL_law_1095 : decode cL_law 1095 = .ok (.invokevirtual 155, 3) := by decide +kernel
theorem dL_law_1098 : decode cL_law 1098 = .ok (.if_icmp .eq 407, 3) := by decide +kernel
theorem dL_law_1101 : decode cL_law 1101 = .ok (.iconst 0, 1) := by decide +kernel
theorem dL_law_1102 : decode cL_law 1102 = .ok (.ireturn, 1) := by decide +kernel
theorem dL_law_1103 : decode cL_law 1103 = .ok (.aload_n 1, 1) := by decide +kernel
theorem dL_law_1104 : decode cL_law 1104 = .ok (.invokevirtual 156, 3) := by decide +kernel
theorem dL_law_1107 : decode cL_law 1107 = .ok (.aload_n 2, 1) := by decide +kernel
theorem dL_law_1108 : decode cL_law 1108 = .ok (.invokevirtual 159, 3) := by decide +kernel
theorem dL_law_1111 : decode cL_law 1111 = .ok (.if_icmp .eq 394, 3) := by decide +kernel
theorem dL_law_1114 : decode cL_law 1114 = .ok (.iconst 0, 1) := by decide +kernel
theorem dL_law_1115 : decode cL_law 1115 = .ok (.ireturn, 1) := by decide +kernel
theorem dL_law_1116 : decode cL_law 1116 = .ok (.aload_n 1, 1) := by decide +kernel
theorem dL_law_1117 : decode cL_law 1117 = .ok (.invokevirtual 160, 3) := by decide +kernel
theorem dL_law_1120 : decode cL_law 1120 = .ok (.aload_n 2, 1) := by decide +kernel
theorem dL_law_1121 : decode cL_law 1121 = .ok (.invokevirtual 163, 3) := by decide +kernel
theorem dL_law_1124 : decode cL_law 1124 = .ok (.if_icmp .eq 381, 3) := by decide +kernel
theorem dL_law_1127 : decode cL_law 1127 = .ok (.iconst 0, 1) := by decide +kernel
theorem dL_law_1128 : decode cL_law 1128 = .ok (.ireturn, 1) := by decide +kernel
theorem dL_law_1129 : decode cL_law 1129 = .ok (.aload_n 1, 1) := by decide +kernel
theorem dL_law_1130 : decode cL_law 1130 = .ok (.aload_n 0, 1) := by decide +kernel
theorem dL_law_1131 : decode cL_law 1131 = .ok (.iload 4, 2) := by decide +kernel
theorem dL_law_1133 : decode cL_law 1133 = .ok (.iconst 1, 1) := by decide +kernel
theorem dL_law_1134 : decode cL_law 1134 = .ok (.iadd, 1) := by decide +kernel
theorem dL_law_1135 : decode cL_law 1135 = .ok (.iaload, 1) := by decide +kernel
theorem dL_law_1136 : decode cL_law 1136 = .ok (.aload_n 3, 1) := by decide +kernel
theorem dL_law_1137 : decode cL_law 1137 = .ok (.invokestatic 164, 3) := by decide +kernel
theorem dL_law_1140 : decode cL_law 1140 = .ok (.istore 5, 2) := by decide +kernel
theorem dL_law_1142 : decode cL_law 1142 = .ok (.aload_n 2, 1) := by decide +kernel
theorem dL_law_1143 : decode cL_law 1143 = .ok (.aload_n 0, 1) := by decide +kernel
theorem dL_law_1144 : decode cL_law 1144 = .ok (.iload 4, 2) := by decide +kernel
theorem dL_law_1146 : decode cL_law 1146 = .ok (.iconst 1, 1) := by decide +kernel
theorem dL_law_1147 : decode cL_law 1147 = .ok (.iadd, 1) := by decide +kernel
theorem dL_law_1148 : decode cL_law 1148 = .ok (.iaload, 1) := by decide +kernel
theorem dL_law_1149 : decode cL_law 1149 = .ok (.invokevirtual 166, 3) := by decide +kernel
theorem dL_law_1152 : decode cL_law 1152 = .ok (.istore 6, 2) := by decide +kernel
theorem dL_law_1154 : decode cL_law 1154 = .ok (.aload_n 2, 1) := by decide +kernel
theorem dL_law_1155 : decode cL_law 1155 = .ok (.invokevirtual 86, 3) := by decide +kernel
theorem dL_law_1158 : decode cL_law 1158 = .ok (.iload 5, 2) := by decide +kernel
theorem dL_law_1160 : decode cL_law 1160 = .ok (.if_icmp .eq 5, 3) := by decide +kernel
theorem dL_law_1163 : decode cL_law 1163 = .ok (.iconst 0, 1) := by decide +kernel
theorem dL_law_1164 : decode cL_law 1164 = .ok (.ireturn, 1) := by decide +kernel
theorem dL_law_1165 : decode cL_law 1165 = .ok (.iload 5, 2) := by decide +kernel
theorem dL_law_1167 : decode cL_law 1167 = .ok (.ifCond .ne 15, 3) := by decide +kernel
theorem dL_law_1170 : decode cL_law 1170 = .ok (.aload_n 3, 1) := by decide +kernel
theorem dL_law_1171 : decode cL_law 1171 = .ok (.iconst 0, 1) := by decide +kernel
theorem dL_law_1172 : decode cL_law 1172 = .ok (.laload, 1) := by decide +kernel
theorem dL_law_1173 : decode cL_law 1173 = .ok (.iload 6, 2) := by decide +kernel
theorem dL_law_1175 : decode cL_law 1175 = .ok (.i2l, 1) := by decide +kernel
theorem dL_law_1176 : decode cL_law 1176 = .ok (.lcmp, 1) := by decide +kernel
theorem dL_law_1177 : decode cL_law 1177 = .ok (.ifCond .eq 5, 3) := by decide +kernel
theorem dL_law_1180 : decode cL_law 1180 = .ok (.iconst 0, 1) := by decide +kernel
theorem dL_law_1181 : decode cL_law 1181 = .ok (.ireturn, 1) := by decide +kernel
theorem dL_law_1182 : decode cL_law 1182 = .ok (.goto 323, 3) := by decide +kernel
theorem dL_law_1185 : decode cL_law 1185 = .ok (.aload_n 1, 1) := by decide +kernel
theorem dL_law_1186 : decode cL_law 1186 = .ok (.aload_n 0, 1) := by decide +kernel
theorem dL_law_1187 : decode cL_law 1187 = .ok (.iload 4, 2) := by decide +kernel
theorem dL_law_1189 : decode cL_law 1189 = .ok (.iconst 1, 1) := by decide +kernel
theorem dL_law_1190 : decode cL_law 1190 = .ok (.iadd, 1) := by decide +kernel
theorem dL_law_1191 : decode cL_law 1191 = .ok (.iaload, 1) := by decide +kernel
theorem dL_law_1192 : decode cL_law 1192 = .ok (.aload_n 3, 1) := by decide +kernel
theorem dL_law_1193 : decode cL_law 1193 = .ok (.invokestatic 167, 3) := by decide +kernel
theorem dL_law_1196 : decode cL_law 1196 = .ok (.istore 5, 2) := by decide +kernel
theorem dL_law_1198 : decode cL_law 1198 = .ok (.aload_n 2, 1) := by decide +kernel
theorem dL_law_1199 : decode cL_law 1199 = .ok (.aload_n 0, 1) := by decide +kernel
theorem dL_law_1200 : decode cL_law 1200 = .ok (.iload 4, 2) := by decide +kernel
theorem dL_law_1202 : decode cL_law 1202 = .ok (.iconst 1, 1) := by decide +kernel
theorem dL_law_1203 : decode cL_law 1203 = .ok (.iadd, 1) := by decide +kernel
theorem dL_law_1204 : decode cL_law 1204 = .ok (.iaload, 1) := by decide +kernel
theorem dL_law_1205 : decode cL_law 1205 = .ok (.invokevirtual 169, 3) := by decide +kernel
theorem dL_law_1208 : decode cL_law 1208 = .ok (.istore 6, 2) := by decide +kernel
theorem dL_law_1210 : decode cL_law 1210 = .ok (.aload_n 2, 1) := by decide +kernel
theorem dL_law_1211 : decode cL_law 1211 = .ok (.invokevirtual 86, 3) := by decide +kernel
theorem dL_law_1214 : decode cL_law 1214 = .ok (.iload 5, 2) := by decide +kernel
theorem dL_law_1216 : decode cL_law 1216 = .ok (.if_icmp .eq 5, 3) := by decide +kernel
theorem dL_law_1219 : decode cL_law 1219 = .ok (.iconst 0, 1) := by decide +kernel
theorem dL_law_1220 : decode cL_law 1220 = .ok (.ireturn, 1) := by decide +kernel
theorem dL_law_1221 : decode cL_law 1221 = .ok (.iload 5, 2) := by decide +kernel
theorem dL_law_1223 : decode cL_law 1223 = .ok (.ifCond .ne 15, 3) := by decide +kernel
theorem dL_law_1226 : decode cL_law 1226 = .ok (.aload_n 3, 1) := by decide +kernel
theorem dL_law_1227 : decode cL_law 1227 = .ok (.iconst 0, 1) := by decide +kernel
theorem dL_law_1228 : decode cL_law 1228 = .ok (.laload, 1) := by decide +kernel
theorem dL_law_1229 : decode cL_law 1229 = .ok (.iload 6, 2) := by decide +kernel
theorem dL_law_1231 : decode cL_law 1231 = .ok (.i2l, 1) := by decide +kernel
theorem dL_law_1232 : decode cL_law 1232 = .ok (.lcmp, 1) := by decide +kernel
theorem dL_law_1233 : decode cL_law 1233 = .ok (.ifCond .eq 5, 3) := by decide +kernel
theorem dL_law_1236 : decode cL_law 1236 = .ok (.iconst 0, 1) := by decide +kernel
theorem dL_law_1237 : decode cL_law 1237 = .ok (.ireturn, 1) := by decide +kernel
theorem dL_law_1238 : decode cL_law 1238 = .ok (.goto 267, 3) := by decide +kernel
theorem dL_law_1241 : decode cL_law 1241 = .ok (.aload_n 1, 1) := by decide +kernel
theorem dL_law_1242 : decode cL_law 1242 = .ok (.aload_n 0, 1) := by decide +kernel
theorem dL_law_1243 : decode cL_law 1243 = .ok (.iload 4, 2) := by decide +kernel
theorem dL_law_1245 : decode cL_law 1245 = .ok (.iconst 1, 1) := by decide +kernel
theorem dL_law_1246 : decode cL_law 1246 = .ok (.iadd, 1) := by decide +kernel
theorem dL_law_1247 : decode cL_law 1247 = .ok (.iaload, 1) := by decide +kernel
theorem dL_law_1248 : decode cL_law 1248 = .ok (.aload_n 0, 1) := by decide +kernel
theorem dL_law_1249 : decode cL_law 1249 = .ok (.iload 4, 2) := by decide +kernel
theorem dL_law_1251 : decode cL_law 1251 = .ok (.iconst 2, 1) := by decide +kernel
theorem dL_law_1252 : decode cL_law 1252 = .ok (.iadd, 1) := by decide +kernel
theorem dL_law_1253 : decode cL_law 1253 = .ok (.iaload, 1) := by decide +kernel
theorem dL_law_1254 : decode cL_law 1254 = .ok (.ifCond .eq 7, 3) := by decide +kernel
theorem dL_law_1257 : decode cL_law 1257 = .ok (.iconst 1, 1) := by decide +kernel
theorem dL_law_1258 : decode cL_law 1258 = .ok (.goto 4, 3) := by decide +kernel
theorem dL_law_1261 : decode cL_law 1261 = .ok (.iconst 0, 1) := by decide +kernel
theorem dL_law_1262 : decode cL_law 1262 = .ok (.aload_n 3, 1) := by decide +kernel
theorem dL_law_1263 : decode cL_law 1263 = .ok (.invokestatic 170, 3) := by decide +kernel
theorem dL_law_1266 : decode cL_law 1266 = .ok (.istore 5, 2) := by decide +kernel
theorem dL_law_1268 : decode cL_law 1268 = .ok (.aload_n 2, 1) := by decide +kernel
theorem dL_law_1269 : decode cL_law 1269 = .ok (.aload_n 0, 1) := by decide +kernel
theorem dL_law_1270 : decode cL_law 1270 = .ok (.iload 4, 2) := by decide +kernel
theorem dL_law_1272 : decode cL_law 1272 = .ok (.iconst 1, 1) := by decide +kernel
theorem dL_law_1273 : decode cL_law 1273 = .ok (.iadd, 1) := by decide +kernel
theorem dL_law_1274 : decode cL_law 1274 = .ok (.iaload, 1) := by decide +kernel
theorem dL_law_1275 : decode cL_law 1275 = .ok (.aload_n 0, 1) := by decide +kernel
theorem dL_law_1276 : decode cL_law 1276 = .ok (.iload 4, 2) := by decide +kernel
theorem dL_law_1278 : decode cL_law 1278 = .ok (.iconst 2, 1) := by decide +kernel
theorem dL_law_1279 : decode cL_law 1279 = .ok (.iadd, 1) := by decide +kernel
theorem dL_law_1280 : decode cL_law 1280 = .ok (.iaload, 1) := by decide +kernel
theorem dL_law_1281 : decode cL_law 1281 = .ok (.ifCond .eq 7, 3) := by decide +kernel
theorem dL_law_1284 : decode cL_law 1284 = .ok (.iconst 1, 1) := by decide +kernel
theorem dL_law_1285 : decode cL_law 1285 = .ok (.goto 4, 3) := by decide +kernel
theorem dL_law_1288 : decode cL_law 1288 = .ok (.iconst 0, 1) := by decide +kernel
theorem dL_law_1289 : decode cL_law 1289 = .ok (.invokevirtual 173, 3) := by decide +kernel
theorem dL_law_1292 : decode cL_law 1292 = .ok (.istore 6, 2) := by decide +kernel
theorem dL_law_1294 : decode cL_law 1294 = .ok (.aload_n 2, 1) := by decide +kernel
theorem dL_law_1295 : decode cL_law 1295 = .ok (.invokevirtual 86, 3) := by decide +kernel
theorem dL_law_1298 : decode cL_law 1298 = .ok (.iload 5, 2) := by decide +kernel
theorem dL_law_1300 : decode cL_law 1300 = .ok (.if_icmp .eq 5, 3) := by decide +kernel
theorem dL_law_1303 : decode cL_law 1303 = .ok (.iconst 0, 1) := by decide +kernel
theorem dL_law_1304 : decode cL_law 1304 = .ok (.ireturn, 1) := by decide +kernel
theorem dL_law_1305 : decode cL_law 1305 = .ok (.iload 5, 2) := by decide +kernel
theorem dL_law_1307 : decode cL_law 1307 = .ok (.ifCond .ne 15, 3) := by decide +kernel
theorem dL_law_1310 : decode cL_law 1310 = .ok (.aload_n 3, 1) := by decide +kernel
theorem dL_law_1311 : decode cL_law 1311 = .ok (.iconst 0, 1) := by decide +kernel
theorem dL_law_1312 : decode cL_law 1312 = .ok (.laload, 1) := by decide +kernel
theorem dL_law_1313 : decode cL_law 1313 = .ok (.iload 6, 2) := by decide +kernel
theorem dL_law_1315 : decode cL_law 1315 = .ok (.i2l, 1) := by decide +kernel
theorem dL_law_1316 : decode cL_law 1316 = .ok (.lcmp, 1) := by decide +kernel
theorem dL_law_1317 : decode cL_law 1317 = .ok (.ifCond .eq 5, 3) := by decide +kernel
theorem dL_law_1320 : decode cL_law 1320 = .ok (.iconst 0, 1) := by decide +kernel
theorem dL_law_1321 : decode cL_law 1321 = .ok (.ireturn, 1) := by decide +kernel
theorem dL_law_1322 : decode cL_law 1322 = .ok (.goto 183, 3) := by decide +kernel
theorem dL_law_1325 : decode cL_law 1325 = .ok (.aload_n 1, 1) := by decide +kernel
theorem dL_law_1326 : decode cL_law 1326 = .ok (.aload_n 0, 1) := by decide +kernel
theorem dL_law_1327 : decode cL_law 1327 = .ok (.iload 4, 2) := by decide +kernel
theorem dL_law_1329 : decode cL_law 1329 = .ok (.iconst 1, 1) := by decide +kernel
theorem dL_law_1330 : decode cL_law 1330 = .ok (.iadd, 1) := by decide +kernel
theorem dL_law_1331 : decode cL_law 1331 = .ok (.iaload, 1) := by decide +kernel
theorem dL_law_1332 : decode cL_law 1332 = .ok (.aload_n 3, 1) := by decide +kernel
theorem dL_law_1333 : decode cL_law 1333 = .ok (.invokestatic 174, 3) := by decide +kernel
theorem dL_law_1336 : decode cL_law 1336 = .ok (.istore 5, 2) := by decide +kernel
theorem dL_law_1338 : decode cL_law 1338 = .ok (.aload_n 2, 1) := by decide +kernel
theorem dL_law_1339 : decode cL_law 1339 = .ok (.aload_n 0, 1) := by decide +kernel
theorem dL_law_1340 : decode cL_law 1340 = .ok (.iload 4, 2) := by decide +kernel
theorem dL_law_1342 : decode cL_law 1342 = .ok (.iconst 1, 1) := by decide +kernel
theorem dL_law_1343 : decode cL_law 1343 = .ok (.iadd, 1) := by decide +kernel
theorem dL_law_1344 : decode cL_law 1344 = .ok (.iaload, 1) := by decide +kernel
theorem dL_law_1345 : decode cL_law 1345 = .ok (.invokevirtual 176, 3) := by decide +kernel
theorem dL_law_1348 : decode cL_law 1348 = .ok (.istore 6, 2) := by decide +kernel
theorem dL_law_1350 : decode cL_law 1350 = .ok (.aload_n 2, 1) := by decide +kernel
theorem dL_law_1351 : decode cL_law 1351 = .ok (.invokevirtual 86, 3) := by decide +kernel
theorem dL_law_1354 : decode cL_law 1354 = .ok (.iload 5, 2) := by decide +kernel
theorem dL_law_1356 : decode cL_law 1356 = .ok (.if_icmp .eq 5, 3) := by decide +kernel
theorem dL_law_1359 : decode cL_law 1359 = .ok (.iconst 0, 1) := by decide +kernel
theorem dL_law_1360 : decode cL_law 1360 = .ok (.ireturn, 1) := by decide +kernel
theorem dL_law_1361 : decode cL_law 1361 = .ok (.iload 5, 2) := by decide +kernel
theorem dL_law_1363 : decode cL_law 1363 = .ok (.ifCond .ne 15, 3) := by decide +kernel
theorem dL_law_1366 : decode cL_law 1366 = .ok (.aload_n 3, 1) := by decide +kernel
theorem dL_law_1367 : decode cL_law 1367 = .ok (.iconst 0, 1) := by decide +kernel
theorem dL_law_1368 : decode cL_law 1368 = .ok (.laload, 1) := by decide +kernel
theorem dL_law_1369 : decode cL_law 1369 = .ok (.iload 6, 2) := by decide +kernel
theorem dL_law_1371 : decode cL_law 1371 = .ok (.i2l, 1) := by decide +kernel
theorem dL_law_1372 : decode cL_law 1372 = .ok (.lcmp, 1) := by decide +kernel
theorem dL_law_1373 : decode cL_law 1373 = .ok (.ifCond .eq 5, 3) := by decide +kernel
theorem dL_law_1376 : decode cL_law 1376 = .ok (.iconst 0, 1) := by decide +kernel
theorem dL_law_1377 : decode cL_law 1377 = .ok (.ireturn, 1) := by decide +kernel
theorem dL_law_1378 : decode cL_law 1378 = .ok (.goto 127, 3) := by decide +kernel
theorem dL_law_1381 : decode cL_law 1381 = .ok (.aload_n 1, 1) := by decide +kernel
theorem dL_law_1382 : decode cL_law 1382 = .ok (.aload_n 0, 1) := by decide +kernel
theorem dL_law_1383 : decode cL_law 1383 = .ok (.iload 4, 2) := by decide +kernel
theorem dL_law_1385 : decode cL_law 1385 = .ok (.iconst 1, 1) := by decide +kernel
theorem dL_law_1386 : decode cL_law 1386 = .ok (.iadd, 1) := by decide +kernel
theorem dL_law_1387 : decode cL_law 1387 = .ok (.iaload, 1) := by decide +kernel
theorem dL_law_1388 : decode cL_law 1388 = .ok (.aload_n 3, 1) := by decide +kernel
theorem dL_law_1389 : decode cL_law 1389 = .ok (.invokestatic 177, 3) := by decide +kernel
theorem dL_law_1392 : decode cL_law 1392 = .ok (.istore 5, 2) := by decide +kernel
theorem dL_law_1394 : decode cL_law 1394 = .ok (.aload_n 2, 1) := by decide +kernel
theorem dL_law_1395 : decode cL_law 1395 = .ok (.aload_n 0, 1) := by decide +kernel
theorem dL_law_1396 : decode cL_law 1396 = .ok (.iload 4, 2) := by decide +kernel
theorem dL_law_1398 : decode cL_law 1398 = .ok (.iconst 1, 1) := by decide +kernel
theorem dL_law_1399 : decode cL_law 1399 = .ok (.iadd, 1) := by decide +kernel
theorem dL_law_1400 : decode cL_law 1400 = .ok (.iaload, 1) := by decide +kernel
theorem dL_law_1401 : decode cL_law 1401 = .ok (.invokevirtual 179, 3) := by decide +kernel
theorem dL_law_1404 : decode cL_law 1404 = .ok (.istore 6, 2) := by decide +kernel
theorem dL_law_1406 : decode cL_law 1406 = .ok (.aload_n 2, 1) := by decide +kernel
theorem dL_law_1407 : decode cL_law 1407 = .ok (.invokevirtual 86, 3) := by decide +kernel
theorem dL_law_1410 : decode cL_law 1410 = .ok (.iload 5, 2) := by decide +kernel
theorem dL_law_1412 : decode cL_law 1412 = .ok (.if_icmp .eq 5, 3) := by decide +kernel
theorem dL_law_1415 : decode cL_law 1415 = .ok (.iconst 0, 1) := by decide +kernel
theorem dL_law_1416 : decode cL_law 1416 = .ok (.ireturn, 1) := by decide +kernel
theorem dL_law_1417 : decode cL_law 1417 = .ok (.iload 5, 2) := by decide +kernel
theorem dL_law_1419 : decode cL_law 1419 = .ok (.ifCond .ne 15, 3) := by decide +kernel
theorem dL_law_1422 : decode cL_law 1422 = .ok (.aload_n 3, 1) := by decide +kernel
theorem dL_law_1423 : decode cL_law 1423 = .ok (.iconst 0, 1) := by decide +kernel
theorem dL_law_1424 : decode cL_law 1424 = .ok (.laload, 1) := by decide +kernel
theorem dL_law_1425 : decode cL_law 1425 = .ok (.iload 6, 2) := by decide +kernel
theorem dL_law_1427 : decode cL_law 1427 = .ok (.i2l, 1) := by decide +kernel
theorem dL_law_1428 : decode cL_law 1428 = .ok (.lcmp, 1) := by decide +kernel
theorem dL_law_1429 : decode cL_law 1429 = .ok (.ifCond .eq 5, 3) := by decide +kernel
theorem dL_law_1432 : decode cL_law 1432 = .ok (.iconst 0, 1) := by decide +kernel
theorem dL_law_1433 : decode cL_law 1433 = .ok (.ireturn, 1) := by decide +kernel
theorem dL_law_1434 : decode cL_law 1434 = .ok (.goto 71, 3) := by decide +kernel
theorem dL_law_1437 : decode cL_law 1437 = .ok (.aload_n 1, 1) := by decide +kernel
theorem dL_law_1438 : decode cL_law 1438 = .ok (.aload_n 0, 1) := by decide +kernel
theorem dL_law_1439 : decode cL_law 1439 = .ok (.iload 4, 2) := by decide +kernel
theorem dL_law_1441 : decode cL_law 1441 = .ok (.iconst 1, 1) := by decide +kernel
theorem dL_law_1442 : decode cL_law 1442 = .ok (.iadd, 1) := by decide +kernel
theorem dL_law_1443 : decode cL_law 1443 = .ok (.iaload, 1) := by decide +kernel
theorem dL_law_1444 : decode cL_law 1444 = .ok (.aload_n 0, 1) := by decide +kernel
theorem dL_law_1445 : decode cL_law 1445 = .ok (.iload 4, 2) := by decide +kernel
theorem dL_law_1447 : decode cL_law 1447 = .ok (.iconst 2, 1) := by decide +kernel
theorem dL_law_1448 : decode cL_law 1448 = .ok (.iadd, 1) := by decide +kernel
theorem dL_law_1449 : decode cL_law 1449 = .ok (.iaload, 1) := by decide +kernel
theorem dL_law_1450 : decode cL_law 1450 = .ok (.aload_n 3, 1) := by decide +kernel
theorem dL_law_1451 : decode cL_law 1451 = .ok (.invokestatic 180, 3) := by decide +kernel
theorem dL_law_1454 : decode cL_law 1454 = .ok (.istore 5, 2) := by decide +kernel
theorem dL_law_1456 : decode cL_law 1456 = .ok (.aload_n 2, 1) := by decide +kernel
theorem dL_law_1457 : decode cL_law 1457 = .ok (.aload_n 0, 1) := by decide +kernel
theorem dL_law_1458 : decode cL_law 1458 = .ok (.iload 4, 2) := by decide +kernel
theorem dL_law_1460 : decode cL_law 1460 = .ok (.iconst 1, 1) := by decide +kernel
theorem dL_law_1461 : decode cL_law 1461 = .ok (.iadd, 1) := by decide +kernel
theorem dL_law_1462 : decode cL_law 1462 = .ok (.iaload, 1) := by decide +kernel
theorem dL_law_1463 : decode cL_law 1463 = .ok (.aload_n 0, 1) := by decide +kernel
theorem dL_law_1464 : decode cL_law 1464 = .ok (.iload 4, 2) := by decide +kernel
theorem dL_law_1466 : decode cL_law 1466 = .ok (.iconst 2, 1) := by decide +kernel
theorem dL_law_1467 : decode cL_law 1467 = .ok (.iadd, 1) := by decide +kernel
theorem dL_law_1468 : decode cL_law 1468 = .ok (.iaload, 1) := by decide +kernel
theorem dL_law_1469 : decode cL_law 1469 = .ok (.invokevirtual 182, 3) := by decide +kernel
theorem dL_law_1472 : decode cL_law 1472 = .ok (.istore 6, 2) := by decide +kernel
theorem dL_law_1474 : decode cL_law 1474 = .ok (.aload_n 2, 1) := by decide +kernel
theorem dL_law_1475 : decode cL_law 1475 = .ok (.invokevirtual 86, 3) := by decide +kernel
theorem dL_law_1478 : decode cL_law 1478 = .ok (.iload 5, 2) := by decide +kernel
theorem dL_law_1480 : decode cL_law 1480 = .ok (.if_icmp .eq 5, 3) := by decide +kernel
theorem dL_law_1483 : decode cL_law 1483 = .ok (.iconst 0, 1) := by decide +kernel
theorem dL_law_1484 : decode cL_law 1484 = .ok (.ireturn, 1) := by decide +kernel
theorem dL_law_1485 : decode cL_law 1485 = .ok (.iload 5, 2) := by decide +kernel
theorem dL_law_1487 : decode cL_law 1487 = .ok (.ifCond .ne 15, 3) := by decide +kernel
theorem dL_law_1490 : decode cL_law 1490 = .ok (.aload_n 3, 1) := by decide +kernel
theorem dL_law_1491 : decode cL_law 1491 = .ok (.iconst 0, 1) := by decide +kernel
theorem dL_law_1492 : decode cL_law 1492 = .ok (.laload, 1) := by decide +kernel
theorem dL_law_1493 : decode cL_law 1493 = .ok (.iload 6, 2) := by decide +kernel
theorem dL_law_1495 : decode cL_law 1495 = .ok (.i2l, 1) := by decide +kernel
theorem dL_law_1496 : decode cL_law 1496 = .ok (.lcmp, 1) := by decide +kernel
theorem dL_law_1497 : decode cL_law 1497 = .ok (.ifCond .eq 5, 3) := by decide +kernel
theorem dL_law_1500 : decode cL_law 1500 = .ok (.iconst 0, 1) := by decide +kernel
theorem dL_law_1501 : decode cL_law 1501 = .ok (.ireturn, 1) := by decide +kernel
theorem dL_law_1502 : decode cL_law 1502 = .ok (.goto 3, 3) := by decide +kernel
theorem dL_law_1505 : decode cL_law 1505 = .ok (.iinc 4 4, 3) := by decide +kernel
theorem dL_law_1508 : decode cL_law 1508 = .ok (.goto (-1485), 3) := by decide +kernel
theorem dL_law_1511 : decode cL_law 1511 = .ok (.iconst 1, 1) := by decide +kernel
theorem dL_law_1512 : decode cL_law 1512 = .ok (.ireturn, 1) := by decide +kernel
end
section
/-! ===== the walk in few words: WP G M Q k n pc lv st S: from pc of method M with locals lv, stack st, in the world S, the run comes to an end with Q ===== -/
abbrev VV : Type := Int32 ⊕ (Option Nat ⊕ Int64)
abbrev vi (x : Int32) : VV := .inl x
abbrev vr (o : Option Nat) : VV := .inr (.inl o)
abbrev vl (x : Int64) : VV := .inr (.inr x)
def toV (v : VV) : Value := match v with
  | .inl x => .int x
  | .inr (.inl o) => va_rf o
  | .inr (.inr x) => .long x
def isL (v : VV) : Bool := match v with
  | .inr (.inr _) => true
  | _ => false
def lkp : List (Nat × VV) → Nat → Option VV
  | [], _ => none
  | (j, v) :: t, i => if j = i then some v else lkp t i
def lset (lv : List (Nat × VV)) (i : Nat) (v : VV) : List (Nat × VV) := (i, v) :: lv.filter (fun q => !(q.1 == i) && (!(q.1 + 1 == i && isL q.2) && !(isL v && q.1 == i + 1)))
abbrev tvl (lv : List (Nat × VV)) : List (Nat × Value) := lv.map (fun q => (q.1, toV q.2))
def argsLv : Nat → List VV → List (Nat × VV)
  | _, [] => []
  | i, v :: t => (i, v) :: argsLv (if isL v = true then i + 2 else i + 1) t
def argsSz : List VV → Nat
  | [] => 0
  | v :: t => (if isL v = true then 2 else 1) + argsSz t
theorem cat_toV (v : VV) : (toV v).category = if isL v = true then 2 else 1 := by
  rcases v with x | o | x
  · rfl
  · cases o <;> rfl
  · rfl
theorem cat_beq (v : VV) : ((toV v).category == 2) = isL v := by
  rw [cat_toV]
  cases isL v <;> rfl
theorem lkp_mem {lv : List (Nat × VV)} {i : Nat} {v : VV} (h : lkp lv i = some v) : (i, v) ∈ lv := by
  induction lv with
  | nil => cases h
  | cons a t ih =>
    obtain ⟨j, w⟩ := a
    unfold lkp at h
    by_cases hj : j = i
    · rw [if_pos hj] at h
      cases h
      subst hj
      exact List.mem_cons_self
    · rw [if_neg hj] at h
      exact List.mem_cons_of_mem _ (ih h)
theorem lkp_at {ls : Array Slot} {nL : Nat} {lv : List (Nat × VV)} {i : Nat} {v : VV} (hl : lv_has ls nL (tvl lv)) (h : lkp lv i = some v) : ls[i]? = some (.val (toV v)) :=
  hl.2.2 (i, toV v) (List.mem_map.mpr ⟨(i, v), lkp_mem h, rfl⟩)
theorem lset_1 {ls : Array Slot} {nL : Nat} {lv : List (Nat × VV)} {i : Nat} {v : VV} (hv : isL v = false) (h : lv_has ls nL ((i, toV v) :: (tvl lv).filter (fun q => !(q.1 == i) && !(q.1 + 1 == i && q.2.category == 2)))) : lv_has ls nL (tvl (lset lv i v)) := by
  refine ⟨h.1, h.2.1, fun q hq => h.2.2 q ?_⟩
  obtain ⟨w, hw, rfl⟩ := List.mem_map.mp hq
  unfold lset at hw
  rcases List.mem_cons.mp hw with rfl | hw
  · exact List.mem_cons_self
  · refine List.mem_cons_of_mem _ (List.mem_filter.mpr ?_)
    obtain ⟨h1, h2⟩ := List.mem_filter.mp hw
    refine ⟨List.mem_map.mpr ⟨w, h1, rfl⟩, ?_⟩
    rw [hv] at h2
    simp only [cat_beq]
    simp only [Bool.false_and, Bool.not_false, Bool.and_true] at h2
    exact h2
theorem lset_2 {ls : Array Slot} {nL : Nat} {lv : List (Nat × VV)} {i : Nat} {v : VV} (hv : isL v = true) (h : lv_has ls nL ((i, toV v) :: (tvl lv).filter (fun q => !(q.1 == i) && (!(q.1 == i + 1) && !(q.1 + 1 == i && q.2.category == 2))))) : lv_has ls nL (tvl (lset lv i v)) := by
  refine ⟨h.1, h.2.1, fun q hq => h.2.2 q ?_⟩
  obtain ⟨w, hw, rfl⟩ := List.mem_map.mp hq
  unfold lset at hw
  rcases List.mem_cons.mp hw with rfl | hw
  · exact List.mem_cons_self
  · refine List.mem_cons_of_mem _ (List.mem_filter.mpr ?_)
    obtain ⟨h1, h2⟩ := List.mem_filter.mp hw
    refine ⟨List.mem_map.mpr ⟨w, h1, rfl⟩, ?_⟩
    rw [hv] at h2
    simp only [cat_beq]
    simp only [Bool.true_and] at h2
    simp only [Bool.and_eq_true] at h2 ⊢
    exact ⟨h2.1, h2.2.2, h2.2.1⟩
theorem argsLv_eq (vs : List VV) : ∀ i, lv_args i (vs.map toV) = tvl (argsLv i vs) := by
  induction vs with
  | nil => intro i; rfl
  | cons v t ih =>
    intro i
    show (i, toV v) :: lv_args (if (toV v).category = 2 then i + 2 else i + 1) (t.map toV) = (i, toV v) :: tvl (argsLv (if isL v = true then i + 2 else i + 1) t)
    rw [← ih, cat_toV]
    cases isL v <;> rfl
theorem argsSz_eq (vs : List VV) : (lg_sl (vs.map toV)).length = argsSz vs := by
  induction vs with
  | nil => rfl
  | cons v t ih =>
    show (lg_sl (toV v :: t.map toV)).length = (if isL v = true then 2 else 1) + argsSz t
    rw [← ih]
    simp only [lg_sl, List.flatMap_cons, List.length_append, cat_toV]
    cases isL v <;> rfl
theorem catSum (st : List VV) : ((st.map toV).map fun v => v.category).sum = argsSz st := by
  induction st with
  | nil => rfl
  | cons v t ih =>
    show (toV v).category + _ = (if isL v = true then 2 else 1) + argsSz t
    rw [cat_toV, ← ih]
    rfl
/-! the world: (pool, kinds, lengths, final references), (class: references, numbers, int rows, Node rows), (model: numbers, rows), (long rows) -/
abbrev SS : Type := (List Nat × (Nat → Nat) × (Nat → Nat) × (Nat → Nat → Option Nat)) × ((Nat → Nat → Option Nat) × (Nat → Nat → Int32) × (Nat → Nat → Int32) × (Nat → Nat → Option Nat)) × ((Nat → Nat → Int32) × (Nat → Nat → Int32)) × (Nat → Nat → Int64)
abbrev CY : Type := ClassId × ClassId × ClassId × ClassId
def u2 {α : Type} (f : Nat → Nat → α) (k a : Nat) (v : α) : Nat → Nat → α := fun j b => if j = k ∧ b = a then v else f j b
theorem u2_eq {α : Type} (f : Nat → Nat → α) (k a : Nat) (v : α) : u2 f k a v k a = v := by simp [u2]
theorem u2_nf {α : Type} (f : Nat → Nat → α) {k j : Nat} (a : Nat) (v : α) (b : Nat) (h : j ≠ k) : u2 f k a v j b = f j b := by simp [u2, h]
theorem u2_na {α : Type} (f : Nat → Nat → α) (k : Nat) {a b : Nat} (v : α) (j : Nat) (h : b ≠ a) : u2 f k a v j b = f j b := by simp [u2, h]
def cE (cy : CY) (S : SS) (a : Nat) : va_E := match S with
  | ((_, K, AN, R0), (Rc, Ic, AIc, AR), (Im, AIm), AL) =>
    if K a = 0 then .inr (0, [va_rf (Rc 0 a), va_rf (Rc 1 a), va_rf (Rc 2 a), .int (Ic 0 a), .int (Ic 1 a)])
    else if K a = 1 then .inr (1, [va_rf (R0 0 a), .int (Ic 2 a)])
    else if K a = 2 then .inr (2, [.int (Ic 3 a), .int (Ic 4 a), .int (Ic 5 a), .int (Ic 6 a)])
    else if K a = 3 then .inr (3, [va_rf (Rc 3 a)])
    else if K a = 4 then .inr (4, [va_rf (R0 1 a), va_rf (R0 2 a), va_rf (R0 3 a), va_rf (R0 4 a), va_rf (R0 5 a), va_rf (R0 6 a), va_rf (R0 7 a), va_rf (R0 8 a)])
    else if K a = 5 then .inr (5, [.int (Im 0 a), .int (Im 1 a), .int (Im 2 a), va_rf (R0 9 a), va_rf (R0 10 a), va_rf (R0 11 a), va_rf (R0 12 a), va_rf (R0 13 a), va_rf (R0 14 a), va_rf (R0 15 a), .int (Im 3 a), .int (Im 4 a), .int (Im 5 a), .int (Im 6 a), .int (Im 7 a), .int (Im 8 a), .int (Im 9 a), .int (Im 10 a), .int (Im 11 a), .int (Im 12 a)])
    else if K a = 6 then .inl (cy.1, AN a, .inl (AIc a))
    else if K a = 7 then .inl (cy.1, AN a, .inl (AIm a))
    else if K a = 8 then .inl (cy.2.1, AN a, .inl (AIm a))
    else if K a = 9 then .inl (cy.2.2.1, AN a, .inr (.inr (.inr (.inr (AR a)))))
    else .inl (cy.2.2.2, AN a, .inr (.inl (AL a)))
abbrev tysOf (cy : CY) : List (ClassId × FieldType) := [(cy.1, .int), (cy.2.1, .boolean), (cy.2.2.1, .object "SplaySequence$Node"), (cy.2.2.2, .long)]
abbrev vwCl : List vw_C := [(RX0, TX0, 5), (RX1, TX1, 2), (RX2, TX2, 4), (RX3, TX3, 1), (RX4, TX4, 8), (RX5, TX5, 20)]
abbrev GC : Type := Launch × State × va_G × CY × Nat
/-- a cell that isn't older than the law's entry -/
def AA (s0 : State) : Nat → Prop := fun q => s0.heap.size ≤ q
def EnvH (s0 : State) (H : Heap) : Prop := s0.heap.size ≤ H.size ∧ ∀ q : Nat, q < s0.heap.size → H[q]? = s0.heap[q]?
def strsOf : List (Nat × String) := [(61, "the sequence and the clipboard are full"), (123, "an empty range has no least value"), (125, "the clipboard is not empty"), (141, "the finger is not on a node of the sequence"), (143, "there is no such new position"), (225, "no such position"), (228, "no such range"), (230, "no such finger"), (150, "a value or an amount is out of range")]
def G0 (G : GC) : Prop := G.1.flags = flags0 ∧ (∀ w ∈ lw_tbl, w.before #[Value.ref G.2.2.2.2] G.2.1 = true) ∧ va_K G.2.2.1 vwCl (tysOf G.2.2.2.1) G.2.1 ∧ (Jvm.Cond.and given_1 narrow_1).before #[Value.ref G.2.2.2.2] G.2.1 = true
abbrev MD : Type := MethodName × ByteArray × Nat × Option FieldType × List (Nat × Nat × Nat × Nat) × Nat × Nat × Nat
def mw (M : MD) : Cond := match M.2.2.2.2.1 with
  | [] => .code M.1 M.2.1 M.2.2.1 M.2.2.2.1
  | _ => .codeWith M.1 M.2.1 M.2.2.1 M.2.2.2.1 M.2.2.2.2.1
def rmOf (M : MD) : Room := { frames := M.2.2.2.2.2.1, cells := M.2.2.2.2.2.2.1, slots := M.2.2.2.2.2.2.2, locals := 36 * M.2.2.2.2.2.1 }
def HH (G : GC) (S : SS) (H : Heap) : Prop := va_P G.2.2.1 vwCl (va_pl S.1.1 (cE G.2.2.2.1 S)) H ∧ va_D (AA G.2.1) (va_pl S.1.1 (cE G.2.2.2.1 S))
abbrev RS : Type := Option VV ⊕ String
def QC (G : GC) (Q : RS → SS → Prop) : Array Value → State → Outcome → State → Prop := fun _ st o t => ∃ (v : Option VV) (S' : SS), o = .returned (v.map toV) ∧ Q (.inl v) S' ∧ HH G S' t.heap ∧ va_F (AA G.2.1) st t
def XC (G : GC) (Q : RS → SS → Prop) : String → State → State → Prop := fun E st t => ∃ S' : SS, Q (.inr E) S' ∧ HH G S' t.heap ∧ va_F (AA G.2.1) st t
def PC (G : GC) (av : List VV) (S : SS) : Array Value → State → Prop := va_Pc (av.map toV) (fun U => G0 G ∧ G.2.1.WarmedH U.vm ∧ EnvH G.2.1 U.heap ∧ HH G S U.heap)
def MT (G : GC) (M : MD) (av : List VV) (S : SS) (Q : RS → SS → Prop) : Prop := vx_Met G.1 M.1 [mw M] (rmOf M) (PC G av S) (QC G Q) (XC G Q) M.2.2.2.2.2.2.1 M.2.2.2.2.2.2.2 (AA G.2.1)
def Cx (G : GC) (p : Program) (M : MD) (s : State) (m : MethodId) (meth : Method) (c : Code) : Prop :=
  p.tables.exec = Jvm.exec ∧ c.code = M.2.1 ∧ meth.sig.returnType = M.2.2.2.1 ∧ meth.locks = false ∧ c.maxLocals = M.2.2.1 ∧ s.vm.findClass M.1.cls = some m.cls ∧ meth.name = M.1.name ∧ c.exceptionTable.toList = tableOf M.2.2.2.2.1 ∧ G0 G ∧ G.2.1.WarmedH s.vm ∧ EnvH G.2.1 s.heap
def WP (G : GC) (M : MD) (Q : RS → SS → Prop) (k n pc : Nat) (lv : List (Nat × VV)) (st : List VV) (S : SS) : Prop :=
  ∀ (p : Program) (e : Env) (s : State) (m : MethodId) (args : Array Value) (below : List Frame) (meth : Method) (c : Code) (H : Heap) (locs : List Loc) (ls : Array Slot),
    Cx G p M s m meth c → HH G S H → va_S (AA G.2.1) s.heap H locs → lv_has ls M.2.2.1 (tvl lv) →
    W p G.1 e (rmOf M) s m args below meth c H locs k n (vx_MQ below (QC G Q) (XC G Q) args s M.2.2.2.2.2.2.1 M.2.2.2.2.2.2.2 (AA G.2.1)) (F0 m pc ls (st.map toV))
/-- q9, an exception of the class E, flies over the frame at pc -/
def WX (G : GC) (M : MD) (Q : RS → SS → Prop) (k n pc : Nat) (lv : List (Nat × VV)) (st : List VV) (E : String) (S : SS) : Prop :=
  ∀ (p : Program) (e : Env) (s : State) (m : MethodId) (args : Array Value) (below : List Frame) (meth : Method) (c : Code) (H : Heap) (locs : List Loc) (ls : Array Slot) (ce : Cell) (q9 : Addr),
    Cx G p M s m meth c → HH G S H → va_S (AA G.2.1) s.heap H locs → lv_has ls M.2.2.1 (tvl lv) → H[q9]? = some ce → ce.vm = .none → s.vm.findClass E = some ce.cls →
    vx_W p G.1 e (rmOf M) s m args below meth c H locs k n (vx_MQ below (QC G Q) (XC G Q) args s M.2.2.2.2.2.2.1 M.2.2.2.2.2.2.2 (AA G.2.1)) (F0 m pc ls (st.map toV)) q9
end
section
/-! ===== rows for WP ===== -/
section WPR
variable {G : GC} {M : MD} {Q : RS → SS → Prop} {k n pc : Nat} {lv : List (Nat × VV)} {st : List VV} {S : SS}
theorem cx_w {p : Program} {s : State} {m : MethodId} {meth : Method} {c : Code} {args : Array Value} (C : Cx G p M s m meth c) {w : Cond} (h1 : w ∈ lw_tbl) (h2 : goodWord w = true) : w.before args s = true := word_at C.2.2.2.2.2.2.2.2.2.1 (good_of_word h2) (C.2.2.2.2.2.2.2.2.1.2.1 w h1)
theorem WP_iconst {c0 : Int} (v : Int32) (dg : decode M.2.1 pc = .ok (.iconst c0, 1)) (hv : Int32.ofInt c0 = v) (kk : WP G M Q k n (pc + 1) lv (vi v :: st) S) : WP G M Q k n pc lv st S := fun p e s m args below meth c H locs ls C hh hS hl => lv_iconst C.1 C.2.1 dg hv (kk p e s m args below meth c H locs ls C hh hS hl)
theorem WP_bipush {c0 : Int} (v : Int32) (dg : decode M.2.1 pc = .ok (.bipush c0, 2)) (hv : (Int8.ofInt c0).toInt32 = v) (kk : WP G M Q k n (pc + 2) lv (vi v :: st) S) : WP G M Q k n pc lv st S := fun p e s m args below meth c H locs ls C hh hS hl => lv_bipush C.1 C.2.1 dg hv (kk p e s m args below meth c H locs ls C hh hS hl)
theorem WP_sipush {c0 : Int} (v : Int32) (dg : decode M.2.1 pc = .ok (.sipush c0, 3)) (hv : (Int16.ofInt c0).toInt32 = v) (kk : WP G M Q k n (pc + 3) lv (vi v :: st) S) : WP G M Q k n pc lv st S := fun p e s m args below meth c H locs ls C hh hS hl => lv_sipush C.1 C.2.1 dg hv (kk p e s m args below meth c H locs ls C hh hS hl)
theorem WP_lconst {c0 : Fin 2} (v : Int64) (dg : decode M.2.1 pc = .ok (.lconst c0, 1)) (hv : Int64.ofNat (c0 : Nat) = v) (kk : WP G M Q k n (pc + 1) lv (vl v :: st) S) : WP G M Q k n pc lv st S := fun p e s m args below meth c H locs ls C hh hS hl => lv_lconst C.1 C.2.1 dg hv (kk p e s m args below meth c H locs ls C hh hS hl)
theorem WP_null (dg : decode M.2.1 pc = .ok (.aconst_null, 1)) (kk : WP G M Q k n (pc + 1) lv (vr none :: st) S) : WP G M Q k n pc lv st S := fun p e s m args below meth c H locs ls C hh hS hl => lv_null C.1 C.2.1 dg (kk p e s m args below meth c H locs ls C hh hS hl)
theorem WP_iload_n {i : Fin 4} {x : Int32} (dg : decode M.2.1 pc = .ok (.iload_n i, 1)) (h : lkp lv (i : Nat) = some (vi x)) (kk : WP G M Q k n (pc + 1) lv (vi x :: st) S) : WP G M Q k n pc lv st S := fun p e s m args below meth c H locs ls C hh hS hl => lv_iload_n C.1 C.2.1 dg rfl (lkp_at hl h) (kk p e s m args below meth c H locs ls C hh hS hl)
theorem WP_iload {i : Nat} {x : Int32} (dg : decode M.2.1 pc = .ok (.iload i, 2)) (h : lkp lv i = some (vi x)) (kk : WP G M Q k n (pc + 2) lv (vi x :: st) S) : WP G M Q k n pc lv st S := fun p e s m args below meth c H locs ls C hh hS hl => lv_iload C.1 C.2.1 dg (lkp_at hl h) (kk p e s m args below meth c H locs ls C hh hS hl)
theorem WP_lload_n {i : Fin 4} {x : Int64} (dg : decode M.2.1 pc = .ok (.lload_n i, 1)) (h : lkp lv (i : Nat) = some (vl x)) (kk : WP G M Q k n (pc + 1) lv (vl x :: st) S) : WP G M Q k n pc lv st S := fun p e s m args below meth c H locs ls C hh hS hl => lv_lload_n C.1 C.2.1 dg rfl (lkp_at hl h) (kk p e s m args below meth c H locs ls C hh hS hl)
theorem WP_lload {i : Nat} {x : Int64} (dg : decode M.2.1 pc = .ok (.lload i, 2)) (h : lkp lv i = some (vl x)) (kk : WP G M Q k n (pc + 2) lv (vl x :: st) S) : WP G M Q k n pc lv st S := fun p e s m args below meth c H locs ls C hh hS hl => lv_lload C.1 C.2.1 dg (lkp_at hl h) (kk p e s m args below meth c H locs ls C hh hS hl)
theorem WP_aload_n {i : Fin 4} {o : Option Nat} (dg : decode M.2.1 pc = .ok (.aload_n i, 1)) (h : lkp lv (i : Nat) = some (vr o)) (kk : WP G M Q k n (pc + 1) lv (vr o :: st) S) : WP G M Q k n pc lv st S := by
  intro p e s m args below meth c H locs ls C hh hS hl
  have h9 := lkp_at hl h
  have k9 := kk p e s m args below meth c H locs ls C hh hS hl
  cases o with
  | none => exact lv_aload_nN C.1 C.2.1 dg rfl h9 k9
  | some a => exact lv_aload_n C.1 C.2.1 dg rfl h9 k9
theorem WP_aload {i : Nat} {o : Option Nat} (dg : decode M.2.1 pc = .ok (.aload i, 2)) (h : lkp lv i = some (vr o)) (kk : WP G M Q k n (pc + 2) lv (vr o :: st) S) : WP G M Q k n pc lv st S := by
  intro p e s m args below meth c H locs ls C hh hS hl
  have h9 := lkp_at hl h
  have k9 := kk p e s m args below meth c H locs ls C hh hS hl
  cases o with
  | none => exact lv_aloadN C.1 C.2.1 dg h9 k9
  | some a => exact lv_aload C.1 C.2.1 dg h9 k9
theorem WP_istore_n {i : Fin 4} {x : Int32} {lv' : List (Nat × VV)} (dg : decode M.2.1 pc = .ok (.istore_n i, 1)) (hn : ((i : Nat) < M.2.2.1)) (hlv : lset lv (i : Nat) (vi x) = lv') (kk : WP G M Q k n (pc + 1) lv' (st) S) : WP G M Q k n pc lv (vi x :: st) S := by
  subst hlv
  exact fun p e s m args below meth c H locs ls C hh hS hl => lv_istore_n C.1 C.2.1 dg rfl hl hn rfl (fun ls1 hl1 => kk p e s m args below meth c H locs ls1 C hh hS (lset_1 rfl hl1))
theorem WP_istore {i : Nat} {x : Int32} {lv' : List (Nat × VV)} (dg : decode M.2.1 pc = .ok (.istore i, 2)) (hn : (i < M.2.2.1)) (hlv : lset lv i (vi x) = lv') (kk : WP G M Q k n (pc + 2) lv' (st) S) : WP G M Q k n pc lv (vi x :: st) S := by
  subst hlv
  exact fun p e s m args below meth c H locs ls C hh hS hl => lv_istore C.1 C.2.1 dg hl hn rfl (fun ls1 hl1 => kk p e s m args below meth c H locs ls1 C hh hS (lset_1 rfl hl1))
theorem WP_lstore_n {i : Fin 4} {x : Int64} {lv' : List (Nat × VV)} (dg : decode M.2.1 pc = .ok (.lstore_n i, 1)) (hn : ((i : Nat) + 1 < M.2.2.1)) (hlv : lset lv (i : Nat) (vl x) = lv') (kk : WP G M Q k n (pc + 1) lv' (st) S) : WP G M Q k n pc lv (vl x :: st) S := by
  subst hlv
  exact fun p e s m args below meth c H locs ls C hh hS hl => lv_lstore_n C.1 C.2.1 dg rfl hl hn rfl (fun ls1 hl1 => kk p e s m args below meth c H locs ls1 C hh hS (lset_2 rfl hl1))
theorem WP_lstore {i : Nat} {x : Int64} {lv' : List (Nat × VV)} (dg : decode M.2.1 pc = .ok (.lstore i, 2)) (hn : (i + 1 < M.2.2.1)) (hlv : lset lv i (vl x) = lv') (kk : WP G M Q k n (pc + 2) lv' (st) S) : WP G M Q k n pc lv (vl x :: st) S := by
  subst hlv
  exact fun p e s m args below meth c H locs ls C hh hS hl => lv_lstore C.1 C.2.1 dg hl hn rfl (fun ls1 hl1 => kk p e s m args below meth c H locs ls1 C hh hS (lset_2 rfl hl1))
theorem WP_astore_n {i : Fin 4} {o : Option Nat} {lv' : List (Nat × VV)} (dg : decode M.2.1 pc = .ok (.astore_n i, 1)) (hn : (i : Nat) < M.2.2.1) (hlv : lset lv (i : Nat) (vr o) = lv') (kk : WP G M Q k n (pc + 1) lv' (st) S) : WP G M Q k n pc lv (vr o :: st) S := by
  subst hlv
  intro p e s m args below meth c H locs ls C hh hS hl
  cases o with
  | none => exact lv_astore_nN C.1 C.2.1 dg rfl hl hn rfl (fun ls1 hl1 => kk p e s m args below meth c H locs ls1 C hh hS (lset_1 rfl hl1))
  | some a => exact lv_astore_n C.1 C.2.1 dg rfl hl hn rfl (fun ls1 hl1 => kk p e s m args below meth c H locs ls1 C hh hS (lset_1 rfl hl1))
theorem WP_astore {i : Nat} {o : Option Nat} {lv' : List (Nat × VV)} (dg : decode M.2.1 pc = .ok (.astore i, 2)) (hn : i < M.2.2.1) (hlv : lset lv i (vr o) = lv') (kk : WP G M Q k n (pc + 2) lv' (st) S) : WP G M Q k n pc lv (vr o :: st) S := by
  subst hlv
  intro p e s m args below meth c H locs ls C hh hS hl
  cases o with
  | none => exact lv_astoreN C.1 C.2.1 dg hl hn rfl (fun ls1 hl1 => kk p e s m args below meth c H locs ls1 C hh hS (lset_1 rfl hl1))
  | some a => exact lv_astore C.1 C.2.1 dg hl hn rfl (fun ls1 hl1 => kk p e s m args below meth c H locs ls1 C hh hS (lset_1 rfl hl1))
theorem WP_iinc {i : Nat} {c0 : Int} {x : Int32} {lv' : List (Nat × VV)} (v : Int32) (dg : decode M.2.1 pc = .ok (.iinc i c0, 3)) (h : lkp lv i = some (vi x)) (hv : x + Int32.ofInt c0 = v) (hn : i < M.2.2.1) (hlv : lset lv i (vi v) = lv') (kk : WP G M Q k n (pc + 3) lv' st S) : WP G M Q k n pc lv st S := by
  subst hlv
  intro p e s m args below meth c H locs ls C hh hS hl
  obtain ⟨j, hj⟩ := List.getElem?_of_mem (show (i, toV (vi x)) ∈ tvl lv from List.mem_map.mpr ⟨(i, vi x), lkp_mem h, rfl⟩)
  exact lv_iinc C.1 C.2.1 dg hl hj hv hn rfl (fun ls1 hl1 => kk p e s m args below meth c H locs ls1 C hh hS (lset_1 (v := vi v) rfl hl1))
theorem WP_iadd {x y : Int32} (dg : decode M.2.1 pc = .ok (.iadd, 1)) (kk : WP G M Q k n (pc + 1) lv (vi (x + y) :: st) S) : WP G M Q k n pc lv (vi y :: vi x :: st) S := fun p e s m args below meth c H locs ls C hh hS hl => lv_iadd C.1 C.2.1 dg (kk p e s m args below meth c H locs ls C hh hS hl)
theorem WP_isub {x y : Int32} (dg : decode M.2.1 pc = .ok (.isub, 1)) (kk : WP G M Q k n (pc + 1) lv (vi (x - y) :: st) S) : WP G M Q k n pc lv (vi y :: vi x :: st) S := fun p e s m args below meth c H locs ls C hh hS hl => lv_isub C.1 C.2.1 dg (kk p e s m args below meth c H locs ls C hh hS hl)
theorem WP_imul {x y : Int32} (dg : decode M.2.1 pc = .ok (.imul, 1)) (kk : WP G M Q k n (pc + 1) lv (vi (x * y) :: st) S) : WP G M Q k n pc lv (vi y :: vi x :: st) S := fun p e s m args below meth c H locs ls C hh hS hl => lv_imul C.1 C.2.1 dg (kk p e s m args below meth c H locs ls C hh hS hl)
theorem WP_iand {x y : Int32} (dg : decode M.2.1 pc = .ok (.iand, 1)) (kk : WP G M Q k n (pc + 1) lv (vi (x &&& y) :: st) S) : WP G M Q k n pc lv (vi y :: vi x :: st) S := fun p e s m args below meth c H locs ls C hh hS hl => lv_iand C.1 C.2.1 dg (kk p e s m args below meth c H locs ls C hh hS hl)
theorem WP_ladd {x y : Int64} (dg : decode M.2.1 pc = .ok (.ladd, 1)) (kk : WP G M Q k n (pc + 1) lv (vl (x + y) :: st) S) : WP G M Q k n pc lv (vl y :: vl x :: st) S := fun p e s m args below meth c H locs ls C hh hS hl => lv_ladd C.1 C.2.1 dg (kk p e s m args below meth c H locs ls C hh hS hl)
theorem WP_i2l {x : Int32} (dg : decode M.2.1 pc = .ok (.i2l, 1)) (kk : WP G M Q k n (pc + 1) lv (vl x.toInt64 :: st) S) : WP G M Q k n pc lv (vi x :: st) S := fun p e s m args below meth c H locs ls C hh hS hl => lv_i2l C.1 C.2.1 dg rfl (kk p e s m args below meth c H locs ls C hh hS hl)
theorem WP_l2i {x : Int64} (dg : decode M.2.1 pc = .ok (.l2i, 1)) (kk : WP G M Q k n (pc + 1) lv (vi x.toInt32 :: st) S) : WP G M Q k n pc lv (vl x :: st) S := fun p e s m args below meth c H locs ls C hh hS hl => lv_l2i C.1 C.2.1 dg rfl (kk p e s m args below meth c H locs ls C hh hS hl)
theorem cat1 {v : VV} (h : isL v = false) : (toV v).category = 1 := by rw [cat_toV, h]; rfl
theorem WP_dup {v : VV} (dg : decode M.2.1 pc = .ok (.dup, 1)) (hv : isL v = false) (kk : WP G M Q k n (pc + 1) lv (v :: v :: st) S) : WP G M Q k n pc lv (v :: st) S := fun p e s m args below meth c H locs ls C hh hS hl => lv_dup C.1 C.2.1 dg (cat1 hv) (kk p e s m args below meth c H locs ls C hh hS hl)
theorem WP_pop {v : VV} (dg : decode M.2.1 pc = .ok (.pop, 1)) (hv : isL v = false) (kk : WP G M Q k n (pc + 1) lv (st) S) : WP G M Q k n pc lv (v :: st) S := fun p e s m args below meth c H locs ls C hh hS hl => lv_pop C.1 C.2.1 dg (cat1 hv) (kk p e s m args below meth c H locs ls C hh hS hl)
theorem WP_dup2 {v w : VV} (dg : decode M.2.1 pc = .ok (.dup2, 1)) (hv : isL v = false) (hw : isL w = false) (kk : WP G M Q k n (pc + 1) lv (v :: w :: v :: w :: st) S) : WP G M Q k n pc lv (v :: w :: st) S := fun p e s m args below meth c H locs ls C hh hS hl => lv_dup2_11 C.1 C.2.1 dg (cat1 hv) (cat1 hw) (kk p e s m args below meth c H locs ls C hh hS hl)
theorem WP_if_eq {x : Int32} {off : Int} (tgt : Nat) (dg : decode M.2.1 pc = .ok (.ifCond .eq off, 3)) (ht : (pc : Int) + off = (tgt : Int)) (kt : x = 0 → WP G M Q k n tgt lv st S) (kf : ¬ x = 0 → WP G M Q k n (pc + 3) lv st S) : WP G M Q k n pc lv (vi x :: st) S := fun p e s m args below meth c H locs ls C hh hS hl => lv_if_eq C.1 C.2.1 dg ht (fun h9 => kt h9 p e s m args below meth c H locs ls C hh hS hl) (fun h9 => kf h9 p e s m args below meth c H locs ls C hh hS hl)
theorem WP_icmp_eq {x y : Int32} {off : Int} (tgt : Nat) (dg : decode M.2.1 pc = .ok (.if_icmp .eq off, 3)) (ht : (pc : Int) + off = (tgt : Int)) (kt : x = y → WP G M Q k n tgt lv st S) (kf : ¬ x = y → WP G M Q k n (pc + 3) lv st S) : WP G M Q k n pc lv (vi y :: vi x :: st) S := fun p e s m args below meth c H locs ls C hh hS hl => lv_icmp_eq C.1 C.2.1 dg ht (fun h9 => kt h9 p e s m args below meth c H locs ls C hh hS hl) (fun h9 => kf h9 p e s m args below meth c H locs ls C hh hS hl)
theorem WP_if_ne {x : Int32} {off : Int} (tgt : Nat) (dg : decode M.2.1 pc = .ok (.ifCond .ne off, 3)) (ht : (pc : Int) + off = (tgt : Int)) (kt : ¬ x = 0 → WP G M Q k n tgt lv st S) (kf : x = 0 → WP G M Q k n (pc + 3) lv st S) : WP G M Q k n pc lv (vi x :: st) S := fun p e s m args below meth c H locs ls C hh hS hl => lv_if_ne C.1 C.2.1 dg ht (fun h9 => kt h9 p e s m args below meth c H locs ls C hh hS hl) (fun h9 => kf h9 p e s m args below meth c H locs ls C hh hS hl)
theorem WP_icmp_ne {x y : Int32} {off : Int} (tgt : Nat) (dg : decode M.2.1 pc = .ok (.if_icmp .ne off, 3)) (ht : (pc : Int) + off = (tgt : Int)) (kt : ¬ x = y → WP G M Q k n tgt lv st S) (kf : x = y → WP G M Q k n (pc + 3) lv st S) : WP G M Q k n pc lv (vi y :: vi x :: st) S := fun p e s m args below meth c H locs ls C hh hS hl => lv_icmp_ne C.1 C.2.1 dg ht (fun h9 => kt h9 p e s m args below meth c H locs ls C hh hS hl) (fun h9 => kf h9 p e s m args below meth c H locs ls C hh hS hl)
theorem WP_if_lt {x : Int32} {off : Int} (tgt : Nat) (dg : decode M.2.1 pc = .ok (.ifCond .lt off, 3)) (ht : (pc : Int) + off = (tgt : Int)) (kt : x < 0 → WP G M Q k n tgt lv st S) (kf : ¬ x < 0 → WP G M Q k n (pc + 3) lv st S) : WP G M Q k n pc lv (vi x :: st) S := fun p e s m args below meth c H locs ls C hh hS hl => lv_if_lt C.1 C.2.1 dg ht (fun h9 => kt h9 p e s m args below meth c H locs ls C hh hS hl) (fun h9 => kf h9 p e s m args below meth c H locs ls C hh hS hl)
theorem WP_icmp_lt {x y : Int32} {off : Int} (tgt : Nat) (dg : decode M.2.1 pc = .ok (.if_icmp .lt off, 3)) (ht : (pc : Int) + off = (tgt : Int)) (kt : x < y → WP G M Q k n tgt lv st S) (kf : ¬ x < y → WP G M Q k n (pc + 3) lv st S) : WP G M Q k n pc lv (vi y :: vi x :: st) S := fun p e s m args below meth c H locs ls C hh hS hl => lv_icmp_lt C.1 C.2.1 dg ht (fun h9 => kt h9 p e s m args below meth c H locs ls C hh hS hl) (fun h9 => kf h9 p e s m args below meth c H locs ls C hh hS hl)
theorem WP_if_ge {x : Int32} {off : Int} (tgt : Nat) (dg : decode M.2.1 pc = .ok (.ifCond .ge off, 3)) (ht : (pc : Int) + off = (tgt : Int)) (kt : 0 ≤ x → WP G M Q k n tgt lv st S) (kf : ¬ 0 ≤ x → WP G M Q k n (pc + 3) lv st S) : WP G M Q k n pc lv (vi x :: st) S := fun p e s m args below meth c H locs ls C hh hS hl => lv_if_ge C.1 C.2.1 dg ht (fun h9 => kt h9 p e s m args below meth c H locs ls C hh hS hl) (fun h9 => kf h9 p e s m args below meth c H locs ls C hh hS hl)
theorem WP_icmp_ge {x y : Int32} {off : Int} (tgt : Nat) (dg : decode M.2.1 pc = .ok (.if_icmp .ge off, 3)) (ht : (pc : Int) + off = (tgt : Int)) (kt : y ≤ x → WP G M Q k n tgt lv st S) (kf : ¬ y ≤ x → WP G M Q k n (pc + 3) lv st S) : WP G M Q k n pc lv (vi y :: vi x :: st) S := fun p e s m args below meth c H locs ls C hh hS hl => lv_icmp_ge C.1 C.2.1 dg ht (fun h9 => kt h9 p e s m args below meth c H locs ls C hh hS hl) (fun h9 => kf h9 p e s m args below meth c H locs ls C hh hS hl)
theorem WP_if_gt {x : Int32} {off : Int} (tgt : Nat) (dg : decode M.2.1 pc = .ok (.ifCond .gt off, 3)) (ht : (pc : Int) + off = (tgt : Int)) (kt : 0 < x → WP G M Q k n tgt lv st S) (kf : ¬ 0 < x → WP G M Q k n (pc + 3) lv st S) : WP G M Q k n pc lv (vi x :: st) S := fun p e s m args below meth c H locs ls C hh hS hl => lv_if_gt C.1 C.2.1 dg ht (fun h9 => kt h9 p e s m args below meth c H locs ls C hh hS hl) (fun h9 => kf h9 p e s m args below meth c H locs ls C hh hS hl)
theorem WP_icmp_gt {x y : Int32} {off : Int} (tgt : Nat) (dg : decode M.2.1 pc = .ok (.if_icmp .gt off, 3)) (ht : (pc : Int) + off = (tgt : Int)) (kt : y < x → WP G M Q k n tgt lv st S) (kf : ¬ y < x → WP G M Q k n (pc + 3) lv st S) : WP G M Q k n pc lv (vi y :: vi x :: st) S := fun p e s m args below meth c H locs ls C hh hS hl => lv_icmp_gt C.1 C.2.1 dg ht (fun h9 => kt h9 p e s m args below meth c H locs ls C hh hS hl) (fun h9 => kf h9 p e s m args below meth c H locs ls C hh hS hl)
theorem WP_if_le {x : Int32} {off : Int} (tgt : Nat) (dg : decode M.2.1 pc = .ok (.ifCond .le off, 3)) (ht : (pc : Int) + off = (tgt : Int)) (kt : x ≤ 0 → WP G M Q k n tgt lv st S) (kf : ¬ x ≤ 0 → WP G M Q k n (pc + 3) lv st S) : WP G M Q k n pc lv (vi x :: st) S := fun p e s m args below meth c H locs ls C hh hS hl => lv_if_le C.1 C.2.1 dg ht (fun h9 => kt h9 p e s m args below meth c H locs ls C hh hS hl) (fun h9 => kf h9 p e s m args below meth c H locs ls C hh hS hl)
theorem WP_icmp_le {x y : Int32} {off : Int} (tgt : Nat) (dg : decode M.2.1 pc = .ok (.if_icmp .le off, 3)) (ht : (pc : Int) + off = (tgt : Int)) (kt : x ≤ y → WP G M Q k n tgt lv st S) (kf : ¬ x ≤ y → WP G M Q k n (pc + 3) lv st S) : WP G M Q k n pc lv (vi y :: vi x :: st) S := fun p e s m args below meth c H locs ls C hh hS hl => lv_icmp_le C.1 C.2.1 dg ht (fun h9 => kt h9 p e s m args below meth c H locs ls C hh hS hl) (fun h9 => kf h9 p e s m args below meth c H locs ls C hh hS hl)
theorem WP_acmp_eq {rx ry : Option Nat} {off : Int} (tgt : Nat) (dg : decode M.2.1 pc = .ok (.if_acmp .eq off, 3)) (ht : (pc : Int) + off = (tgt : Int)) (kt : rx = ry → WP G M Q k n tgt lv st S) (kf : ¬ rx = ry → WP G M Q k n (pc + 3) lv st S) : WP G M Q k n pc lv (vr ry :: vr rx :: st) S := fun p e s m args below meth c H locs ls C hh hS hl => lv_acmp_eq C.1 C.2.1 dg ht (fun h9 => kt h9 p e s m args below meth c H locs ls C hh hS hl) (fun h9 => kf h9 p e s m args below meth c H locs ls C hh hS hl)
theorem WP_acmp_ne {rx ry : Option Nat} {off : Int} (tgt : Nat) (dg : decode M.2.1 pc = .ok (.if_acmp .ne off, 3)) (ht : (pc : Int) + off = (tgt : Int)) (kt : ¬ rx = ry → WP G M Q k n tgt lv st S) (kf : rx = ry → WP G M Q k n (pc + 3) lv st S) : WP G M Q k n pc lv (vr ry :: vr rx :: st) S := fun p e s m args below meth c H locs ls C hh hS hl => lv_acmp_ne C.1 C.2.1 dg ht (fun h9 => kt h9 p e s m args below meth c H locs ls C hh hS hl) (fun h9 => kf h9 p e s m args below meth c H locs ls C hh hS hl)
theorem WP_goto {off : Int} (tgt : Nat) (dg : decode M.2.1 pc = .ok (.goto off, 3)) (ht : (pc : Int) + off = (tgt : Int)) (kk : WP G M Q k n tgt lv st S) : WP G M Q k n pc lv st S := fun p e s m args below meth c H locs ls C hh hS hl => lv_goto C.1 C.2.1 dg ht (kk p e s m args below meth c H locs ls C hh hS hl)
theorem WP_ifnull {o : Option Nat} {off : Int} (tgt : Nat) (dg : decode M.2.1 pc = .ok (.ifnull off, 3)) (ht : (pc : Int) + off = (tgt : Int)) (kt : o = none → WP G M Q k n tgt lv st S) (kf : ∀ a : Nat, o = some a → WP G M Q k n (pc + 3) lv st S) : WP G M Q k n pc lv (vr o :: st) S := by
  intro p e s m args below meth c H locs ls C hh hS hl
  cases o with
  | none => exact lv_ifnullN C.1 C.2.1 dg ht (kt rfl p e s m args below meth c H locs ls C hh hS hl)
  | some a => exact lv_ifnull C.1 C.2.1 dg (kf a rfl p e s m args below meth c H locs ls C hh hS hl)
theorem WP_ifnonnull {o : Option Nat} {off : Int} (tgt : Nat) (dg : decode M.2.1 pc = .ok (.ifnonnull off, 3)) (ht : (pc : Int) + off = (tgt : Int)) (kt : ∀ a : Nat, o = some a → WP G M Q k n tgt lv st S) (kf : o = none → WP G M Q k n (pc + 3) lv st S) : WP G M Q k n pc lv (vr o :: st) S := by
  intro p e s m args below meth c H locs ls C hh hS hl
  cases o with
  | none => exact lv_ifnonnullN C.1 C.2.1 dg (kf rfl p e s m args below meth c H locs ls C hh hS hl)
  | some a => exact lv_ifnonnull C.1 C.2.1 dg ht (kt a rfl p e s m args below meth c H locs ls C hh hS hl)
theorem WP_widen {k' n' : Nat} (h1 : k ≤ k') (h2 : n ≤ n') (kk : WP G M Q k' n' pc lv st S) : WP G M Q k n pc lv st S := fun p e s m args below meth c H locs ls C hh hS hl => W.widen h1 h2 (kk p e s m args below meth c H locs ls C hh hS hl)
theorem WP_ireturn {x : Int32} {ty : FieldType} (dg : decode M.2.1 pc = .ok (.ireturn, 1)) (hty : M.2.2.2.1 = some ty) (hn : narrow ty (.int x) = .int x) (h1 : k ≤ M.2.2.2.2.2.2.1) (h2 : n ≤ M.2.2.2.2.2.2.2) (hq : Q (.inl (some (vi x))) S) : WP G M Q k n pc lv [vi x] S := fun p e s m args below meth c H locs ls C hh hS hl =>
  W.widen h1 h2 (vx_ret (W.zret C.1 C.2.1 (C.2.2.1.trans hty) hn (fun t ht hW => ⟨some (vi x), S, rfl, hq, by rw [ht]; exact hh, hS.F ht⟩) hS.2.2 dg C.2.2.2.1))
theorem WP_return (dg : decode M.2.1 pc = .ok (.return_, 1)) (hty : M.2.2.2.1 = none) (h1 : k ≤ M.2.2.2.2.2.2.1) (h2 : n ≤ M.2.2.2.2.2.2.2) (hq : Q (.inl none) S) : WP G M Q k n pc lv [] S := fun p e s m args below meth c H locs ls C hh hS hl =>
  W.widen h1 h2 (vx_ret (W.vret C.1 C.2.1 (C.2.2.1.trans hty) (fun t ht hW => ⟨none, S, rfl, hq, by rw [ht]; exact hh, hS.F ht⟩) hS.2.2 dg C.2.2.2.1))
theorem WP_areturn {o : Option Nat} {cn : String} (dg : decode M.2.1 pc = .ok (.areturn, 1)) (hty : M.2.2.2.1 = some (.object cn)) (h1 : k ≤ M.2.2.2.2.2.2.1) (h2 : n ≤ M.2.2.2.2.2.2.2) (hq : Q (.inl (some (vr o))) S) : WP G M Q k n pc lv [vr o] S := fun p e s m args below meth c H locs ls C hh hS hl =>
  W.widen h1 h2 (vx_ret (W.aret C.1 C.2.1 (C.2.2.1.trans hty) (Or.inl ⟨cn, rfl⟩) (va_rf_or o) (fun t ht hW => ⟨some (vr o), S, rfl, hq, by rw [ht]; exact hh, hS.F ht⟩) hS.2.2 dg C.2.2.2.1))
/-- a method without a table: from its entry -/
theorem MT_of {av : List VV} (hy : plainName M.1.cls = true) (htb : M.2.2.2.2.1 = []) (hsz : argsSz av ≤ M.2.2.1) (kk : WP G M Q 0 0 0 (argsLv 0 av) [] S) : MT G M av S Q := by
  obtain ⟨y, cc, maxL, ret, tb, d, mc, ms⟩ := M
  have htb : tb = [] := htb
  subst htb
  refine vx_ofW (cc := cc) (maxL := maxL) (ret := ret) (ws' := []) hy rfl ?_
  intro p e s m args below meth c s₁ B hml ht hv
  obtain ⟨rfl, hG, hW, hE, hh⟩ := hv
  have hl := lv_entry (av.map toV) (n := maxL) (by rw [argsSz_eq]; exact hsz)
  rw [argsLv_eq] at hl
  rw [lg_entry_eq]
  generalize (lg_sl (av.map toV) ++ List.replicate (maxL - (lg_sl (av.map toV)).length) Slot.unset).toArray = ls at hl ⊢
  refine kk p e s m _ below meth c s.heap [] ls ⟨B.exec, B.bytes, B.returns, B.notSynchronized, hml, findClass_of_methodNamed B.named, (name_of_methodNamed B.named B.method).1, ?_, hG, hW, hE⟩ hh va_S.rf hl
  rw [List.eq_nil_iff_forall_not_mem.mpr (fun x hx => ht x hx)]
  rfl
/-- .. and one with a table -/
theorem MT_ofH {av : List VV} {z : Nat × Nat × Nat × Nat} {tb' : List (Nat × Nat × Nat × Nat)} (hy : plainName M.1.cls = true) (htb : M.2.2.2.2.1 = z :: tb') (hsz : argsSz av ≤ M.2.2.1) (kk : WP G M Q 0 0 0 (argsLv 0 av) [] S) : MT G M av S Q := by
  obtain ⟨y, cc, maxL, ret, tb, d, mc, ms⟩ := M
  have htb : tb = z :: tb' := htb
  subst htb
  refine vx_ofWH (cc := cc) (maxL := maxL) (ret := ret) (hh := z :: tb') (ws' := []) hy rfl ?_
  intro p e s m args below meth c s₁ B hml hv
  obtain ⟨rfl, hG, hW, hE, hh⟩ := hv
  have hl := lv_entry (av.map toV) (n := maxL) (by rw [argsSz_eq]; exact hsz)
  rw [argsLv_eq] at hl
  rw [lg_entry_eq]
  generalize (lg_sl (av.map toV) ++ List.replicate (maxL - (lg_sl (av.map toV)).length) Slot.unset).toArray = ls at hl ⊢
  exact kk p e s m _ below meth c s.heap [] ls ⟨B.exec, B.bytes, B.returns, B.notSynchronized, hml, findClass_of_methodNamed B.named, (name_of_methodNamed B.named B.method).1, vx_table (x := y) B (atoms_spec B.pre _ List.mem_cons_self), hG, hW, hE⟩ hh va_S.rf hl
theorem MT.imp {av : List VV} {Q' : RS → SS → Prop} (h : MT G M av S Q) (hi : ∀ r S', Q r S' → Q' r S') : MT G M av S Q' := by
  intro p e ha hc hk s m args below hf happ hP hK
  obtain ⟨n1, o, h1, h2, h3, h4⟩ := h p e ha hc hk s m args below hf happ hP hK
  refine ⟨n1, o, h1, h2, h3, ?_⟩
  rcases h4 with ⟨⟨v, S', e1, hq, e2⟩, e3⟩ | ⟨q, e1, E, ce, L, ⟨S', hq, e2⟩, e3⟩
  · exact Or.inl ⟨⟨v, S', e1, hi _ _ hq, e2⟩, e3⟩
  · exact Or.inr ⟨q, e1, E, ce, L, ⟨S', hi _ _ hq, e2⟩, e3⟩
end WPR
end
section
/-! ===== calls ===== -/
section WPC
variable {G : GC} {M : MD} {Q : RS → SS → Prop} {k n pc : Nat} {lv : List (Nat × VV)} {st rest : List VV} {S : SS}
def okw (w : Cond) : Prop := w ∈ lw_tbl ∧ goodWord w = true
theorem cx_ok {p : Program} {s : State} {m : MethodId} {meth : Method} {c : Code} {args : Array Value} (C : Cx G p M s m meth c) {w : Cond} (h : okw w) : w.before args s = true := cx_w C h.1 h.2
theorem okw_at {s U : State} {w : Cond} {a' : Array Value} (hG : G0 G) (hW : G.2.1.WarmedH U.vm) (h : okw w) : w.before a' U = true := word_at hW (good_of_word h.2) (hG.2.1 w h.1)
def isK (S : SS) (ci a : Nat) : Prop := a ∈ S.1.1 ∧ S.1.2.1 a = ci
theorem cE_obj (cy : CY) {S : SS} {a ci : Nat} (h : S.1.2.1 a = ci) (hc : ci < 6) : ∃ fs, cE cy S a = .inr (ci, fs) := by
  obtain ⟨⟨L, K, AN, R0⟩, ⟨Rc, Ic, AIc, AR⟩, ⟨Im, AIm⟩, AL⟩ := S
  have h : K a = ci := h
  rcases (show ci = 0 ∨ ci = 1 ∨ ci = 2 ∨ ci = 3 ∨ ci = 4 ∨ ci = 5 by omega) with rfl | rfl | rfl | rfl | rfl | rfl <;> exact ⟨_, by simp only [cE, h]; rfl⟩
theorem pool_at (cy : CY) {S : SS} {a : Nat} (h : a ∈ S.1.1) : ∃ j : Nat, (va_pl S.1.1 (cE cy S))[j]? = some (a, cE cy S a) := va_pl_get (X := []) h
/-- what a callee's contract gives its caller -/
theorem W_after {p : Program} {e : Env} {R : Room} {s : State} {m : MethodId} {args : Array Value} {below : List Frame} {meth : Method} {c : Code} {H : Heap} {locs : List Loc} {ls : Array Slot} {mc ms : Nat} {Qz : RS → SS → Prop} {a9 : Array Value} {Qf : State → Prop} {st0 : List Value}
    (hr : vx_Run p G.1 e R s m args below meth c H locs k n mc ms (F0 m pc ls st0) (rest.map toV) (QC G Qz a9) (XC G Qz) (AA G.2.1)) (hS : va_S (AA G.2.1) s.heap H locs)
    (kret : ∀ (v : Option VV) (S' : SS) (H1 : Heap) (locs1 : List Loc), Qz (.inl v) S' → HH G S' H1 → va_S (AA G.2.1) s.heap H1 locs1 → W p G.1 e R s m args below meth c H1 locs1 (k + mc) (n + ms) Qf (F0 m (pc + 3) ls ((v.toList ++ rest).map toV)))
    (kthr : ∀ (E : String) (S' : SS) (H1 : Heap) (locs1 : List Loc) (ce : Cell) (q9 : Addr), Qz (.inr E) S' → HH G S' H1 → va_S (AA G.2.1) s.heap H1 locs1 → H1[q9]? = some ce → ce.vm = .none → s.vm.findClass E = some ce.cls → vx_W p G.1 e R s m args below meth c H1 locs1 (k + mc) (n + ms) Qf (F0 m pc ls (rest.map toV)) q9) :
    W p G.1 e R s m args below meth c H locs k n Qf (F0 m pc ls st0) := by
  intro T hT X
  rcases hr T hT X with ⟨v, st₀, t, T', L, h0, X', hL, e1, e2, ⟨v', S', hv, hq, hh', hF⟩, st⟩ | ⟨q, st₀, t, T', L, E, ce, h0, X', hL, e1, e2, ⟨S', hq, hh', hF⟩, hce, hcv, hcl, st⟩
  · cases hv
    obtain ⟨k1, k2, k3⟩ := vx_keep h0 e1 hS (fun _ _ h => h) (fun _ h => h) hL hF
    obtain ⟨t2, a1, b1⟩ := kret v' S' T'.heap (locs ++ L) hq (by rw [e1]; exact hh') k3 T' rfl X'
    refine ⟨t2, st t2 ?_, b1⟩
    cases v' <;> exact a1
  · obtain ⟨k1, k2, k3⟩ := vx_keep h0 e1 hS (fun _ _ h => h) (fun _ h => h) hL hF
    obtain ⟨t2, a1, b1⟩ := kthr E S' T'.heap (locs ++ L) ce q hq (by rw [e1]; exact hh') k3 (by rw [e1]; exact hce) hcv hcl T' rfl X'
    exact ⟨t2, st.trans a1, b1⟩
theorem PC_blind {av : List VV} : FrameBlind (PC G av S) := fun a U g mk h => h
theorem PC_of {p : Program} {s : State} {m : MethodId} {meth : Method} {c : Code} {H : Heap} {locs : List Loc} {av : List VV} (C : Cx G p M s m meth c) (hh : HH G S H) (hS : va_S (AA G.2.1) s.heap H locs) {U : State} (hU : U.heap = H) (hW : s.WarmedH U.vm) : PC G av S (av.map toV).toArray U := by
  refine ⟨rfl, C.2.2.2.2.2.2.2.2.1, State.WarmedH.trans C.2.2.2.2.2.2.2.2.2.1 hW, ?_, by rw [hU]; exact hh⟩
  obtain ⟨h1, h2⟩ := C.2.2.2.2.2.2.2.2.2.2
  rw [hU]
  refine ⟨Nat.le_trans h1 hS.1, fun q hq => ?_⟩
  rw [hS.2.1 q (Nat.lt_of_lt_of_le hq h1) (Nat.not_le.mpr hq)]
  exact h2 q hq
/-- what the tables say of a method that is called by the machine's choice on an object -/
def okV (Z : MD) (ci na : Nat) : Prop := okw (mw Z) ∧ okw (.instanceMethod Z.1) ∧ okw (.selects Z.1.cls Z.1 Z.1) ∧ okw (.initialized Z.1.cls) ∧ Z.2.2.2.2.1 = [] ∧ (∃ q, vwCl[ci]? = some q ∧ q.1 = Z.1.cls) ∧ ci < 6 ∧ (Z.1.cls ≠ "java/lang/invoke/MethodHandle" ∧ Z.1.cls ≠ "java/lang/invoke/VarHandle") ∧ (parseMethodDescriptor Z.1.desc).map (fun d => d.parameters.length) = some na
def okS (Z : MD) (na : Nat) : Prop := okw (mw Z) ∧ okw (.static Z.1) ∧ okw (.initialized Z.1.cls) ∧ (Z.1.cls ≠ "java/lang/invoke/MethodHandle" ∧ Z.1.cls ≠ "java/lang/invoke/VarHandle") ∧ (parseMethodDescriptor Z.1.desc).map (fun d => d.parameters.length) = some na
def okR (M Z : MD) : Prop := Z.2.2.2.2.2.1 + 1 ≤ M.2.2.2.2.2.1 ∧ 8 + (Z.2.2.1 + 11) + 36 * Z.2.2.2.2.2.1 ≤ 36 * M.2.2.2.2.2.1
theorem nArgs {y : MethodName} {na : Nat} (h : (parseMethodDescriptor y.desc).map (fun d => d.parameters.length) = some na) : ∀ sig, parseMethodDescriptor y.desc = some sig → na = sig.parameters.length := by
  intro sig hs
  rw [hs] at h
  exact (Option.some.inj h).symm
theorem WP_callV (Z : MD) {ci na idx a : Nat} {As : List VV} {o : Option Nat} {Qz : RS → SS → Prop} (dg : decode M.2.1 pc = .ok (.invokevirtual idx, 3)) (hz : okV Z ci na) (hl9 : okw (.methodLink M.1.cls idx Z.1)) (hR : okR M Z)
    (hst : st = As.reverse ++ vr o :: rest) (ho : o = some a) (hk : isK S ci a) (hn : As.length = na) (hrest : argsSz rest ≤ 8) (hc : k + Z.2.2.2.2.2.2.1 ≤ M.2.2.2.2.2.2.1) (hsl : n + Z.2.2.2.2.2.2.2 ≤ M.2.2.2.2.2.2.2)
    (hM : MT G Z (vr (some a) :: As) S Qz)
    (kret : ∀ (v : Option VV) (S' : SS), Qz (.inl v) S' → WP G M Q (k + Z.2.2.2.2.2.2.1) (n + Z.2.2.2.2.2.2.2) (pc + 3) lv (v.toList ++ rest) S')
    (kthr : ∀ (E : String) (S' : SS), Qz (.inr E) S' → WX G M Q (k + Z.2.2.2.2.2.2.1) (n + Z.2.2.2.2.2.2.2) pc lv rest E S') :
    WP G M Q k n pc lv st S := by
  subst hst
  subst ho
  intro p e s m args below meth c H locs ls C hh hS hl
  obtain ⟨z1, z2, z3, z4, z5, ⟨q, z6, z7⟩, z8, z9, z10⟩ := hz
  obtain ⟨fs, hfs⟩ := cE_obj G.2.2.2.1 hk.2 z8
  obtain ⟨j, hj⟩ := pool_at G.2.2.2.1 hk.1
  rw [hfs] at hj
  have hw : mw Z = .code Z.1 Z.2.1 Z.2.2.1 Z.2.2.2.1 := by unfold mw; rw [z5]
  have hKs : va_K G.2.2.1 vwCl (tysOf G.2.2.2.1) s := va_K.moved C.2.2.2.2.2.2.2.2.2.1.alike C.2.2.2.2.2.2.2.2.1.2.2.1
  have hrecv := va_recv hKs hh.1 z6 hj
  rw [z7] at hrecv
  have h0 : ((As.reverse ++ vr (some a) :: rest).map toV) = (As.map toV).reverse ++ Value.ref a :: rest.map toV := by
    rw [List.map_append, List.map_reverse]
    rfl
  rw [h0]
  refine W_after (mc := Z.2.2.2.2.2.2.1) (ms := Z.2.2.2.2.2.2.2) (rest := rest) (Qz := Qz) (vx_runV (C := Z.1.cls) (y := Z.1) (bytes := Z.2.1) (maxL := Z.2.2.1) (ret := Z.2.2.2.1) (ws := [mw Z]) (rm := rmOf Z) (n := na) (Ts := []) (own := M.1.cls) (nL := M.2.2.1) (As := As.map toV)
    ⟨C.1, C.2.1, C.2.2.2.2.1, C.2.2.2.2.2.1, fun w h => absurd h List.not_mem_nil⟩ hM
    ⟨⟨rfl, rfl, hR.1, hR.2, fun w hw9 a' U hW => by rw [List.mem_singleton.mp hw9]; exact okw_at (s := s) C.2.2.2.2.2.2.2.2.1 (State.WarmedH.trans C.2.2.2.2.2.2.2.2.2.1 hW) z1, by rw [hw]; exact List.mem_singleton.mpr rfl, by rw [← hw]; exact cx_ok C z1, cx_ok C z4, z9, nArgs z10, cx_ok C hl9⟩, cx_ok C z2, cx_ok C z3⟩
    ⟨PC_blind, hrecv, fun U hU hW => PC_of C hh hS hU hW⟩ rfl (by rw [List.length_map]; exact hn) hl.1 rfl (lv_room (by rw [catSum]; exact hrest)) dg ⟨hc, hsl⟩) hS
    (fun v S' H1 locs1 hq hh1 hS1 => kret v S' hq p e s m args below meth c H1 locs1 ls C hh1 hS1 hl)
    (fun E S' H1 locs1 ce q9 hq hh1 hS1 hce hcv hcl => kthr E S' hq p e s m args below meth c H1 locs1 ls ce q9 C hh1 hS1 hl hce hcv hcl)
theorem WP_callS (Z : MD) {na idx : Nat} {As : List VV} {Qz : RS → SS → Prop} (dg : decode M.2.1 pc = .ok (.invokestatic idx, 3)) (hz : okS Z na) (htb : Z.2.2.2.2.1 = []) (hl9 : okw (.methodLink M.1.cls idx Z.1)) (hR : okR M Z)
    (hst : st = As.reverse ++ rest) (hn : As.length = na) (hrest : argsSz rest ≤ 8) (hc : k + Z.2.2.2.2.2.2.1 ≤ M.2.2.2.2.2.2.1) (hsl : n + Z.2.2.2.2.2.2.2 ≤ M.2.2.2.2.2.2.2)
    (hM : MT G Z As S Qz)
    (kret : ∀ (v : Option VV) (S' : SS), Qz (.inl v) S' → WP G M Q (k + Z.2.2.2.2.2.2.1) (n + Z.2.2.2.2.2.2.2) (pc + 3) lv (v.toList ++ rest) S')
    (kthr : ∀ (E : String) (S' : SS), Qz (.inr E) S' → WX G M Q (k + Z.2.2.2.2.2.2.1) (n + Z.2.2.2.2.2.2.2) pc lv rest E S') :
    WP G M Q k n pc lv st S := by
  subst hst
  intro p e s m args below meth c H locs ls C hh hS hl
  obtain ⟨z1, z2, z4, z9, z10⟩ := hz
  have hw : mw Z = .code Z.1 Z.2.1 Z.2.2.1 Z.2.2.2.1 := by unfold mw; rw [htb]
  have h0 : ((As.reverse ++ rest).map toV) = (As.map toV).reverse ++ rest.map toV := by
    rw [List.map_append, List.map_reverse]
  rw [h0]
  refine W_after (mc := Z.2.2.2.2.2.2.1) (ms := Z.2.2.2.2.2.2.2) (rest := rest) (Qz := Qz) (vx_runS (y := Z.1) (bytes := Z.2.1) (maxL := Z.2.2.1) (ret := Z.2.2.2.1) (ws := [mw Z]) (rm := rmOf Z) (n := na) (Ts := []) (own := M.1.cls) (nL := M.2.2.1) (As := As.map toV)
    ⟨C.1, C.2.1, C.2.2.2.2.1, C.2.2.2.2.2.1, fun w h => absurd h List.not_mem_nil⟩ hM
    ⟨⟨rfl, rfl, hR.1, hR.2, fun w hw9 a' U hW => by rw [List.mem_singleton.mp hw9]; exact okw_at (s := s) C.2.2.2.2.2.2.2.2.1 (State.WarmedH.trans C.2.2.2.2.2.2.2.2.2.1 hW) z1, by rw [hw]; exact List.mem_singleton.mpr rfl, by rw [← hw]; exact cx_ok C z1, cx_ok C z4, z9, nArgs z10, cx_ok C hl9⟩, cx_ok C z2⟩
    ⟨PC_blind, fun U hU hW => PC_of C hh hS hU hW⟩ rfl (by rw [List.length_map]; exact hn) hl.1 rfl (lv_room (by rw [catSum]; exact hrest)) dg ⟨hc, hsl⟩) hS
    (fun v S' H1 locs1 hq hh1 hS1 => kret v S' hq p e s m args below meth c H1 locs1 ls C hh1 hS1 hl)
    (fun E S' H1 locs1 ce q9 hq hh1 hS1 hce hcv hcl => kthr E S' hq p e s m args below meth c H1 locs1 ls ce q9 C hh1 hS1 hl hce hcv hcl)
/-- a static call of a method with a table -/
theorem WP_callSX (Z : MD) {na idx : Nat} {As : List VV} {Qz : RS → SS → Prop} {z : Nat × Nat × Nat × Nat} {tb' : List (Nat × Nat × Nat × Nat)} (dg : decode M.2.1 pc = .ok (.invokestatic idx, 3)) (hz : okS Z na) (htb : Z.2.2.2.2.1 = z :: tb') (hl9 : okw (.methodLink M.1.cls idx Z.1)) (hR : okR M Z)
    (hst : st = As.reverse ++ rest) (hn : As.length = na) (hrest : argsSz rest ≤ 8) (hc : k + Z.2.2.2.2.2.2.1 ≤ M.2.2.2.2.2.2.1) (hsl : n + Z.2.2.2.2.2.2.2 ≤ M.2.2.2.2.2.2.2)
    (hM : MT G Z As S Qz)
    (kret : ∀ (v : Option VV) (S' : SS), Qz (.inl v) S' → WP G M Q (k + Z.2.2.2.2.2.2.1) (n + Z.2.2.2.2.2.2.2) (pc + 3) lv (v.toList ++ rest) S')
    (kthr : ∀ (E : String) (S' : SS), Qz (.inr E) S' → WX G M Q (k + Z.2.2.2.2.2.2.1) (n + Z.2.2.2.2.2.2.2) pc lv rest E S') :
    WP G M Q k n pc lv st S := by
  subst hst
  intro p e s m args below meth c H locs ls C hh hS hl
  obtain ⟨z1, z2, z4, z9, z10⟩ := hz
  have hw : mw Z = .codeWith Z.1 Z.2.1 Z.2.2.1 Z.2.2.2.1 Z.2.2.2.2.1 := by unfold mw; rw [htb]
  have h0 : ((As.reverse ++ rest).map toV) = (As.map toV).reverse ++ rest.map toV := by
    rw [List.map_append, List.map_reverse]
  rw [h0]
  refine W_after (mc := Z.2.2.2.2.2.2.1) (ms := Z.2.2.2.2.2.2.2) (rest := rest) (Qz := Qz) (vx_runSX (y := Z.1) (bytes := Z.2.1) (maxL := Z.2.2.1) (ret := Z.2.2.2.1) (hh := Z.2.2.2.2.1) (ws := [mw Z]) (rm := rmOf Z) (n := na) (Ts := []) (own := M.1.cls) (nL := M.2.2.1) (As := As.map toV)
    ⟨C.1, C.2.1, C.2.2.2.2.1, C.2.2.2.2.2.1, fun w h => absurd h List.not_mem_nil⟩ hM
    ⟨⟨rfl, rfl, hR.1, hR.2, fun w hw9 a' U hW => by rw [List.mem_singleton.mp hw9]; exact okw_at (s := s) C.2.2.2.2.2.2.2.2.1 (State.WarmedH.trans C.2.2.2.2.2.2.2.2.2.1 hW) z1, by rw [hw]; exact List.mem_singleton.mpr rfl⟩, by rw [← hw]; exact cx_ok C z1, cx_ok C z4, z9, nArgs z10, cx_ok C hl9, cx_ok C z2⟩
    ⟨PC_blind, fun U hU hW => PC_of C hh hS hU hW⟩ rfl (by rw [List.length_map]; exact hn) hl.1 rfl (lv_room (by rw [catSum]; exact hrest)) dg ⟨hc, hsl⟩) hS
    (fun v S' H1 locs1 hq hh1 hS1 => kret v S' hq p e s m args below meth c H1 locs1 ls C hh1 hS1 hl)
    (fun E S' H1 locs1 ce q9 hq hh1 hS1 hce hcv hcl => kthr E S' hq p e s m args below meth c H1 locs1 ls ce q9 C hh1 hS1 hl hce hcv hcl)
/-- not caught here -/
theorem WX_out {E : String} (htb : M.2.2.2.2.1 = []) (h1 : k ≤ M.2.2.2.2.2.2.1) (h2 : n ≤ M.2.2.2.2.2.2.2) (hq : Q (.inr E) S) : WX G M Q k n pc lv st E S := by
  intro p e s m args below meth c H locs ls ce q9 C hh hS hl hce hcv hcl
  refine vx_out (fun x hx => ?_) C.2.2.2.1 hce hcv hcl (fun t ht hA => ⟨S, hq, by rw [ht]; exact hh, hS.F ht⟩) hS.2.2 h1 h2
  have h9 := C.2.2.2.2.2.2.2.1
  rw [htb] at h9
  rw [h9] at hx
  cases hx
end WPC
end
section
/-! ===== methods; words by their places ===== -/
abbrev mL_law : MD := (yL_law, cL_law, 7, (some .boolean), [], 11, 640158, 7175630)
abbrev mX4_init : MD := (yX4_init, cX4_init, 1, none, [], 10, 10, 204)
abbrev mX4_lastSteps : MD := (yX4_lastSteps, cX4_lastSteps, 1, (some .int), [], 10, 0, 0)
abbrev mX4_lastRotations : MD := (yX4_lastRotations, cX4_lastRotations, 1, (some .int), [], 10, 0, 0)
abbrev mX4_steps : MD := (yX4_steps, cX4_steps, 1, (some .int), [], 10, 0, 0)
abbrev mX4_splays : MD := (yX4_splays, cX4_splays, 1, (some .int), [], 10, 0, 0)
abbrev mX4_potential : MD := (yX4_potential, cX4_potential, 1, (some .int), [], 10, 0, 0)
abbrev mX4_size : MD := (yX4_size, cX4_size, 1, (some .int), [], 10, 0, 0)
abbrev mX4_clipped : MD := (yX4_clipped, cX4_clipped, 1, (some .int), [], 10, 0, 0)
abbrev mX4_root : MD := (yX4_root, cX4_root, 1, (some .int), [], 10, 0, 0)
abbrev mX4_height : MD := (yX4_height, cX4_height, 1, (some .int), [], 10, 0, 0)
abbrev mX5_init : MD := (yX5_init, cX5_init, 2, none, [], 10, 7, 448)
abbrev mX5_thrown : MD := (yX5_thrown, cX5_thrown, 1, (some .int), [], 10, 0, 0)
abbrev mX5_insert : MD := (yX5_insert, cX5_insert, 4, (some .int), [], 10, 0, 0)
abbrev mX5_remove : MD := (yX5_remove, cX5_remove, 6, (some .int), [], 10, 0, 0)
abbrev mX5_get : MD := (yX5_get, cX5_get, 2, (some .int), [], 10, 0, 0)
abbrev mX5_set : MD := (yX5_set, cX5_set, 5, (some .int), [], 10, 0, 0)
abbrev mX5_reverse : MD := (yX5_reverse, cX5_reverse, 3, (some .int), [], 10, 0, 0)
abbrev mX5_raise : MD := (yX5_raise, cX5_raise, 5, (some .int), [], 10, 0, 0)
abbrev mX5_sum : MD := (yX5_sum, cX5_sum, 5, (some .int), [], 10, 0, 0)
abbrev mX5_least : MD := (yX5_least, cX5_least, 5, (some .int), [], 10, 0, 0)
abbrev mX5_cut : MD := (yX5_cut, cX5_cut, 3, (some .int), [], 10, 0, 0)
abbrev mX5_paste : MD := (yX5_paste, cX5_paste, 4, (some .int), [], 10, 0, 0)
abbrev mX5_point : MD := (yX5_point, cX5_point, 3, (some .int), [], 10, 0, 0)
abbrev mX5_follow : MD := (yX5_follow, cX5_follow, 2, (some .int), [], 10, 0, 0)
abbrev mX5_move : MD := (yX5_move, cX5_move, 5, (some .int), [], 10, 0, 0)
abbrev mX5_lastSteps : MD := (yX5_lastSteps, cX5_lastSteps, 1, (some .int), [], 10, 0, 0)
abbrev mX5_lastRotations : MD := (yX5_lastRotations, cX5_lastRotations, 1, (some .int), [], 10, 0, 0)
abbrev mX5_steps : MD := (yX5_steps, cX5_steps, 1, (some .int), [], 10, 0, 0)
abbrev mX5_splays : MD := (yX5_splays, cX5_splays, 1, (some .int), [], 10, 0, 0)
abbrev mX5_potential : MD := (yX5_potential, cX5_potential, 3, (some .int), [], 10, 0, 0)
abbrev mX5_size : MD := (yX5_size, cX5_size, 1, (some .int), [], 10, 0, 0)
abbrev mX5_clipped : MD := (yX5_clipped, cX5_clipped, 1, (some .int), [], 10, 0, 0)
abbrev mX5_root : MD := (yX5_root, cX5_root, 1, (some .int), [], 10, 0, 0)
abbrev mX5_height : MD := (yX5_height, cX5_height, 4, (some .int), [], 10, 0, 0)
abbrev mX5_depth : MD := (yX5_depth, cX5_depth, 2, (some .int), [], 10, 0, 0)
abbrev mX5_subtree : MD := (yX5_subtree, cX5_subtree, 2, (some .int), [], 10, 0, 0)
abbrev mX5_child : MD := (yX5_child, cX5_child, 5, (some .int), [], 10, 0, 0)
abbrev mX5_whereIs : MD := (yX5_whereIs, cX5_whereIs, 2, (some .int), [], 10, 0, 0)
abbrev mX5_plain : MD := (yX5_plain, cX5_plain, 2, (some .int), [], 10, 0, 0)
abbrev mX5_plainSum : MD := (yX5_plainSum, cX5_plainSum, 5, (some .int), [], 10, 0, 0)
abbrev mL_insert : MD := (yL_insert, cL_insert, 5, (some .int), [(0, 10, 13, 13), (0, 10, 17, 15), (0, 10, 21, 17)], 10, 4, 23)
abbrev mL_remove : MD := (yL_remove, cL_remove, 4, (some .int), [(0, 9, 12, 13)], 10, 1, 6)
abbrev mL_get : MD := (yL_get, cL_get, 4, (some .int), [(0, 9, 12, 13)], 10, 1, 6)
abbrev mL_set : MD := (yL_set, cL_set, 5, (some .int), [(0, 10, 13, 13), (0, 10, 17, 15)], 10, 2, 12)
abbrev mL_reverse : MD := (yL_reverse, cL_reverse, 5, (some .int), [(0, 10, 13, 13)], 10, 1, 6)
abbrev mL_raise : MD := (yL_raise, cL_raise, 6, (some .int), [(0, 12, 15, 13), (0, 12, 19, 15)], 10, 2, 12)
abbrev mL_sum : MD := (yL_sum, cL_sum, 5, (some .int), [(0, 10, 13, 13)], 10, 1, 6)
abbrev mL_least : MD := (yL_least, cL_least, 5, (some .int), [(0, 10, 13, 13), (0, 10, 17, 15)], 10, 2, 12)
abbrev mL_cut : MD := (yL_cut, cL_cut, 5, (some .int), [(0, 10, 13, 13), (0, 10, 17, 17)], 10, 2, 12)
abbrev mL_paste : MD := (yL_paste, cL_paste, 4, (some .int), [(0, 9, 12, 13)], 10, 1, 6)
abbrev mL_point : MD := (yL_point, cL_point, 5, (some .int), [(0, 10, 13, 13)], 10, 2, 12)
abbrev mL_follow : MD := (yL_follow, cL_follow, 4, (some .int), [(0, 9, 12, 13)], 10, 1, 6)
abbrev mL_move : MD := (yL_move, cL_move, 5, (some .int), [(0, 10, 13, 13), (0, 10, 17, 17)], 10, 4, 24)
abbrev mL_depth : MD := (yL_depth, cL_depth, 4, (some .int), [(0, 9, 12, 13)], 10, 1, 6)
abbrev mL_subtree : MD := (yL_subtree, cL_subtree, 4, (some .int), [(0, 9, 12, 13)], 10, 1, 6)
abbrev mL_child : MD := (yL_child, cL_child, 5, (some .int), [(0, 10, 13, 13)], 10, 1, 6)
abbrev mL_whereIs : MD := (yL_whereIs, cL_whereIs, 4, (some .int), [(0, 9, 12, 13)], 10, 1, 6)
abbrev mL_plain : MD := (yL_plain, cL_plain, 4, (some .int), [(0, 9, 12, 13)], 10, 1, 6)
abbrev mL_plainSum : MD := (yL_plainSum, cL_plainSum, 5, (some .int), [(0, 10, 13, 13)], 10, 1, 6)
abbrev mX1_init : MD := (yX1_init, cX1_init, 1, none, [], 9, 1, 64)
abbrev mX2_init : MD := (yX2_init, cX2_init, 1, none, [], 9, 0, 0)
abbrev mX3_init : MD := (yX3_init, cX3_init, 1, none, [], 9, 0, 0)
abbrev mX3_sumOfRanks : MD := (yX3_sumOfRanks, cX3_sumOfRanks, 4, (some .int), [], 9, 0, 0)
abbrev mX3_levels : MD := (yX3_levels, cX3_levels, 4, (some .int), [], 9, 0, 0)
abbrev mX4_insert : MD := (yX4_insert, cX4_insert, 4, (some .int), [], 9, 4, 23)
abbrev mX4_remove : MD := (yX4_remove, cX4_remove, 3, (some .int), [], 9, 1, 6)
abbrev mX4_get : MD := (yX4_get, cX4_get, 3, (some .int), [], 9, 1, 6)
abbrev mX4_set : MD := (yX4_set, cX4_set, 5, (some .int), [], 9, 2, 12)
abbrev mX4_reverse : MD := (yX4_reverse, cX4_reverse, 3, (some .int), [], 9, 1, 6)
abbrev mX4_raise : MD := (yX4_raise, cX4_raise, 4, (some .int), [], 9, 2, 12)
abbrev mX4_sum : MD := (yX4_sum, cX4_sum, 4, (some .int), [], 9, 1, 6)
abbrev mX4_least : MD := (yX4_least, cX4_least, 4, (some .int), [], 9, 2, 12)
abbrev mX4_cut : MD := (yX4_cut, cX4_cut, 3, (some .int), [], 9, 2, 12)
abbrev mX4_paste : MD := (yX4_paste, cX4_paste, 3, (some .int), [], 9, 1, 6)
abbrev mX4_point : MD := (yX4_point, cX4_point, 4, (some .int), [], 9, 2, 12)
abbrev mX4_follow : MD := (yX4_follow, cX4_follow, 3, (some .int), [], 9, 1, 6)
abbrev mX4_move : MD := (yX4_move, cX4_move, 8, (some .int), [], 9, 4, 24)
abbrev mX4_depth : MD := (yX4_depth, cX4_depth, 2, (some .int), [], 9, 1, 6)
abbrev mX4_subtree : MD := (yX4_subtree, cX4_subtree, 2, (some .int), [], 9, 1, 6)
abbrev mX4_child : MD := (yX4_child, cX4_child, 4, (some .int), [], 9, 1, 6)
abbrev mX4_whereIs : MD := (yX4_whereIs, cX4_whereIs, 3, (some .int), [], 9, 1, 6)
abbrev mX4_plain : MD := (yX4_plain, cX4_plain, 2, (some .int), [], 9, 1, 6)
abbrev mX4_plainSum : MD := (yX4_plainSum, cX4_plainSum, 3, (some .int), [], 9, 1, 6)
abbrev mX5_goesWell : MD := (yX5_goesWell, cX5_goesWell, 2, (some .boolean), [], 9, 0, 0)
abbrev mX5_depthOf : MD := (yX5_depthOf, cX5_depthOf, 4, (some .int), [], 9, 0, 0)
abbrev mX5_below : MD := (yX5_below, cX5_below, 5, (some .int), [], 9, 0, 0)
abbrev mX5_isPlace : MD := (yX5_isPlace, cX5_isPlace, 2, (some .boolean), [], 9, 0, 0)
abbrev mX5_isRange : MD := (yX5_isRange, cX5_isRange, 3, (some .boolean), [], 9, 0, 0)
abbrev mX5_isValue : MD := (yX5_isValue, cX5_isValue, 1, (some .boolean), [], 9, 0, 0)
abbrev mX5_isFinger : MD := (yX5_isFinger, cX5_isFinger, 1, (some .boolean), [], 9, 0, 0)
abbrev mX5_raiseUp : MD := (yX5_raiseUp, cX5_raiseUp, 3, (some .int), [], 9, 0, 0)
abbrev mX5_open : MD := (yX5_open, cX5_open, 3, none, [], 9, 0, 0)
abbrev mX5_close : MD := (yX5_close, cX5_close, 1, none, [], 9, 0, 0)
abbrev mX5_turnRound : MD := (yX5_turnRound, cX5_turnRound, 4, none, [], 9, 0, 0)
abbrev mX5_canMove : MD := (yX5_canMove, cX5_canMove, 6, (some .boolean), [], 9, 0, 0)
abbrev mX5_rank : MD := (yX5_rank, cX5_rank, 2, (some .int), [], 9, 0, 0)
abbrev mX0_init : MD := (yX0_init, cX0_init, 2, none, [], 8, 0, 0)
abbrev mX0_dropRight : MD := (yX0_dropRight, cX0_dropRight, 2, (some (.object "SplaySequence$Node")), [], 8, 0, 0)
abbrev mX0_nodesAbove : MD := (yX0_nodesAbove, cX0_nodesAbove, 3, (some .int), [], 8, 0, 0)
abbrev mX1_valueAt : MD := (yX1_valueAt, cX1_valueAt, 2, (some .int), [], 8, 0, 0)
abbrev mX1_replace : MD := (yX1_replace, cX1_replace, 3, none, [], 8, 0, 0)
abbrev mX1_open : MD := (yX1_open, cX1_open, 3, none, [], 8, 0, 0)
abbrev mX1_close : MD := (yX1_close, cX1_close, 2, none, [], 8, 0, 0)
abbrev mX1_turnRound : MD := (yX1_turnRound, cX1_turnRound, 6, none, [], 8, 0, 0)
abbrev mX1_addToAll : MD := (yX1_addToAll, cX1_addToAll, 5, none, [], 8, 0, 0)
abbrev mX1_total : MD := (yX1_total, cX1_total, 5, (some .int), [], 8, 0, 0)
abbrev mX1_moveOut : MD := (yX1_moveOut, cX1_moveOut, 4, none, [], 8, 0, 0)
abbrev mX1_moveIn : MD := (yX1_moveIn, cX1_moveIn, 3, none, [], 8, 0, 0)
abbrev mX2_beginCall : MD := (yX2_beginCall, cX2_beginCall, 1, none, [], 8, 0, 0)
abbrev mX3_holds : MD := (yX3_holds, cX3_holds, 2, (some .boolean), [], 8, 0, 0)
abbrev mX3_turnRound : MD := (yX3_turnRound, cX3_turnRound, 3, none, [], 8, 0, 0)
abbrev mX3_addToAll : MD := (yX3_addToAll, cX3_addToAll, 4, none, [], 8, 0, 0)
abbrev mX3_total : MD := (yX3_total, cX3_total, 4, (some .int), [], 8, 0, 0)
abbrev mX3_lowest : MD := (yX3_lowest, cX3_lowest, 4, (some .int), [], 8, 0, 0)
abbrev mX3_rankOf : MD := (yX3_rankOf, cX3_rankOf, 3, (some .int), [], 8, 0, 0)
abbrev mX4_nodeAt : MD := (yX4_nodeAt, cX4_nodeAt, 3, (some (.object "SplaySequence$Node")), [], 8, 1, 6)
abbrev mX4_checkGap : MD := (yX4_checkGap, cX4_checkGap, 2, none, [], 8, 1, 6)
abbrev mX4_checkRange : MD := (yX4_checkRange, cX4_checkRange, 3, none, [], 8, 1, 6)
abbrev mX4_checkFinger : MD := (yX4_checkFinger, cX4_checkFinger, 2, none, [], 8, 1, 6)
abbrev mX4_checkAmount : MD := (yX4_checkAmount, cX4_checkAmount, 1, none, [], 8, 1, 6)
abbrev mX4_positionOrNone : MD := (yX4_positionOrNone, cX4_positionOrNone, 1, (some .int), [], 8, 0, 0)
abbrev mX4_liftFingersFrom : MD := (yX4_liftFingersFrom, cX4_liftFingersFrom, 3, none, [], 8, 0, 0)
abbrev mX4_takeRange : MD := (yX4_takeRange, cX4_takeRange, 3, none, [], 8, 0, 0)
abbrev mX4_putRangeBack : MD := (yX4_putRangeBack, cX4_putRangeBack, 1, none, [], 8, 0, 0)
abbrev mX5_placeOf : MD := (yX5_placeOf, cX5_placeOf, 3, (some .int), [], 8, 0, 0)
abbrev mX5_begins : MD := (yX5_begins, cX5_begins, 1, none, [], 8, 0, 0)
abbrev mX5_split : MD := (yX5_split, cX5_split, 5, none, [], 8, 0, 0)
abbrev mX5_join : MD := (yX5_join, cX5_join, 4, (some .int), [], 8, 0, 0)
abbrev mX5_count : MD := (yX5_count, cX5_count, 1, (some .int), [], 8, 0, 0)
abbrev mX5_isInSequence : MD := (yX5_isInSequence, cX5_isInSequence, 2, (some .boolean), [], 8, 0, 0)
abbrev mX0_swapSides : MD := (yX0_swapSides, cX0_swapSides, 2, none, [], 7, 0, 0)
abbrev mX0_position : MD := (yX0_position, cX0_position, 3, (some .int), [], 7, 0, 0)
abbrev mX0_top : MD := (yX0_top, cX0_top, 2, (some (.object "SplaySequence$Node")), [], 7, 0, 0)
abbrev mX0_nextOfWalk : MD := (yX0_nextOfWalk, cX0_nextOfWalk, 2, (some (.object "SplaySequence$Node")), [], 7, 0, 0)
abbrev mX1_hasRange : MD := (yX1_hasRange, cX1_hasRange, 3, (some .boolean), [], 7, 0, 0)
abbrev mX2_split : MD := (yX2_split, cX2_split, 5, none, [], 7, 0, 0)
abbrev mX2_join : MD := (yX2_join, cX2_join, 5, none, [], 7, 0, 0)
abbrev mX3_count : MD := (yX3_count, cX3_count, 1, (some .int), [], 7, 0, 0)
abbrev mX5_rightmost : MD := (yX5_rightmost, cX5_rightmost, 3, (some .int), [], 7, 0, 0)
abbrev mX5_sizeOf : MD := (yX5_sizeOf, cX5_sizeOf, 2, (some .int), [], 7, 0, 0)
abbrev mX5_nodeAt : MD := (yX5_nodeAt, cX5_nodeAt, 3, (some .int), [], 7, 0, 0)
abbrev mX5_rootOf : MD := (yX5_rootOf, cX5_rootOf, 3, (some .int), [], 7, 0, 0)
abbrev mX5_splay : MD := (yX5_splay, cX5_splay, 5, none, [], 7, 0, 0)
abbrev mX0_dropLeft : MD := (yX0_dropLeft, cX0_dropLeft, 2, (some (.object "SplaySequence$Node")), [], 6, 0, 0)
abbrev mX2_splay : MD := (yX2_splay, cX2_splay, 6, none, [], 6, 0, 0)
abbrev mX3_find : MD := (yX3_find, cX3_find, 5, (some (.object "SplaySequence$Node")), [], 6, 0, 0)
abbrev mX3_last : MD := (yX3_last, cX3_last, 2, (some (.object "SplaySequence$Node")), [], 6, 0, 0)
abbrev mX3_takeAll : MD := (yX3_takeAll, cX3_takeAll, 2, (some (.object "SplaySequence$Node")), [], 6, 0, 0)
abbrev mX5_layOrder : MD := (yX5_layOrder, cX5_layOrder, 3, none, [], 6, 0, 0)
abbrev mX5_rotate : MD := (yX5_rotate, cX5_rotate, 5, none, [], 6, 0, 0)
abbrev mX2_rotate : MD := (yX2_rotate, cX2_rotate, 5, none, [], 5, 0, 0)
abbrev mX5_following : MD := (yX5_following, cX5_following, 3, (some .int), [], 5, 0, 0)
abbrev mX5_hang : MD := (yX5_hang, cX5_hang, 4, none, [], 5, 0, 0)
abbrev mX0_isLeftChild : MD := (yX0_isLeftChild, cX0_isLeftChild, 1, (some .boolean), [], 4, 0, 0)
abbrev mX0_takeLeft : MD := (yX0_takeLeft, cX0_takeLeft, 2, none, [], 4, 0, 0)
abbrev mX0_takeRight : MD := (yX0_takeRight, cX0_takeRight, 2, none, [], 4, 0, 0)
abbrev mX5_leftmost : MD := (yX5_leftmost, cX5_leftmost, 3, (some .int), [], 4, 0, 0)
abbrev mX0_countOf : MD := (yX0_countOf, cX0_countOf, 1, (some .int), [], 3, 0, 0)
theorem ok_42 : okw (.initialized RX0) := ⟨List.mem_of_getElem? (i := 42) (by decide +kernel), by decide +kernel⟩
theorem ok_40 : okw (.initialized RX1) := ⟨List.mem_of_getElem? (i := 40) (by decide +kernel), by decide +kernel⟩
theorem ok_39 : okw (.initialized RX2) := ⟨List.mem_of_getElem? (i := 39) (by decide +kernel), by decide +kernel⟩
theorem ok_38 : okw (.initialized RX3) := ⟨List.mem_of_getElem? (i := 38) (by decide +kernel), by decide +kernel⟩
theorem ok_37 : okw (.initialized RX4) := ⟨List.mem_of_getElem? (i := 37) (by decide +kernel), by decide +kernel⟩
theorem ok_41 : okw (.initialized RX5) := ⟨List.mem_of_getElem? (i := 41) (by decide +kernel), by decide +kernel⟩
theorem ok_36 : okw (.initialized RL) := ⟨List.mem_of_getElem? (i := 36) (by decide +kernel), by decide +kernel⟩
theorem ok_371 : okw (mw mX0_init) := ⟨List.mem_of_getElem? (i := 371) (by decide +kernel), by decide +kernel⟩
theorem ok_370 : okw (.instanceMethod yX0_init) := ⟨List.mem_of_getElem? (i := 370) (by decide +kernel), by decide +kernel⟩
theorem okc_X0_init : okw (mw mX0_init) ∧ okw (.instanceMethod yX0_init) ∧ okw (.initialized yX0_init.cls) := ⟨ok_371, ok_370, ok_42⟩
theorem ok_165 : okw (mw mX0_countOf) := ⟨List.mem_of_getElem? (i := 165) (by decide +kernel), by decide +kernel⟩
theorem ok_164 : okw (.static yX0_countOf) := ⟨List.mem_of_getElem? (i := 164) (by decide +kernel), by decide +kernel⟩
theorem okc_X0_countOf : okS mX0_countOf 1 := ⟨ok_165, ok_164, ok_42, by decide +kernel, by decide +kernel⟩
theorem ok_176 : okw (mw mX0_isLeftChild) := ⟨List.mem_of_getElem? (i := 176) (by decide +kernel), by decide +kernel⟩
theorem ok_174 : okw (.instanceMethod yX0_isLeftChild) := ⟨List.mem_of_getElem? (i := 174) (by decide +kernel), by decide +kernel⟩
theorem ok_175 : okw (.selects yX0_isLeftChild.cls yX0_isLeftChild yX0_isLeftChild) := ⟨List.mem_of_getElem? (i := 175) (by decide +kernel), by decide +kernel⟩
theorem okc_X0_isLeftChild : okV mX0_isLeftChild 0 0 := ⟨ok_176, ok_174, ok_175, ok_42, rfl, ⟨_, rfl, rfl⟩, by decide, by decide +kernel, by decide +kernel⟩
theorem ok_358 : okw (mw mX0_takeLeft) := ⟨List.mem_of_getElem? (i := 358) (by decide +kernel), by decide +kernel⟩
theorem ok_356 : okw (.instanceMethod yX0_takeLeft) := ⟨List.mem_of_getElem? (i := 356) (by decide +kernel), by decide +kernel⟩
theorem ok_357 : okw (.selects yX0_takeLeft.cls yX0_takeLeft yX0_takeLeft) := ⟨List.mem_of_getElem? (i := 357) (by decide +kernel), by decide +kernel⟩
theorem okc_X0_takeLeft : okV mX0_takeLeft 0 1 := ⟨ok_358, ok_356, ok_357, ok_42, rfl, ⟨_, rfl, rfl⟩, by decide, by decide +kernel, by decide +kernel⟩
theorem ok_362 : okw (mw mX0_takeRight) := ⟨List.mem_of_getElem? (i := 362) (by decide +kernel), by decide +kernel⟩
theorem ok_360 : okw (.instanceMethod yX0_takeRight) := ⟨List.mem_of_getElem? (i := 360) (by decide +kernel), by decide +kernel⟩
theorem ok_361 : okw (.selects yX0_takeRight.cls yX0_takeRight yX0_takeRight) := ⟨List.mem_of_getElem? (i := 361) (by decide +kernel), by decide +kernel⟩
theorem okc_X0_takeRight : okV mX0_takeRight 0 1 := ⟨ok_362, ok_360, ok_361, ok_42, rfl, ⟨_, rfl, rfl⟩, by decide, by decide +kernel, by decide +kernel⟩
theorem ok_366 : okw (mw mX0_dropLeft) := ⟨List.mem_of_getElem? (i := 366) (by decide +kernel), by decide +kernel⟩
theorem ok_364 : okw (.instanceMethod yX0_dropLeft) := ⟨List.mem_of_getElem? (i := 364) (by decide +kernel), by decide +kernel⟩
theorem ok_365 : okw (.selects yX0_dropLeft.cls yX0_dropLeft yX0_dropLeft) := ⟨List.mem_of_getElem? (i := 365) (by decide +kernel), by decide +kernel⟩
theorem okc_X0_dropLeft : okV mX0_dropLeft 0 0 := ⟨ok_366, ok_364, ok_365, ok_42, rfl, ⟨_, rfl, rfl⟩, by decide, by decide +kernel, by decide +kernel⟩
theorem ok_427 : okw (mw mX0_dropRight) := ⟨List.mem_of_getElem? (i := 427) (by decide +kernel), by decide +kernel⟩
theorem ok_425 : okw (.instanceMethod yX0_dropRight) := ⟨List.mem_of_getElem? (i := 425) (by decide +kernel), by decide +kernel⟩
theorem ok_426 : okw (.selects yX0_dropRight.cls yX0_dropRight yX0_dropRight) := ⟨List.mem_of_getElem? (i := 426) (by decide +kernel), by decide +kernel⟩
theorem okc_X0_dropRight : okV mX0_dropRight 0 0 := ⟨ok_427, ok_425, ok_426, ok_42, rfl, ⟨_, rfl, rfl⟩, by decide, by decide +kernel, by decide +kernel⟩
theorem ok_486 : okw (mw mX0_swapSides) := ⟨List.mem_of_getElem? (i := 486) (by decide +kernel), by decide +kernel⟩
theorem ok_484 : okw (.instanceMethod yX0_swapSides) := ⟨List.mem_of_getElem? (i := 484) (by decide +kernel), by decide +kernel⟩
theorem ok_485 : okw (.selects yX0_swapSides.cls yX0_swapSides yX0_swapSides) := ⟨List.mem_of_getElem? (i := 485) (by decide +kernel), by decide +kernel⟩
theorem okc_X0_swapSides : okV mX0_swapSides 0 0 := ⟨ok_486, ok_484, ok_485, ok_42, rfl, ⟨_, rfl, rfl⟩, by decide, by decide +kernel, by decide +kernel⟩
theorem ok_196 : okw (mw mX0_position) := ⟨List.mem_of_getElem? (i := 196) (by decide +kernel), by decide +kernel⟩
theorem ok_194 : okw (.instanceMethod yX0_position) := ⟨List.mem_of_getElem? (i := 194) (by decide +kernel), by decide +kernel⟩
theorem ok_195 : okw (.selects yX0_position.cls yX0_position yX0_position) := ⟨List.mem_of_getElem? (i := 195) (by decide +kernel), by decide +kernel⟩
theorem okc_X0_position : okV mX0_position 0 0 := ⟨ok_196, ok_194, ok_195, ok_42, rfl, ⟨_, rfl, rfl⟩, by decide, by decide +kernel, by decide +kernel⟩
theorem ok_209 : okw (mw mX0_nodesAbove) := ⟨List.mem_of_getElem? (i := 209) (by decide +kernel), by decide +kernel⟩
theorem ok_207 : okw (.instanceMethod yX0_nodesAbove) := ⟨List.mem_of_getElem? (i := 207) (by decide +kernel), by decide +kernel⟩
theorem ok_208 : okw (.selects yX0_nodesAbove.cls yX0_nodesAbove yX0_nodesAbove) := ⟨List.mem_of_getElem? (i := 208) (by decide +kernel), by decide +kernel⟩
theorem okc_X0_nodesAbove : okV mX0_nodesAbove 0 0 := ⟨ok_209, ok_207, ok_208, ok_42, rfl, ⟨_, rfl, rfl⟩, by decide, by decide +kernel, by decide +kernel⟩
theorem ok_589 : okw (mw mX0_top) := ⟨List.mem_of_getElem? (i := 589) (by decide +kernel), by decide +kernel⟩
theorem ok_587 : okw (.instanceMethod yX0_top) := ⟨List.mem_of_getElem? (i := 587) (by decide +kernel), by decide +kernel⟩
theorem ok_588 : okw (.selects yX0_top.cls yX0_top yX0_top) := ⟨List.mem_of_getElem? (i := 588) (by decide +kernel), by decide +kernel⟩
theorem okc_X0_top : okV mX0_top 0 0 := ⟨ok_589, ok_587, ok_588, ok_42, rfl, ⟨_, rfl, rfl⟩, by decide, by decide +kernel, by decide +kernel⟩
theorem ok_172 : okw (mw mX0_nextOfWalk) := ⟨List.mem_of_getElem? (i := 172) (by decide +kernel), by decide +kernel⟩
theorem ok_170 : okw (.instanceMethod yX0_nextOfWalk) := ⟨List.mem_of_getElem? (i := 170) (by decide +kernel), by decide +kernel⟩
theorem ok_171 : okw (.selects yX0_nextOfWalk.cls yX0_nextOfWalk yX0_nextOfWalk) := ⟨List.mem_of_getElem? (i := 171) (by decide +kernel), by decide +kernel⟩
theorem okc_X0_nextOfWalk : okV mX0_nextOfWalk 0 0 := ⟨ok_172, ok_170, ok_171, ok_42, rfl, ⟨_, rfl, rfl⟩, by decide, by decide +kernel, by decide +kernel⟩
theorem ok_100 : okw (mw mX1_init) := ⟨List.mem_of_getElem? (i := 100) (by decide +kernel), by decide +kernel⟩
theorem ok_99 : okw (.instanceMethod yX1_init) := ⟨List.mem_of_getElem? (i := 99) (by decide +kernel), by decide +kernel⟩
theorem okc_X1_init : okw (mw mX1_init) ∧ okw (.instanceMethod yX1_init) ∧ okw (.initialized yX1_init.cls) := ⟨ok_100, ok_99, ok_40⟩
theorem ok_638 : okw (mw mX1_valueAt) := ⟨List.mem_of_getElem? (i := 638) (by decide +kernel), by decide +kernel⟩
theorem ok_636 : okw (.instanceMethod yX1_valueAt) := ⟨List.mem_of_getElem? (i := 636) (by decide +kernel), by decide +kernel⟩
theorem ok_637 : okw (.selects yX1_valueAt.cls yX1_valueAt yX1_valueAt) := ⟨List.mem_of_getElem? (i := 637) (by decide +kernel), by decide +kernel⟩
theorem okc_X1_valueAt : okV mX1_valueAt 1 1 := ⟨ok_638, ok_636, ok_637, ok_40, rfl, ⟨_, rfl, rfl⟩, by decide, by decide +kernel, by decide +kernel⟩
theorem ok_462 : okw (mw mX1_replace) := ⟨List.mem_of_getElem? (i := 462) (by decide +kernel), by decide +kernel⟩
theorem ok_460 : okw (.instanceMethod yX1_replace) := ⟨List.mem_of_getElem? (i := 460) (by decide +kernel), by decide +kernel⟩
theorem ok_461 : okw (.selects yX1_replace.cls yX1_replace yX1_replace) := ⟨List.mem_of_getElem? (i := 461) (by decide +kernel), by decide +kernel⟩
theorem okc_X1_replace : okV mX1_replace 1 2 := ⟨ok_462, ok_460, ok_461, ok_40, rfl, ⟨_, rfl, rfl⟩, by decide, by decide +kernel, by decide +kernel⟩
theorem ok_406 : okw (mw mX1_open) := ⟨List.mem_of_getElem? (i := 406) (by decide +kernel), by decide +kernel⟩
theorem ok_404 : okw (.instanceMethod yX1_open) := ⟨List.mem_of_getElem? (i := 404) (by decide +kernel), by decide +kernel⟩
theorem ok_405 : okw (.selects yX1_open.cls yX1_open yX1_open) := ⟨List.mem_of_getElem? (i := 405) (by decide +kernel), by decide +kernel⟩
theorem okc_X1_open : okV mX1_open 1 2 := ⟨ok_406, ok_404, ok_405, ok_40, rfl, ⟨_, rfl, rfl⟩, by decide, by decide +kernel, by decide +kernel⟩
theorem ok_444 : okw (mw mX1_close) := ⟨List.mem_of_getElem? (i := 444) (by decide +kernel), by decide +kernel⟩
theorem ok_442 : okw (.instanceMethod yX1_close) := ⟨List.mem_of_getElem? (i := 442) (by decide +kernel), by decide +kernel⟩
theorem ok_443 : okw (.selects yX1_close.cls yX1_close yX1_close) := ⟨List.mem_of_getElem? (i := 443) (by decide +kernel), by decide +kernel⟩
theorem okc_X1_close : okV mX1_close 1 1 := ⟨ok_444, ok_442, ok_443, ok_40, rfl, ⟨_, rfl, rfl⟩, by decide, by decide +kernel, by decide +kernel⟩
theorem ok_494 : okw (mw mX1_turnRound) := ⟨List.mem_of_getElem? (i := 494) (by decide +kernel), by decide +kernel⟩
theorem ok_492 : okw (.instanceMethod yX1_turnRound) := ⟨List.mem_of_getElem? (i := 492) (by decide +kernel), by decide +kernel⟩
theorem ok_493 : okw (.selects yX1_turnRound.cls yX1_turnRound yX1_turnRound) := ⟨List.mem_of_getElem? (i := 493) (by decide +kernel), by decide +kernel⟩
theorem okc_X1_turnRound : okV mX1_turnRound 1 2 := ⟨ok_494, ok_492, ok_493, ok_40, rfl, ⟨_, rfl, rfl⟩, by decide, by decide +kernel, by decide +kernel⟩
theorem ok_513 : okw (mw mX1_addToAll) := ⟨List.mem_of_getElem? (i := 513) (by decide +kernel), by decide +kernel⟩
theorem ok_511 : okw (.instanceMethod yX1_addToAll) := ⟨List.mem_of_getElem? (i := 511) (by decide +kernel), by decide +kernel⟩
theorem ok_512 : okw (.selects yX1_addToAll.cls yX1_addToAll yX1_addToAll) := ⟨List.mem_of_getElem? (i := 512) (by decide +kernel), by decide +kernel⟩
theorem okc_X1_addToAll : okV mX1_addToAll 1 3 := ⟨ok_513, ok_511, ok_512, ok_40, rfl, ⟨_, rfl, rfl⟩, by decide, by decide +kernel, by decide +kernel⟩
theorem ok_649 : okw (mw mX1_total) := ⟨List.mem_of_getElem? (i := 649) (by decide +kernel), by decide +kernel⟩
theorem ok_647 : okw (.instanceMethod yX1_total) := ⟨List.mem_of_getElem? (i := 647) (by decide +kernel), by decide +kernel⟩
theorem ok_648 : okw (.selects yX1_total.cls yX1_total yX1_total) := ⟨List.mem_of_getElem? (i := 648) (by decide +kernel), by decide +kernel⟩
theorem okc_X1_total : okV mX1_total 1 2 := ⟨ok_649, ok_647, ok_648, ok_40, rfl, ⟨_, rfl, rfl⟩, by decide, by decide +kernel, by decide +kernel⟩
theorem ok_551 : okw (mw mX1_moveOut) := ⟨List.mem_of_getElem? (i := 551) (by decide +kernel), by decide +kernel⟩
theorem ok_549 : okw (.instanceMethod yX1_moveOut) := ⟨List.mem_of_getElem? (i := 549) (by decide +kernel), by decide +kernel⟩
theorem ok_550 : okw (.selects yX1_moveOut.cls yX1_moveOut yX1_moveOut) := ⟨List.mem_of_getElem? (i := 550) (by decide +kernel), by decide +kernel⟩
theorem okc_X1_moveOut : okV mX1_moveOut 1 3 := ⟨ok_551, ok_549, ok_550, ok_40, rfl, ⟨_, rfl, rfl⟩, by decide, by decide +kernel, by decide +kernel⟩
theorem ok_562 : okw (mw mX1_moveIn) := ⟨List.mem_of_getElem? (i := 562) (by decide +kernel), by decide +kernel⟩
theorem ok_560 : okw (.instanceMethod yX1_moveIn) := ⟨List.mem_of_getElem? (i := 560) (by decide +kernel), by decide +kernel⟩
theorem ok_561 : okw (.selects yX1_moveIn.cls yX1_moveIn yX1_moveIn) := ⟨List.mem_of_getElem? (i := 561) (by decide +kernel), by decide +kernel⟩
theorem okc_X1_moveIn : okV mX1_moveIn 1 2 := ⟨ok_562, ok_560, ok_561, ok_40, rfl, ⟨_, rfl, rfl⟩, by decide, by decide +kernel, by decide +kernel⟩
theorem ok_498 : okw (mw mX1_hasRange) := ⟨List.mem_of_getElem? (i := 498) (by decide +kernel), by decide +kernel⟩
theorem ok_497 : okw (.instanceMethod yX1_hasRange) := ⟨List.mem_of_getElem? (i := 497) (by decide +kernel), by decide +kernel⟩
theorem ok_8 : okw (.selects yX1_hasRange.cls yX1_hasRange yX1_hasRange) := ⟨List.mem_of_getElem? (i := 8) (by decide +kernel), by decide +kernel⟩
theorem okc_X1_hasRange : okV mX1_hasRange 1 2 := ⟨ok_498, ok_497, ok_8, ok_40, rfl, ⟨_, rfl, rfl⟩, by decide, by decide +kernel, by decide +kernel⟩
theorem ok_75 : okw (mw mX2_init) := ⟨List.mem_of_getElem? (i := 75) (by decide +kernel), by decide +kernel⟩
theorem ok_74 : okw (.instanceMethod yX2_init) := ⟨List.mem_of_getElem? (i := 74) (by decide +kernel), by decide +kernel⟩
theorem okc_X2_init : okw (mw mX2_init) ∧ okw (.instanceMethod yX2_init) ∧ okw (.initialized yX2_init.cls) := ⟨ok_75, ok_74, ok_39⟩
theorem ok_333 : okw (mw mX2_beginCall) := ⟨List.mem_of_getElem? (i := 333) (by decide +kernel), by decide +kernel⟩
theorem ok_331 : okw (.instanceMethod yX2_beginCall) := ⟨List.mem_of_getElem? (i := 331) (by decide +kernel), by decide +kernel⟩
theorem ok_332 : okw (.selects yX2_beginCall.cls yX2_beginCall yX2_beginCall) := ⟨List.mem_of_getElem? (i := 332) (by decide +kernel), by decide +kernel⟩
theorem okc_X2_beginCall : okV mX2_beginCall 2 0 := ⟨ok_333, ok_331, ok_332, ok_39, rfl, ⟨_, rfl, rfl⟩, by decide, by decide +kernel, by decide +kernel⟩
theorem ok_349 : okw (mw mX2_splay) := ⟨List.mem_of_getElem? (i := 349) (by decide +kernel), by decide +kernel⟩
theorem ok_347 : okw (.instanceMethod yX2_splay) := ⟨List.mem_of_getElem? (i := 347) (by decide +kernel), by decide +kernel⟩
theorem ok_348 : okw (.selects yX2_splay.cls yX2_splay yX2_splay) := ⟨List.mem_of_getElem? (i := 348) (by decide +kernel), by decide +kernel⟩
theorem okc_X2_splay : okV mX2_splay 2 2 := ⟨ok_349, ok_347, ok_348, ok_39, rfl, ⟨_, rfl, rfl⟩, by decide, by decide +kernel, by decide +kernel⟩
theorem ok_354 : okw (mw mX2_rotate) := ⟨List.mem_of_getElem? (i := 354) (by decide +kernel), by decide +kernel⟩
theorem ok_353 : okw (.instanceMethod yX2_rotate) := ⟨List.mem_of_getElem? (i := 353) (by decide +kernel), by decide +kernel⟩
theorem ok_2 : okw (.selects yX2_rotate.cls yX2_rotate yX2_rotate) := ⟨List.mem_of_getElem? (i := 2) (by decide +kernel), by decide +kernel⟩
theorem okc_X2_rotate : okV mX2_rotate 2 1 := ⟨ok_354, ok_353, ok_2, ok_39, rfl, ⟨_, rfl, rfl⟩, by decide, by decide +kernel, by decide +kernel⟩
theorem ok_337 : okw (mw mX2_split) := ⟨List.mem_of_getElem? (i := 337) (by decide +kernel), by decide +kernel⟩
theorem ok_335 : okw (.instanceMethod yX2_split) := ⟨List.mem_of_getElem? (i := 335) (by decide +kernel), by decide +kernel⟩
theorem ok_336 : okw (.selects yX2_split.cls yX2_split yX2_split) := ⟨List.mem_of_getElem? (i := 336) (by decide +kernel), by decide +kernel⟩
theorem okc_X2_split : okV mX2_split 2 3 := ⟨ok_337, ok_335, ok_336, ok_39, rfl, ⟨_, rfl, rfl⟩, by decide, by decide +kernel, by decide +kernel⟩
theorem ok_432 : okw (mw mX2_join) := ⟨List.mem_of_getElem? (i := 432) (by decide +kernel), by decide +kernel⟩
theorem ok_430 : okw (.instanceMethod yX2_join) := ⟨List.mem_of_getElem? (i := 430) (by decide +kernel), by decide +kernel⟩
theorem ok_431 : okw (.selects yX2_join.cls yX2_join yX2_join) := ⟨List.mem_of_getElem? (i := 431) (by decide +kernel), by decide +kernel⟩
theorem okc_X2_join : okV mX2_join 2 2 := ⟨ok_432, ok_430, ok_431, ok_39, rfl, ⟨_, rfl, rfl⟩, by decide, by decide +kernel, by decide +kernel⟩
theorem ok_63 : okw (mw mX3_init) := ⟨List.mem_of_getElem? (i := 63) (by decide +kernel), by decide +kernel⟩
theorem ok_62 : okw (.instanceMethod yX3_init) := ⟨List.mem_of_getElem? (i := 62) (by decide +kernel), by decide +kernel⟩
theorem okc_X3_init : okw (mw mX3_init) ∧ okw (.instanceMethod yX3_init) ∧ okw (.initialized yX3_init.cls) := ⟨ok_63, ok_62, ok_38⟩
theorem ok_162 : okw (mw mX3_count) := ⟨List.mem_of_getElem? (i := 162) (by decide +kernel), by decide +kernel⟩
theorem ok_160 : okw (.instanceMethod yX3_count) := ⟨List.mem_of_getElem? (i := 160) (by decide +kernel), by decide +kernel⟩
theorem ok_161 : okw (.selects yX3_count.cls yX3_count yX3_count) := ⟨List.mem_of_getElem? (i := 161) (by decide +kernel), by decide +kernel⟩
theorem okc_X3_count : okV mX3_count 3 0 := ⟨ok_162, ok_160, ok_161, ok_38, rfl, ⟨_, rfl, rfl⟩, by decide, by decide +kernel, by decide +kernel⟩
theorem ok_341 : okw (mw mX3_find) := ⟨List.mem_of_getElem? (i := 341) (by decide +kernel), by decide +kernel⟩
theorem ok_339 : okw (.instanceMethod yX3_find) := ⟨List.mem_of_getElem? (i := 339) (by decide +kernel), by decide +kernel⟩
theorem ok_340 : okw (.selects yX3_find.cls yX3_find yX3_find) := ⟨List.mem_of_getElem? (i := 340) (by decide +kernel), by decide +kernel⟩
theorem okc_X3_find : okV mX3_find 3 1 := ⟨ok_341, ok_339, ok_340, ok_38, rfl, ⟨_, rfl, rfl⟩, by decide, by decide +kernel, by decide +kernel⟩
theorem ok_436 : okw (mw mX3_last) := ⟨List.mem_of_getElem? (i := 436) (by decide +kernel), by decide +kernel⟩
theorem ok_434 : okw (.instanceMethod yX3_last) := ⟨List.mem_of_getElem? (i := 434) (by decide +kernel), by decide +kernel⟩
theorem ok_435 : okw (.selects yX3_last.cls yX3_last yX3_last) := ⟨List.mem_of_getElem? (i := 435) (by decide +kernel), by decide +kernel⟩
theorem okc_X3_last : okV mX3_last 3 0 := ⟨ok_436, ok_434, ok_435, ok_38, rfl, ⟨_, rfl, rfl⟩, by decide, by decide +kernel, by decide +kernel⟩
theorem ok_585 : okw (mw mX3_holds) := ⟨List.mem_of_getElem? (i := 585) (by decide +kernel), by decide +kernel⟩
theorem ok_583 : okw (.instanceMethod yX3_holds) := ⟨List.mem_of_getElem? (i := 583) (by decide +kernel), by decide +kernel⟩
theorem ok_584 : okw (.selects yX3_holds.cls yX3_holds yX3_holds) := ⟨List.mem_of_getElem? (i := 584) (by decide +kernel), by decide +kernel⟩
theorem okc_X3_holds : okV mX3_holds 3 1 := ⟨ok_585, ok_583, ok_584, ok_38, rfl, ⟨_, rfl, rfl⟩, by decide, by decide +kernel, by decide +kernel⟩
theorem ok_345 : okw (mw mX3_takeAll) := ⟨List.mem_of_getElem? (i := 345) (by decide +kernel), by decide +kernel⟩
theorem ok_343 : okw (.instanceMethod yX3_takeAll) := ⟨List.mem_of_getElem? (i := 343) (by decide +kernel), by decide +kernel⟩
theorem ok_344 : okw (.selects yX3_takeAll.cls yX3_takeAll yX3_takeAll) := ⟨List.mem_of_getElem? (i := 344) (by decide +kernel), by decide +kernel⟩
theorem okc_X3_takeAll : okV mX3_takeAll 3 0 := ⟨ok_345, ok_343, ok_344, ok_38, rfl, ⟨_, rfl, rfl⟩, by decide, by decide +kernel, by decide +kernel⟩
theorem ok_482 : okw (mw mX3_turnRound) := ⟨List.mem_of_getElem? (i := 482) (by decide +kernel), by decide +kernel⟩
theorem ok_480 : okw (.instanceMethod yX3_turnRound) := ⟨List.mem_of_getElem? (i := 480) (by decide +kernel), by decide +kernel⟩
theorem ok_481 : okw (.selects yX3_turnRound.cls yX3_turnRound yX3_turnRound) := ⟨List.mem_of_getElem? (i := 481) (by decide +kernel), by decide +kernel⟩
theorem okc_X3_turnRound : okV mX3_turnRound 3 0 := ⟨ok_482, ok_480, ok_481, ok_38, rfl, ⟨_, rfl, rfl⟩, by decide, by decide +kernel, by decide +kernel⟩
theorem ok_509 : okw (mw mX3_addToAll) := ⟨List.mem_of_getElem? (i := 509) (by decide +kernel), by decide +kernel⟩
theorem ok_507 : okw (.instanceMethod yX3_addToAll) := ⟨List.mem_of_getElem? (i := 507) (by decide +kernel), by decide +kernel⟩
theorem ok_508 : okw (.selects yX3_addToAll.cls yX3_addToAll yX3_addToAll) := ⟨List.mem_of_getElem? (i := 508) (by decide +kernel), by decide +kernel⟩
theorem okc_X3_addToAll : okV mX3_addToAll 3 1 := ⟨ok_509, ok_507, ok_508, ok_38, rfl, ⟨_, rfl, rfl⟩, by decide, by decide +kernel, by decide +kernel⟩
theorem ok_524 : okw (mw mX3_total) := ⟨List.mem_of_getElem? (i := 524) (by decide +kernel), by decide +kernel⟩
theorem ok_522 : okw (.instanceMethod yX3_total) := ⟨List.mem_of_getElem? (i := 522) (by decide +kernel), by decide +kernel⟩
theorem ok_523 : okw (.selects yX3_total.cls yX3_total yX3_total) := ⟨List.mem_of_getElem? (i := 523) (by decide +kernel), by decide +kernel⟩
theorem okc_X3_total : okV mX3_total 3 0 := ⟨ok_524, ok_522, ok_523, ok_38, rfl, ⟨_, rfl, rfl⟩, by decide, by decide +kernel, by decide +kernel⟩
theorem ok_536 : okw (mw mX3_lowest) := ⟨List.mem_of_getElem? (i := 536) (by decide +kernel), by decide +kernel⟩
theorem ok_534 : okw (.instanceMethod yX3_lowest) := ⟨List.mem_of_getElem? (i := 534) (by decide +kernel), by decide +kernel⟩
theorem ok_535 : okw (.selects yX3_lowest.cls yX3_lowest yX3_lowest) := ⟨List.mem_of_getElem? (i := 535) (by decide +kernel), by decide +kernel⟩
theorem okc_X3_lowest : okV mX3_lowest 3 0 := ⟨ok_536, ok_534, ok_535, ok_38, rfl, ⟨_, rfl, rfl⟩, by decide, by decide +kernel, by decide +kernel⟩
theorem ok_158 : okw (mw mX3_sumOfRanks) := ⟨List.mem_of_getElem? (i := 158) (by decide +kernel), by decide +kernel⟩
theorem ok_156 : okw (.instanceMethod yX3_sumOfRanks) := ⟨List.mem_of_getElem? (i := 156) (by decide +kernel), by decide +kernel⟩
theorem ok_157 : okw (.selects yX3_sumOfRanks.cls yX3_sumOfRanks yX3_sumOfRanks) := ⟨List.mem_of_getElem? (i := 157) (by decide +kernel), by decide +kernel⟩
theorem okc_X3_sumOfRanks : okV mX3_sumOfRanks 3 0 := ⟨ok_158, ok_156, ok_157, ok_38, rfl, ⟨_, rfl, rfl⟩, by decide, by decide +kernel, by decide +kernel⟩
theorem ok_205 : okw (mw mX3_levels) := ⟨List.mem_of_getElem? (i := 205) (by decide +kernel), by decide +kernel⟩
theorem ok_203 : okw (.instanceMethod yX3_levels) := ⟨List.mem_of_getElem? (i := 203) (by decide +kernel), by decide +kernel⟩
theorem ok_204 : okw (.selects yX3_levels.cls yX3_levels yX3_levels) := ⟨List.mem_of_getElem? (i := 204) (by decide +kernel), by decide +kernel⟩
theorem okc_X3_levels : okV mX3_levels 3 0 := ⟨ok_205, ok_203, ok_204, ok_38, rfl, ⟨_, rfl, rfl⟩, by decide, by decide +kernel, by decide +kernel⟩
theorem ok_168 : okw (mw mX3_rankOf) := ⟨List.mem_of_getElem? (i := 168) (by decide +kernel), by decide +kernel⟩
theorem ok_167 : okw (.static yX3_rankOf) := ⟨List.mem_of_getElem? (i := 167) (by decide +kernel), by decide +kernel⟩
theorem okc_X3_rankOf : okS mX3_rankOf 1 := ⟨ok_168, ok_167, ok_38, by decide +kernel, by decide +kernel⟩
theorem ok_55 : okw (mw mX4_init) := ⟨List.mem_of_getElem? (i := 55) (by decide +kernel), by decide +kernel⟩
theorem ok_54 : okw (.instanceMethod yX4_init) := ⟨List.mem_of_getElem? (i := 54) (by decide +kernel), by decide +kernel⟩
theorem okc_X4_init : okw (mw mX4_init) ∧ okw (.instanceMethod yX4_init) ∧ okw (.initialized yX4_init.cls) := ⟨ok_55, ok_54, ok_37⟩
theorem ok_222 : okw (mw mX4_insert) := ⟨List.mem_of_getElem? (i := 222) (by decide +kernel), by decide +kernel⟩
theorem ok_220 : okw (.instanceMethod yX4_insert) := ⟨List.mem_of_getElem? (i := 220) (by decide +kernel), by decide +kernel⟩
theorem ok_221 : okw (.selects yX4_insert.cls yX4_insert yX4_insert) := ⟨List.mem_of_getElem? (i := 221) (by decide +kernel), by decide +kernel⟩
theorem okc_X4_insert : okV mX4_insert 4 2 := ⟨ok_222, ok_220, ok_221, ok_37, rfl, ⟨_, rfl, rfl⟩, by decide, by decide +kernel, by decide +kernel⟩
theorem ok_416 : okw (mw mX4_remove) := ⟨List.mem_of_getElem? (i := 416) (by decide +kernel), by decide +kernel⟩
theorem ok_414 : okw (.instanceMethod yX4_remove) := ⟨List.mem_of_getElem? (i := 414) (by decide +kernel), by decide +kernel⟩
theorem ok_415 : okw (.selects yX4_remove.cls yX4_remove yX4_remove) := ⟨List.mem_of_getElem? (i := 415) (by decide +kernel), by decide +kernel⟩
theorem okc_X4_remove : okV mX4_remove 4 1 := ⟨ok_416, ok_414, ok_415, ok_37, rfl, ⟨_, rfl, rfl⟩, by decide, by decide +kernel, by decide +kernel⟩
theorem ok_451 : okw (mw mX4_get) := ⟨List.mem_of_getElem? (i := 451) (by decide +kernel), by decide +kernel⟩
theorem ok_449 : okw (.instanceMethod yX4_get) := ⟨List.mem_of_getElem? (i := 449) (by decide +kernel), by decide +kernel⟩
theorem ok_450 : okw (.selects yX4_get.cls yX4_get yX4_get) := ⟨List.mem_of_getElem? (i := 450) (by decide +kernel), by decide +kernel⟩
theorem okc_X4_get : okV mX4_get 4 1 := ⟨ok_451, ok_449, ok_450, ok_37, rfl, ⟨_, rfl, rfl⟩, by decide, by decide +kernel, by decide +kernel⟩
theorem ok_458 : okw (mw mX4_set) := ⟨List.mem_of_getElem? (i := 458) (by decide +kernel), by decide +kernel⟩
theorem ok_456 : okw (.instanceMethod yX4_set) := ⟨List.mem_of_getElem? (i := 456) (by decide +kernel), by decide +kernel⟩
theorem ok_457 : okw (.selects yX4_set.cls yX4_set yX4_set) := ⟨List.mem_of_getElem? (i := 457) (by decide +kernel), by decide +kernel⟩
theorem okc_X4_set : okV mX4_set 4 2 := ⟨ok_458, ok_456, ok_457, ok_37, rfl, ⟨_, rfl, rfl⟩, by decide, by decide +kernel, by decide +kernel⟩
theorem ok_469 : okw (mw mX4_reverse) := ⟨List.mem_of_getElem? (i := 469) (by decide +kernel), by decide +kernel⟩
theorem ok_467 : okw (.instanceMethod yX4_reverse) := ⟨List.mem_of_getElem? (i := 467) (by decide +kernel), by decide +kernel⟩
theorem ok_468 : okw (.selects yX4_reverse.cls yX4_reverse yX4_reverse) := ⟨List.mem_of_getElem? (i := 468) (by decide +kernel), by decide +kernel⟩
theorem okc_X4_reverse : okV mX4_reverse 4 2 := ⟨ok_469, ok_467, ok_468, ok_37, rfl, ⟨_, rfl, rfl⟩, by decide, by decide +kernel, by decide +kernel⟩
theorem ok_505 : okw (mw mX4_raise) := ⟨List.mem_of_getElem? (i := 505) (by decide +kernel), by decide +kernel⟩
theorem ok_503 : okw (.instanceMethod yX4_raise) := ⟨List.mem_of_getElem? (i := 503) (by decide +kernel), by decide +kernel⟩
theorem ok_504 : okw (.selects yX4_raise.cls yX4_raise yX4_raise) := ⟨List.mem_of_getElem? (i := 504) (by decide +kernel), by decide +kernel⟩
theorem okc_X4_raise : okV mX4_raise 4 3 := ⟨ok_505, ok_503, ok_504, ok_37, rfl, ⟨_, rfl, rfl⟩, by decide, by decide +kernel, by decide +kernel⟩
theorem ok_520 : okw (mw mX4_sum) := ⟨List.mem_of_getElem? (i := 520) (by decide +kernel), by decide +kernel⟩
theorem ok_518 : okw (.instanceMethod yX4_sum) := ⟨List.mem_of_getElem? (i := 518) (by decide +kernel), by decide +kernel⟩
theorem ok_519 : okw (.selects yX4_sum.cls yX4_sum yX4_sum) := ⟨List.mem_of_getElem? (i := 519) (by decide +kernel), by decide +kernel⟩
theorem okc_X4_sum : okV mX4_sum 4 2 := ⟨ok_520, ok_518, ok_519, ok_37, rfl, ⟨_, rfl, rfl⟩, by decide, by decide +kernel, by decide +kernel⟩
theorem ok_531 : okw (mw mX4_least) := ⟨List.mem_of_getElem? (i := 531) (by decide +kernel), by decide +kernel⟩
theorem ok_529 : okw (.instanceMethod yX4_least) := ⟨List.mem_of_getElem? (i := 529) (by decide +kernel), by decide +kernel⟩
theorem ok_530 : okw (.selects yX4_least.cls yX4_least yX4_least) := ⟨List.mem_of_getElem? (i := 530) (by decide +kernel), by decide +kernel⟩
theorem okc_X4_least : okV mX4_least 4 2 := ⟨ok_531, ok_529, ok_530, ok_37, rfl, ⟨_, rfl, rfl⟩, by decide, by decide +kernel, by decide +kernel⟩
theorem ok_546 : okw (mw mX4_cut) := ⟨List.mem_of_getElem? (i := 546) (by decide +kernel), by decide +kernel⟩
theorem ok_544 : okw (.instanceMethod yX4_cut) := ⟨List.mem_of_getElem? (i := 544) (by decide +kernel), by decide +kernel⟩
theorem ok_545 : okw (.selects yX4_cut.cls yX4_cut yX4_cut) := ⟨List.mem_of_getElem? (i := 545) (by decide +kernel), by decide +kernel⟩
theorem okc_X4_cut : okV mX4_cut 4 2 := ⟨ok_546, ok_544, ok_545, ok_37, rfl, ⟨_, rfl, rfl⟩, by decide, by decide +kernel, by decide +kernel⟩
theorem ok_558 : okw (mw mX4_paste) := ⟨List.mem_of_getElem? (i := 558) (by decide +kernel), by decide +kernel⟩
theorem ok_556 : okw (.instanceMethod yX4_paste) := ⟨List.mem_of_getElem? (i := 556) (by decide +kernel), by decide +kernel⟩
theorem ok_557 : okw (.selects yX4_paste.cls yX4_paste yX4_paste) := ⟨List.mem_of_getElem? (i := 557) (by decide +kernel), by decide +kernel⟩
theorem okc_X4_paste : okV mX4_paste 4 1 := ⟨ok_558, ok_556, ok_557, ok_37, rfl, ⟨_, rfl, rfl⟩, by decide, by decide +kernel, by decide +kernel⟩
theorem ok_569 : okw (mw mX4_point) := ⟨List.mem_of_getElem? (i := 569) (by decide +kernel), by decide +kernel⟩
theorem ok_567 : okw (.instanceMethod yX4_point) := ⟨List.mem_of_getElem? (i := 567) (by decide +kernel), by decide +kernel⟩
theorem ok_568 : okw (.selects yX4_point.cls yX4_point yX4_point) := ⟨List.mem_of_getElem? (i := 568) (by decide +kernel), by decide +kernel⟩
theorem okc_X4_point : okV mX4_point 4 2 := ⟨ok_569, ok_567, ok_568, ok_37, rfl, ⟨_, rfl, rfl⟩, by decide, by decide +kernel, by decide +kernel⟩
theorem ok_581 : okw (mw mX4_follow) := ⟨List.mem_of_getElem? (i := 581) (by decide +kernel), by decide +kernel⟩
theorem ok_579 : okw (.instanceMethod yX4_follow) := ⟨List.mem_of_getElem? (i := 579) (by decide +kernel), by decide +kernel⟩
theorem ok_580 : okw (.selects yX4_follow.cls yX4_follow yX4_follow) := ⟨List.mem_of_getElem? (i := 580) (by decide +kernel), by decide +kernel⟩
theorem okc_X4_follow : okV mX4_follow 4 1 := ⟨ok_581, ok_579, ok_580, ok_37, rfl, ⟨_, rfl, rfl⟩, by decide, by decide +kernel, by decide +kernel⟩
theorem ok_596 : okw (mw mX4_move) := ⟨List.mem_of_getElem? (i := 596) (by decide +kernel), by decide +kernel⟩
theorem ok_594 : okw (.instanceMethod yX4_move) := ⟨List.mem_of_getElem? (i := 594) (by decide +kernel), by decide +kernel⟩
theorem ok_595 : okw (.selects yX4_move.cls yX4_move yX4_move) := ⟨List.mem_of_getElem? (i := 595) (by decide +kernel), by decide +kernel⟩
theorem okc_X4_move : okV mX4_move 4 2 := ⟨ok_596, ok_594, ok_595, ok_37, rfl, ⟨_, rfl, rfl⟩, by decide, by decide +kernel, by decide +kernel⟩
theorem ok_138 : okw (mw mX4_lastSteps) := ⟨List.mem_of_getElem? (i := 138) (by decide +kernel), by decide +kernel⟩
theorem ok_136 : okw (.instanceMethod yX4_lastSteps) := ⟨List.mem_of_getElem? (i := 136) (by decide +kernel), by decide +kernel⟩
theorem ok_137 : okw (.selects yX4_lastSteps.cls yX4_lastSteps yX4_lastSteps) := ⟨List.mem_of_getElem? (i := 137) (by decide +kernel), by decide +kernel⟩
theorem okc_X4_lastSteps : okV mX4_lastSteps 4 0 := ⟨ok_138, ok_136, ok_137, ok_37, rfl, ⟨_, rfl, rfl⟩, by decide, by decide +kernel, by decide +kernel⟩
theorem ok_142 : okw (mw mX4_lastRotations) := ⟨List.mem_of_getElem? (i := 142) (by decide +kernel), by decide +kernel⟩
theorem ok_140 : okw (.instanceMethod yX4_lastRotations) := ⟨List.mem_of_getElem? (i := 140) (by decide +kernel), by decide +kernel⟩
theorem ok_141 : okw (.selects yX4_lastRotations.cls yX4_lastRotations yX4_lastRotations) := ⟨List.mem_of_getElem? (i := 141) (by decide +kernel), by decide +kernel⟩
theorem okc_X4_lastRotations : okV mX4_lastRotations 4 0 := ⟨ok_142, ok_140, ok_141, ok_37, rfl, ⟨_, rfl, rfl⟩, by decide, by decide +kernel, by decide +kernel⟩
theorem ok_146 : okw (mw mX4_steps) := ⟨List.mem_of_getElem? (i := 146) (by decide +kernel), by decide +kernel⟩
theorem ok_144 : okw (.instanceMethod yX4_steps) := ⟨List.mem_of_getElem? (i := 144) (by decide +kernel), by decide +kernel⟩
theorem ok_145 : okw (.selects yX4_steps.cls yX4_steps yX4_steps) := ⟨List.mem_of_getElem? (i := 145) (by decide +kernel), by decide +kernel⟩
theorem okc_X4_steps : okV mX4_steps 4 0 := ⟨ok_146, ok_144, ok_145, ok_37, rfl, ⟨_, rfl, rfl⟩, by decide, by decide +kernel, by decide +kernel⟩
theorem ok_150 : okw (mw mX4_splays) := ⟨List.mem_of_getElem? (i := 150) (by decide +kernel), by decide +kernel⟩
theorem ok_148 : okw (.instanceMethod yX4_splays) := ⟨List.mem_of_getElem? (i := 148) (by decide +kernel), by decide +kernel⟩
theorem ok_149 : okw (.selects yX4_splays.cls yX4_splays yX4_splays) := ⟨List.mem_of_getElem? (i := 149) (by decide +kernel), by decide +kernel⟩
theorem okc_X4_splays : okV mX4_splays 4 0 := ⟨ok_150, ok_148, ok_149, ok_37, rfl, ⟨_, rfl, rfl⟩, by decide, by decide +kernel, by decide +kernel⟩
theorem ok_154 : okw (mw mX4_potential) := ⟨List.mem_of_getElem? (i := 154) (by decide +kernel), by decide +kernel⟩
theorem ok_152 : okw (.instanceMethod yX4_potential) := ⟨List.mem_of_getElem? (i := 152) (by decide +kernel), by decide +kernel⟩
theorem ok_153 : okw (.selects yX4_potential.cls yX4_potential yX4_potential) := ⟨List.mem_of_getElem? (i := 153) (by decide +kernel), by decide +kernel⟩
theorem okc_X4_potential : okV mX4_potential 4 0 := ⟨ok_154, ok_152, ok_153, ok_37, rfl, ⟨_, rfl, rfl⟩, by decide, by decide +kernel, by decide +kernel⟩
theorem ok_180 : okw (mw mX4_size) := ⟨List.mem_of_getElem? (i := 180) (by decide +kernel), by decide +kernel⟩
theorem ok_178 : okw (.instanceMethod yX4_size) := ⟨List.mem_of_getElem? (i := 178) (by decide +kernel), by decide +kernel⟩
theorem ok_179 : okw (.selects yX4_size.cls yX4_size yX4_size) := ⟨List.mem_of_getElem? (i := 179) (by decide +kernel), by decide +kernel⟩
theorem okc_X4_size : okV mX4_size 4 0 := ⟨ok_180, ok_178, ok_179, ok_37, rfl, ⟨_, rfl, rfl⟩, by decide, by decide +kernel, by decide +kernel⟩
theorem ok_185 : okw (mw mX4_clipped) := ⟨List.mem_of_getElem? (i := 185) (by decide +kernel), by decide +kernel⟩
theorem ok_183 : okw (.instanceMethod yX4_clipped) := ⟨List.mem_of_getElem? (i := 183) (by decide +kernel), by decide +kernel⟩
theorem ok_184 : okw (.selects yX4_clipped.cls yX4_clipped yX4_clipped) := ⟨List.mem_of_getElem? (i := 184) (by decide +kernel), by decide +kernel⟩
theorem okc_X4_clipped : okV mX4_clipped 4 0 := ⟨ok_185, ok_183, ok_184, ok_37, rfl, ⟨_, rfl, rfl⟩, by decide, by decide +kernel, by decide +kernel⟩
theorem ok_189 : okw (mw mX4_root) := ⟨List.mem_of_getElem? (i := 189) (by decide +kernel), by decide +kernel⟩
theorem ok_187 : okw (.instanceMethod yX4_root) := ⟨List.mem_of_getElem? (i := 187) (by decide +kernel), by decide +kernel⟩
theorem ok_188 : okw (.selects yX4_root.cls yX4_root yX4_root) := ⟨List.mem_of_getElem? (i := 188) (by decide +kernel), by decide +kernel⟩
theorem okc_X4_root : okV mX4_root 4 0 := ⟨ok_189, ok_187, ok_188, ok_37, rfl, ⟨_, rfl, rfl⟩, by decide, by decide +kernel, by decide +kernel⟩
theorem ok_201 : okw (mw mX4_height) := ⟨List.mem_of_getElem? (i := 201) (by decide +kernel), by decide +kernel⟩
theorem ok_199 : okw (.instanceMethod yX4_height) := ⟨List.mem_of_getElem? (i := 199) (by decide +kernel), by decide +kernel⟩
theorem ok_200 : okw (.selects yX4_height.cls yX4_height yX4_height) := ⟨List.mem_of_getElem? (i := 200) (by decide +kernel), by decide +kernel⟩
theorem okc_X4_height : okV mX4_height 4 0 := ⟨ok_201, ok_199, ok_200, ok_37, rfl, ⟨_, rfl, rfl⟩, by decide, by decide +kernel, by decide +kernel⟩
theorem ok_605 : okw (mw mX4_depth) := ⟨List.mem_of_getElem? (i := 605) (by decide +kernel), by decide +kernel⟩
theorem ok_603 : okw (.instanceMethod yX4_depth) := ⟨List.mem_of_getElem? (i := 603) (by decide +kernel), by decide +kernel⟩
theorem ok_604 : okw (.selects yX4_depth.cls yX4_depth yX4_depth) := ⟨List.mem_of_getElem? (i := 604) (by decide +kernel), by decide +kernel⟩
theorem okc_X4_depth : okV mX4_depth 4 1 := ⟨ok_605, ok_603, ok_604, ok_37, rfl, ⟨_, rfl, rfl⟩, by decide, by decide +kernel, by decide +kernel⟩
theorem ok_613 : okw (mw mX4_subtree) := ⟨List.mem_of_getElem? (i := 613) (by decide +kernel), by decide +kernel⟩
theorem ok_611 : okw (.instanceMethod yX4_subtree) := ⟨List.mem_of_getElem? (i := 611) (by decide +kernel), by decide +kernel⟩
theorem ok_612 : okw (.selects yX4_subtree.cls yX4_subtree yX4_subtree) := ⟨List.mem_of_getElem? (i := 612) (by decide +kernel), by decide +kernel⟩
theorem okc_X4_subtree : okV mX4_subtree 4 1 := ⟨ok_613, ok_611, ok_612, ok_37, rfl, ⟨_, rfl, rfl⟩, by decide, by decide +kernel, by decide +kernel⟩
theorem ok_620 : okw (mw mX4_child) := ⟨List.mem_of_getElem? (i := 620) (by decide +kernel), by decide +kernel⟩
theorem ok_618 : okw (.instanceMethod yX4_child) := ⟨List.mem_of_getElem? (i := 618) (by decide +kernel), by decide +kernel⟩
theorem ok_619 : okw (.selects yX4_child.cls yX4_child yX4_child) := ⟨List.mem_of_getElem? (i := 619) (by decide +kernel), by decide +kernel⟩
theorem okc_X4_child : okV mX4_child 4 2 := ⟨ok_620, ok_618, ok_619, ok_37, rfl, ⟨_, rfl, rfl⟩, by decide, by decide +kernel, by decide +kernel⟩
theorem ok_627 : okw (mw mX4_whereIs) := ⟨List.mem_of_getElem? (i := 627) (by decide +kernel), by decide +kernel⟩
theorem ok_625 : okw (.instanceMethod yX4_whereIs) := ⟨List.mem_of_getElem? (i := 625) (by decide +kernel), by decide +kernel⟩
theorem ok_626 : okw (.selects yX4_whereIs.cls yX4_whereIs yX4_whereIs) := ⟨List.mem_of_getElem? (i := 626) (by decide +kernel), by decide +kernel⟩
theorem okc_X4_whereIs : okV mX4_whereIs 4 1 := ⟨ok_627, ok_625, ok_626, ok_37, rfl, ⟨_, rfl, rfl⟩, by decide, by decide +kernel, by decide +kernel⟩
theorem ok_634 : okw (mw mX4_plain) := ⟨List.mem_of_getElem? (i := 634) (by decide +kernel), by decide +kernel⟩
theorem ok_632 : okw (.instanceMethod yX4_plain) := ⟨List.mem_of_getElem? (i := 632) (by decide +kernel), by decide +kernel⟩
theorem ok_633 : okw (.selects yX4_plain.cls yX4_plain yX4_plain) := ⟨List.mem_of_getElem? (i := 633) (by decide +kernel), by decide +kernel⟩
theorem okc_X4_plain : okV mX4_plain 4 1 := ⟨ok_634, ok_632, ok_633, ok_37, rfl, ⟨_, rfl, rfl⟩, by decide, by decide +kernel, by decide +kernel⟩
theorem ok_645 : okw (mw mX4_plainSum) := ⟨List.mem_of_getElem? (i := 645) (by decide +kernel), by decide +kernel⟩
theorem ok_643 : okw (.instanceMethod yX4_plainSum) := ⟨List.mem_of_getElem? (i := 643) (by decide +kernel), by decide +kernel⟩
theorem ok_644 : okw (.selects yX4_plainSum.cls yX4_plainSum yX4_plainSum) := ⟨List.mem_of_getElem? (i := 644) (by decide +kernel), by decide +kernel⟩
theorem okc_X4_plainSum : okV mX4_plainSum 4 2 := ⟨ok_645, ok_643, ok_644, ok_37, rfl, ⟨_, rfl, rfl⟩, by decide, by decide +kernel, by decide +kernel⟩
theorem ok_420 : okw (mw mX4_nodeAt) := ⟨List.mem_of_getElem? (i := 420) (by decide +kernel), by decide +kernel⟩
theorem ok_419 : okw (.instanceMethod yX4_nodeAt) := ⟨List.mem_of_getElem? (i := 419) (by decide +kernel), by decide +kernel⟩
theorem ok_3 : okw (.selects yX4_nodeAt.cls yX4_nodeAt yX4_nodeAt) := ⟨List.mem_of_getElem? (i := 3) (by decide +kernel), by decide +kernel⟩
theorem okc_X4_nodeAt : okV mX4_nodeAt 4 1 := ⟨ok_420, ok_419, ok_3, ok_37, rfl, ⟨_, rfl, rfl⟩, by decide, by decide +kernel, by decide +kernel⟩
theorem ok_226 : okw (mw mX4_checkGap) := ⟨List.mem_of_getElem? (i := 226) (by decide +kernel), by decide +kernel⟩
theorem ok_225 : okw (.instanceMethod yX4_checkGap) := ⟨List.mem_of_getElem? (i := 225) (by decide +kernel), by decide +kernel⟩
theorem ok_0 : okw (.selects yX4_checkGap.cls yX4_checkGap yX4_checkGap) := ⟨List.mem_of_getElem? (i := 0) (by decide +kernel), by decide +kernel⟩
theorem okc_X4_checkGap : okV mX4_checkGap 4 1 := ⟨ok_226, ok_225, ok_0, ok_37, rfl, ⟨_, rfl, rfl⟩, by decide, by decide +kernel, by decide +kernel⟩
theorem ok_473 : okw (mw mX4_checkRange) := ⟨List.mem_of_getElem? (i := 473) (by decide +kernel), by decide +kernel⟩
theorem ok_472 : okw (.instanceMethod yX4_checkRange) := ⟨List.mem_of_getElem? (i := 472) (by decide +kernel), by decide +kernel⟩
theorem ok_5 : okw (.selects yX4_checkRange.cls yX4_checkRange yX4_checkRange) := ⟨List.mem_of_getElem? (i := 5) (by decide +kernel), by decide +kernel⟩
theorem okc_X4_checkRange : okV mX4_checkRange 4 2 := ⟨ok_473, ok_472, ok_5, ok_37, rfl, ⟨_, rfl, rfl⟩, by decide, by decide +kernel, by decide +kernel⟩
theorem ok_573 : okw (mw mX4_checkFinger) := ⟨List.mem_of_getElem? (i := 573) (by decide +kernel), by decide +kernel⟩
theorem ok_572 : okw (.instanceMethod yX4_checkFinger) := ⟨List.mem_of_getElem? (i := 572) (by decide +kernel), by decide +kernel⟩
theorem ok_9 : okw (.selects yX4_checkFinger.cls yX4_checkFinger yX4_checkFinger) := ⟨List.mem_of_getElem? (i := 9) (by decide +kernel), by decide +kernel⟩
theorem okc_X4_checkFinger : okV mX4_checkFinger 4 1 := ⟨ok_573, ok_572, ok_9, ok_37, rfl, ⟨_, rfl, rfl⟩, by decide, by decide +kernel, by decide +kernel⟩
theorem ok_297 : okw (mw mX4_checkAmount) := ⟨List.mem_of_getElem? (i := 297) (by decide +kernel), by decide +kernel⟩
theorem ok_296 : okw (.static yX4_checkAmount) := ⟨List.mem_of_getElem? (i := 296) (by decide +kernel), by decide +kernel⟩
theorem okc_X4_checkAmount : okS mX4_checkAmount 1 := ⟨ok_297, ok_296, ok_37, by decide +kernel, by decide +kernel⟩
theorem ok_192 : okw (mw mX4_positionOrNone) := ⟨List.mem_of_getElem? (i := 192) (by decide +kernel), by decide +kernel⟩
theorem ok_191 : okw (.static yX4_positionOrNone) := ⟨List.mem_of_getElem? (i := 191) (by decide +kernel), by decide +kernel⟩
theorem okc_X4_positionOrNone : okS mX4_positionOrNone 1 := ⟨ok_192, ok_191, ok_37, by decide +kernel, by decide +kernel⟩
theorem ok_440 : okw (mw mX4_liftFingersFrom) := ⟨List.mem_of_getElem? (i := 440) (by decide +kernel), by decide +kernel⟩
theorem ok_439 : okw (.instanceMethod yX4_liftFingersFrom) := ⟨List.mem_of_getElem? (i := 439) (by decide +kernel), by decide +kernel⟩
theorem ok_4 : okw (.selects yX4_liftFingersFrom.cls yX4_liftFingersFrom yX4_liftFingersFrom) := ⟨List.mem_of_getElem? (i := 4) (by decide +kernel), by decide +kernel⟩
theorem okc_X4_liftFingersFrom : okV mX4_liftFingersFrom 4 1 := ⟨ok_440, ok_439, ok_4, ok_37, rfl, ⟨_, rfl, rfl⟩, by decide, by decide +kernel, by decide +kernel⟩
theorem ok_478 : okw (mw mX4_takeRange) := ⟨List.mem_of_getElem? (i := 478) (by decide +kernel), by decide +kernel⟩
theorem ok_477 : okw (.instanceMethod yX4_takeRange) := ⟨List.mem_of_getElem? (i := 477) (by decide +kernel), by decide +kernel⟩
theorem ok_6 : okw (.selects yX4_takeRange.cls yX4_takeRange yX4_takeRange) := ⟨List.mem_of_getElem? (i := 6) (by decide +kernel), by decide +kernel⟩
theorem okc_X4_takeRange : okV mX4_takeRange 4 2 := ⟨ok_478, ok_477, ok_6, ok_37, rfl, ⟨_, rfl, rfl⟩, by decide, by decide +kernel, by decide +kernel⟩
theorem ok_490 : okw (mw mX4_putRangeBack) := ⟨List.mem_of_getElem? (i := 490) (by decide +kernel), by decide +kernel⟩
theorem ok_489 : okw (.instanceMethod yX4_putRangeBack) := ⟨List.mem_of_getElem? (i := 489) (by decide +kernel), by decide +kernel⟩
theorem ok_7 : okw (.selects yX4_putRangeBack.cls yX4_putRangeBack yX4_putRangeBack) := ⟨List.mem_of_getElem? (i := 7) (by decide +kernel), by decide +kernel⟩
theorem okc_X4_putRangeBack : okV mX4_putRangeBack 4 0 := ⟨ok_490, ok_489, ok_7, ok_37, rfl, ⟨_, rfl, rfl⟩, by decide, by decide +kernel, by decide +kernel⟩
theorem ok_654 : okw (mw mX5_init) := ⟨List.mem_of_getElem? (i := 654) (by decide +kernel), by decide +kernel⟩
theorem ok_653 : okw (.instanceMethod yX5_init) := ⟨List.mem_of_getElem? (i := 653) (by decide +kernel), by decide +kernel⟩
theorem okc_X5_init : okw (mw mX5_init) ∧ okw (.instanceMethod yX5_init) ∧ okw (.initialized yX5_init.cls) := ⟨ok_654, ok_653, ok_41⟩
theorem ok_721 : okw (mw mX5_thrown) := ⟨List.mem_of_getElem? (i := 721) (by decide +kernel), by decide +kernel⟩
theorem ok_719 : okw (.instanceMethod yX5_thrown) := ⟨List.mem_of_getElem? (i := 719) (by decide +kernel), by decide +kernel⟩
theorem ok_720 : okw (.selects yX5_thrown.cls yX5_thrown yX5_thrown) := ⟨List.mem_of_getElem? (i := 720) (by decide +kernel), by decide +kernel⟩
theorem okc_X5_thrown : okV mX5_thrown 5 0 := ⟨ok_721, ok_719, ok_720, ok_41, rfl, ⟨_, rfl, rfl⟩, by decide, by decide +kernel, by decide +kernel⟩
theorem ok_752 : okw (mw mX5_goesWell) := ⟨List.mem_of_getElem? (i := 752) (by decide +kernel), by decide +kernel⟩
theorem ok_751 : okw (.instanceMethod yX5_goesWell) := ⟨List.mem_of_getElem? (i := 751) (by decide +kernel), by decide +kernel⟩
theorem ok_15 : okw (.selects yX5_goesWell.cls yX5_goesWell yX5_goesWell) := ⟨List.mem_of_getElem? (i := 15) (by decide +kernel), by decide +kernel⟩
theorem okc_X5_goesWell : okV mX5_goesWell 5 1 := ⟨ok_752, ok_751, ok_15, ok_41, rfl, ⟨_, rfl, rfl⟩, by decide, by decide +kernel, by decide +kernel⟩
theorem ok_741 : okw (mw mX5_leftmost) := ⟨List.mem_of_getElem? (i := 741) (by decide +kernel), by decide +kernel⟩
theorem ok_740 : okw (.instanceMethod yX5_leftmost) := ⟨List.mem_of_getElem? (i := 740) (by decide +kernel), by decide +kernel⟩
theorem ok_13 : okw (.selects yX5_leftmost.cls yX5_leftmost yX5_leftmost) := ⟨List.mem_of_getElem? (i := 13) (by decide +kernel), by decide +kernel⟩
theorem okc_X5_leftmost : okV mX5_leftmost 5 1 := ⟨ok_741, ok_740, ok_13, ok_41, rfl, ⟨_, rfl, rfl⟩, by decide, by decide +kernel, by decide +kernel⟩
theorem ok_792 : okw (mw mX5_rightmost) := ⟨List.mem_of_getElem? (i := 792) (by decide +kernel), by decide +kernel⟩
theorem ok_791 : okw (.instanceMethod yX5_rightmost) := ⟨List.mem_of_getElem? (i := 791) (by decide +kernel), by decide +kernel⟩
theorem ok_24 : okw (.selects yX5_rightmost.cls yX5_rightmost yX5_rightmost) := ⟨List.mem_of_getElem? (i := 24) (by decide +kernel), by decide +kernel⟩
theorem okc_X5_rightmost : okV mX5_rightmost 5 1 := ⟨ok_792, ok_791, ok_24, ok_41, rfl, ⟨_, rfl, rfl⟩, by decide, by decide +kernel, by decide +kernel⟩
theorem ok_745 : okw (mw mX5_following) := ⟨List.mem_of_getElem? (i := 745) (by decide +kernel), by decide +kernel⟩
theorem ok_744 : okw (.instanceMethod yX5_following) := ⟨List.mem_of_getElem? (i := 744) (by decide +kernel), by decide +kernel⟩
theorem ok_14 : okw (.selects yX5_following.cls yX5_following yX5_following) := ⟨List.mem_of_getElem? (i := 14) (by decide +kernel), by decide +kernel⟩
theorem okc_X5_following : okV mX5_following 5 1 := ⟨ok_745, ok_744, ok_14, ok_41, rfl, ⟨_, rfl, rfl⟩, by decide, by decide +kernel, by decide +kernel⟩
theorem ok_737 : okw (mw mX5_layOrder) := ⟨List.mem_of_getElem? (i := 737) (by decide +kernel), by decide +kernel⟩
theorem ok_736 : okw (.instanceMethod yX5_layOrder) := ⟨List.mem_of_getElem? (i := 736) (by decide +kernel), by decide +kernel⟩
theorem ok_12 : okw (.selects yX5_layOrder.cls yX5_layOrder yX5_layOrder) := ⟨List.mem_of_getElem? (i := 12) (by decide +kernel), by decide +kernel⟩
theorem okc_X5_layOrder : okV mX5_layOrder 5 1 := ⟨ok_737, ok_736, ok_12, ok_41, rfl, ⟨_, rfl, rfl⟩, by decide, by decide +kernel, by decide +kernel⟩
theorem ok_733 : okw (mw mX5_sizeOf) := ⟨List.mem_of_getElem? (i := 733) (by decide +kernel), by decide +kernel⟩
theorem ok_732 : okw (.instanceMethod yX5_sizeOf) := ⟨List.mem_of_getElem? (i := 732) (by decide +kernel), by decide +kernel⟩
theorem ok_11 : okw (.selects yX5_sizeOf.cls yX5_sizeOf yX5_sizeOf) := ⟨List.mem_of_getElem? (i := 11) (by decide +kernel), by decide +kernel⟩
theorem okc_X5_sizeOf : okV mX5_sizeOf 5 1 := ⟨ok_733, ok_732, ok_11, ok_41, rfl, ⟨_, rfl, rfl⟩, by decide, by decide +kernel, by decide +kernel⟩
theorem ok_764 : okw (mw mX5_nodeAt) := ⟨List.mem_of_getElem? (i := 764) (by decide +kernel), by decide +kernel⟩
theorem ok_763 : okw (.instanceMethod yX5_nodeAt) := ⟨List.mem_of_getElem? (i := 763) (by decide +kernel), by decide +kernel⟩
theorem ok_18 : okw (.selects yX5_nodeAt.cls yX5_nodeAt yX5_nodeAt) := ⟨List.mem_of_getElem? (i := 18) (by decide +kernel), by decide +kernel⟩
theorem okc_X5_nodeAt : okV mX5_nodeAt 5 2 := ⟨ok_764, ok_763, ok_18, ok_41, rfl, ⟨_, rfl, rfl⟩, by decide, by decide +kernel, by decide +kernel⟩
theorem ok_863 : okw (mw mX5_rootOf) := ⟨List.mem_of_getElem? (i := 863) (by decide +kernel), by decide +kernel⟩
theorem ok_862 : okw (.instanceMethod yX5_rootOf) := ⟨List.mem_of_getElem? (i := 862) (by decide +kernel), by decide +kernel⟩
theorem ok_31 : okw (.selects yX5_rootOf.cls yX5_rootOf yX5_rootOf) := ⟨List.mem_of_getElem? (i := 31) (by decide +kernel), by decide +kernel⟩
theorem okc_X5_rootOf : okV mX5_rootOf 5 1 := ⟨ok_863, ok_862, ok_31, ok_41, rfl, ⟨_, rfl, rfl⟩, by decide, by decide +kernel, by decide +kernel⟩
theorem ok_867 : okw (mw mX5_placeOf) := ⟨List.mem_of_getElem? (i := 867) (by decide +kernel), by decide +kernel⟩
theorem ok_866 : okw (.instanceMethod yX5_placeOf) := ⟨List.mem_of_getElem? (i := 866) (by decide +kernel), by decide +kernel⟩
theorem ok_32 : okw (.selects yX5_placeOf.cls yX5_placeOf yX5_placeOf) := ⟨List.mem_of_getElem? (i := 32) (by decide +kernel), by decide +kernel⟩
theorem okc_X5_placeOf : okV mX5_placeOf 5 1 := ⟨ok_867, ok_866, ok_32, ok_41, rfl, ⟨_, rfl, rfl⟩, by decide, by decide +kernel, by decide +kernel⟩
theorem ok_923 : okw (mw mX5_depthOf) := ⟨List.mem_of_getElem? (i := 923) (by decide +kernel), by decide +kernel⟩
theorem ok_922 : okw (.instanceMethod yX5_depthOf) := ⟨List.mem_of_getElem? (i := 922) (by decide +kernel), by decide +kernel⟩
theorem ok_35 : okw (.selects yX5_depthOf.cls yX5_depthOf yX5_depthOf) := ⟨List.mem_of_getElem? (i := 35) (by decide +kernel), by decide +kernel⟩
theorem okc_X5_depthOf : okV mX5_depthOf 5 1 := ⟨ok_923, ok_922, ok_35, ok_41, rfl, ⟨_, rfl, rfl⟩, by decide, by decide +kernel, by decide +kernel⟩
theorem ok_900 : okw (mw mX5_below) := ⟨List.mem_of_getElem? (i := 900) (by decide +kernel), by decide +kernel⟩
theorem ok_899 : okw (.instanceMethod yX5_below) := ⟨List.mem_of_getElem? (i := 899) (by decide +kernel), by decide +kernel⟩
theorem ok_34 : okw (.selects yX5_below.cls yX5_below yX5_below) := ⟨List.mem_of_getElem? (i := 34) (by decide +kernel), by decide +kernel⟩
theorem okc_X5_below : okV mX5_below 5 1 := ⟨ok_900, ok_899, ok_34, ok_41, rfl, ⟨_, rfl, rfl⟩, by decide, by decide +kernel, by decide +kernel⟩
theorem ok_776 : okw (mw mX5_hang) := ⟨List.mem_of_getElem? (i := 776) (by decide +kernel), by decide +kernel⟩
theorem ok_775 : okw (.instanceMethod yX5_hang) := ⟨List.mem_of_getElem? (i := 775) (by decide +kernel), by decide +kernel⟩
theorem ok_21 : okw (.selects yX5_hang.cls yX5_hang yX5_hang) := ⟨List.mem_of_getElem? (i := 21) (by decide +kernel), by decide +kernel⟩
theorem okc_X5_hang : okV mX5_hang 5 3 := ⟨ok_776, ok_775, ok_21, ok_41, rfl, ⟨_, rfl, rfl⟩, by decide, by decide +kernel, by decide +kernel⟩
theorem ok_772 : okw (mw mX5_rotate) := ⟨List.mem_of_getElem? (i := 772) (by decide +kernel), by decide +kernel⟩
theorem ok_771 : okw (.instanceMethod yX5_rotate) := ⟨List.mem_of_getElem? (i := 771) (by decide +kernel), by decide +kernel⟩
theorem ok_20 : okw (.selects yX5_rotate.cls yX5_rotate yX5_rotate) := ⟨List.mem_of_getElem? (i := 20) (by decide +kernel), by decide +kernel⟩
theorem okc_X5_rotate : okV mX5_rotate 5 1 := ⟨ok_772, ok_771, ok_20, ok_41, rfl, ⟨_, rfl, rfl⟩, by decide, by decide +kernel, by decide +kernel⟩
theorem ok_768 : okw (mw mX5_splay) := ⟨List.mem_of_getElem? (i := 768) (by decide +kernel), by decide +kernel⟩
theorem ok_767 : okw (.instanceMethod yX5_splay) := ⟨List.mem_of_getElem? (i := 767) (by decide +kernel), by decide +kernel⟩
theorem ok_19 : okw (.selects yX5_splay.cls yX5_splay yX5_splay) := ⟨List.mem_of_getElem? (i := 19) (by decide +kernel), by decide +kernel⟩
theorem okc_X5_splay : okV mX5_splay 5 1 := ⟨ok_768, ok_767, ok_19, ok_41, rfl, ⟨_, rfl, rfl⟩, by decide, by decide +kernel, by decide +kernel⟩
theorem ok_756 : okw (mw mX5_begins) := ⟨List.mem_of_getElem? (i := 756) (by decide +kernel), by decide +kernel⟩
theorem ok_755 : okw (.instanceMethod yX5_begins) := ⟨List.mem_of_getElem? (i := 755) (by decide +kernel), by decide +kernel⟩
theorem ok_16 : okw (.selects yX5_begins.cls yX5_begins yX5_begins) := ⟨List.mem_of_getElem? (i := 16) (by decide +kernel), by decide +kernel⟩
theorem okc_X5_begins : okV mX5_begins 5 0 := ⟨ok_756, ok_755, ok_16, ok_41, rfl, ⟨_, rfl, rfl⟩, by decide, by decide +kernel, by decide +kernel⟩
theorem ok_760 : okw (mw mX5_split) := ⟨List.mem_of_getElem? (i := 760) (by decide +kernel), by decide +kernel⟩
theorem ok_759 : okw (.instanceMethod yX5_split) := ⟨List.mem_of_getElem? (i := 759) (by decide +kernel), by decide +kernel⟩
theorem ok_17 : okw (.selects yX5_split.cls yX5_split yX5_split) := ⟨List.mem_of_getElem? (i := 17) (by decide +kernel), by decide +kernel⟩
theorem okc_X5_split : okV mX5_split 5 2 := ⟨ok_760, ok_759, ok_17, ok_41, rfl, ⟨_, rfl, rfl⟩, by decide, by decide +kernel, by decide +kernel⟩
theorem ok_788 : okw (mw mX5_join) := ⟨List.mem_of_getElem? (i := 788) (by decide +kernel), by decide +kernel⟩
theorem ok_787 : okw (.instanceMethod yX5_join) := ⟨List.mem_of_getElem? (i := 787) (by decide +kernel), by decide +kernel⟩
theorem ok_23 : okw (.selects yX5_join.cls yX5_join yX5_join) := ⟨List.mem_of_getElem? (i := 23) (by decide +kernel), by decide +kernel⟩
theorem okc_X5_join : okV mX5_join 5 2 := ⟨ok_788, ok_787, ok_23, ok_41, rfl, ⟨_, rfl, rfl⟩, by decide, by decide +kernel, by decide +kernel⟩
theorem ok_729 : okw (mw mX5_count) := ⟨List.mem_of_getElem? (i := 729) (by decide +kernel), by decide +kernel⟩
theorem ok_728 : okw (.instanceMethod yX5_count) := ⟨List.mem_of_getElem? (i := 728) (by decide +kernel), by decide +kernel⟩
theorem ok_10 : okw (.selects yX5_count.cls yX5_count yX5_count) := ⟨List.mem_of_getElem? (i := 10) (by decide +kernel), by decide +kernel⟩
theorem okc_X5_count : okV mX5_count 5 0 := ⟨ok_729, ok_728, ok_10, ok_41, rfl, ⟨_, rfl, rfl⟩, by decide, by decide +kernel, by decide +kernel⟩
theorem ok_784 : okw (mw mX5_isPlace) := ⟨List.mem_of_getElem? (i := 784) (by decide +kernel), by decide +kernel⟩
theorem ok_783 : okw (.instanceMethod yX5_isPlace) := ⟨List.mem_of_getElem? (i := 783) (by decide +kernel), by decide +kernel⟩
theorem ok_22 : okw (.selects yX5_isPlace.cls yX5_isPlace yX5_isPlace) := ⟨List.mem_of_getElem? (i := 22) (by decide +kernel), by decide +kernel⟩
theorem okc_X5_isPlace : okV mX5_isPlace 5 1 := ⟨ok_784, ok_783, ok_22, ok_41, rfl, ⟨_, rfl, rfl⟩, by decide, by decide +kernel, by decide +kernel⟩
theorem ok_812 : okw (mw mX5_isRange) := ⟨List.mem_of_getElem? (i := 812) (by decide +kernel), by decide +kernel⟩
theorem ok_811 : okw (.instanceMethod yX5_isRange) := ⟨List.mem_of_getElem? (i := 811) (by decide +kernel), by decide +kernel⟩
theorem ok_26 : okw (.selects yX5_isRange.cls yX5_isRange yX5_isRange) := ⟨List.mem_of_getElem? (i := 26) (by decide +kernel), by decide +kernel⟩
theorem okc_X5_isRange : okV mX5_isRange 5 2 := ⟨ok_812, ok_811, ok_26, ok_41, rfl, ⟨_, rfl, rfl⟩, by decide, by decide +kernel, by decide +kernel⟩
theorem ok_748 : okw (mw mX5_isValue) := ⟨List.mem_of_getElem? (i := 748) (by decide +kernel), by decide +kernel⟩
theorem ok_747 : okw (.static yX5_isValue) := ⟨List.mem_of_getElem? (i := 747) (by decide +kernel), by decide +kernel⟩
theorem okc_X5_isValue : okS mX5_isValue 1 := ⟨ok_748, ok_747, ok_41, by decide +kernel, by decide +kernel⟩
theorem ok_851 : okw (mw mX5_isFinger) := ⟨List.mem_of_getElem? (i := 851) (by decide +kernel), by decide +kernel⟩
theorem ok_850 : okw (.static yX5_isFinger) := ⟨List.mem_of_getElem? (i := 850) (by decide +kernel), by decide +kernel⟩
theorem okc_X5_isFinger : okS mX5_isFinger 1 := ⟨ok_851, ok_850, ok_41, by decide +kernel, by decide +kernel⟩
theorem ok_725 : okw (mw mX5_insert) := ⟨List.mem_of_getElem? (i := 725) (by decide +kernel), by decide +kernel⟩
theorem ok_723 : okw (.instanceMethod yX5_insert) := ⟨List.mem_of_getElem? (i := 723) (by decide +kernel), by decide +kernel⟩
theorem ok_724 : okw (.selects yX5_insert.cls yX5_insert yX5_insert) := ⟨List.mem_of_getElem? (i := 724) (by decide +kernel), by decide +kernel⟩
theorem okc_X5_insert : okV mX5_insert 5 2 := ⟨ok_725, ok_723, ok_724, ok_41, rfl, ⟨_, rfl, rfl⟩, by decide, by decide +kernel, by decide +kernel⟩
theorem ok_780 : okw (mw mX5_remove) := ⟨List.mem_of_getElem? (i := 780) (by decide +kernel), by decide +kernel⟩
theorem ok_778 : okw (.instanceMethod yX5_remove) := ⟨List.mem_of_getElem? (i := 778) (by decide +kernel), by decide +kernel⟩
theorem ok_779 : okw (.selects yX5_remove.cls yX5_remove yX5_remove) := ⟨List.mem_of_getElem? (i := 779) (by decide +kernel), by decide +kernel⟩
theorem okc_X5_remove : okV mX5_remove 5 1 := ⟨ok_780, ok_778, ok_779, ok_41, rfl, ⟨_, rfl, rfl⟩, by decide, by decide +kernel, by decide +kernel⟩
theorem ok_800 : okw (mw mX5_raiseUp) := ⟨List.mem_of_getElem? (i := 800) (by decide +kernel), by decide +kernel⟩
theorem ok_799 : okw (.instanceMethod yX5_raiseUp) := ⟨List.mem_of_getElem? (i := 799) (by decide +kernel), by decide +kernel⟩
theorem ok_25 : okw (.selects yX5_raiseUp.cls yX5_raiseUp yX5_raiseUp) := ⟨List.mem_of_getElem? (i := 25) (by decide +kernel), by decide +kernel⟩
theorem okc_X5_raiseUp : okV mX5_raiseUp 5 1 := ⟨ok_800, ok_799, ok_25, ok_41, rfl, ⟨_, rfl, rfl⟩, by decide, by decide +kernel, by decide +kernel⟩
theorem ok_796 : okw (mw mX5_get) := ⟨List.mem_of_getElem? (i := 796) (by decide +kernel), by decide +kernel⟩
theorem ok_794 : okw (.instanceMethod yX5_get) := ⟨List.mem_of_getElem? (i := 794) (by decide +kernel), by decide +kernel⟩
theorem ok_795 : okw (.selects yX5_get.cls yX5_get yX5_get) := ⟨List.mem_of_getElem? (i := 795) (by decide +kernel), by decide +kernel⟩
theorem okc_X5_get : okV mX5_get 5 1 := ⟨ok_796, ok_794, ok_795, ok_41, rfl, ⟨_, rfl, rfl⟩, by decide, by decide +kernel, by decide +kernel⟩
theorem ok_804 : okw (mw mX5_set) := ⟨List.mem_of_getElem? (i := 804) (by decide +kernel), by decide +kernel⟩
theorem ok_802 : okw (.instanceMethod yX5_set) := ⟨List.mem_of_getElem? (i := 802) (by decide +kernel), by decide +kernel⟩
theorem ok_803 : okw (.selects yX5_set.cls yX5_set yX5_set) := ⟨List.mem_of_getElem? (i := 803) (by decide +kernel), by decide +kernel⟩
theorem okc_X5_set : okV mX5_set 5 2 := ⟨ok_804, ok_802, ok_803, ok_41, rfl, ⟨_, rfl, rfl⟩, by decide, by decide +kernel, by decide +kernel⟩
theorem ok_816 : okw (mw mX5_open) := ⟨List.mem_of_getElem? (i := 816) (by decide +kernel), by decide +kernel⟩
theorem ok_815 : okw (.instanceMethod yX5_open) := ⟨List.mem_of_getElem? (i := 815) (by decide +kernel), by decide +kernel⟩
theorem ok_27 : okw (.selects yX5_open.cls yX5_open yX5_open) := ⟨List.mem_of_getElem? (i := 27) (by decide +kernel), by decide +kernel⟩
theorem okc_X5_open : okV mX5_open 5 2 := ⟨ok_816, ok_815, ok_27, ok_41, rfl, ⟨_, rfl, rfl⟩, by decide, by decide +kernel, by decide +kernel⟩
theorem ok_824 : okw (mw mX5_close) := ⟨List.mem_of_getElem? (i := 824) (by decide +kernel), by decide +kernel⟩
theorem ok_823 : okw (.instanceMethod yX5_close) := ⟨List.mem_of_getElem? (i := 823) (by decide +kernel), by decide +kernel⟩
theorem ok_29 : okw (.selects yX5_close.cls yX5_close yX5_close) := ⟨List.mem_of_getElem? (i := 29) (by decide +kernel), by decide +kernel⟩
theorem okc_X5_close : okV mX5_close 5 0 := ⟨ok_824, ok_823, ok_29, ok_41, rfl, ⟨_, rfl, rfl⟩, by decide, by decide +kernel, by decide +kernel⟩
theorem ok_820 : okw (mw mX5_turnRound) := ⟨List.mem_of_getElem? (i := 820) (by decide +kernel), by decide +kernel⟩
theorem ok_819 : okw (.instanceMethod yX5_turnRound) := ⟨List.mem_of_getElem? (i := 819) (by decide +kernel), by decide +kernel⟩
theorem ok_28 : okw (.selects yX5_turnRound.cls yX5_turnRound yX5_turnRound) := ⟨List.mem_of_getElem? (i := 28) (by decide +kernel), by decide +kernel⟩
theorem okc_X5_turnRound : okV mX5_turnRound 5 0 := ⟨ok_820, ok_819, ok_28, ok_41, rfl, ⟨_, rfl, rfl⟩, by decide, by decide +kernel, by decide +kernel⟩
theorem ok_808 : okw (mw mX5_reverse) := ⟨List.mem_of_getElem? (i := 808) (by decide +kernel), by decide +kernel⟩
theorem ok_806 : okw (.instanceMethod yX5_reverse) := ⟨List.mem_of_getElem? (i := 806) (by decide +kernel), by decide +kernel⟩
theorem ok_807 : okw (.selects yX5_reverse.cls yX5_reverse yX5_reverse) := ⟨List.mem_of_getElem? (i := 807) (by decide +kernel), by decide +kernel⟩
theorem okc_X5_reverse : okV mX5_reverse 5 2 := ⟨ok_808, ok_806, ok_807, ok_41, rfl, ⟨_, rfl, rfl⟩, by decide, by decide +kernel, by decide +kernel⟩
theorem ok_828 : okw (mw mX5_raise) := ⟨List.mem_of_getElem? (i := 828) (by decide +kernel), by decide +kernel⟩
theorem ok_826 : okw (.instanceMethod yX5_raise) := ⟨List.mem_of_getElem? (i := 826) (by decide +kernel), by decide +kernel⟩
theorem ok_827 : okw (.selects yX5_raise.cls yX5_raise yX5_raise) := ⟨List.mem_of_getElem? (i := 827) (by decide +kernel), by decide +kernel⟩
theorem okc_X5_raise : okV mX5_raise 5 3 := ⟨ok_828, ok_826, ok_827, ok_41, rfl, ⟨_, rfl, rfl⟩, by decide, by decide +kernel, by decide +kernel⟩
theorem ok_832 : okw (mw mX5_sum) := ⟨List.mem_of_getElem? (i := 832) (by decide +kernel), by decide +kernel⟩
theorem ok_830 : okw (.instanceMethod yX5_sum) := ⟨List.mem_of_getElem? (i := 830) (by decide +kernel), by decide +kernel⟩
theorem ok_831 : okw (.selects yX5_sum.cls yX5_sum yX5_sum) := ⟨List.mem_of_getElem? (i := 831) (by decide +kernel), by decide +kernel⟩
theorem okc_X5_sum : okV mX5_sum 5 2 := ⟨ok_832, ok_830, ok_831, ok_41, rfl, ⟨_, rfl, rfl⟩, by decide, by decide +kernel, by decide +kernel⟩
theorem ok_836 : okw (mw mX5_least) := ⟨List.mem_of_getElem? (i := 836) (by decide +kernel), by decide +kernel⟩
theorem ok_834 : okw (.instanceMethod yX5_least) := ⟨List.mem_of_getElem? (i := 834) (by decide +kernel), by decide +kernel⟩
theorem ok_835 : okw (.selects yX5_least.cls yX5_least yX5_least) := ⟨List.mem_of_getElem? (i := 835) (by decide +kernel), by decide +kernel⟩
theorem okc_X5_least : okV mX5_least 5 2 := ⟨ok_836, ok_834, ok_835, ok_41, rfl, ⟨_, rfl, rfl⟩, by decide, by decide +kernel, by decide +kernel⟩
theorem ok_840 : okw (mw mX5_cut) := ⟨List.mem_of_getElem? (i := 840) (by decide +kernel), by decide +kernel⟩
theorem ok_838 : okw (.instanceMethod yX5_cut) := ⟨List.mem_of_getElem? (i := 838) (by decide +kernel), by decide +kernel⟩
theorem ok_839 : okw (.selects yX5_cut.cls yX5_cut yX5_cut) := ⟨List.mem_of_getElem? (i := 839) (by decide +kernel), by decide +kernel⟩
theorem okc_X5_cut : okV mX5_cut 5 2 := ⟨ok_840, ok_838, ok_839, ok_41, rfl, ⟨_, rfl, rfl⟩, by decide, by decide +kernel, by decide +kernel⟩
theorem ok_844 : okw (mw mX5_paste) := ⟨List.mem_of_getElem? (i := 844) (by decide +kernel), by decide +kernel⟩
theorem ok_842 : okw (.instanceMethod yX5_paste) := ⟨List.mem_of_getElem? (i := 842) (by decide +kernel), by decide +kernel⟩
theorem ok_843 : okw (.selects yX5_paste.cls yX5_paste yX5_paste) := ⟨List.mem_of_getElem? (i := 843) (by decide +kernel), by decide +kernel⟩
theorem okc_X5_paste : okV mX5_paste 5 1 := ⟨ok_844, ok_842, ok_843, ok_41, rfl, ⟨_, rfl, rfl⟩, by decide, by decide +kernel, by decide +kernel⟩
theorem ok_848 : okw (mw mX5_point) := ⟨List.mem_of_getElem? (i := 848) (by decide +kernel), by decide +kernel⟩
theorem ok_846 : okw (.instanceMethod yX5_point) := ⟨List.mem_of_getElem? (i := 846) (by decide +kernel), by decide +kernel⟩
theorem ok_847 : okw (.selects yX5_point.cls yX5_point yX5_point) := ⟨List.mem_of_getElem? (i := 847) (by decide +kernel), by decide +kernel⟩
theorem okc_X5_point : okV mX5_point 5 2 := ⟨ok_848, ok_846, ok_847, ok_41, rfl, ⟨_, rfl, rfl⟩, by decide, by decide +kernel, by decide +kernel⟩
theorem ok_859 : okw (mw mX5_isInSequence) := ⟨List.mem_of_getElem? (i := 859) (by decide +kernel), by decide +kernel⟩
theorem ok_858 : okw (.instanceMethod yX5_isInSequence) := ⟨List.mem_of_getElem? (i := 858) (by decide +kernel), by decide +kernel⟩
theorem ok_30 : okw (.selects yX5_isInSequence.cls yX5_isInSequence yX5_isInSequence) := ⟨List.mem_of_getElem? (i := 30) (by decide +kernel), by decide +kernel⟩
theorem okc_X5_isInSequence : okV mX5_isInSequence 5 1 := ⟨ok_859, ok_858, ok_30, ok_41, rfl, ⟨_, rfl, rfl⟩, by decide, by decide +kernel, by decide +kernel⟩
theorem ok_855 : okw (mw mX5_follow) := ⟨List.mem_of_getElem? (i := 855) (by decide +kernel), by decide +kernel⟩
theorem ok_853 : okw (.instanceMethod yX5_follow) := ⟨List.mem_of_getElem? (i := 853) (by decide +kernel), by decide +kernel⟩
theorem ok_854 : okw (.selects yX5_follow.cls yX5_follow yX5_follow) := ⟨List.mem_of_getElem? (i := 854) (by decide +kernel), by decide +kernel⟩
theorem okc_X5_follow : okV mX5_follow 5 1 := ⟨ok_855, ok_853, ok_854, ok_41, rfl, ⟨_, rfl, rfl⟩, by decide, by decide +kernel, by decide +kernel⟩
theorem ok_875 : okw (mw mX5_canMove) := ⟨List.mem_of_getElem? (i := 875) (by decide +kernel), by decide +kernel⟩
theorem ok_874 : okw (.instanceMethod yX5_canMove) := ⟨List.mem_of_getElem? (i := 874) (by decide +kernel), by decide +kernel⟩
theorem ok_33 : okw (.selects yX5_canMove.cls yX5_canMove yX5_canMove) := ⟨List.mem_of_getElem? (i := 33) (by decide +kernel), by decide +kernel⟩
theorem okc_X5_canMove : okV mX5_canMove 5 2 := ⟨ok_875, ok_874, ok_33, ok_41, rfl, ⟨_, rfl, rfl⟩, by decide, by decide +kernel, by decide +kernel⟩
theorem ok_871 : okw (mw mX5_move) := ⟨List.mem_of_getElem? (i := 871) (by decide +kernel), by decide +kernel⟩
theorem ok_869 : okw (.instanceMethod yX5_move) := ⟨List.mem_of_getElem? (i := 869) (by decide +kernel), by decide +kernel⟩
theorem ok_870 : okw (.selects yX5_move.cls yX5_move yX5_move) := ⟨List.mem_of_getElem? (i := 870) (by decide +kernel), by decide +kernel⟩
theorem okc_X5_move : okV mX5_move 5 2 := ⟨ok_871, ok_869, ok_870, ok_41, rfl, ⟨_, rfl, rfl⟩, by decide, by decide +kernel, by decide +kernel⟩
theorem ok_880 : okw (mw mX5_lastSteps) := ⟨List.mem_of_getElem? (i := 880) (by decide +kernel), by decide +kernel⟩
theorem ok_878 : okw (.instanceMethod yX5_lastSteps) := ⟨List.mem_of_getElem? (i := 878) (by decide +kernel), by decide +kernel⟩
theorem ok_879 : okw (.selects yX5_lastSteps.cls yX5_lastSteps yX5_lastSteps) := ⟨List.mem_of_getElem? (i := 879) (by decide +kernel), by decide +kernel⟩
theorem okc_X5_lastSteps : okV mX5_lastSteps 5 0 := ⟨ok_880, ok_878, ok_879, ok_41, rfl, ⟨_, rfl, rfl⟩, by decide, by decide +kernel, by decide +kernel⟩
theorem ok_884 : okw (mw mX5_lastRotations) := ⟨List.mem_of_getElem? (i := 884) (by decide +kernel), by decide +kernel⟩
theorem ok_882 : okw (.instanceMethod yX5_lastRotations) := ⟨List.mem_of_getElem? (i := 882) (by decide +kernel), by decide +kernel⟩
theorem ok_883 : okw (.selects yX5_lastRotations.cls yX5_lastRotations yX5_lastRotations) := ⟨List.mem_of_getElem? (i := 883) (by decide +kernel), by decide +kernel⟩
theorem okc_X5_lastRotations : okV mX5_lastRotations 5 0 := ⟨ok_884, ok_882, ok_883, ok_41, rfl, ⟨_, rfl, rfl⟩, by decide, by decide +kernel, by decide +kernel⟩
theorem ok_888 : okw (mw mX5_steps) := ⟨List.mem_of_getElem? (i := 888) (by decide +kernel), by decide +kernel⟩
theorem ok_886 : okw (.instanceMethod yX5_steps) := ⟨List.mem_of_getElem? (i := 886) (by decide +kernel), by decide +kernel⟩
theorem ok_887 : okw (.selects yX5_steps.cls yX5_steps yX5_steps) := ⟨List.mem_of_getElem? (i := 887) (by decide +kernel), by decide +kernel⟩
theorem okc_X5_steps : okV mX5_steps 5 0 := ⟨ok_888, ok_886, ok_887, ok_41, rfl, ⟨_, rfl, rfl⟩, by decide, by decide +kernel, by decide +kernel⟩
theorem ok_892 : okw (mw mX5_splays) := ⟨List.mem_of_getElem? (i := 892) (by decide +kernel), by decide +kernel⟩
theorem ok_890 : okw (.instanceMethod yX5_splays) := ⟨List.mem_of_getElem? (i := 890) (by decide +kernel), by decide +kernel⟩
theorem ok_891 : okw (.selects yX5_splays.cls yX5_splays yX5_splays) := ⟨List.mem_of_getElem? (i := 891) (by decide +kernel), by decide +kernel⟩
theorem okc_X5_splays : okV mX5_splays 5 0 := ⟨ok_892, ok_890, ok_891, ok_41, rfl, ⟨_, rfl, rfl⟩, by decide, by decide +kernel, by decide +kernel⟩
theorem ok_903 : okw (mw mX5_rank) := ⟨List.mem_of_getElem? (i := 903) (by decide +kernel), by decide +kernel⟩
theorem ok_902 : okw (.static yX5_rank) := ⟨List.mem_of_getElem? (i := 902) (by decide +kernel), by decide +kernel⟩
theorem okc_X5_rank : okS mX5_rank 1 := ⟨ok_903, ok_902, ok_41, by decide +kernel, by decide +kernel⟩
theorem ok_896 : okw (mw mX5_potential) := ⟨List.mem_of_getElem? (i := 896) (by decide +kernel), by decide +kernel⟩
theorem ok_894 : okw (.instanceMethod yX5_potential) := ⟨List.mem_of_getElem? (i := 894) (by decide +kernel), by decide +kernel⟩
theorem ok_895 : okw (.selects yX5_potential.cls yX5_potential yX5_potential) := ⟨List.mem_of_getElem? (i := 895) (by decide +kernel), by decide +kernel⟩
theorem okc_X5_potential : okV mX5_potential 5 0 := ⟨ok_896, ok_894, ok_895, ok_41, rfl, ⟨_, rfl, rfl⟩, by decide, by decide +kernel, by decide +kernel⟩
theorem ok_907 : okw (mw mX5_size) := ⟨List.mem_of_getElem? (i := 907) (by decide +kernel), by decide +kernel⟩
theorem ok_905 : okw (.instanceMethod yX5_size) := ⟨List.mem_of_getElem? (i := 905) (by decide +kernel), by decide +kernel⟩
theorem ok_906 : okw (.selects yX5_size.cls yX5_size yX5_size) := ⟨List.mem_of_getElem? (i := 906) (by decide +kernel), by decide +kernel⟩
theorem okc_X5_size : okV mX5_size 5 0 := ⟨ok_907, ok_905, ok_906, ok_41, rfl, ⟨_, rfl, rfl⟩, by decide, by decide +kernel, by decide +kernel⟩
theorem ok_911 : okw (mw mX5_clipped) := ⟨List.mem_of_getElem? (i := 911) (by decide +kernel), by decide +kernel⟩
theorem ok_909 : okw (.instanceMethod yX5_clipped) := ⟨List.mem_of_getElem? (i := 909) (by decide +kernel), by decide +kernel⟩
theorem ok_910 : okw (.selects yX5_clipped.cls yX5_clipped yX5_clipped) := ⟨List.mem_of_getElem? (i := 910) (by decide +kernel), by decide +kernel⟩
theorem okc_X5_clipped : okV mX5_clipped 5 0 := ⟨ok_911, ok_909, ok_910, ok_41, rfl, ⟨_, rfl, rfl⟩, by decide, by decide +kernel, by decide +kernel⟩
theorem ok_915 : okw (mw mX5_root) := ⟨List.mem_of_getElem? (i := 915) (by decide +kernel), by decide +kernel⟩
theorem ok_913 : okw (.instanceMethod yX5_root) := ⟨List.mem_of_getElem? (i := 913) (by decide +kernel), by decide +kernel⟩
theorem ok_914 : okw (.selects yX5_root.cls yX5_root yX5_root) := ⟨List.mem_of_getElem? (i := 914) (by decide +kernel), by decide +kernel⟩
theorem okc_X5_root : okV mX5_root 5 0 := ⟨ok_915, ok_913, ok_914, ok_41, rfl, ⟨_, rfl, rfl⟩, by decide, by decide +kernel, by decide +kernel⟩
theorem ok_919 : okw (mw mX5_height) := ⟨List.mem_of_getElem? (i := 919) (by decide +kernel), by decide +kernel⟩
theorem ok_917 : okw (.instanceMethod yX5_height) := ⟨List.mem_of_getElem? (i := 917) (by decide +kernel), by decide +kernel⟩
theorem ok_918 : okw (.selects yX5_height.cls yX5_height yX5_height) := ⟨List.mem_of_getElem? (i := 918) (by decide +kernel), by decide +kernel⟩
theorem okc_X5_height : okV mX5_height 5 0 := ⟨ok_919, ok_917, ok_918, ok_41, rfl, ⟨_, rfl, rfl⟩, by decide, by decide +kernel, by decide +kernel⟩
theorem ok_927 : okw (mw mX5_depth) := ⟨List.mem_of_getElem? (i := 927) (by decide +kernel), by decide +kernel⟩
theorem ok_925 : okw (.instanceMethod yX5_depth) := ⟨List.mem_of_getElem? (i := 925) (by decide +kernel), by decide +kernel⟩
theorem ok_926 : okw (.selects yX5_depth.cls yX5_depth yX5_depth) := ⟨List.mem_of_getElem? (i := 926) (by decide +kernel), by decide +kernel⟩
theorem okc_X5_depth : okV mX5_depth 5 1 := ⟨ok_927, ok_925, ok_926, ok_41, rfl, ⟨_, rfl, rfl⟩, by decide, by decide +kernel, by decide +kernel⟩
theorem ok_931 : okw (mw mX5_subtree) := ⟨List.mem_of_getElem? (i := 931) (by decide +kernel), by decide +kernel⟩
theorem ok_929 : okw (.instanceMethod yX5_subtree) := ⟨List.mem_of_getElem? (i := 929) (by decide +kernel), by decide +kernel⟩
theorem ok_930 : okw (.selects yX5_subtree.cls yX5_subtree yX5_subtree) := ⟨List.mem_of_getElem? (i := 930) (by decide +kernel), by decide +kernel⟩
theorem okc_X5_subtree : okV mX5_subtree 5 1 := ⟨ok_931, ok_929, ok_930, ok_41, rfl, ⟨_, rfl, rfl⟩, by decide, by decide +kernel, by decide +kernel⟩
theorem ok_935 : okw (mw mX5_child) := ⟨List.mem_of_getElem? (i := 935) (by decide +kernel), by decide +kernel⟩
theorem ok_933 : okw (.instanceMethod yX5_child) := ⟨List.mem_of_getElem? (i := 933) (by decide +kernel), by decide +kernel⟩
theorem ok_934 : okw (.selects yX5_child.cls yX5_child yX5_child) := ⟨List.mem_of_getElem? (i := 934) (by decide +kernel), by decide +kernel⟩
theorem okc_X5_child : okV mX5_child 5 2 := ⟨ok_935, ok_933, ok_934, ok_41, rfl, ⟨_, rfl, rfl⟩, by decide, by decide +kernel, by decide +kernel⟩
theorem ok_939 : okw (mw mX5_whereIs) := ⟨List.mem_of_getElem? (i := 939) (by decide +kernel), by decide +kernel⟩
theorem ok_937 : okw (.instanceMethod yX5_whereIs) := ⟨List.mem_of_getElem? (i := 937) (by decide +kernel), by decide +kernel⟩
theorem ok_938 : okw (.selects yX5_whereIs.cls yX5_whereIs yX5_whereIs) := ⟨List.mem_of_getElem? (i := 938) (by decide +kernel), by decide +kernel⟩
theorem okc_X5_whereIs : okV mX5_whereIs 5 1 := ⟨ok_939, ok_937, ok_938, ok_41, rfl, ⟨_, rfl, rfl⟩, by decide, by decide +kernel, by decide +kernel⟩
theorem ok_943 : okw (mw mX5_plain) := ⟨List.mem_of_getElem? (i := 943) (by decide +kernel), by decide +kernel⟩
theorem ok_941 : okw (.instanceMethod yX5_plain) := ⟨List.mem_of_getElem? (i := 941) (by decide +kernel), by decide +kernel⟩
theorem ok_942 : okw (.selects yX5_plain.cls yX5_plain yX5_plain) := ⟨List.mem_of_getElem? (i := 942) (by decide +kernel), by decide +kernel⟩
theorem okc_X5_plain : okV mX5_plain 5 1 := ⟨ok_943, ok_941, ok_942, ok_41, rfl, ⟨_, rfl, rfl⟩, by decide, by decide +kernel, by decide +kernel⟩
theorem ok_947 : okw (mw mX5_plainSum) := ⟨List.mem_of_getElem? (i := 947) (by decide +kernel), by decide +kernel⟩
theorem ok_945 : okw (.instanceMethod yX5_plainSum) := ⟨List.mem_of_getElem? (i := 945) (by decide +kernel), by decide +kernel⟩
theorem ok_946 : okw (.selects yX5_plainSum.cls yX5_plainSum yX5_plainSum) := ⟨List.mem_of_getElem? (i := 946) (by decide +kernel), by decide +kernel⟩
theorem okc_X5_plainSum : okV mX5_plainSum 5 2 := ⟨ok_947, ok_945, ok_946, ok_41, rfl, ⟨_, rfl, rfl⟩, by decide, by decide +kernel, by decide +kernel⟩
theorem ok_215 : okw (mw mL_insert) := ⟨List.mem_of_getElem? (i := 215) (by decide +kernel), by decide +kernel⟩
theorem ok_214 : okw (.static yL_insert) := ⟨List.mem_of_getElem? (i := 214) (by decide +kernel), by decide +kernel⟩
theorem okc_L_insert : okS mL_insert 4 := ⟨ok_215, ok_214, ok_36, by decide +kernel, by decide +kernel⟩
theorem ok_412 : okw (mw mL_remove) := ⟨List.mem_of_getElem? (i := 412) (by decide +kernel), by decide +kernel⟩
theorem ok_411 : okw (.static yL_remove) := ⟨List.mem_of_getElem? (i := 411) (by decide +kernel), by decide +kernel⟩
theorem okc_L_remove : okS mL_remove 3 := ⟨ok_412, ok_411, ok_36, by decide +kernel, by decide +kernel⟩
theorem ok_447 : okw (mw mL_get) := ⟨List.mem_of_getElem? (i := 447) (by decide +kernel), by decide +kernel⟩
theorem ok_446 : okw (.static yL_get) := ⟨List.mem_of_getElem? (i := 446) (by decide +kernel), by decide +kernel⟩
theorem okc_L_get : okS mL_get 3 := ⟨ok_447, ok_446, ok_36, by decide +kernel, by decide +kernel⟩
theorem ok_454 : okw (mw mL_set) := ⟨List.mem_of_getElem? (i := 454) (by decide +kernel), by decide +kernel⟩
theorem ok_453 : okw (.static yL_set) := ⟨List.mem_of_getElem? (i := 453) (by decide +kernel), by decide +kernel⟩
theorem okc_L_set : okS mL_set 4 := ⟨ok_454, ok_453, ok_36, by decide +kernel, by decide +kernel⟩
theorem ok_465 : okw (mw mL_reverse) := ⟨List.mem_of_getElem? (i := 465) (by decide +kernel), by decide +kernel⟩
theorem ok_464 : okw (.static yL_reverse) := ⟨List.mem_of_getElem? (i := 464) (by decide +kernel), by decide +kernel⟩
theorem okc_L_reverse : okS mL_reverse 4 := ⟨ok_465, ok_464, ok_36, by decide +kernel, by decide +kernel⟩
theorem ok_501 : okw (mw mL_raise) := ⟨List.mem_of_getElem? (i := 501) (by decide +kernel), by decide +kernel⟩
theorem ok_500 : okw (.static yL_raise) := ⟨List.mem_of_getElem? (i := 500) (by decide +kernel), by decide +kernel⟩
theorem okc_L_raise : okS mL_raise 5 := ⟨ok_501, ok_500, ok_36, by decide +kernel, by decide +kernel⟩
theorem ok_516 : okw (mw mL_sum) := ⟨List.mem_of_getElem? (i := 516) (by decide +kernel), by decide +kernel⟩
theorem ok_515 : okw (.static yL_sum) := ⟨List.mem_of_getElem? (i := 515) (by decide +kernel), by decide +kernel⟩
theorem okc_L_sum : okS mL_sum 4 := ⟨ok_516, ok_515, ok_36, by decide +kernel, by decide +kernel⟩
theorem ok_527 : okw (mw mL_least) := ⟨List.mem_of_getElem? (i := 527) (by decide +kernel), by decide +kernel⟩
theorem ok_526 : okw (.static yL_least) := ⟨List.mem_of_getElem? (i := 526) (by decide +kernel), by decide +kernel⟩
theorem okc_L_least : okS mL_least 4 := ⟨ok_527, ok_526, ok_36, by decide +kernel, by decide +kernel⟩
theorem ok_542 : okw (mw mL_cut) := ⟨List.mem_of_getElem? (i := 542) (by decide +kernel), by decide +kernel⟩
theorem ok_541 : okw (.static yL_cut) := ⟨List.mem_of_getElem? (i := 541) (by decide +kernel), by decide +kernel⟩
theorem okc_L_cut : okS mL_cut 4 := ⟨ok_542, ok_541, ok_36, by decide +kernel, by decide +kernel⟩
theorem ok_554 : okw (mw mL_paste) := ⟨List.mem_of_getElem? (i := 554) (by decide +kernel), by decide +kernel⟩
theorem ok_553 : okw (.static yL_paste) := ⟨List.mem_of_getElem? (i := 553) (by decide +kernel), by decide +kernel⟩
theorem okc_L_paste : okS mL_paste 3 := ⟨ok_554, ok_553, ok_36, by decide +kernel, by decide +kernel⟩
theorem ok_565 : okw (mw mL_point) := ⟨List.mem_of_getElem? (i := 565) (by decide +kernel), by decide +kernel⟩
theorem ok_564 : okw (.static yL_point) := ⟨List.mem_of_getElem? (i := 564) (by decide +kernel), by decide +kernel⟩
theorem okc_L_point : okS mL_point 4 := ⟨ok_565, ok_564, ok_36, by decide +kernel, by decide +kernel⟩
theorem ok_577 : okw (mw mL_follow) := ⟨List.mem_of_getElem? (i := 577) (by decide +kernel), by decide +kernel⟩
theorem ok_576 : okw (.static yL_follow) := ⟨List.mem_of_getElem? (i := 576) (by decide +kernel), by decide +kernel⟩
theorem okc_L_follow : okS mL_follow 3 := ⟨ok_577, ok_576, ok_36, by decide +kernel, by decide +kernel⟩
theorem ok_592 : okw (mw mL_move) := ⟨List.mem_of_getElem? (i := 592) (by decide +kernel), by decide +kernel⟩
theorem ok_591 : okw (.static yL_move) := ⟨List.mem_of_getElem? (i := 591) (by decide +kernel), by decide +kernel⟩
theorem okc_L_move : okS mL_move 4 := ⟨ok_592, ok_591, ok_36, by decide +kernel, by decide +kernel⟩
theorem ok_601 : okw (mw mL_depth) := ⟨List.mem_of_getElem? (i := 601) (by decide +kernel), by decide +kernel⟩
theorem ok_600 : okw (.static yL_depth) := ⟨List.mem_of_getElem? (i := 600) (by decide +kernel), by decide +kernel⟩
theorem okc_L_depth : okS mL_depth 3 := ⟨ok_601, ok_600, ok_36, by decide +kernel, by decide +kernel⟩
theorem ok_609 : okw (mw mL_subtree) := ⟨List.mem_of_getElem? (i := 609) (by decide +kernel), by decide +kernel⟩
theorem ok_608 : okw (.static yL_subtree) := ⟨List.mem_of_getElem? (i := 608) (by decide +kernel), by decide +kernel⟩
theorem okc_L_subtree : okS mL_subtree 3 := ⟨ok_609, ok_608, ok_36, by decide +kernel, by decide +kernel⟩
theorem ok_616 : okw (mw mL_child) := ⟨List.mem_of_getElem? (i := 616) (by decide +kernel), by decide +kernel⟩
theorem ok_615 : okw (.static yL_child) := ⟨List.mem_of_getElem? (i := 615) (by decide +kernel), by decide +kernel⟩
theorem okc_L_child : okS mL_child 4 := ⟨ok_616, ok_615, ok_36, by decide +kernel, by decide +kernel⟩
theorem ok_623 : okw (mw mL_whereIs) := ⟨List.mem_of_getElem? (i := 623) (by decide +kernel), by decide +kernel⟩
theorem ok_622 : okw (.static yL_whereIs) := ⟨List.mem_of_getElem? (i := 622) (by decide +kernel), by decide +kernel⟩
theorem okc_L_whereIs : okS mL_whereIs 3 := ⟨ok_623, ok_622, ok_36, by decide +kernel, by decide +kernel⟩
theorem ok_630 : okw (mw mL_plain) := ⟨List.mem_of_getElem? (i := 630) (by decide +kernel), by decide +kernel⟩
theorem ok_629 : okw (.static yL_plain) := ⟨List.mem_of_getElem? (i := 629) (by decide +kernel), by decide +kernel⟩
theorem okc_L_plain : okS mL_plain 3 := ⟨ok_630, ok_629, ok_36, by decide +kernel, by decide +kernel⟩
theorem ok_641 : okw (mw mL_plainSum) := ⟨List.mem_of_getElem? (i := 641) (by decide +kernel), by decide +kernel⟩
theorem ok_640 : okw (.static yL_plainSum) := ⟨List.mem_of_getElem? (i := 640) (by decide +kernel), by decide +kernel⟩
theorem okc_L_plainSum : okS mL_plainSum 4 := ⟨ok_641, ok_640, ok_36, by decide +kernel, by decide +kernel⟩
theorem ok_53 : okw (.methodLink RL 76 yX4_init) := ⟨List.mem_of_getElem? (i := 53) (by decide +kernel), by decide +kernel⟩
theorem ok_135 : okw (.methodLink RL 128 yX4_lastSteps) := ⟨List.mem_of_getElem? (i := 135) (by decide +kernel), by decide +kernel⟩
theorem ok_139 : okw (.methodLink RL 132 yX4_lastRotations) := ⟨List.mem_of_getElem? (i := 139) (by decide +kernel), by decide +kernel⟩
theorem ok_143 : okw (.methodLink RL 136 yX4_steps) := ⟨List.mem_of_getElem? (i := 143) (by decide +kernel), by decide +kernel⟩
theorem ok_147 : okw (.methodLink RL 140 yX4_splays) := ⟨List.mem_of_getElem? (i := 147) (by decide +kernel), by decide +kernel⟩
theorem ok_151 : okw (.methodLink RL 144 yX4_potential) := ⟨List.mem_of_getElem? (i := 151) (by decide +kernel), by decide +kernel⟩
theorem ok_155 : okw (.methodLink RX4 192 yX3_sumOfRanks) := ⟨List.mem_of_getElem? (i := 155) (by decide +kernel), by decide +kernel⟩
theorem ok_159 : okw (.methodLink RX3 29 yX3_count) := ⟨List.mem_of_getElem? (i := 159) (by decide +kernel), by decide +kernel⟩
theorem ok_163 : okw (.methodLink RX3 13 yX0_countOf) := ⟨List.mem_of_getElem? (i := 163) (by decide +kernel), by decide +kernel⟩
theorem ok_166 : okw (.methodLink RX3 51 yX3_rankOf) := ⟨List.mem_of_getElem? (i := 166) (by decide +kernel), by decide +kernel⟩
theorem ok_169 : okw (.methodLink RX3 36 yX0_nextOfWalk) := ⟨List.mem_of_getElem? (i := 169) (by decide +kernel), by decide +kernel⟩
theorem ok_173 : okw (.methodLink RX0 37 yX0_isLeftChild) := ⟨List.mem_of_getElem? (i := 173) (by decide +kernel), by decide +kernel⟩
theorem ok_177 : okw (.methodLink RL 148 yX4_size) := ⟨List.mem_of_getElem? (i := 177) (by decide +kernel), by decide +kernel⟩
theorem ok_181 : okw (.methodLink RX4 55 yX3_count) := ⟨List.mem_of_getElem? (i := 181) (by decide +kernel), by decide +kernel⟩
theorem ok_182 : okw (.methodLink RL 152 yX4_clipped) := ⟨List.mem_of_getElem? (i := 182) (by decide +kernel), by decide +kernel⟩
theorem ok_186 : okw (.methodLink RL 156 yX4_root) := ⟨List.mem_of_getElem? (i := 186) (by decide +kernel), by decide +kernel⟩
theorem ok_190 : okw (.methodLink RX4 195 yX4_positionOrNone) := ⟨List.mem_of_getElem? (i := 190) (by decide +kernel), by decide +kernel⟩
theorem ok_193 : okw (.methodLink RX4 173 yX0_position) := ⟨List.mem_of_getElem? (i := 193) (by decide +kernel), by decide +kernel⟩
theorem ok_197 : okw (.methodLink RX0 23 yX0_countOf) := ⟨List.mem_of_getElem? (i := 197) (by decide +kernel), by decide +kernel⟩
theorem ok_198 : okw (.methodLink RL 160 yX4_height) := ⟨List.mem_of_getElem? (i := 198) (by decide +kernel), by decide +kernel⟩
theorem ok_202 : okw (.methodLink RX4 199 yX3_levels) := ⟨List.mem_of_getElem? (i := 202) (by decide +kernel), by decide +kernel⟩
theorem ok_206 : okw (.methodLink RX3 55 yX0_nodesAbove) := ⟨List.mem_of_getElem? (i := 206) (by decide +kernel), by decide +kernel⟩
theorem ok_213 : okw (.methodLink RL 80 yL_insert) := ⟨List.mem_of_getElem? (i := 213) (by decide +kernel), by decide +kernel⟩
theorem ok_219 : okw (.methodLink RL 7 yX4_insert) := ⟨List.mem_of_getElem? (i := 219) (by decide +kernel), by decide +kernel⟩
theorem ok_223 : okw (.methodLink RX4 48 yX4_checkGap) := ⟨List.mem_of_getElem? (i := 223) (by decide +kernel), by decide +kernel⟩
theorem ok_295 : okw (.methodLink RX4 52 yX4_checkAmount) := ⟨List.mem_of_getElem? (i := 295) (by decide +kernel), by decide +kernel⟩
theorem ok_330 : okw (.methodLink RX4 66 yX2_beginCall) := ⟨List.mem_of_getElem? (i := 330) (by decide +kernel), by decide +kernel⟩
theorem ok_334 : okw (.methodLink RX4 69 yX2_split) := ⟨List.mem_of_getElem? (i := 334) (by decide +kernel), by decide +kernel⟩
theorem ok_338 : okw (.methodLink RX2 55 yX3_find) := ⟨List.mem_of_getElem? (i := 338) (by decide +kernel), by decide +kernel⟩
theorem ok_342 : okw (.methodLink RX2 59 yX3_takeAll) := ⟨List.mem_of_getElem? (i := 342) (by decide +kernel), by decide +kernel⟩
theorem ok_346 : okw (.methodLink RX2 63 yX2_splay) := ⟨List.mem_of_getElem? (i := 346) (by decide +kernel), by decide +kernel⟩
theorem ok_350 : okw (.methodLink RX2 27 yX0_isLeftChild) := ⟨List.mem_of_getElem? (i := 350) (by decide +kernel), by decide +kernel⟩
theorem ok_351 : okw (.methodLink RX2 31 yX2_rotate) := ⟨List.mem_of_getElem? (i := 351) (by decide +kernel), by decide +kernel⟩
theorem ok_355 : okw (.methodLink RX2 46 yX0_takeLeft) := ⟨List.mem_of_getElem? (i := 355) (by decide +kernel), by decide +kernel⟩
theorem ok_359 : okw (.methodLink RX2 49 yX0_takeRight) := ⟨List.mem_of_getElem? (i := 359) (by decide +kernel), by decide +kernel⟩
theorem ok_363 : okw (.methodLink RX2 67 yX0_dropLeft) := ⟨List.mem_of_getElem? (i := 363) (by decide +kernel), by decide +kernel⟩
theorem ok_367 : okw (.methodLink RX0 30 yX0_takeLeft) := ⟨List.mem_of_getElem? (i := 367) (by decide +kernel), by decide +kernel⟩
theorem ok_369 : okw (.methodLink RX4 73 yX0_init) := ⟨List.mem_of_getElem? (i := 369) (by decide +kernel), by decide +kernel⟩
theorem ok_400 : okw (.methodLink RX4 75 yX3_takeAll) := ⟨List.mem_of_getElem? (i := 400) (by decide +kernel), by decide +kernel⟩
theorem ok_401 : okw (.methodLink RX4 79 yX0_takeLeft) := ⟨List.mem_of_getElem? (i := 401) (by decide +kernel), by decide +kernel⟩
theorem ok_402 : okw (.methodLink RX4 83 yX0_takeRight) := ⟨List.mem_of_getElem? (i := 402) (by decide +kernel), by decide +kernel⟩
theorem ok_403 : okw (.methodLink RX4 90 yX1_open) := ⟨List.mem_of_getElem? (i := 403) (by decide +kernel), by decide +kernel⟩
theorem ok_410 : okw (.methodLink RL 90 yL_remove) := ⟨List.mem_of_getElem? (i := 410) (by decide +kernel), by decide +kernel⟩
theorem ok_413 : okw (.methodLink RL 19 yX4_remove) := ⟨List.mem_of_getElem? (i := 413) (by decide +kernel), by decide +kernel⟩
theorem ok_417 : okw (.methodLink RX4 94 yX4_nodeAt) := ⟨List.mem_of_getElem? (i := 417) (by decide +kernel), by decide +kernel⟩
theorem ok_421 : okw (.methodLink RX4 220 yX3_find) := ⟨List.mem_of_getElem? (i := 421) (by decide +kernel), by decide +kernel⟩
theorem ok_422 : okw (.methodLink RX4 98 yX2_splay) := ⟨List.mem_of_getElem? (i := 422) (by decide +kernel), by decide +kernel⟩
theorem ok_423 : okw (.methodLink RX4 102 yX0_dropLeft) := ⟨List.mem_of_getElem? (i := 423) (by decide +kernel), by decide +kernel⟩
theorem ok_424 : okw (.methodLink RX4 105 yX0_dropRight) := ⟨List.mem_of_getElem? (i := 424) (by decide +kernel), by decide +kernel⟩
theorem ok_428 : okw (.methodLink RX0 34 yX0_takeRight) := ⟨List.mem_of_getElem? (i := 428) (by decide +kernel), by decide +kernel⟩
theorem ok_429 : okw (.methodLink RX4 108 yX2_join) := ⟨List.mem_of_getElem? (i := 429) (by decide +kernel), by decide +kernel⟩
theorem ok_433 : okw (.methodLink RX2 70 yX3_last) := ⟨List.mem_of_getElem? (i := 433) (by decide +kernel), by decide +kernel⟩
theorem ok_437 : okw (.methodLink RX4 112 yX4_liftFingersFrom) := ⟨List.mem_of_getElem? (i := 437) (by decide +kernel), by decide +kernel⟩
theorem ok_441 : okw (.methodLink RX4 115 yX1_close) := ⟨List.mem_of_getElem? (i := 441) (by decide +kernel), by decide +kernel⟩
theorem ok_445 : okw (.methodLink RL 94 yL_get) := ⟨List.mem_of_getElem? (i := 445) (by decide +kernel), by decide +kernel⟩
theorem ok_448 : okw (.methodLink RL 23 yX4_get) := ⟨List.mem_of_getElem? (i := 448) (by decide +kernel), by decide +kernel⟩
theorem ok_452 : okw (.methodLink RL 97 yL_set) := ⟨List.mem_of_getElem? (i := 452) (by decide +kernel), by decide +kernel⟩
theorem ok_455 : okw (.methodLink RL 26 yX4_set) := ⟨List.mem_of_getElem? (i := 455) (by decide +kernel), by decide +kernel⟩
theorem ok_459 : okw (.methodLink RX4 122 yX1_replace) := ⟨List.mem_of_getElem? (i := 459) (by decide +kernel), by decide +kernel⟩
theorem ok_463 : okw (.methodLink RL 100 yL_reverse) := ⟨List.mem_of_getElem? (i := 463) (by decide +kernel), by decide +kernel⟩
theorem ok_466 : okw (.methodLink RL 29 yX4_reverse) := ⟨List.mem_of_getElem? (i := 466) (by decide +kernel), by decide +kernel⟩
theorem ok_470 : okw (.methodLink RX4 125 yX4_checkRange) := ⟨List.mem_of_getElem? (i := 470) (by decide +kernel), by decide +kernel⟩
theorem ok_475 : okw (.methodLink RX4 128 yX4_takeRange) := ⟨List.mem_of_getElem? (i := 475) (by decide +kernel), by decide +kernel⟩
theorem ok_479 : okw (.methodLink RX4 131 yX3_turnRound) := ⟨List.mem_of_getElem? (i := 479) (by decide +kernel), by decide +kernel⟩
theorem ok_483 : okw (.methodLink RX3 33 yX0_swapSides) := ⟨List.mem_of_getElem? (i := 483) (by decide +kernel), by decide +kernel⟩
theorem ok_487 : okw (.methodLink RX4 134 yX4_putRangeBack) := ⟨List.mem_of_getElem? (i := 487) (by decide +kernel), by decide +kernel⟩
theorem ok_491 : okw (.methodLink RX4 137 yX1_turnRound) := ⟨List.mem_of_getElem? (i := 491) (by decide +kernel), by decide +kernel⟩
theorem ok_495 : okw (.methodLink RX1 25 yX1_hasRange) := ⟨List.mem_of_getElem? (i := 495) (by decide +kernel), by decide +kernel⟩
theorem ok_499 : okw (.methodLink RL 103 yL_raise) := ⟨List.mem_of_getElem? (i := 499) (by decide +kernel), by decide +kernel⟩
theorem ok_502 : okw (.methodLink RL 32 yX4_raise) := ⟨List.mem_of_getElem? (i := 502) (by decide +kernel), by decide +kernel⟩
theorem ok_506 : okw (.methodLink RX4 139 yX3_addToAll) := ⟨List.mem_of_getElem? (i := 506) (by decide +kernel), by decide +kernel⟩
theorem ok_510 : okw (.methodLink RX4 142 yX1_addToAll) := ⟨List.mem_of_getElem? (i := 510) (by decide +kernel), by decide +kernel⟩
theorem ok_514 : okw (.methodLink RL 107 yL_sum) := ⟨List.mem_of_getElem? (i := 514) (by decide +kernel), by decide +kernel⟩
theorem ok_517 : okw (.methodLink RL 36 yX4_sum) := ⟨List.mem_of_getElem? (i := 517) (by decide +kernel), by decide +kernel⟩
theorem ok_521 : okw (.methodLink RX4 145 yX3_total) := ⟨List.mem_of_getElem? (i := 521) (by decide +kernel), by decide +kernel⟩
theorem ok_525 : okw (.methodLink RL 110 yL_least) := ⟨List.mem_of_getElem? (i := 525) (by decide +kernel), by decide +kernel⟩
theorem ok_528 : okw (.methodLink RL 39 yX4_least) := ⟨List.mem_of_getElem? (i := 528) (by decide +kernel), by decide +kernel⟩
theorem ok_533 : okw (.methodLink RX4 153 yX3_lowest) := ⟨List.mem_of_getElem? (i := 533) (by decide +kernel), by decide +kernel⟩
theorem ok_540 : okw (.methodLink RL 113 yL_cut) := ⟨List.mem_of_getElem? (i := 540) (by decide +kernel), by decide +kernel⟩
theorem ok_543 : okw (.methodLink RL 42 yX4_cut) := ⟨List.mem_of_getElem? (i := 543) (by decide +kernel), by decide +kernel⟩
theorem ok_548 : okw (.methodLink RX4 158 yX1_moveOut) := ⟨List.mem_of_getElem? (i := 548) (by decide +kernel), by decide +kernel⟩
theorem ok_552 : okw (.methodLink RL 116 yL_paste) := ⟨List.mem_of_getElem? (i := 552) (by decide +kernel), by decide +kernel⟩
theorem ok_555 : okw (.methodLink RL 45 yX4_paste) := ⟨List.mem_of_getElem? (i := 555) (by decide +kernel), by decide +kernel⟩
theorem ok_559 : okw (.methodLink RX4 162 yX1_moveIn) := ⟨List.mem_of_getElem? (i := 559) (by decide +kernel), by decide +kernel⟩
theorem ok_563 : okw (.methodLink RL 119 yL_point) := ⟨List.mem_of_getElem? (i := 563) (by decide +kernel), by decide +kernel⟩
theorem ok_566 : okw (.methodLink RL 48 yX4_point) := ⟨List.mem_of_getElem? (i := 566) (by decide +kernel), by decide +kernel⟩
theorem ok_570 : okw (.methodLink RX4 166 yX4_checkFinger) := ⟨List.mem_of_getElem? (i := 570) (by decide +kernel), by decide +kernel⟩
theorem ok_575 : okw (.methodLink RL 122 yL_follow) := ⟨List.mem_of_getElem? (i := 575) (by decide +kernel), by decide +kernel⟩
theorem ok_578 : okw (.methodLink RL 51 yX4_follow) := ⟨List.mem_of_getElem? (i := 578) (by decide +kernel), by decide +kernel⟩
theorem ok_582 : okw (.methodLink RX4 169 yX3_holds) := ⟨List.mem_of_getElem? (i := 582) (by decide +kernel), by decide +kernel⟩
theorem ok_586 : okw (.methodLink RX3 25 yX0_top) := ⟨List.mem_of_getElem? (i := 586) (by decide +kernel), by decide +kernel⟩
theorem ok_590 : okw (.methodLink RL 125 yL_move) := ⟨List.mem_of_getElem? (i := 590) (by decide +kernel), by decide +kernel⟩
theorem ok_593 : okw (.methodLink RL 54 yX4_move) := ⟨List.mem_of_getElem? (i := 593) (by decide +kernel), by decide +kernel⟩
theorem ok_599 : okw (.methodLink RL 164 yL_depth) := ⟨List.mem_of_getElem? (i := 599) (by decide +kernel), by decide +kernel⟩
theorem ok_602 : okw (.methodLink RL 57 yX4_depth) := ⟨List.mem_of_getElem? (i := 602) (by decide +kernel), by decide +kernel⟩
theorem ok_606 : okw (.methodLink RX4 202 yX0_nodesAbove) := ⟨List.mem_of_getElem? (i := 606) (by decide +kernel), by decide +kernel⟩
theorem ok_607 : okw (.methodLink RL 167 yL_subtree) := ⟨List.mem_of_getElem? (i := 607) (by decide +kernel), by decide +kernel⟩
theorem ok_610 : okw (.methodLink RL 60 yX4_subtree) := ⟨List.mem_of_getElem? (i := 610) (by decide +kernel), by decide +kernel⟩
theorem ok_614 : okw (.methodLink RL 170 yL_child) := ⟨List.mem_of_getElem? (i := 614) (by decide +kernel), by decide +kernel⟩
theorem ok_617 : okw (.methodLink RL 63 yX4_child) := ⟨List.mem_of_getElem? (i := 617) (by decide +kernel), by decide +kernel⟩
theorem ok_621 : okw (.methodLink RL 174 yL_whereIs) := ⟨List.mem_of_getElem? (i := 621) (by decide +kernel), by decide +kernel⟩
theorem ok_624 : okw (.methodLink RL 67 yX4_whereIs) := ⟨List.mem_of_getElem? (i := 624) (by decide +kernel), by decide +kernel⟩
theorem ok_628 : okw (.methodLink RL 177 yL_plain) := ⟨List.mem_of_getElem? (i := 628) (by decide +kernel), by decide +kernel⟩
theorem ok_631 : okw (.methodLink RL 70 yX4_plain) := ⟨List.mem_of_getElem? (i := 631) (by decide +kernel), by decide +kernel⟩
theorem ok_635 : okw (.methodLink RX4 213 yX1_valueAt) := ⟨List.mem_of_getElem? (i := 635) (by decide +kernel), by decide +kernel⟩
theorem ok_639 : okw (.methodLink RL 180 yL_plainSum) := ⟨List.mem_of_getElem? (i := 639) (by decide +kernel), by decide +kernel⟩
theorem ok_642 : okw (.methodLink RL 73 yX4_plainSum) := ⟨List.mem_of_getElem? (i := 642) (by decide +kernel), by decide +kernel⟩
theorem ok_646 : okw (.methodLink RX4 217 yX1_total) := ⟨List.mem_of_getElem? (i := 646) (by decide +kernel), by decide +kernel⟩
theorem ok_652 : okw (.methodLink RL 79 yX5_init) := ⟨List.mem_of_getElem? (i := 652) (by decide +kernel), by decide +kernel⟩
theorem ok_718 : okw (.methodLink RL 86 yX5_thrown) := ⟨List.mem_of_getElem? (i := 718) (by decide +kernel), by decide +kernel⟩
theorem ok_722 : okw (.methodLink RL 85 yX5_insert) := ⟨List.mem_of_getElem? (i := 722) (by decide +kernel), by decide +kernel⟩
theorem ok_726 : okw (.methodLink RX5 97 yX5_count) := ⟨List.mem_of_getElem? (i := 726) (by decide +kernel), by decide +kernel⟩
theorem ok_730 : okw (.methodLink RX5 78 yX5_sizeOf) := ⟨List.mem_of_getElem? (i := 730) (by decide +kernel), by decide +kernel⟩
theorem ok_734 : okw (.methodLink RX5 52 yX5_layOrder) := ⟨List.mem_of_getElem? (i := 734) (by decide +kernel), by decide +kernel⟩
theorem ok_738 : okw (.methodLink RX5 42 yX5_leftmost) := ⟨List.mem_of_getElem? (i := 738) (by decide +kernel), by decide +kernel⟩
theorem ok_742 : okw (.methodLink RX5 49 yX5_following) := ⟨List.mem_of_getElem? (i := 742) (by decide +kernel), by decide +kernel⟩
theorem ok_746 : okw (.methodLink RX5 101 yX5_isValue) := ⟨List.mem_of_getElem? (i := 746) (by decide +kernel), by decide +kernel⟩
theorem ok_749 : okw (.methodLink RX5 105 yX5_goesWell) := ⟨List.mem_of_getElem? (i := 749) (by decide +kernel), by decide +kernel⟩
theorem ok_753 : okw (.methodLink RX5 108 yX5_begins) := ⟨List.mem_of_getElem? (i := 753) (by decide +kernel), by decide +kernel⟩
theorem ok_757 : okw (.methodLink RX5 111 yX5_split) := ⟨List.mem_of_getElem? (i := 757) (by decide +kernel), by decide +kernel⟩
theorem ok_761 : okw (.methodLink RX5 87 yX5_nodeAt) := ⟨List.mem_of_getElem? (i := 761) (by decide +kernel), by decide +kernel⟩
theorem ok_765 : okw (.methodLink RX5 91 yX5_splay) := ⟨List.mem_of_getElem? (i := 765) (by decide +kernel), by decide +kernel⟩
theorem ok_769 : okw (.methodLink RX5 69 yX5_rotate) := ⟨List.mem_of_getElem? (i := 769) (by decide +kernel), by decide +kernel⟩
theorem ok_773 : okw (.methodLink RX5 59 yX5_hang) := ⟨List.mem_of_getElem? (i := 773) (by decide +kernel), by decide +kernel⟩
theorem ok_777 : okw (.methodLink RL 93 yX5_remove) := ⟨List.mem_of_getElem? (i := 777) (by decide +kernel), by decide +kernel⟩
theorem ok_781 : okw (.methodLink RX5 115 yX5_isPlace) := ⟨List.mem_of_getElem? (i := 781) (by decide +kernel), by decide +kernel⟩
theorem ok_785 : okw (.methodLink RX5 118 yX5_join) := ⟨List.mem_of_getElem? (i := 785) (by decide +kernel), by decide +kernel⟩
theorem ok_789 : okw (.methodLink RX5 94 yX5_rightmost) := ⟨List.mem_of_getElem? (i := 789) (by decide +kernel), by decide +kernel⟩
theorem ok_793 : okw (.methodLink RL 96 yX5_get) := ⟨List.mem_of_getElem? (i := 793) (by decide +kernel), by decide +kernel⟩
theorem ok_797 : okw (.methodLink RX5 121 yX5_raiseUp) := ⟨List.mem_of_getElem? (i := 797) (by decide +kernel), by decide +kernel⟩
theorem ok_801 : okw (.methodLink RL 99 yX5_set) := ⟨List.mem_of_getElem? (i := 801) (by decide +kernel), by decide +kernel⟩
theorem ok_805 : okw (.methodLink RL 102 yX5_reverse) := ⟨List.mem_of_getElem? (i := 805) (by decide +kernel), by decide +kernel⟩
theorem ok_809 : okw (.methodLink RX5 133 yX5_isRange) := ⟨List.mem_of_getElem? (i := 809) (by decide +kernel), by decide +kernel⟩
theorem ok_813 : okw (.methodLink RX5 137 yX5_open) := ⟨List.mem_of_getElem? (i := 813) (by decide +kernel), by decide +kernel⟩
theorem ok_817 : okw (.methodLink RX5 140 yX5_turnRound) := ⟨List.mem_of_getElem? (i := 817) (by decide +kernel), by decide +kernel⟩
theorem ok_821 : okw (.methodLink RX5 143 yX5_close) := ⟨List.mem_of_getElem? (i := 821) (by decide +kernel), by decide +kernel⟩
theorem ok_825 : okw (.methodLink RL 106 yX5_raise) := ⟨List.mem_of_getElem? (i := 825) (by decide +kernel), by decide +kernel⟩
theorem ok_829 : okw (.methodLink RL 109 yX5_sum) := ⟨List.mem_of_getElem? (i := 829) (by decide +kernel), by decide +kernel⟩
theorem ok_833 : okw (.methodLink RL 112 yX5_least) := ⟨List.mem_of_getElem? (i := 833) (by decide +kernel), by decide +kernel⟩
theorem ok_837 : okw (.methodLink RL 115 yX5_cut) := ⟨List.mem_of_getElem? (i := 837) (by decide +kernel), by decide +kernel⟩
theorem ok_841 : okw (.methodLink RL 118 yX5_paste) := ⟨List.mem_of_getElem? (i := 841) (by decide +kernel), by decide +kernel⟩
theorem ok_845 : okw (.methodLink RL 121 yX5_point) := ⟨List.mem_of_getElem? (i := 845) (by decide +kernel), by decide +kernel⟩
theorem ok_849 : okw (.methodLink RX5 146 yX5_isFinger) := ⟨List.mem_of_getElem? (i := 849) (by decide +kernel), by decide +kernel⟩
theorem ok_852 : okw (.methodLink RL 124 yX5_follow) := ⟨List.mem_of_getElem? (i := 852) (by decide +kernel), by decide +kernel⟩
theorem ok_856 : okw (.methodLink RX5 149 yX5_isInSequence) := ⟨List.mem_of_getElem? (i := 856) (by decide +kernel), by decide +kernel⟩
theorem ok_860 : okw (.methodLink RX5 56 yX5_rootOf) := ⟨List.mem_of_getElem? (i := 860) (by decide +kernel), by decide +kernel⟩
theorem ok_864 : okw (.methodLink RX5 152 yX5_placeOf) := ⟨List.mem_of_getElem? (i := 864) (by decide +kernel), by decide +kernel⟩
theorem ok_868 : okw (.methodLink RL 127 yX5_move) := ⟨List.mem_of_getElem? (i := 868) (by decide +kernel), by decide +kernel⟩
theorem ok_872 : okw (.methodLink RX5 157 yX5_canMove) := ⟨List.mem_of_getElem? (i := 872) (by decide +kernel), by decide +kernel⟩
theorem ok_877 : okw (.methodLink RL 131 yX5_lastSteps) := ⟨List.mem_of_getElem? (i := 877) (by decide +kernel), by decide +kernel⟩
theorem ok_881 : okw (.methodLink RL 135 yX5_lastRotations) := ⟨List.mem_of_getElem? (i := 881) (by decide +kernel), by decide +kernel⟩
theorem ok_885 : okw (.methodLink RL 139 yX5_steps) := ⟨List.mem_of_getElem? (i := 885) (by decide +kernel), by decide +kernel⟩
theorem ok_889 : okw (.methodLink RL 143 yX5_splays) := ⟨List.mem_of_getElem? (i := 889) (by decide +kernel), by decide +kernel⟩
theorem ok_893 : okw (.methodLink RL 147 yX5_potential) := ⟨List.mem_of_getElem? (i := 893) (by decide +kernel), by decide +kernel⟩
theorem ok_897 : okw (.methodLink RX5 160 yX5_below) := ⟨List.mem_of_getElem? (i := 897) (by decide +kernel), by decide +kernel⟩
theorem ok_901 : okw (.methodLink RX5 163 yX5_rank) := ⟨List.mem_of_getElem? (i := 901) (by decide +kernel), by decide +kernel⟩
theorem ok_904 : okw (.methodLink RL 151 yX5_size) := ⟨List.mem_of_getElem? (i := 904) (by decide +kernel), by decide +kernel⟩
theorem ok_908 : okw (.methodLink RL 155 yX5_clipped) := ⟨List.mem_of_getElem? (i := 908) (by decide +kernel), by decide +kernel⟩
theorem ok_912 : okw (.methodLink RL 159 yX5_root) := ⟨List.mem_of_getElem? (i := 912) (by decide +kernel), by decide +kernel⟩
theorem ok_916 : okw (.methodLink RL 163 yX5_height) := ⟨List.mem_of_getElem? (i := 916) (by decide +kernel), by decide +kernel⟩
theorem ok_920 : okw (.methodLink RX5 166 yX5_depthOf) := ⟨List.mem_of_getElem? (i := 920) (by decide +kernel), by decide +kernel⟩
theorem ok_924 : okw (.methodLink RL 166 yX5_depth) := ⟨List.mem_of_getElem? (i := 924) (by decide +kernel), by decide +kernel⟩
theorem ok_928 : okw (.methodLink RL 169 yX5_subtree) := ⟨List.mem_of_getElem? (i := 928) (by decide +kernel), by decide +kernel⟩
theorem ok_932 : okw (.methodLink RL 173 yX5_child) := ⟨List.mem_of_getElem? (i := 932) (by decide +kernel), by decide +kernel⟩
theorem ok_936 : okw (.methodLink RL 176 yX5_whereIs) := ⟨List.mem_of_getElem? (i := 936) (by decide +kernel), by decide +kernel⟩
theorem ok_940 : okw (.methodLink RL 179 yX5_plain) := ⟨List.mem_of_getElem? (i := 940) (by decide +kernel), by decide +kernel⟩
theorem ok_944 : okw (.methodLink RL 182 yX5_plainSum) := ⟨List.mem_of_getElem? (i := 944) (by decide +kernel), by decide +kernel⟩
end
section
/-! ===== getfield, putfield ===== -/
section FLD
variable {G : GC} {M : MD} {Q : RS → SS → Prop} {k n pc : Nat} {lv : List (Nat × VV)} {st : List VV} {L : List Nat} {K AN : Nat → Nat} {R0 Rc : Nat → Nat → Option Nat} {Ic AIc Im AIm : Nat → Nat → Int32} {AR : Nat → Nat → Option Nat} {AL : Nat → Nat → Int64}
theorem ok_389 : okw (.lays "SplaySequence$Node" "SplaySequence$Node" "left" "LSplaySequence$Node;") := ⟨List.mem_of_getElem? (i := 389) (by decide +kernel), by decide +kernel⟩
theorem ok_391 : okw (.lays "SplaySequence$Node" "SplaySequence$Node" "right" "LSplaySequence$Node;") := ⟨List.mem_of_getElem? (i := 391) (by decide +kernel), by decide +kernel⟩
theorem ok_393 : okw (.lays "SplaySequence$Node" "SplaySequence$Node" "parent" "LSplaySequence$Node;") := ⟨List.mem_of_getElem? (i := 393) (by decide +kernel), by decide +kernel⟩
theorem ok_395 : okw (.lays "SplaySequence$Node" "SplaySequence$Node" "count" "I") := ⟨List.mem_of_getElem? (i := 395) (by decide +kernel), by decide +kernel⟩
theorem ok_397 : okw (.lays "SplaySequence$Node" "SplaySequence$Node" "value" "I") := ⟨List.mem_of_getElem? (i := 397) (by decide +kernel), by decide +kernel⟩
theorem gd_0 : ∀ w ∈ wsX00, okw w := List.forall_mem_cons.mpr ⟨ok_389, List.forall_mem_cons.mpr ⟨ok_391, List.forall_mem_cons.mpr ⟨ok_393, List.forall_mem_cons.mpr ⟨ok_395, List.forall_mem_cons.mpr ⟨ok_397, fun _ h => absurd h List.not_mem_nil⟩⟩⟩⟩⟩
theorem ok_104 : okw (.laysFinal "SplaySequence$Row" "SplaySequence$Row" "values" "[I") := ⟨List.mem_of_getElem? (i := 104) (by decide +kernel), by decide +kernel⟩
theorem ok_106 : okw (.lays "SplaySequence$Row" "SplaySequence$Row" "length" "I") := ⟨List.mem_of_getElem? (i := 106) (by decide +kernel), by decide +kernel⟩
theorem gd_1 : ∀ w ∈ wsX10, okw w := List.forall_mem_cons.mpr ⟨ok_104, List.forall_mem_cons.mpr ⟨ok_106, fun _ h => absurd h List.not_mem_nil⟩⟩
theorem ok_85 : okw (.lays "SplaySequence$Splayer" "SplaySequence$Splayer" "callSteps" "I") := ⟨List.mem_of_getElem? (i := 85) (by decide +kernel), by decide +kernel⟩
theorem ok_87 : okw (.lays "SplaySequence$Splayer" "SplaySequence$Splayer" "callRotations" "I") := ⟨List.mem_of_getElem? (i := 87) (by decide +kernel), by decide +kernel⟩
theorem ok_89 : okw (.lays "SplaySequence$Splayer" "SplaySequence$Splayer" "allSteps" "I") := ⟨List.mem_of_getElem? (i := 89) (by decide +kernel), by decide +kernel⟩
theorem ok_91 : okw (.lays "SplaySequence$Splayer" "SplaySequence$Splayer" "allSplays" "I") := ⟨List.mem_of_getElem? (i := 91) (by decide +kernel), by decide +kernel⟩
theorem gd_2 : ∀ w ∈ wsX20, okw w := List.forall_mem_cons.mpr ⟨ok_85, List.forall_mem_cons.mpr ⟨ok_87, List.forall_mem_cons.mpr ⟨ok_89, List.forall_mem_cons.mpr ⟨ok_91, fun _ h => absurd h List.not_mem_nil⟩⟩⟩⟩
theorem ok_68 : okw (.lays "SplaySequence$Tree" "SplaySequence$Tree" "root" "LSplaySequence$Node;") := ⟨List.mem_of_getElem? (i := 68) (by decide +kernel), by decide +kernel⟩
theorem gd_3 : ∀ w ∈ wsX30, okw w := List.forall_mem_cons.mpr ⟨ok_68, fun _ h => absurd h List.not_mem_nil⟩
theorem ok_118 : okw (.laysFinal "SplaySequence" "SplaySequence" "sequence" "LSplaySequence$Tree;") := ⟨List.mem_of_getElem? (i := 118) (by decide +kernel), by decide +kernel⟩
theorem ok_120 : okw (.laysFinal "SplaySequence" "SplaySequence" "clipboard" "LSplaySequence$Tree;") := ⟨List.mem_of_getElem? (i := 120) (by decide +kernel), by decide +kernel⟩
theorem ok_122 : okw (.laysFinal "SplaySequence" "SplaySequence" "range" "LSplaySequence$Tree;") := ⟨List.mem_of_getElem? (i := 122) (by decide +kernel), by decide +kernel⟩
theorem ok_124 : okw (.laysFinal "SplaySequence" "SplaySequence" "tail" "LSplaySequence$Tree;") := ⟨List.mem_of_getElem? (i := 124) (by decide +kernel), by decide +kernel⟩
theorem ok_126 : okw (.laysFinal "SplaySequence" "SplaySequence" "splayer" "LSplaySequence$Splayer;") := ⟨List.mem_of_getElem? (i := 126) (by decide +kernel), by decide +kernel⟩
theorem ok_128 : okw (.laysFinal "SplaySequence" "SplaySequence" "fingers" "[LSplaySequence$Node;") := ⟨List.mem_of_getElem? (i := 128) (by decide +kernel), by decide +kernel⟩
theorem ok_130 : okw (.laysFinal "SplaySequence" "SplaySequence" "row" "LSplaySequence$Row;") := ⟨List.mem_of_getElem? (i := 130) (by decide +kernel), by decide +kernel⟩
theorem ok_132 : okw (.laysFinal "SplaySequence" "SplaySequence" "clippedRow" "LSplaySequence$Row;") := ⟨List.mem_of_getElem? (i := 132) (by decide +kernel), by decide +kernel⟩
theorem gd_4 : ∀ w ∈ wsX40, okw w := List.forall_mem_cons.mpr ⟨ok_118, List.forall_mem_cons.mpr ⟨ok_120, List.forall_mem_cons.mpr ⟨ok_122, List.forall_mem_cons.mpr ⟨ok_124, List.forall_mem_cons.mpr ⟨ok_126, List.forall_mem_cons.mpr ⟨ok_128, List.forall_mem_cons.mpr ⟨ok_130, List.forall_mem_cons.mpr ⟨ok_132, fun _ h => absurd h List.not_mem_nil⟩⟩⟩⟩⟩⟩⟩⟩
theorem ok_676 : okw (.lays "SplaySequenceModel" "SplaySequenceModel" "thrown" "I") := ⟨List.mem_of_getElem? (i := 676) (by decide +kernel), by decide +kernel⟩
theorem ok_678 : okw (.lays "SplaySequenceModel" "SplaySequenceModel" "tree" "I") := ⟨List.mem_of_getElem? (i := 678) (by decide +kernel), by decide +kernel⟩
theorem ok_680 : okw (.lays "SplaySequenceModel" "SplaySequenceModel" "clip" "I") := ⟨List.mem_of_getElem? (i := 680) (by decide +kernel), by decide +kernel⟩
theorem ok_682 : okw (.laysFinal "SplaySequenceModel" "SplaySequenceModel" "values" "[I") := ⟨List.mem_of_getElem? (i := 682) (by decide +kernel), by decide +kernel⟩
theorem ok_684 : okw (.laysFinal "SplaySequenceModel" "SplaySequenceModel" "left" "[I") := ⟨List.mem_of_getElem? (i := 684) (by decide +kernel), by decide +kernel⟩
theorem ok_686 : okw (.laysFinal "SplaySequenceModel" "SplaySequenceModel" "right" "[I") := ⟨List.mem_of_getElem? (i := 686) (by decide +kernel), by decide +kernel⟩
theorem ok_688 : okw (.laysFinal "SplaySequenceModel" "SplaySequenceModel" "parent" "[I") := ⟨List.mem_of_getElem? (i := 688) (by decide +kernel), by decide +kernel⟩
theorem ok_690 : okw (.laysFinal "SplaySequenceModel" "SplaySequenceModel" "isThere" "[Z") := ⟨List.mem_of_getElem? (i := 690) (by decide +kernel), by decide +kernel⟩
theorem ok_692 : okw (.laysFinal "SplaySequenceModel" "SplaySequenceModel" "fingers" "[I") := ⟨List.mem_of_getElem? (i := 692) (by decide +kernel), by decide +kernel⟩
theorem ok_694 : okw (.laysFinal "SplaySequenceModel" "SplaySequenceModel" "order" "[I") := ⟨List.mem_of_getElem? (i := 694) (by decide +kernel), by decide +kernel⟩
theorem ok_696 : okw (.lays "SplaySequenceModel" "SplaySequenceModel" "many" "I") := ⟨List.mem_of_getElem? (i := 696) (by decide +kernel), by decide +kernel⟩
theorem ok_698 : okw (.lays "SplaySequenceModel" "SplaySequenceModel" "first" "I") := ⟨List.mem_of_getElem? (i := 698) (by decide +kernel), by decide +kernel⟩
theorem ok_700 : okw (.lays "SplaySequenceModel" "SplaySequenceModel" "second" "I") := ⟨List.mem_of_getElem? (i := 700) (by decide +kernel), by decide +kernel⟩
theorem ok_702 : okw (.lays "SplaySequenceModel" "SplaySequenceModel" "latestSteps" "I") := ⟨List.mem_of_getElem? (i := 702) (by decide +kernel), by decide +kernel⟩
theorem ok_704 : okw (.lays "SplaySequenceModel" "SplaySequenceModel" "latestRotations" "I") := ⟨List.mem_of_getElem? (i := 704) (by decide +kernel), by decide +kernel⟩
theorem ok_706 : okw (.lays "SplaySequenceModel" "SplaySequenceModel" "allSteps" "I") := ⟨List.mem_of_getElem? (i := 706) (by decide +kernel), by decide +kernel⟩
theorem ok_708 : okw (.lays "SplaySequenceModel" "SplaySequenceModel" "allSplays" "I") := ⟨List.mem_of_getElem? (i := 708) (by decide +kernel), by decide +kernel⟩
theorem ok_710 : okw (.lays "SplaySequenceModel" "SplaySequenceModel" "ahead" "I") := ⟨List.mem_of_getElem? (i := 710) (by decide +kernel), by decide +kernel⟩
theorem ok_712 : okw (.lays "SplaySequenceModel" "SplaySequenceModel" "range" "I") := ⟨List.mem_of_getElem? (i := 712) (by decide +kernel), by decide +kernel⟩
theorem ok_714 : okw (.lays "SplaySequenceModel" "SplaySequenceModel" "behind" "I") := ⟨List.mem_of_getElem? (i := 714) (by decide +kernel), by decide +kernel⟩
theorem gd_5 : ∀ w ∈ wsX50, okw w := List.forall_mem_cons.mpr ⟨ok_676, List.forall_mem_cons.mpr ⟨ok_678, List.forall_mem_cons.mpr ⟨ok_680, List.forall_mem_cons.mpr ⟨ok_682, List.forall_mem_cons.mpr ⟨ok_684, List.forall_mem_cons.mpr ⟨ok_686, List.forall_mem_cons.mpr ⟨ok_688, List.forall_mem_cons.mpr ⟨ok_690, List.forall_mem_cons.mpr ⟨ok_692, List.forall_mem_cons.mpr ⟨ok_694, List.forall_mem_cons.mpr ⟨ok_696, List.forall_mem_cons.mpr ⟨ok_698, List.forall_mem_cons.mpr ⟨ok_700, List.forall_mem_cons.mpr ⟨ok_702, List.forall_mem_cons.mpr ⟨ok_704, List.forall_mem_cons.mpr ⟨ok_706, List.forall_mem_cons.mpr ⟨ok_708, List.forall_mem_cons.mpr ⟨ok_710, List.forall_mem_cons.mpr ⟨ok_712, List.forall_mem_cons.mpr ⟨ok_714, fun _ h => absurd h List.not_mem_nil⟩⟩⟩⟩⟩⟩⟩⟩⟩⟩⟩⟩⟩⟩⟩⟩⟩⟩⟩⟩
theorem cx_nf {S : SS} {p : Program} {s : State} {m : MethodId} {meth : Method} {c : Code} {args : Array Value} (C : Cx G p M s m meth c) {a : String} {i : Nat} {b d h e : String} (hw : Cond.fieldLinkNest a i b d h e ∈ lw_tbl) : (Cond.fieldLinkNest a i b d h e).before args s = true := va_Nw.use rfl (va_Nw.warmF C.2.2.2.2.2.2.2.2.2.1 (va_Nw.of rfl (C.2.2.2.2.2.2.2.2.1.2.1 _ hw)))
theorem cx_K {p : Program} {s : State} {m : MethodId} {meth : Method} {c : Code} (C : Cx G p M s m meth c) : va_K G.2.2.1 vwCl (tysOf G.2.2.2.1) s := va_K.moved C.2.2.2.2.2.2.2.2.2.1.alike C.2.2.2.2.2.2.2.2.1.2.2.1
theorem cl_0 (cy : CY) {a : Nat} (h : K a = 0) : cE cy ((L, K, AN, R0), (Rc, Ic, AIc, AR), (Im, AIm), AL) a = .inr (0, [va_rf (Rc 0 a), va_rf (Rc 1 a), va_rf (Rc 2 a), .int (Ic 0 a), .int (Ic 1 a)]) := by simp [cE, h]
theorem cu_0_0 (cy : CY) {a : Nat} (h : K a = 0) (v : Option Nat) (x : Nat) : va_up (cE cy ((L, K, AN, R0), (Rc, Ic, AIc, AR), (Im, AIm), AL)) a (.inr (0, [va_rf (v), va_rf (Rc 1 a), va_rf (Rc 2 a), .int (Ic 0 a), .int (Ic 1 a)])) x = cE cy ((L, K, AN, R0), (u2 Rc 0 a v, Ic, AIc, AR), (Im, AIm), AL) x := by
  by_cases hb : x = a
  · subst hb
    simp [va_up, cE, u2, h]
  · simp [va_up, cE, u2, hb]
theorem cu_0_1 (cy : CY) {a : Nat} (h : K a = 0) (v : Option Nat) (x : Nat) : va_up (cE cy ((L, K, AN, R0), (Rc, Ic, AIc, AR), (Im, AIm), AL)) a (.inr (0, [va_rf (Rc 0 a), va_rf (v), va_rf (Rc 2 a), .int (Ic 0 a), .int (Ic 1 a)])) x = cE cy ((L, K, AN, R0), (u2 Rc 1 a v, Ic, AIc, AR), (Im, AIm), AL) x := by
  by_cases hb : x = a
  · subst hb
    simp [va_up, cE, u2, h]
  · simp [va_up, cE, u2, hb]
theorem cu_0_2 (cy : CY) {a : Nat} (h : K a = 0) (v : Option Nat) (x : Nat) : va_up (cE cy ((L, K, AN, R0), (Rc, Ic, AIc, AR), (Im, AIm), AL)) a (.inr (0, [va_rf (Rc 0 a), va_rf (Rc 1 a), va_rf (v), .int (Ic 0 a), .int (Ic 1 a)])) x = cE cy ((L, K, AN, R0), (u2 Rc 2 a v, Ic, AIc, AR), (Im, AIm), AL) x := by
  by_cases hb : x = a
  · subst hb
    simp [va_up, cE, u2, h]
  · simp [va_up, cE, u2, hb]
theorem cu_0_3 (cy : CY) {a : Nat} (h : K a = 0) (v : Int32) (x : Nat) : va_up (cE cy ((L, K, AN, R0), (Rc, Ic, AIc, AR), (Im, AIm), AL)) a (.inr (0, [va_rf (Rc 0 a), va_rf (Rc 1 a), va_rf (Rc 2 a), .int (v), .int (Ic 1 a)])) x = cE cy ((L, K, AN, R0), (Rc, u2 Ic 0 a v, AIc, AR), (Im, AIm), AL) x := by
  by_cases hb : x = a
  · subst hb
    simp [va_up, cE, u2, h]
  · simp [va_up, cE, u2, hb]
theorem cu_0_4 (cy : CY) {a : Nat} (h : K a = 0) (v : Int32) (x : Nat) : va_up (cE cy ((L, K, AN, R0), (Rc, Ic, AIc, AR), (Im, AIm), AL)) a (.inr (0, [va_rf (Rc 0 a), va_rf (Rc 1 a), va_rf (Rc 2 a), .int (Ic 0 a), .int (v)])) x = cE cy ((L, K, AN, R0), (Rc, u2 Ic 1 a v, AIc, AR), (Im, AIm), AL) x := by
  by_cases hb : x = a
  · subst hb
    simp [va_up, cE, u2, h]
  · simp [va_up, cE, u2, hb]
theorem cl_1 (cy : CY) {a : Nat} (h : K a = 1) : cE cy ((L, K, AN, R0), (Rc, Ic, AIc, AR), (Im, AIm), AL) a = .inr (1, [va_rf (R0 0 a), .int (Ic 2 a)]) := by simp [cE, h]
theorem cu_1_0 (cy : CY) {a : Nat} (h : K a = 1) (v : Option Nat) (x : Nat) : va_up (cE cy ((L, K, AN, R0), (Rc, Ic, AIc, AR), (Im, AIm), AL)) a (.inr (1, [va_rf (v), .int (Ic 2 a)])) x = cE cy ((L, K, AN, u2 R0 0 a v), (Rc, Ic, AIc, AR), (Im, AIm), AL) x := by
  by_cases hb : x = a
  · subst hb
    simp [va_up, cE, u2, h]
  · simp [va_up, cE, u2, hb]
theorem cu_1_1 (cy : CY) {a : Nat} (h : K a = 1) (v : Int32) (x : Nat) : va_up (cE cy ((L, K, AN, R0), (Rc, Ic, AIc, AR), (Im, AIm), AL)) a (.inr (1, [va_rf (R0 0 a), .int (v)])) x = cE cy ((L, K, AN, R0), (Rc, u2 Ic 2 a v, AIc, AR), (Im, AIm), AL) x := by
  by_cases hb : x = a
  · subst hb
    simp [va_up, cE, u2, h]
  · simp [va_up, cE, u2, hb]
theorem cl_2 (cy : CY) {a : Nat} (h : K a = 2) : cE cy ((L, K, AN, R0), (Rc, Ic, AIc, AR), (Im, AIm), AL) a = .inr (2, [.int (Ic 3 a), .int (Ic 4 a), .int (Ic 5 a), .int (Ic 6 a)]) := by simp [cE, h]
theorem cu_2_0 (cy : CY) {a : Nat} (h : K a = 2) (v : Int32) (x : Nat) : va_up (cE cy ((L, K, AN, R0), (Rc, Ic, AIc, AR), (Im, AIm), AL)) a (.inr (2, [.int (v), .int (Ic 4 a), .int (Ic 5 a), .int (Ic 6 a)])) x = cE cy ((L, K, AN, R0), (Rc, u2 Ic 3 a v, AIc, AR), (Im, AIm), AL) x := by
  by_cases hb : x = a
  · subst hb
    simp [va_up, cE, u2, h]
  · simp [va_up, cE, u2, hb]
theorem cu_2_1 (cy : CY) {a : Nat} (h : K a = 2) (v : Int32) (x : Nat) : va_up (cE cy ((L, K, AN, R0), (Rc, Ic, AIc, AR), (Im, AIm), AL)) a (.inr (2, [.int (Ic 3 a), .int (v), .int (Ic 5 a), .int (Ic 6 a)])) x = cE cy ((L, K, AN, R0), (Rc, u2 Ic 4 a v, AIc, AR), (Im, AIm), AL) x := by
  by_cases hb : x = a
  · subst hb
    simp [va_up, cE, u2, h]
  · simp [va_up, cE, u2, hb]
theorem cu_2_2 (cy : CY) {a : Nat} (h : K a = 2) (v : Int32) (x : Nat) : va_up (cE cy ((L, K, AN, R0), (Rc, Ic, AIc, AR), (Im, AIm), AL)) a (.inr (2, [.int (Ic 3 a), .int (Ic 4 a), .int (v), .int (Ic 6 a)])) x = cE cy ((L, K, AN, R0), (Rc, u2 Ic 5 a v, AIc, AR), (Im, AIm), AL) x := by
  by_cases hb : x = a
  · subst hb
    simp [va_up, cE, u2, h]
  · simp [va_up, cE, u2, hb]
theorem cu_2_3 (cy : CY) {a : Nat} (h : K a = 2) (v : Int32) (x : Nat) : va_up (cE cy ((L, K, AN, R0), (Rc, Ic, AIc, AR), (Im, AIm), AL)) a (.inr (2, [.int (Ic 3 a), .int (Ic 4 a), .int (Ic 5 a), .int (v)])) x = cE cy ((L, K, AN, R0), (Rc, u2 Ic 6 a v, AIc, AR), (Im, AIm), AL) x := by
  by_cases hb : x = a
  · subst hb
    simp [va_up, cE, u2, h]
  · simp [va_up, cE, u2, hb]
theorem cl_3 (cy : CY) {a : Nat} (h : K a = 3) : cE cy ((L, K, AN, R0), (Rc, Ic, AIc, AR), (Im, AIm), AL) a = .inr (3, [va_rf (Rc 3 a)]) := by simp [cE, h]
theorem cu_3_0 (cy : CY) {a : Nat} (h : K a = 3) (v : Option Nat) (x : Nat) : va_up (cE cy ((L, K, AN, R0), (Rc, Ic, AIc, AR), (Im, AIm), AL)) a (.inr (3, [va_rf (v)])) x = cE cy ((L, K, AN, R0), (u2 Rc 3 a v, Ic, AIc, AR), (Im, AIm), AL) x := by
  by_cases hb : x = a
  · subst hb
    simp [va_up, cE, u2, h]
  · simp [va_up, cE, u2, hb]
theorem cl_4 (cy : CY) {a : Nat} (h : K a = 4) : cE cy ((L, K, AN, R0), (Rc, Ic, AIc, AR), (Im, AIm), AL) a = .inr (4, [va_rf (R0 1 a), va_rf (R0 2 a), va_rf (R0 3 a), va_rf (R0 4 a), va_rf (R0 5 a), va_rf (R0 6 a), va_rf (R0 7 a), va_rf (R0 8 a)]) := by simp [cE, h]
theorem cu_4_0 (cy : CY) {a : Nat} (h : K a = 4) (v : Option Nat) (x : Nat) : va_up (cE cy ((L, K, AN, R0), (Rc, Ic, AIc, AR), (Im, AIm), AL)) a (.inr (4, [va_rf (v), va_rf (R0 2 a), va_rf (R0 3 a), va_rf (R0 4 a), va_rf (R0 5 a), va_rf (R0 6 a), va_rf (R0 7 a), va_rf (R0 8 a)])) x = cE cy ((L, K, AN, u2 R0 1 a v), (Rc, Ic, AIc, AR), (Im, AIm), AL) x := by
  by_cases hb : x = a
  · subst hb
    simp [va_up, cE, u2, h]
  · simp [va_up, cE, u2, hb]
theorem cu_4_1 (cy : CY) {a : Nat} (h : K a = 4) (v : Option Nat) (x : Nat) : va_up (cE cy ((L, K, AN, R0), (Rc, Ic, AIc, AR), (Im, AIm), AL)) a (.inr (4, [va_rf (R0 1 a), va_rf (v), va_rf (R0 3 a), va_rf (R0 4 a), va_rf (R0 5 a), va_rf (R0 6 a), va_rf (R0 7 a), va_rf (R0 8 a)])) x = cE cy ((L, K, AN, u2 R0 2 a v), (Rc, Ic, AIc, AR), (Im, AIm), AL) x := by
  by_cases hb : x = a
  · subst hb
    simp [va_up, cE, u2, h]
  · simp [va_up, cE, u2, hb]
theorem cu_4_2 (cy : CY) {a : Nat} (h : K a = 4) (v : Option Nat) (x : Nat) : va_up (cE cy ((L, K, AN, R0), (Rc, Ic, AIc, AR), (Im, AIm), AL)) a (.inr (4, [va_rf (R0 1 a), va_rf (R0 2 a), va_rf (v), va_rf (R0 4 a), va_rf (R0 5 a), va_rf (R0 6 a), va_rf (R0 7 a), va_rf (R0 8 a)])) x = cE cy ((L, K, AN, u2 R0 3 a v), (Rc, Ic, AIc, AR), (Im, AIm), AL) x := by
  by_cases hb : x = a
  · subst hb
    simp [va_up, cE, u2, h]
  · simp [va_up, cE, u2, hb]
theorem cu_4_3 (cy : CY) {a : Nat} (h : K a = 4) (v : Option Nat) (x : Nat) : va_up (cE cy ((L, K, AN, R0), (Rc, Ic, AIc, AR), (Im, AIm), AL)) a (.inr (4, [va_rf (R0 1 a), va_rf (R0 2 a), va_rf (R0 3 a), va_rf (v), va_rf (R0 5 a), va_rf (R0 6 a), va_rf (R0 7 a), va_rf (R0 8 a)])) x = cE cy ((L, K, AN, u2 R0 4 a v), (Rc, Ic, AIc, AR), (Im, AIm), AL) x := by
  by_cases hb : x = a
  · subst hb
    simp [va_up, cE, u2, h]
  · simp [va_up, cE, u2, hb]
theorem cu_4_4 (cy : CY) {a : Nat} (h : K a = 4) (v : Option Nat) (x : Nat) : va_up (cE cy ((L, K, AN, R0), (Rc, Ic, AIc, AR), (Im, AIm), AL)) a (.inr (4, [va_rf (R0 1 a), va_rf (R0 2 a), va_rf (R0 3 a), va_rf (R0 4 a), va_rf (v), va_rf (R0 6 a), va_rf (R0 7 a), va_rf (R0 8 a)])) x = cE cy ((L, K, AN, u2 R0 5 a v), (Rc, Ic, AIc, AR), (Im, AIm), AL) x := by
  by_cases hb : x = a
  · subst hb
    simp [va_up, cE, u2, h]
  · simp [va_up, cE, u2, hb]
theorem cu_4_5 (cy : CY) {a : Nat} (h : K a = 4) (v : Option Nat) (x : Nat) : va_up (cE cy ((L, K, AN, R0), (Rc, Ic, AIc, AR), (Im, AIm), AL)) a (.inr (4, [va_rf (R0 1 a), va_rf (R0 2 a), va_rf (R0 3 a), va_rf (R0 4 a), va_rf (R0 5 a), va_rf (v), va_rf (R0 7 a), va_rf (R0 8 a)])) x = cE cy ((L, K, AN, u2 R0 6 a v), (Rc, Ic, AIc, AR), (Im, AIm), AL) x := by
  by_cases hb : x = a
  · subst hb
    simp [va_up, cE, u2, h]
  · simp [va_up, cE, u2, hb]
theorem cu_4_6 (cy : CY) {a : Nat} (h : K a = 4) (v : Option Nat) (x : Nat) : va_up (cE cy ((L, K, AN, R0), (Rc, Ic, AIc, AR), (Im, AIm), AL)) a (.inr (4, [va_rf (R0 1 a), va_rf (R0 2 a), va_rf (R0 3 a), va_rf (R0 4 a), va_rf (R0 5 a), va_rf (R0 6 a), va_rf (v), va_rf (R0 8 a)])) x = cE cy ((L, K, AN, u2 R0 7 a v), (Rc, Ic, AIc, AR), (Im, AIm), AL) x := by
  by_cases hb : x = a
  · subst hb
    simp [va_up, cE, u2, h]
  · simp [va_up, cE, u2, hb]
theorem cu_4_7 (cy : CY) {a : Nat} (h : K a = 4) (v : Option Nat) (x : Nat) : va_up (cE cy ((L, K, AN, R0), (Rc, Ic, AIc, AR), (Im, AIm), AL)) a (.inr (4, [va_rf (R0 1 a), va_rf (R0 2 a), va_rf (R0 3 a), va_rf (R0 4 a), va_rf (R0 5 a), va_rf (R0 6 a), va_rf (R0 7 a), va_rf (v)])) x = cE cy ((L, K, AN, u2 R0 8 a v), (Rc, Ic, AIc, AR), (Im, AIm), AL) x := by
  by_cases hb : x = a
  · subst hb
    simp [va_up, cE, u2, h]
  · simp [va_up, cE, u2, hb]
theorem cl_5 (cy : CY) {a : Nat} (h : K a = 5) : cE cy ((L, K, AN, R0), (Rc, Ic, AIc, AR), (Im, AIm), AL) a = .inr (5, [.int (Im 0 a), .int (Im 1 a), .int (Im 2 a), va_rf (R0 9 a), va_rf (R0 10 a), va_rf (R0 11 a), va_rf (R0 12 a), va_rf (R0 13 a), va_rf (R0 14 a), va_rf (R0 15 a), .int (Im 3 a), .int (Im 4 a), .int (Im 5 a), .int (Im 6 a), .int (Im 7 a), .int (Im 8 a), .int (Im 9 a), .int (Im 10 a), .int (Im 11 a), .int (Im 12 a)]) := by simp [cE, h]
theorem cu_5_0 (cy : CY) {a : Nat} (h : K a = 5) (v : Int32) (x : Nat) : va_up (cE cy ((L, K, AN, R0), (Rc, Ic, AIc, AR), (Im, AIm), AL)) a (.inr (5, [.int (v), .int (Im 1 a), .int (Im 2 a), va_rf (R0 9 a), va_rf (R0 10 a), va_rf (R0 11 a), va_rf (R0 12 a), va_rf (R0 13 a), va_rf (R0 14 a), va_rf (R0 15 a), .int (Im 3 a), .int (Im 4 a), .int (Im 5 a), .int (Im 6 a), .int (Im 7 a), .int (Im 8 a), .int (Im 9 a), .int (Im 10 a), .int (Im 11 a), .int (Im 12 a)])) x = cE cy ((L, K, AN, R0), (Rc, Ic, AIc, AR), (u2 Im 0 a v, AIm), AL) x := by
  by_cases hb : x = a
  · subst hb
    simp [va_up, cE, u2, h]
  · simp [va_up, cE, u2, hb]
theorem cu_5_1 (cy : CY) {a : Nat} (h : K a = 5) (v : Int32) (x : Nat) : va_up (cE cy ((L, K, AN, R0), (Rc, Ic, AIc, AR), (Im, AIm), AL)) a (.inr (5, [.int (Im 0 a), .int (v), .int (Im 2 a), va_rf (R0 9 a), va_rf (R0 10 a), va_rf (R0 11 a), va_rf (R0 12 a), va_rf (R0 13 a), va_rf (R0 14 a), va_rf (R0 15 a), .int (Im 3 a), .int (Im 4 a), .int (Im 5 a), .int (Im 6 a), .int (Im 7 a), .int (Im 8 a), .int (Im 9 a), .int (Im 10 a), .int (Im 11 a), .int (Im 12 a)])) x = cE cy ((L, K, AN, R0), (Rc, Ic, AIc, AR), (u2 Im 1 a v, AIm), AL) x := by
  by_cases hb : x = a
  · subst hb
    simp [va_up, cE, u2, h]
  · simp [va_up, cE, u2, hb]
theorem cu_5_2 (cy : CY) {a : Nat} (h : K a = 5) (v : Int32) (x : Nat) : va_up (cE cy ((L, K, AN, R0), (Rc, Ic, AIc, AR), (Im, AIm), AL)) a (.inr (5, [.int (Im 0 a), .int (Im 1 a), .int (v), va_rf (R0 9 a), va_rf (R0 10 a), va_rf (R0 11 a), va_rf (R0 12 a), va_rf (R0 13 a), va_rf (R0 14 a), va_rf (R0 15 a), .int (Im 3 a), .int (Im 4 a), .int (Im 5 a), .int (Im 6 a), .int (Im 7 a), .int (Im 8 a), .int (Im 9 a), .int (Im 10 a), .int (Im 11 a), .int (Im 12 a)])) x = cE cy ((L, K, AN, R0), (Rc, Ic, AIc, AR), (u2 Im 2 a v, AIm), AL) x := by
  by_cases hb : x = a
  · subst hb
    simp [va_up, cE, u2, h]
  · simp [va_up, cE, u2, hb]
theorem cu_5_3 (cy : CY) {a : Nat} (h : K a = 5) (v : Option Nat) (x : Nat) : va_up (cE cy ((L, K, AN, R0), (Rc, Ic, AIc, AR), (Im, AIm), AL)) a (.inr (5, [.int (Im 0 a), .int (Im 1 a), .int (Im 2 a), va_rf (v), va_rf (R0 10 a), va_rf (R0 11 a), va_rf (R0 12 a), va_rf (R0 13 a), va_rf (R0 14 a), va_rf (R0 15 a), .int (Im 3 a), .int (Im 4 a), .int (Im 5 a), .int (Im 6 a), .int (Im 7 a), .int (Im 8 a), .int (Im 9 a), .int (Im 10 a), .int (Im 11 a), .int (Im 12 a)])) x = cE cy ((L, K, AN, u2 R0 9 a v), (Rc, Ic, AIc, AR), (Im, AIm), AL) x := by
  by_cases hb : x = a
  · subst hb
    simp [va_up, cE, u2, h]
  · simp [va_up, cE, u2, hb]
theorem cu_5_4 (cy : CY) {a : Nat} (h : K a = 5) (v : Option Nat) (x : Nat) : va_up (cE cy ((L, K, AN, R0), (Rc, Ic, AIc, AR), (Im, AIm), AL)) a (.inr (5, [.int (Im 0 a), .int (Im 1 a), .int (Im 2 a), va_rf (R0 9 a), va_rf (v), va_rf (R0 11 a), va_rf (R0 12 a), va_rf (R0 13 a), va_rf (R0 14 a), va_rf (R0 15 a), .int (Im 3 a), .int (Im 4 a), .int (Im 5 a), .int (Im 6 a), .int (Im 7 a), .int (Im 8 a), .int (Im 9 a), .int (Im 10 a), .int (Im 11 a), .int (Im 12 a)])) x = cE cy ((L, K, AN, u2 R0 10 a v), (Rc, Ic, AIc, AR), (Im, AIm), AL) x := by
  by_cases hb : x = a
  · subst hb
    simp [va_up, cE, u2, h]
  · simp [va_up, cE, u2, hb]
theorem cu_5_5 (cy : CY) {a : Nat} (h : K a = 5) (v : Option Nat) (x : Nat) : va_up (cE cy ((L, K, AN, R0), (Rc, Ic, AIc, AR), (Im, AIm), AL)) a (.inr (5, [.int (Im 0 a), .int (Im 1 a), .int (Im 2 a), va_rf (R0 9 a), va_rf (R0 10 a), va_rf (v), va_rf (R0 12 a), va_rf (R0 13 a), va_rf (R0 14 a), va_rf (R0 15 a), .int (Im 3 a), .int (Im 4 a), .int (Im 5 a), .int (Im 6 a), .int (Im 7 a), .int (Im 8 a), .int (Im 9 a), .int (Im 10 a), .int (Im 11 a), .int (Im 12 a)])) x = cE cy ((L, K, AN, u2 R0 11 a v), (Rc, Ic, AIc, AR), (Im, AIm), AL) x := by
  by_cases hb : x = a
  · subst hb
    simp [va_up, cE, u2, h]
  · simp [va_up, cE, u2, hb]
theorem cu_5_6 (cy : CY) {a : Nat} (h : K a = 5) (v : Option Nat) (x : Nat) : va_up (cE cy ((L, K, AN, R0), (Rc, Ic, AIc, AR), (Im, AIm), AL)) a (.inr (5, [.int (Im 0 a), .int (Im 1 a), .int (Im 2 a), va_rf (R0 9 a), va_rf (R0 10 a), va_rf (R0 11 a), va_rf (v), va_rf (R0 13 a), va_rf (R0 14 a), va_rf (R0 15 a), .int (Im 3 a), .int (Im 4 a), .int (Im 5 a), .int (Im 6 a), .int (Im 7 a), .int (Im 8 a), .int (Im 9 a), .int (Im 10 a), .int (Im 11 a), .int (Im 12 a)])) x = cE cy ((L, K, AN, u2 R0 12 a v), (Rc, Ic, AIc, AR), (Im, AIm), AL) x := by
  by_cases hb : x = a
  · subst hb
    simp [va_up, cE, u2, h]
  · simp [va_up, cE, u2, hb]
theorem cu_5_7 (cy : CY) {a : Nat} (h : K a = 5) (v : Option Nat) (x : Nat) : va_up (cE cy ((L, K, AN, R0), (Rc, Ic, AIc, AR), (Im, AIm), AL)) a (.inr (5, [.int (Im 0 a), .int (Im 1 a), .int (Im 2 a), va_rf (R0 9 a), va_rf (R0 10 a), va_rf (R0 11 a), va_rf (R0 12 a), va_rf (v), va_rf (R0 14 a), va_rf (R0 15 a), .int (Im 3 a), .int (Im 4 a), .int (Im 5 a), .int (Im 6 a), .int (Im 7 a), .int (Im 8 a), .int (Im 9 a), .int (Im 10 a), .int (Im 11 a), .int (Im 12 a)])) x = cE cy ((L, K, AN, u2 R0 13 a v), (Rc, Ic, AIc, AR), (Im, AIm), AL) x := by
  by_cases hb : x = a
  · subst hb
    simp [va_up, cE, u2, h]
  · simp [va_up, cE, u2, hb]
theorem cu_5_8 (cy : CY) {a : Nat} (h : K a = 5) (v : Option Nat) (x : Nat) : va_up (cE cy ((L, K, AN, R0), (Rc, Ic, AIc, AR), (Im, AIm), AL)) a (.inr (5, [.int (Im 0 a), .int (Im 1 a), .int (Im 2 a), va_rf (R0 9 a), va_rf (R0 10 a), va_rf (R0 11 a), va_rf (R0 12 a), va_rf (R0 13 a), va_rf (v), va_rf (R0 15 a), .int (Im 3 a), .int (Im 4 a), .int (Im 5 a), .int (Im 6 a), .int (Im 7 a), .int (Im 8 a), .int (Im 9 a), .int (Im 10 a), .int (Im 11 a), .int (Im 12 a)])) x = cE cy ((L, K, AN, u2 R0 14 a v), (Rc, Ic, AIc, AR), (Im, AIm), AL) x := by
  by_cases hb : x = a
  · subst hb
    simp [va_up, cE, u2, h]
  · simp [va_up, cE, u2, hb]
theorem cu_5_9 (cy : CY) {a : Nat} (h : K a = 5) (v : Option Nat) (x : Nat) : va_up (cE cy ((L, K, AN, R0), (Rc, Ic, AIc, AR), (Im, AIm), AL)) a (.inr (5, [.int (Im 0 a), .int (Im 1 a), .int (Im 2 a), va_rf (R0 9 a), va_rf (R0 10 a), va_rf (R0 11 a), va_rf (R0 12 a), va_rf (R0 13 a), va_rf (R0 14 a), va_rf (v), .int (Im 3 a), .int (Im 4 a), .int (Im 5 a), .int (Im 6 a), .int (Im 7 a), .int (Im 8 a), .int (Im 9 a), .int (Im 10 a), .int (Im 11 a), .int (Im 12 a)])) x = cE cy ((L, K, AN, u2 R0 15 a v), (Rc, Ic, AIc, AR), (Im, AIm), AL) x := by
  by_cases hb : x = a
  · subst hb
    simp [va_up, cE, u2, h]
  · simp [va_up, cE, u2, hb]
theorem cu_5_10 (cy : CY) {a : Nat} (h : K a = 5) (v : Int32) (x : Nat) : va_up (cE cy ((L, K, AN, R0), (Rc, Ic, AIc, AR), (Im, AIm), AL)) a (.inr (5, [.int (Im 0 a), .int (Im 1 a), .int (Im 2 a), va_rf (R0 9 a), va_rf (R0 10 a), va_rf (R0 11 a), va_rf (R0 12 a), va_rf (R0 13 a), va_rf (R0 14 a), va_rf (R0 15 a), .int (v), .int (Im 4 a), .int (Im 5 a), .int (Im 6 a), .int (Im 7 a), .int (Im 8 a), .int (Im 9 a), .int (Im 10 a), .int (Im 11 a), .int (Im 12 a)])) x = cE cy ((L, K, AN, R0), (Rc, Ic, AIc, AR), (u2 Im 3 a v, AIm), AL) x := by
  by_cases hb : x = a
  · subst hb
    simp [va_up, cE, u2, h]
  · simp [va_up, cE, u2, hb]
theorem cu_5_11 (cy : CY) {a : Nat} (h : K a = 5) (v : Int32) (x : Nat) : va_up (cE cy ((L, K, AN, R0), (Rc, Ic, AIc, AR), (Im, AIm), AL)) a (.inr (5, [.int (Im 0 a), .int (Im 1 a), .int (Im 2 a), va_rf (R0 9 a), va_rf (R0 10 a), va_rf (R0 11 a), va_rf (R0 12 a), va_rf (R0 13 a), va_rf (R0 14 a), va_rf (R0 15 a), .int (Im 3 a), .int (v), .int (Im 5 a), .int (Im 6 a), .int (Im 7 a), .int (Im 8 a), .int (Im 9 a), .int (Im 10 a), .int (Im 11 a), .int (Im 12 a)])) x = cE cy ((L, K, AN, R0), (Rc, Ic, AIc, AR), (u2 Im 4 a v, AIm), AL) x := by
  by_cases hb : x = a
  · subst hb
    simp [va_up, cE, u2, h]
  · simp [va_up, cE, u2, hb]
theorem cu_5_12 (cy : CY) {a : Nat} (h : K a = 5) (v : Int32) (x : Nat) : va_up (cE cy ((L, K, AN, R0), (Rc, Ic, AIc, AR), (Im, AIm), AL)) a (.inr (5, [.int (Im 0 a), .int (Im 1 a), .int (Im 2 a), va_rf (R0 9 a), va_rf (R0 10 a), va_rf (R0 11 a), va_rf (R0 12 a), va_rf (R0 13 a), va_rf (R0 14 a), va_rf (R0 15 a), .int (Im 3 a), .int (Im 4 a), .int (v), .int (Im 6 a), .int (Im 7 a), .int (Im 8 a), .int (Im 9 a), .int (Im 10 a), .int (Im 11 a), .int (Im 12 a)])) x = cE cy ((L, K, AN, R0), (Rc, Ic, AIc, AR), (u2 Im 5 a v, AIm), AL) x := by
  by_cases hb : x = a
  · subst hb
    simp [va_up, cE, u2, h]
  · simp [va_up, cE, u2, hb]
theorem cu_5_13 (cy : CY) {a : Nat} (h : K a = 5) (v : Int32) (x : Nat) : va_up (cE cy ((L, K, AN, R0), (Rc, Ic, AIc, AR), (Im, AIm), AL)) a (.inr (5, [.int (Im 0 a), .int (Im 1 a), .int (Im 2 a), va_rf (R0 9 a), va_rf (R0 10 a), va_rf (R0 11 a), va_rf (R0 12 a), va_rf (R0 13 a), va_rf (R0 14 a), va_rf (R0 15 a), .int (Im 3 a), .int (Im 4 a), .int (Im 5 a), .int (v), .int (Im 7 a), .int (Im 8 a), .int (Im 9 a), .int (Im 10 a), .int (Im 11 a), .int (Im 12 a)])) x = cE cy ((L, K, AN, R0), (Rc, Ic, AIc, AR), (u2 Im 6 a v, AIm), AL) x := by
  by_cases hb : x = a
  · subst hb
    simp [va_up, cE, u2, h]
  · simp [va_up, cE, u2, hb]
theorem cu_5_14 (cy : CY) {a : Nat} (h : K a = 5) (v : Int32) (x : Nat) : va_up (cE cy ((L, K, AN, R0), (Rc, Ic, AIc, AR), (Im, AIm), AL)) a (.inr (5, [.int (Im 0 a), .int (Im 1 a), .int (Im 2 a), va_rf (R0 9 a), va_rf (R0 10 a), va_rf (R0 11 a), va_rf (R0 12 a), va_rf (R0 13 a), va_rf (R0 14 a), va_rf (R0 15 a), .int (Im 3 a), .int (Im 4 a), .int (Im 5 a), .int (Im 6 a), .int (v), .int (Im 8 a), .int (Im 9 a), .int (Im 10 a), .int (Im 11 a), .int (Im 12 a)])) x = cE cy ((L, K, AN, R0), (Rc, Ic, AIc, AR), (u2 Im 7 a v, AIm), AL) x := by
  by_cases hb : x = a
  · subst hb
    simp [va_up, cE, u2, h]
  · simp [va_up, cE, u2, hb]
theorem cu_5_15 (cy : CY) {a : Nat} (h : K a = 5) (v : Int32) (x : Nat) : va_up (cE cy ((L, K, AN, R0), (Rc, Ic, AIc, AR), (Im, AIm), AL)) a (.inr (5, [.int (Im 0 a), .int (Im 1 a), .int (Im 2 a), va_rf (R0 9 a), va_rf (R0 10 a), va_rf (R0 11 a), va_rf (R0 12 a), va_rf (R0 13 a), va_rf (R0 14 a), va_rf (R0 15 a), .int (Im 3 a), .int (Im 4 a), .int (Im 5 a), .int (Im 6 a), .int (Im 7 a), .int (v), .int (Im 9 a), .int (Im 10 a), .int (Im 11 a), .int (Im 12 a)])) x = cE cy ((L, K, AN, R0), (Rc, Ic, AIc, AR), (u2 Im 8 a v, AIm), AL) x := by
  by_cases hb : x = a
  · subst hb
    simp [va_up, cE, u2, h]
  · simp [va_up, cE, u2, hb]
theorem cu_5_16 (cy : CY) {a : Nat} (h : K a = 5) (v : Int32) (x : Nat) : va_up (cE cy ((L, K, AN, R0), (Rc, Ic, AIc, AR), (Im, AIm), AL)) a (.inr (5, [.int (Im 0 a), .int (Im 1 a), .int (Im 2 a), va_rf (R0 9 a), va_rf (R0 10 a), va_rf (R0 11 a), va_rf (R0 12 a), va_rf (R0 13 a), va_rf (R0 14 a), va_rf (R0 15 a), .int (Im 3 a), .int (Im 4 a), .int (Im 5 a), .int (Im 6 a), .int (Im 7 a), .int (Im 8 a), .int (v), .int (Im 10 a), .int (Im 11 a), .int (Im 12 a)])) x = cE cy ((L, K, AN, R0), (Rc, Ic, AIc, AR), (u2 Im 9 a v, AIm), AL) x := by
  by_cases hb : x = a
  · subst hb
    simp [va_up, cE, u2, h]
  · simp [va_up, cE, u2, hb]
theorem cu_5_17 (cy : CY) {a : Nat} (h : K a = 5) (v : Int32) (x : Nat) : va_up (cE cy ((L, K, AN, R0), (Rc, Ic, AIc, AR), (Im, AIm), AL)) a (.inr (5, [.int (Im 0 a), .int (Im 1 a), .int (Im 2 a), va_rf (R0 9 a), va_rf (R0 10 a), va_rf (R0 11 a), va_rf (R0 12 a), va_rf (R0 13 a), va_rf (R0 14 a), va_rf (R0 15 a), .int (Im 3 a), .int (Im 4 a), .int (Im 5 a), .int (Im 6 a), .int (Im 7 a), .int (Im 8 a), .int (Im 9 a), .int (v), .int (Im 11 a), .int (Im 12 a)])) x = cE cy ((L, K, AN, R0), (Rc, Ic, AIc, AR), (u2 Im 10 a v, AIm), AL) x := by
  by_cases hb : x = a
  · subst hb
    simp [va_up, cE, u2, h]
  · simp [va_up, cE, u2, hb]
theorem cu_5_18 (cy : CY) {a : Nat} (h : K a = 5) (v : Int32) (x : Nat) : va_up (cE cy ((L, K, AN, R0), (Rc, Ic, AIc, AR), (Im, AIm), AL)) a (.inr (5, [.int (Im 0 a), .int (Im 1 a), .int (Im 2 a), va_rf (R0 9 a), va_rf (R0 10 a), va_rf (R0 11 a), va_rf (R0 12 a), va_rf (R0 13 a), va_rf (R0 14 a), va_rf (R0 15 a), .int (Im 3 a), .int (Im 4 a), .int (Im 5 a), .int (Im 6 a), .int (Im 7 a), .int (Im 8 a), .int (Im 9 a), .int (Im 10 a), .int (v), .int (Im 12 a)])) x = cE cy ((L, K, AN, R0), (Rc, Ic, AIc, AR), (u2 Im 11 a v, AIm), AL) x := by
  by_cases hb : x = a
  · subst hb
    simp [va_up, cE, u2, h]
  · simp [va_up, cE, u2, hb]
theorem cu_5_19 (cy : CY) {a : Nat} (h : K a = 5) (v : Int32) (x : Nat) : va_up (cE cy ((L, K, AN, R0), (Rc, Ic, AIc, AR), (Im, AIm), AL)) a (.inr (5, [.int (Im 0 a), .int (Im 1 a), .int (Im 2 a), va_rf (R0 9 a), va_rf (R0 10 a), va_rf (R0 11 a), va_rf (R0 12 a), va_rf (R0 13 a), va_rf (R0 14 a), va_rf (R0 15 a), .int (Im 3 a), .int (Im 4 a), .int (Im 5 a), .int (Im 6 a), .int (Im 7 a), .int (Im 8 a), .int (Im 9 a), .int (Im 10 a), .int (Im 11 a), .int (v)])) x = cE cy ((L, K, AN, R0), (Rc, Ic, AIc, AR), (u2 Im 12 a v, AIm), AL) x := by
  by_cases hb : x = a
  · subst hb
    simp [va_up, cE, u2, h]
  · simp [va_up, cE, u2, hb]
theorem ok_65 : okw (.fieldLink RX3 7 RX3 "root" "LSplaySequence$Node;") := ⟨List.mem_of_getElem? (i := 65) (by decide +kernel), by decide +kernel⟩
/-- getfield root of SplaySequence$Tree -/
theorem gf_RX3_7 {o : Option Nat} {a : Nat} (dg : decode M.2.1 pc = .ok (.getfield 7, 3)) (hM : M.1.cls = RX3) (ho : o = some a) (hk : isK ((L, K, AN, R0), (Rc, Ic, AIc, AR), (Im, AIm), AL) 3 a) (kk : WP G M Q k n (pc + 3) lv (vr (Rc 3 a) :: st) ((L, K, AN, R0), (Rc, Ic, AIc, AR), (Im, AIm), AL)) : WP G M Q k n pc lv (vr o :: st) ((L, K, AN, R0), (Rc, Ic, AIc, AR), (Im, AIm), AL) := by
  subst ho
  intro p e s m args below meth c H locs ls C hh hS hl
  obtain ⟨j, hj⟩ := pool_at G.2.2.2.1 hk.1
  rw [cl_3 _ hk.2] at hj
  have hown := C.2.2.2.2.2.1
  rw [hM] at hown
  exact va_get (C := RX3) (T := TX3) (N := 1) (Ts := wsX30) C.1 C.2.1 (fun w h => cx_ok C (gd_3 w h)) (fun _ h => h) hown (cx_K C) hh.1 j hj rfl 0 (by decide) (cx_ok C ok_65) (fun _ h => h) rfl dg (kk p e s m args below meth c H locs ls C hh hS hl)
/-- putfield root of SplaySequence$Tree -/
theorem pf_RX3_7 {o : Option Nat} {a : Nat} {v : Option Nat} (dg : decode M.2.1 pc = .ok (.putfield 7, 3)) (hM : M.1.cls = RX3) (ho : o = some a) (hk : isK ((L, K, AN, R0), (Rc, Ic, AIc, AR), (Im, AIm), AL) 3 a) (kk : WP G M Q k n (pc + 3) lv st ((L, K, AN, R0), (u2 Rc 3 a v, Ic, AIc, AR), (Im, AIm), AL)) : WP G M Q k n pc lv (vr v :: vr o :: st) ((L, K, AN, R0), (Rc, Ic, AIc, AR), (Im, AIm), AL) := by
  subst ho
  intro p e s m args below meth c H locs ls C hh hS hl
  obtain ⟨j, hj⟩ := pool_at G.2.2.2.1 hk.1
  have hj2 := hj
  rw [cl_3 _ hk.2] at hj
  have hown := C.2.2.2.2.2.1
  rw [hM] at hown
  have he : (va_pl L (cE G.2.2.2.1 ((L, K, AN, R0), (Rc, Ic, AIc, AR), (Im, AIm), AL))).set j (a, .inr (3, [va_rf (v)])) = va_pl L (cE G.2.2.2.1 ((L, K, AN, R0), (u2 Rc 3 a v, Ic, AIc, AR), (Im, AIm), AL)) := (va_pl_set (X := []) hh.2 hk.1 hj2).trans (va_pl_congr (cu_3_0 _ hk.2 v))
  have hn : narrow (tyX3 0) (va_rf v) = va_rf v := by cases v <;> rfl
  have hf : fits (tyX3 0) (va_rf v) = true := by cases v <;> rfl
  exact va_put (C := RX3) (T := TX3) (N := 1) (Ts := wsX30) C.1 C.2.1 (fun w h => cx_ok C (gd_3 w h)) (fun _ h => h) tyX3 tyX3_ok nmX3 hown (cx_K C) hh.1 hh.2 hS j hj rfl 0 (by decide) (cx_ok C ok_65) (fun _ h => h) rfl (tyX3_ok 0 (by decide)) hn hf (by show 0 < 1; decide) dg (fun H1 locs1 hP1 hD1 hS1 => kk p e s m args below meth c H1 locs1 ls C ⟨by rw [← he]; exact hP1, by rw [← he]; exact hD1⟩ hS1 hl)
theorem ok_77 : okw (.fieldLink RX2 9 RX2 "callSteps" "I") := ⟨List.mem_of_getElem? (i := 77) (by decide +kernel), by decide +kernel⟩
/-- getfield callSteps of SplaySequence$Splayer -/
theorem gf_RX2_9 {o : Option Nat} {a : Nat} (dg : decode M.2.1 pc = .ok (.getfield 9, 3)) (hM : M.1.cls = RX2) (ho : o = some a) (hk : isK ((L, K, AN, R0), (Rc, Ic, AIc, AR), (Im, AIm), AL) 2 a) (kk : WP G M Q k n (pc + 3) lv (vi (Ic 3 a) :: st) ((L, K, AN, R0), (Rc, Ic, AIc, AR), (Im, AIm), AL)) : WP G M Q k n pc lv (vr o :: st) ((L, K, AN, R0), (Rc, Ic, AIc, AR), (Im, AIm), AL) := by
  subst ho
  intro p e s m args below meth c H locs ls C hh hS hl
  obtain ⟨j, hj⟩ := pool_at G.2.2.2.1 hk.1
  rw [cl_2 _ hk.2] at hj
  have hown := C.2.2.2.2.2.1
  rw [hM] at hown
  exact va_get (C := RX2) (T := TX2) (N := 4) (Ts := wsX20) C.1 C.2.1 (fun w h => cx_ok C (gd_2 w h)) (fun _ h => h) hown (cx_K C) hh.1 j hj rfl 0 (by decide) (cx_ok C ok_77) (fun _ h => h) rfl dg (kk p e s m args below meth c H locs ls C hh hS hl)
/-- putfield callSteps of SplaySequence$Splayer -/
theorem pf_RX2_9 {o : Option Nat} {a : Nat} {v : Int32} (dg : decode M.2.1 pc = .ok (.putfield 9, 3)) (hM : M.1.cls = RX2) (ho : o = some a) (hk : isK ((L, K, AN, R0), (Rc, Ic, AIc, AR), (Im, AIm), AL) 2 a) (kk : WP G M Q k n (pc + 3) lv st ((L, K, AN, R0), (Rc, u2 Ic 3 a v, AIc, AR), (Im, AIm), AL)) : WP G M Q k n pc lv (vi v :: vr o :: st) ((L, K, AN, R0), (Rc, Ic, AIc, AR), (Im, AIm), AL) := by
  subst ho
  intro p e s m args below meth c H locs ls C hh hS hl
  obtain ⟨j, hj⟩ := pool_at G.2.2.2.1 hk.1
  have hj2 := hj
  rw [cl_2 _ hk.2] at hj
  have hown := C.2.2.2.2.2.1
  rw [hM] at hown
  have he : (va_pl L (cE G.2.2.2.1 ((L, K, AN, R0), (Rc, Ic, AIc, AR), (Im, AIm), AL))).set j (a, .inr (2, [.int (v), .int (Ic 4 a), .int (Ic 5 a), .int (Ic 6 a)])) = va_pl L (cE G.2.2.2.1 ((L, K, AN, R0), (Rc, u2 Ic 3 a v, AIc, AR), (Im, AIm), AL)) := (va_pl_set (X := []) hh.2 hk.1 hj2).trans (va_pl_congr (cu_2_0 _ hk.2 v))
  have hn : narrow (tyX2 0) (.int v) = .int v := rfl
  have hf : fits (tyX2 0) (.int v) = true := rfl
  exact va_put (C := RX2) (T := TX2) (N := 4) (Ts := wsX20) C.1 C.2.1 (fun w h => cx_ok C (gd_2 w h)) (fun _ h => h) tyX2 tyX2_ok nmX2 hown (cx_K C) hh.1 hh.2 hS j hj rfl 0 (by decide) (cx_ok C ok_77) (fun _ h => h) rfl (tyX2_ok 0 (by decide)) hn hf (by show 0 < 4; decide) dg (fun H1 locs1 hP1 hD1 hS1 => kk p e s m args below meth c H1 locs1 ls C ⟨by rw [← he]; exact hP1, by rw [← he]; exact hD1⟩ hS1 hl)
theorem ok_79 : okw (.fieldLink RX2 15 RX2 "callRotations" "I") := ⟨List.mem_of_getElem? (i := 79) (by decide +kernel), by decide +kernel⟩
/-- getfield callRotations of SplaySequence$Splayer -/
theorem gf_RX2_15 {o : Option Nat} {a : Nat} (dg : decode M.2.1 pc = .ok (.getfield 15, 3)) (hM : M.1.cls = RX2) (ho : o = some a) (hk : isK ((L, K, AN, R0), (Rc, Ic, AIc, AR), (Im, AIm), AL) 2 a) (kk : WP G M Q k n (pc + 3) lv (vi (Ic 4 a) :: st) ((L, K, AN, R0), (Rc, Ic, AIc, AR), (Im, AIm), AL)) : WP G M Q k n pc lv (vr o :: st) ((L, K, AN, R0), (Rc, Ic, AIc, AR), (Im, AIm), AL) := by
  subst ho
  intro p e s m args below meth c H locs ls C hh hS hl
  obtain ⟨j, hj⟩ := pool_at G.2.2.2.1 hk.1
  rw [cl_2 _ hk.2] at hj
  have hown := C.2.2.2.2.2.1
  rw [hM] at hown
  exact va_get (C := RX2) (T := TX2) (N := 4) (Ts := wsX20) C.1 C.2.1 (fun w h => cx_ok C (gd_2 w h)) (fun _ h => h) hown (cx_K C) hh.1 j hj rfl 1 (by decide) (cx_ok C ok_79) (fun _ h => h) rfl dg (kk p e s m args below meth c H locs ls C hh hS hl)
/-- putfield callRotations of SplaySequence$Splayer -/
theorem pf_RX2_15 {o : Option Nat} {a : Nat} {v : Int32} (dg : decode M.2.1 pc = .ok (.putfield 15, 3)) (hM : M.1.cls = RX2) (ho : o = some a) (hk : isK ((L, K, AN, R0), (Rc, Ic, AIc, AR), (Im, AIm), AL) 2 a) (kk : WP G M Q k n (pc + 3) lv st ((L, K, AN, R0), (Rc, u2 Ic 4 a v, AIc, AR), (Im, AIm), AL)) : WP G M Q k n pc lv (vi v :: vr o :: st) ((L, K, AN, R0), (Rc, Ic, AIc, AR), (Im, AIm), AL) := by
  subst ho
  intro p e s m args below meth c H locs ls C hh hS hl
  obtain ⟨j, hj⟩ := pool_at G.2.2.2.1 hk.1
  have hj2 := hj
  rw [cl_2 _ hk.2] at hj
  have hown := C.2.2.2.2.2.1
  rw [hM] at hown
  have he : (va_pl L (cE G.2.2.2.1 ((L, K, AN, R0), (Rc, Ic, AIc, AR), (Im, AIm), AL))).set j (a, .inr (2, [.int (Ic 3 a), .int (v), .int (Ic 5 a), .int (Ic 6 a)])) = va_pl L (cE G.2.2.2.1 ((L, K, AN, R0), (Rc, u2 Ic 4 a v, AIc, AR), (Im, AIm), AL)) := (va_pl_set (X := []) hh.2 hk.1 hj2).trans (va_pl_congr (cu_2_1 _ hk.2 v))
  have hn : narrow (tyX2 1) (.int v) = .int v := rfl
  have hf : fits (tyX2 1) (.int v) = true := rfl
  exact va_put (C := RX2) (T := TX2) (N := 4) (Ts := wsX20) C.1 C.2.1 (fun w h => cx_ok C (gd_2 w h)) (fun _ h => h) tyX2 tyX2_ok nmX2 hown (cx_K C) hh.1 hh.2 hS j hj rfl 1 (by decide) (cx_ok C ok_79) (fun _ h => h) rfl (tyX2_ok 1 (by decide)) hn hf (by show 1 < 4; decide) dg (fun H1 locs1 hP1 hD1 hS1 => kk p e s m args below meth c H1 locs1 ls C ⟨by rw [← he]; exact hP1, by rw [← he]; exact hD1⟩ hS1 hl)
theorem ok_81 : okw (.fieldLink RX2 35 RX2 "allSteps" "I") := ⟨List.mem_of_getElem? (i := 81) (by decide +kernel), by decide +kernel⟩
/-- getfield allSteps of SplaySequence$Splayer -/
theorem gf_RX2_35 {o : Option Nat} {a : Nat} (dg : decode M.2.1 pc = .ok (.getfield 35, 3)) (hM : M.1.cls = RX2) (ho : o = some a) (hk : isK ((L, K, AN, R0), (Rc, Ic, AIc, AR), (Im, AIm), AL) 2 a) (kk : WP G M Q k n (pc + 3) lv (vi (Ic 5 a) :: st) ((L, K, AN, R0), (Rc, Ic, AIc, AR), (Im, AIm), AL)) : WP G M Q k n pc lv (vr o :: st) ((L, K, AN, R0), (Rc, Ic, AIc, AR), (Im, AIm), AL) := by
  subst ho
  intro p e s m args below meth c H locs ls C hh hS hl
  obtain ⟨j, hj⟩ := pool_at G.2.2.2.1 hk.1
  rw [cl_2 _ hk.2] at hj
  have hown := C.2.2.2.2.2.1
  rw [hM] at hown
  exact va_get (C := RX2) (T := TX2) (N := 4) (Ts := wsX20) C.1 C.2.1 (fun w h => cx_ok C (gd_2 w h)) (fun _ h => h) hown (cx_K C) hh.1 j hj rfl 2 (by decide) (cx_ok C ok_81) (fun _ h => h) rfl dg (kk p e s m args below meth c H locs ls C hh hS hl)
/-- putfield allSteps of SplaySequence$Splayer -/
theorem pf_RX2_35 {o : Option Nat} {a : Nat} {v : Int32} (dg : decode M.2.1 pc = .ok (.putfield 35, 3)) (hM : M.1.cls = RX2) (ho : o = some a) (hk : isK ((L, K, AN, R0), (Rc, Ic, AIc, AR), (Im, AIm), AL) 2 a) (kk : WP G M Q k n (pc + 3) lv st ((L, K, AN, R0), (Rc, u2 Ic 5 a v, AIc, AR), (Im, AIm), AL)) : WP G M Q k n pc lv (vi v :: vr o :: st) ((L, K, AN, R0), (Rc, Ic, AIc, AR), (Im, AIm), AL) := by
  subst ho
  intro p e s m args below meth c H locs ls C hh hS hl
  obtain ⟨j, hj⟩ := pool_at G.2.2.2.1 hk.1
  have hj2 := hj
  rw [cl_2 _ hk.2] at hj
  have hown := C.2.2.2.2.2.1
  rw [hM] at hown
  have he : (va_pl L (cE G.2.2.2.1 ((L, K, AN, R0), (Rc, Ic, AIc, AR), (Im, AIm), AL))).set j (a, .inr (2, [.int (Ic 3 a), .int (Ic 4 a), .int (v), .int (Ic 6 a)])) = va_pl L (cE G.2.2.2.1 ((L, K, AN, R0), (Rc, u2 Ic 5 a v, AIc, AR), (Im, AIm), AL)) := (va_pl_set (X := []) hh.2 hk.1 hj2).trans (va_pl_congr (cu_2_2 _ hk.2 v))
  have hn : narrow (tyX2 2) (.int v) = .int v := rfl
  have hf : fits (tyX2 2) (.int v) = true := rfl
  exact va_put (C := RX2) (T := TX2) (N := 4) (Ts := wsX20) C.1 C.2.1 (fun w h => cx_ok C (gd_2 w h)) (fun _ h => h) tyX2 tyX2_ok nmX2 hown (cx_K C) hh.1 hh.2 hS j hj rfl 2 (by decide) (cx_ok C ok_81) (fun _ h => h) rfl (tyX2_ok 2 (by decide)) hn hf (by show 2 < 4; decide) dg (fun H1 locs1 hP1 hD1 hS1 => kk p e s m args below meth c H1 locs1 ls C ⟨by rw [← he]; exact hP1, by rw [← he]; exact hD1⟩ hS1 hl)
theorem ok_83 : okw (.fieldLink RX2 18 RX2 "allSplays" "I") := ⟨List.mem_of_getElem? (i := 83) (by decide +kernel), by decide +kernel⟩
/-- getfield allSplays of SplaySequence$Splayer -/
theorem gf_RX2_18 {o : Option Nat} {a : Nat} (dg : decode M.2.1 pc = .ok (.getfield 18, 3)) (hM : M.1.cls = RX2) (ho : o = some a) (hk : isK ((L, K, AN, R0), (Rc, Ic, AIc, AR), (Im, AIm), AL) 2 a) (kk : WP G M Q k n (pc + 3) lv (vi (Ic 6 a) :: st) ((L, K, AN, R0), (Rc, Ic, AIc, AR), (Im, AIm), AL)) : WP G M Q k n pc lv (vr o :: st) ((L, K, AN, R0), (Rc, Ic, AIc, AR), (Im, AIm), AL) := by
  subst ho
  intro p e s m args below meth c H locs ls C hh hS hl
  obtain ⟨j, hj⟩ := pool_at G.2.2.2.1 hk.1
  rw [cl_2 _ hk.2] at hj
  have hown := C.2.2.2.2.2.1
  rw [hM] at hown
  exact va_get (C := RX2) (T := TX2) (N := 4) (Ts := wsX20) C.1 C.2.1 (fun w h => cx_ok C (gd_2 w h)) (fun _ h => h) hown (cx_K C) hh.1 j hj rfl 3 (by decide) (cx_ok C ok_83) (fun _ h => h) rfl dg (kk p e s m args below meth c H locs ls C hh hS hl)
/-- putfield allSplays of SplaySequence$Splayer -/
theorem pf_RX2_18 {o : Option Nat} {a : Nat} {v : Int32} (dg : decode M.2.1 pc = .ok (.putfield 18, 3)) (hM : M.1.cls = RX2) (ho : o = some a) (hk : isK ((L, K, AN, R0), (Rc, Ic, AIc, AR), (Im, AIm), AL) 2 a) (kk : WP G M Q k n (pc + 3) lv st ((L, K, AN, R0), (Rc, u2 Ic 6 a v, AIc, AR), (Im, AIm), AL)) : WP G M Q k n pc lv (vi v :: vr o :: st) ((L, K, AN, R0), (Rc, Ic, AIc, AR), (Im, AIm), AL) := by
  subst ho
  intro p e s m args below meth c H locs ls C hh hS hl
  obtain ⟨j, hj⟩ := pool_at G.2.2.2.1 hk.1
  have hj2 := hj
  rw [cl_2 _ hk.2] at hj
  have hown := C.2.2.2.2.2.1
  rw [hM] at hown
  have he : (va_pl L (cE G.2.2.2.1 ((L, K, AN, R0), (Rc, Ic, AIc, AR), (Im, AIm), AL))).set j (a, .inr (2, [.int (Ic 3 a), .int (Ic 4 a), .int (Ic 5 a), .int (v)])) = va_pl L (cE G.2.2.2.1 ((L, K, AN, R0), (Rc, u2 Ic 6 a v, AIc, AR), (Im, AIm), AL)) := (va_pl_set (X := []) hh.2 hk.1 hj2).trans (va_pl_congr (cu_2_3 _ hk.2 v))
  have hn : narrow (tyX2 3) (.int v) = .int v := rfl
  have hf : fits (tyX2 3) (.int v) = true := rfl
  exact va_put (C := RX2) (T := TX2) (N := 4) (Ts := wsX20) C.1 C.2.1 (fun w h => cx_ok C (gd_2 w h)) (fun _ h => h) tyX2 tyX2_ok nmX2 hown (cx_K C) hh.1 hh.2 hS j hj rfl 3 (by decide) (cx_ok C ok_83) (fun _ h => h) rfl (tyX2_ok 3 (by decide)) hn hf (by show 3 < 4; decide) dg (fun H1 locs1 hP1 hD1 hS1 => kk p e s m args below meth c H1 locs1 ls C ⟨by rw [← he]; exact hP1, by rw [← he]; exact hD1⟩ hS1 hl)
theorem ok_102 : okw (.fieldLink RX1 9 RX1 "values" "[I") := ⟨List.mem_of_getElem? (i := 102) (by decide +kernel), by decide +kernel⟩
/-- getfield values of SplaySequence$Row -/
theorem gf_RX1_9 {o : Option Nat} {a : Nat} (dg : decode M.2.1 pc = .ok (.getfield 9, 3)) (hM : M.1.cls = RX1) (ho : o = some a) (hk : isK ((L, K, AN, R0), (Rc, Ic, AIc, AR), (Im, AIm), AL) 1 a) (kk : WP G M Q k n (pc + 3) lv (vr (R0 0 a) :: st) ((L, K, AN, R0), (Rc, Ic, AIc, AR), (Im, AIm), AL)) : WP G M Q k n pc lv (vr o :: st) ((L, K, AN, R0), (Rc, Ic, AIc, AR), (Im, AIm), AL) := by
  subst ho
  intro p e s m args below meth c H locs ls C hh hS hl
  obtain ⟨j, hj⟩ := pool_at G.2.2.2.1 hk.1
  rw [cl_1 _ hk.2] at hj
  have hown := C.2.2.2.2.2.1
  rw [hM] at hown
  exact va_get (C := RX1) (T := TX1) (N := 2) (Ts := wsX10) C.1 C.2.1 (fun w h => cx_ok C (gd_1 w h)) (fun _ h => h) hown (cx_K C) hh.1 j hj rfl 0 (by decide) (cx_ok C ok_102) (fun _ h => h) rfl dg (kk p e s m args below meth c H locs ls C hh hS hl)
/-- putfield values of SplaySequence$Row -/
theorem pf_RX1_9 {o : Option Nat} {a : Nat} {v : Option Nat} (dg : decode M.2.1 pc = .ok (.putfield 9, 3)) (hM : M.1.cls = RX1) (hI : M.1.name = "<init>") (ho : o = some a) (hk : isK ((L, K, AN, R0), (Rc, Ic, AIc, AR), (Im, AIm), AL) 1 a) (kk : WP G M Q k n (pc + 3) lv st ((L, K, AN, u2 R0 0 a v), (Rc, Ic, AIc, AR), (Im, AIm), AL)) : WP G M Q k n pc lv (vr v :: vr o :: st) ((L, K, AN, R0), (Rc, Ic, AIc, AR), (Im, AIm), AL) := by
  subst ho
  intro p e s m args below meth c H locs ls C hh hS hl
  obtain ⟨j, hj⟩ := pool_at G.2.2.2.1 hk.1
  have hj2 := hj
  rw [cl_1 _ hk.2] at hj
  have hown := C.2.2.2.2.2.1
  rw [hM] at hown
  have he : (va_pl L (cE G.2.2.2.1 ((L, K, AN, R0), (Rc, Ic, AIc, AR), (Im, AIm), AL))).set j (a, .inr (1, [va_rf (v), .int (Ic 2 a)])) = va_pl L (cE G.2.2.2.1 ((L, K, AN, u2 R0 0 a v), (Rc, Ic, AIc, AR), (Im, AIm), AL)) := (va_pl_set (X := []) hh.2 hk.1 hj2).trans (va_pl_congr (cu_1_0 _ hk.2 v))
  have hn : narrow (tyX1 0) (va_rf v) = va_rf v := by cases v <;> rfl
  have hf : fits (tyX1 0) (va_rf v) = true := by cases v <;> rfl
  exact va_putF (C := RX1) (T := TX1) (N := 2) (Ts := wsX10) C.1 C.2.1 (fun w h => cx_ok C (gd_1 w h)) (fun _ h => h) tyX1 tyX1_ok nmX1 hown (cx_K C) hh.1 hh.2 hS j hj rfl 0 (by decide) (cx_ok C ok_102) (fun _ h => h) rfl (C.2.2.2.2.2.2.1.trans hI) rfl (tyX1_ok 0 (by decide)) hn hf (by show 0 < 2; decide) dg (fun H1 locs1 hP1 hD1 hS1 => kk p e s m args below meth c H1 locs1 ls C ⟨by rw [← he]; exact hP1, by rw [← he]; exact hD1⟩ hS1 hl)
theorem ok_103 : okw (.fieldLink RX1 15 RX1 "length" "I") := ⟨List.mem_of_getElem? (i := 103) (by decide +kernel), by decide +kernel⟩
/-- getfield length of SplaySequence$Row -/
theorem gf_RX1_15 {o : Option Nat} {a : Nat} (dg : decode M.2.1 pc = .ok (.getfield 15, 3)) (hM : M.1.cls = RX1) (ho : o = some a) (hk : isK ((L, K, AN, R0), (Rc, Ic, AIc, AR), (Im, AIm), AL) 1 a) (kk : WP G M Q k n (pc + 3) lv (vi (Ic 2 a) :: st) ((L, K, AN, R0), (Rc, Ic, AIc, AR), (Im, AIm), AL)) : WP G M Q k n pc lv (vr o :: st) ((L, K, AN, R0), (Rc, Ic, AIc, AR), (Im, AIm), AL) := by
  subst ho
  intro p e s m args below meth c H locs ls C hh hS hl
  obtain ⟨j, hj⟩ := pool_at G.2.2.2.1 hk.1
  rw [cl_1 _ hk.2] at hj
  have hown := C.2.2.2.2.2.1
  rw [hM] at hown
  exact va_get (C := RX1) (T := TX1) (N := 2) (Ts := wsX10) C.1 C.2.1 (fun w h => cx_ok C (gd_1 w h)) (fun _ h => h) hown (cx_K C) hh.1 j hj rfl 1 (by decide) (cx_ok C ok_103) (fun _ h => h) rfl dg (kk p e s m args below meth c H locs ls C hh hS hl)
/-- putfield length of SplaySequence$Row -/
theorem pf_RX1_15 {o : Option Nat} {a : Nat} {v : Int32} (dg : decode M.2.1 pc = .ok (.putfield 15, 3)) (hM : M.1.cls = RX1) (ho : o = some a) (hk : isK ((L, K, AN, R0), (Rc, Ic, AIc, AR), (Im, AIm), AL) 1 a) (kk : WP G M Q k n (pc + 3) lv st ((L, K, AN, R0), (Rc, u2 Ic 2 a v, AIc, AR), (Im, AIm), AL)) : WP G M Q k n pc lv (vi v :: vr o :: st) ((L, K, AN, R0), (Rc, Ic, AIc, AR), (Im, AIm), AL) := by
  subst ho
  intro p e s m args below meth c H locs ls C hh hS hl
  obtain ⟨j, hj⟩ := pool_at G.2.2.2.1 hk.1
  have hj2 := hj
  rw [cl_1 _ hk.2] at hj
  have hown := C.2.2.2.2.2.1
  rw [hM] at hown
  have he : (va_pl L (cE G.2.2.2.1 ((L, K, AN, R0), (Rc, Ic, AIc, AR), (Im, AIm), AL))).set j (a, .inr (1, [va_rf (R0 0 a), .int (v)])) = va_pl L (cE G.2.2.2.1 ((L, K, AN, R0), (Rc, u2 Ic 2 a v, AIc, AR), (Im, AIm), AL)) := (va_pl_set (X := []) hh.2 hk.1 hj2).trans (va_pl_congr (cu_1_1 _ hk.2 v))
  have hn : narrow (tyX1 1) (.int v) = .int v := rfl
  have hf : fits (tyX1 1) (.int v) = true := rfl
  exact va_put (C := RX1) (T := TX1) (N := 2) (Ts := wsX10) C.1 C.2.1 (fun w h => cx_ok C (gd_1 w h)) (fun _ h => h) tyX1 tyX1_ok nmX1 hown (cx_K C) hh.1 hh.2 hS j hj rfl 1 (by decide) (cx_ok C ok_103) (fun _ h => h) rfl (tyX1_ok 1 (by decide)) hn hf (by show 1 < 2; decide) dg (fun H1 locs1 hP1 hD1 hS1 => kk p e s m args below meth c H1 locs1 ls C ⟨by rw [← he]; exact hP1, by rw [← he]; exact hD1⟩ hS1 hl)
theorem ok_110 : okw (.fieldLink RX4 10 RX4 "sequence" "LSplaySequence$Tree;") := ⟨List.mem_of_getElem? (i := 110) (by decide +kernel), by decide +kernel⟩
/-- getfield sequence of SplaySequence -/
theorem gf_RX4_10 {o : Option Nat} {a : Nat} (dg : decode M.2.1 pc = .ok (.getfield 10, 3)) (hM : M.1.cls = RX4) (ho : o = some a) (hk : isK ((L, K, AN, R0), (Rc, Ic, AIc, AR), (Im, AIm), AL) 4 a) (kk : WP G M Q k n (pc + 3) lv (vr (R0 1 a) :: st) ((L, K, AN, R0), (Rc, Ic, AIc, AR), (Im, AIm), AL)) : WP G M Q k n pc lv (vr o :: st) ((L, K, AN, R0), (Rc, Ic, AIc, AR), (Im, AIm), AL) := by
  subst ho
  intro p e s m args below meth c H locs ls C hh hS hl
  obtain ⟨j, hj⟩ := pool_at G.2.2.2.1 hk.1
  rw [cl_4 _ hk.2] at hj
  have hown := C.2.2.2.2.2.1
  rw [hM] at hown
  exact va_get (C := RX4) (T := TX4) (N := 8) (Ts := wsX40) C.1 C.2.1 (fun w h => cx_ok C (gd_4 w h)) (fun _ h => h) hown (cx_K C) hh.1 j hj rfl 0 (by decide) (cx_ok C ok_110) (fun _ h => h) rfl dg (kk p e s m args below meth c H locs ls C hh hS hl)
/-- putfield sequence of SplaySequence -/
theorem pf_RX4_10 {o : Option Nat} {a : Nat} {v : Option Nat} (dg : decode M.2.1 pc = .ok (.putfield 10, 3)) (hM : M.1.cls = RX4) (hI : M.1.name = "<init>") (ho : o = some a) (hk : isK ((L, K, AN, R0), (Rc, Ic, AIc, AR), (Im, AIm), AL) 4 a) (kk : WP G M Q k n (pc + 3) lv st ((L, K, AN, u2 R0 1 a v), (Rc, Ic, AIc, AR), (Im, AIm), AL)) : WP G M Q k n pc lv (vr v :: vr o :: st) ((L, K, AN, R0), (Rc, Ic, AIc, AR), (Im, AIm), AL) := by
  subst ho
  intro p e s m args below meth c H locs ls C hh hS hl
  obtain ⟨j, hj⟩ := pool_at G.2.2.2.1 hk.1
  have hj2 := hj
  rw [cl_4 _ hk.2] at hj
  have hown := C.2.2.2.2.2.1
  rw [hM] at hown
  have he : (va_pl L (cE G.2.2.2.1 ((L, K, AN, R0), (Rc, Ic, AIc, AR), (Im, AIm), AL))).set j (a, .inr (4, [va_rf (v), va_rf (R0 2 a), va_rf (R0 3 a), va_rf (R0 4 a), va_rf (R0 5 a), va_rf (R0 6 a), va_rf (R0 7 a), va_rf (R0 8 a)])) = va_pl L (cE G.2.2.2.1 ((L, K, AN, u2 R0 1 a v), (Rc, Ic, AIc, AR), (Im, AIm), AL)) := (va_pl_set (X := []) hh.2 hk.1 hj2).trans (va_pl_congr (cu_4_0 _ hk.2 v))
  have hn : narrow (tyX4 0) (va_rf v) = va_rf v := by cases v <;> rfl
  have hf : fits (tyX4 0) (va_rf v) = true := by cases v <;> rfl
  exact va_putF (C := RX4) (T := TX4) (N := 8) (Ts := wsX40) C.1 C.2.1 (fun w h => cx_ok C (gd_4 w h)) (fun _ h => h) tyX4 tyX4_ok nmX4 hown (cx_K C) hh.1 hh.2 hS j hj rfl 0 (by decide) (cx_ok C ok_110) (fun _ h => h) rfl (C.2.2.2.2.2.2.1.trans hI) rfl (tyX4_ok 0 (by decide)) hn hf (by show 0 < 8; decide) dg (fun H1 locs1 hP1 hD1 hS1 => kk p e s m args below meth c H1 locs1 ls C ⟨by rw [← he]; exact hP1, by rw [← he]; exact hD1⟩ hS1 hl)
theorem ok_111 : okw (.fieldLink RX4 16 RX4 "clipboard" "LSplaySequence$Tree;") := ⟨List.mem_of_getElem? (i := 111) (by decide +kernel), by decide +kernel⟩
/-- getfield clipboard of SplaySequence -/
theorem gf_RX4_16 {o : Option Nat} {a : Nat} (dg : decode M.2.1 pc = .ok (.getfield 16, 3)) (hM : M.1.cls = RX4) (ho : o = some a) (hk : isK ((L, K, AN, R0), (Rc, Ic, AIc, AR), (Im, AIm), AL) 4 a) (kk : WP G M Q k n (pc + 3) lv (vr (R0 2 a) :: st) ((L, K, AN, R0), (Rc, Ic, AIc, AR), (Im, AIm), AL)) : WP G M Q k n pc lv (vr o :: st) ((L, K, AN, R0), (Rc, Ic, AIc, AR), (Im, AIm), AL) := by
  subst ho
  intro p e s m args below meth c H locs ls C hh hS hl
  obtain ⟨j, hj⟩ := pool_at G.2.2.2.1 hk.1
  rw [cl_4 _ hk.2] at hj
  have hown := C.2.2.2.2.2.1
  rw [hM] at hown
  exact va_get (C := RX4) (T := TX4) (N := 8) (Ts := wsX40) C.1 C.2.1 (fun w h => cx_ok C (gd_4 w h)) (fun _ h => h) hown (cx_K C) hh.1 j hj rfl 1 (by decide) (cx_ok C ok_111) (fun _ h => h) rfl dg (kk p e s m args below meth c H locs ls C hh hS hl)
/-- putfield clipboard of SplaySequence -/
theorem pf_RX4_16 {o : Option Nat} {a : Nat} {v : Option Nat} (dg : decode M.2.1 pc = .ok (.putfield 16, 3)) (hM : M.1.cls = RX4) (hI : M.1.name = "<init>") (ho : o = some a) (hk : isK ((L, K, AN, R0), (Rc, Ic, AIc, AR), (Im, AIm), AL) 4 a) (kk : WP G M Q k n (pc + 3) lv st ((L, K, AN, u2 R0 2 a v), (Rc, Ic, AIc, AR), (Im, AIm), AL)) : WP G M Q k n pc lv (vr v :: vr o :: st) ((L, K, AN, R0), (Rc, Ic, AIc, AR), (Im, AIm), AL) := by
  subst ho
  intro p e s m args below meth c H locs ls C hh hS hl
  obtain ⟨j, hj⟩ := pool_at G.2.2.2.1 hk.1
  have hj2 := hj
  rw [cl_4 _ hk.2] at hj
  have hown := C.2.2.2.2.2.1
  rw [hM] at hown
  have he : (va_pl L (cE G.2.2.2.1 ((L, K, AN, R0), (Rc, Ic, AIc, AR), (Im, AIm), AL))).set j (a, .inr (4, [va_rf (R0 1 a), va_rf (v), va_rf (R0 3 a), va_rf (R0 4 a), va_rf (R0 5 a), va_rf (R0 6 a), va_rf (R0 7 a), va_rf (R0 8 a)])) = va_pl L (cE G.2.2.2.1 ((L, K, AN, u2 R0 2 a v), (Rc, Ic, AIc, AR), (Im, AIm), AL)) := (va_pl_set (X := []) hh.2 hk.1 hj2).trans (va_pl_congr (cu_4_1 _ hk.2 v))
  have hn : narrow (tyX4 1) (va_rf v) = va_rf v := by cases v <;> rfl
  have hf : fits (tyX4 1) (va_rf v) = true := by cases v <;> rfl
  exact va_putF (C := RX4) (T := TX4) (N := 8) (Ts := wsX40) C.1 C.2.1 (fun w h => cx_ok C (gd_4 w h)) (fun _ h => h) tyX4 tyX4_ok nmX4 hown (cx_K C) hh.1 hh.2 hS j hj rfl 1 (by decide) (cx_ok C ok_111) (fun _ h => h) rfl (C.2.2.2.2.2.2.1.trans hI) rfl (tyX4_ok 1 (by decide)) hn hf (by show 1 < 8; decide) dg (fun H1 locs1 hP1 hD1 hS1 => kk p e s m args below meth c H1 locs1 ls C ⟨by rw [← he]; exact hP1, by rw [← he]; exact hD1⟩ hS1 hl)
theorem ok_112 : okw (.fieldLink RX4 19 RX4 "range" "LSplaySequence$Tree;") := ⟨List.mem_of_getElem? (i := 112) (by decide +kernel), by decide +kernel⟩
/-- getfield range of SplaySequence -/
theorem gf_RX4_19 {o : Option Nat} {a : Nat} (dg : decode M.2.1 pc = .ok (.getfield 19, 3)) (hM : M.1.cls = RX4) (ho : o = some a) (hk : isK ((L, K, AN, R0), (Rc, Ic, AIc, AR), (Im, AIm), AL) 4 a) (kk : WP G M Q k n (pc + 3) lv (vr (R0 3 a) :: st) ((L, K, AN, R0), (Rc, Ic, AIc, AR), (Im, AIm), AL)) : WP G M Q k n pc lv (vr o :: st) ((L, K, AN, R0), (Rc, Ic, AIc, AR), (Im, AIm), AL) := by
  subst ho
  intro p e s m args below meth c H locs ls C hh hS hl
  obtain ⟨j, hj⟩ := pool_at G.2.2.2.1 hk.1
  rw [cl_4 _ hk.2] at hj
  have hown := C.2.2.2.2.2.1
  rw [hM] at hown
  exact va_get (C := RX4) (T := TX4) (N := 8) (Ts := wsX40) C.1 C.2.1 (fun w h => cx_ok C (gd_4 w h)) (fun _ h => h) hown (cx_K C) hh.1 j hj rfl 2 (by decide) (cx_ok C ok_112) (fun _ h => h) rfl dg (kk p e s m args below meth c H locs ls C hh hS hl)
/-- putfield range of SplaySequence -/
theorem pf_RX4_19 {o : Option Nat} {a : Nat} {v : Option Nat} (dg : decode M.2.1 pc = .ok (.putfield 19, 3)) (hM : M.1.cls = RX4) (hI : M.1.name = "<init>") (ho : o = some a) (hk : isK ((L, K, AN, R0), (Rc, Ic, AIc, AR), (Im, AIm), AL) 4 a) (kk : WP G M Q k n (pc + 3) lv st ((L, K, AN, u2 R0 3 a v), (Rc, Ic, AIc, AR), (Im, AIm), AL)) : WP G M Q k n pc lv (vr v :: vr o :: st) ((L, K, AN, R0), (Rc, Ic, AIc, AR), (Im, AIm), AL) := by
  subst ho
  intro p e s m args below meth c H locs ls C hh hS hl
  obtain ⟨j, hj⟩ := pool_at G.2.2.2.1 hk.1
  have hj2 := hj
  rw [cl_4 _ hk.2] at hj
  have hown := C.2.2.2.2.2.1
  rw [hM] at hown
  have he : (va_pl L (cE G.2.2.2.1 ((L, K, AN, R0), (Rc, Ic, AIc, AR), (Im, AIm), AL))).set j (a, .inr (4, [va_rf (R0 1 a), va_rf (R0 2 a), va_rf (v), va_rf (R0 4 a), va_rf (R0 5 a), va_rf (R0 6 a), va_rf (R0 7 a), va_rf (R0 8 a)])) = va_pl L (cE G.2.2.2.1 ((L, K, AN, u2 R0 3 a v), (Rc, Ic, AIc, AR), (Im, AIm), AL)) := (va_pl_set (X := []) hh.2 hk.1 hj2).trans (va_pl_congr (cu_4_2 _ hk.2 v))
  have hn : narrow (tyX4 2) (va_rf v) = va_rf v := by cases v <;> rfl
  have hf : fits (tyX4 2) (va_rf v) = true := by cases v <;> rfl
  exact va_putF (C := RX4) (T := TX4) (N := 8) (Ts := wsX40) C.1 C.2.1 (fun w h => cx_ok C (gd_4 w h)) (fun _ h => h) tyX4 tyX4_ok nmX4 hown (cx_K C) hh.1 hh.2 hS j hj rfl 2 (by decide) (cx_ok C ok_112) (fun _ h => h) rfl (C.2.2.2.2.2.2.1.trans hI) rfl (tyX4_ok 2 (by decide)) hn hf (by show 2 < 8; decide) dg (fun H1 locs1 hP1 hD1 hS1 => kk p e s m args below meth c H1 locs1 ls C ⟨by rw [← he]; exact hP1, by rw [← he]; exact hD1⟩ hS1 hl)
theorem ok_113 : okw (.fieldLink RX4 22 RX4 "tail" "LSplaySequence$Tree;") := ⟨List.mem_of_getElem? (i := 113) (by decide +kernel), by decide +kernel⟩
/-- getfield tail of SplaySequence -/
theorem gf_RX4_22 {o : Option Nat} {a : Nat} (dg : decode M.2.1 pc = .ok (.getfield 22, 3)) (hM : M.1.cls = RX4) (ho : o = some a) (hk : isK ((L, K, AN, R0), (Rc, Ic, AIc, AR), (Im, AIm), AL) 4 a) (kk : WP G M Q k n (pc + 3) lv (vr (R0 4 a) :: st) ((L, K, AN, R0), (Rc, Ic, AIc, AR), (Im, AIm), AL)) : WP G M Q k n pc lv (vr o :: st) ((L, K, AN, R0), (Rc, Ic, AIc, AR), (Im, AIm), AL) := by
  subst ho
  intro p e s m args below meth c H locs ls C hh hS hl
  obtain ⟨j, hj⟩ := pool_at G.2.2.2.1 hk.1
  rw [cl_4 _ hk.2] at hj
  have hown := C.2.2.2.2.2.1
  rw [hM] at hown
  exact va_get (C := RX4) (T := TX4) (N := 8) (Ts := wsX40) C.1 C.2.1 (fun w h => cx_ok C (gd_4 w h)) (fun _ h => h) hown (cx_K C) hh.1 j hj rfl 3 (by decide) (cx_ok C ok_113) (fun _ h => h) rfl dg (kk p e s m args below meth c H locs ls C hh hS hl)
/-- putfield tail of SplaySequence -/
theorem pf_RX4_22 {o : Option Nat} {a : Nat} {v : Option Nat} (dg : decode M.2.1 pc = .ok (.putfield 22, 3)) (hM : M.1.cls = RX4) (hI : M.1.name = "<init>") (ho : o = some a) (hk : isK ((L, K, AN, R0), (Rc, Ic, AIc, AR), (Im, AIm), AL) 4 a) (kk : WP G M Q k n (pc + 3) lv st ((L, K, AN, u2 R0 4 a v), (Rc, Ic, AIc, AR), (Im, AIm), AL)) : WP G M Q k n pc lv (vr v :: vr o :: st) ((L, K, AN, R0), (Rc, Ic, AIc, AR), (Im, AIm), AL) := by
  subst ho
  intro p e s m args below meth c H locs ls C hh hS hl
  obtain ⟨j, hj⟩ := pool_at G.2.2.2.1 hk.1
  have hj2 := hj
  rw [cl_4 _ hk.2] at hj
  have hown := C.2.2.2.2.2.1
  rw [hM] at hown
  have he : (va_pl L (cE G.2.2.2.1 ((L, K, AN, R0), (Rc, Ic, AIc, AR), (Im, AIm), AL))).set j (a, .inr (4, [va_rf (R0 1 a), va_rf (R0 2 a), va_rf (R0 3 a), va_rf (v), va_rf (R0 5 a), va_rf (R0 6 a), va_rf (R0 7 a), va_rf (R0 8 a)])) = va_pl L (cE G.2.2.2.1 ((L, K, AN, u2 R0 4 a v), (Rc, Ic, AIc, AR), (Im, AIm), AL)) := (va_pl_set (X := []) hh.2 hk.1 hj2).trans (va_pl_congr (cu_4_3 _ hk.2 v))
  have hn : narrow (tyX4 3) (va_rf v) = va_rf v := by cases v <;> rfl
  have hf : fits (tyX4 3) (va_rf v) = true := by cases v <;> rfl
  exact va_putF (C := RX4) (T := TX4) (N := 8) (Ts := wsX40) C.1 C.2.1 (fun w h => cx_ok C (gd_4 w h)) (fun _ h => h) tyX4 tyX4_ok nmX4 hown (cx_K C) hh.1 hh.2 hS j hj rfl 3 (by decide) (cx_ok C ok_113) (fun _ h => h) rfl (C.2.2.2.2.2.2.1.trans hI) rfl (tyX4_ok 3 (by decide)) hn hf (by show 3 < 8; decide) dg (fun H1 locs1 hP1 hD1 hS1 => kk p e s m args below meth c H1 locs1 ls C ⟨by rw [← he]; exact hP1, by rw [← he]; exact hD1⟩ hS1 hl)
theorem ok_114 : okw (.fieldLink RX4 28 RX4 "splayer" "LSplaySequence$Splayer;") := ⟨List.mem_of_getElem? (i := 114) (by decide +kernel), by decide +kernel⟩
/-- getfield splayer of SplaySequence -/
theorem gf_RX4_28 {o : Option Nat} {a : Nat} (dg : decode M.2.1 pc = .ok (.getfield 28, 3)) (hM : M.1.cls = RX4) (ho : o = some a) (hk : isK ((L, K, AN, R0), (Rc, Ic, AIc, AR), (Im, AIm), AL) 4 a) (kk : WP G M Q k n (pc + 3) lv (vr (R0 5 a) :: st) ((L, K, AN, R0), (Rc, Ic, AIc, AR), (Im, AIm), AL)) : WP G M Q k n pc lv (vr o :: st) ((L, K, AN, R0), (Rc, Ic, AIc, AR), (Im, AIm), AL) := by
  subst ho
  intro p e s m args below meth c H locs ls C hh hS hl
  obtain ⟨j, hj⟩ := pool_at G.2.2.2.1 hk.1
  rw [cl_4 _ hk.2] at hj
  have hown := C.2.2.2.2.2.1
  rw [hM] at hown
  exact va_get (C := RX4) (T := TX4) (N := 8) (Ts := wsX40) C.1 C.2.1 (fun w h => cx_ok C (gd_4 w h)) (fun _ h => h) hown (cx_K C) hh.1 j hj rfl 4 (by decide) (cx_ok C ok_114) (fun _ h => h) rfl dg (kk p e s m args below meth c H locs ls C hh hS hl)
/-- putfield splayer of SplaySequence -/
theorem pf_RX4_28 {o : Option Nat} {a : Nat} {v : Option Nat} (dg : decode M.2.1 pc = .ok (.putfield 28, 3)) (hM : M.1.cls = RX4) (hI : M.1.name = "<init>") (ho : o = some a) (hk : isK ((L, K, AN, R0), (Rc, Ic, AIc, AR), (Im, AIm), AL) 4 a) (kk : WP G M Q k n (pc + 3) lv st ((L, K, AN, u2 R0 5 a v), (Rc, Ic, AIc, AR), (Im, AIm), AL)) : WP G M Q k n pc lv (vr v :: vr o :: st) ((L, K, AN, R0), (Rc, Ic, AIc, AR), (Im, AIm), AL) := by
  subst ho
  intro p e s m args below meth c H locs ls C hh hS hl
  obtain ⟨j, hj⟩ := pool_at G.2.2.2.1 hk.1
  have hj2 := hj
  rw [cl_4 _ hk.2] at hj
  have hown := C.2.2.2.2.2.1
  rw [hM] at hown
  have he : (va_pl L (cE G.2.2.2.1 ((L, K, AN, R0), (Rc, Ic, AIc, AR), (Im, AIm), AL))).set j (a, .inr (4, [va_rf (R0 1 a), va_rf (R0 2 a), va_rf (R0 3 a), va_rf (R0 4 a), va_rf (v), va_rf (R0 6 a), va_rf (R0 7 a), va_rf (R0 8 a)])) = va_pl L (cE G.2.2.2.1 ((L, K, AN, u2 R0 5 a v), (Rc, Ic, AIc, AR), (Im, AIm), AL)) := (va_pl_set (X := []) hh.2 hk.1 hj2).trans (va_pl_congr (cu_4_4 _ hk.2 v))
  have hn : narrow (tyX4 4) (va_rf v) = va_rf v := by cases v <;> rfl
  have hf : fits (tyX4 4) (va_rf v) = true := by cases v <;> rfl
  exact va_putF (C := RX4) (T := TX4) (N := 8) (Ts := wsX40) C.1 C.2.1 (fun w h => cx_ok C (gd_4 w h)) (fun _ h => h) tyX4 tyX4_ok nmX4 hown (cx_K C) hh.1 hh.2 hS j hj rfl 4 (by decide) (cx_ok C ok_114) (fun _ h => h) rfl (C.2.2.2.2.2.2.1.trans hI) rfl (tyX4_ok 4 (by decide)) hn hf (by show 4 < 8; decide) dg (fun H1 locs1 hP1 hD1 hS1 => kk p e s m args below meth c H1 locs1 ls C ⟨by rw [← he]; exact hP1, by rw [← he]; exact hD1⟩ hS1 hl)
theorem ok_115 : okw (.fieldLink RX4 34 RX4 "fingers" "[LSplaySequence$Node;") := ⟨List.mem_of_getElem? (i := 115) (by decide +kernel), by decide +kernel⟩
/-- getfield fingers of SplaySequence -/
theorem gf_RX4_34 {o : Option Nat} {a : Nat} (dg : decode M.2.1 pc = .ok (.getfield 34, 3)) (hM : M.1.cls = RX4) (ho : o = some a) (hk : isK ((L, K, AN, R0), (Rc, Ic, AIc, AR), (Im, AIm), AL) 4 a) (kk : WP G M Q k n (pc + 3) lv (vr (R0 6 a) :: st) ((L, K, AN, R0), (Rc, Ic, AIc, AR), (Im, AIm), AL)) : WP G M Q k n pc lv (vr o :: st) ((L, K, AN, R0), (Rc, Ic, AIc, AR), (Im, AIm), AL) := by
  subst ho
  intro p e s m args below meth c H locs ls C hh hS hl
  obtain ⟨j, hj⟩ := pool_at G.2.2.2.1 hk.1
  rw [cl_4 _ hk.2] at hj
  have hown := C.2.2.2.2.2.1
  rw [hM] at hown
  exact va_get (C := RX4) (T := TX4) (N := 8) (Ts := wsX40) C.1 C.2.1 (fun w h => cx_ok C (gd_4 w h)) (fun _ h => h) hown (cx_K C) hh.1 j hj rfl 5 (by decide) (cx_ok C ok_115) (fun _ h => h) rfl dg (kk p e s m args below meth c H locs ls C hh hS hl)
/-- putfield fingers of SplaySequence -/
theorem pf_RX4_34 {o : Option Nat} {a : Nat} {v : Option Nat} (dg : decode M.2.1 pc = .ok (.putfield 34, 3)) (hM : M.1.cls = RX4) (hI : M.1.name = "<init>") (ho : o = some a) (hk : isK ((L, K, AN, R0), (Rc, Ic, AIc, AR), (Im, AIm), AL) 4 a) (kk : WP G M Q k n (pc + 3) lv st ((L, K, AN, u2 R0 6 a v), (Rc, Ic, AIc, AR), (Im, AIm), AL)) : WP G M Q k n pc lv (vr v :: vr o :: st) ((L, K, AN, R0), (Rc, Ic, AIc, AR), (Im, AIm), AL) := by
  subst ho
  intro p e s m args below meth c H locs ls C hh hS hl
  obtain ⟨j, hj⟩ := pool_at G.2.2.2.1 hk.1
  have hj2 := hj
  rw [cl_4 _ hk.2] at hj
  have hown := C.2.2.2.2.2.1
  rw [hM] at hown
  have he : (va_pl L (cE G.2.2.2.1 ((L, K, AN, R0), (Rc, Ic, AIc, AR), (Im, AIm), AL))).set j (a, .inr (4, [va_rf (R0 1 a), va_rf (R0 2 a), va_rf (R0 3 a), va_rf (R0 4 a), va_rf (R0 5 a), va_rf (v), va_rf (R0 7 a), va_rf (R0 8 a)])) = va_pl L (cE G.2.2.2.1 ((L, K, AN, u2 R0 6 a v), (Rc, Ic, AIc, AR), (Im, AIm), AL)) := (va_pl_set (X := []) hh.2 hk.1 hj2).trans (va_pl_congr (cu_4_5 _ hk.2 v))
  have hn : narrow (tyX4 5) (va_rf v) = va_rf v := by cases v <;> rfl
  have hf : fits (tyX4 5) (va_rf v) = true := by cases v <;> rfl
  exact va_putF (C := RX4) (T := TX4) (N := 8) (Ts := wsX40) C.1 C.2.1 (fun w h => cx_ok C (gd_4 w h)) (fun _ h => h) tyX4 tyX4_ok nmX4 hown (cx_K C) hh.1 hh.2 hS j hj rfl 5 (by decide) (cx_ok C ok_115) (fun _ h => h) rfl (C.2.2.2.2.2.2.1.trans hI) rfl (tyX4_ok 5 (by decide)) hn hf (by show 5 < 8; decide) dg (fun H1 locs1 hP1 hD1 hS1 => kk p e s m args below meth c H1 locs1 ls C ⟨by rw [← he]; exact hP1, by rw [← he]; exact hD1⟩ hS1 hl)
theorem ok_116 : okw (.fieldLink RX4 41 RX4 "row" "LSplaySequence$Row;") := ⟨List.mem_of_getElem? (i := 116) (by decide +kernel), by decide +kernel⟩
/-- getfield row of SplaySequence -/
theorem gf_RX4_41 {o : Option Nat} {a : Nat} (dg : decode M.2.1 pc = .ok (.getfield 41, 3)) (hM : M.1.cls = RX4) (ho : o = some a) (hk : isK ((L, K, AN, R0), (Rc, Ic, AIc, AR), (Im, AIm), AL) 4 a) (kk : WP G M Q k n (pc + 3) lv (vr (R0 7 a) :: st) ((L, K, AN, R0), (Rc, Ic, AIc, AR), (Im, AIm), AL)) : WP G M Q k n pc lv (vr o :: st) ((L, K, AN, R0), (Rc, Ic, AIc, AR), (Im, AIm), AL) := by
  subst ho
  intro p e s m args below meth c H locs ls C hh hS hl
  obtain ⟨j, hj⟩ := pool_at G.2.2.2.1 hk.1
  rw [cl_4 _ hk.2] at hj
  have hown := C.2.2.2.2.2.1
  rw [hM] at hown
  exact va_get (C := RX4) (T := TX4) (N := 8) (Ts := wsX40) C.1 C.2.1 (fun w h => cx_ok C (gd_4 w h)) (fun _ h => h) hown (cx_K C) hh.1 j hj rfl 6 (by decide) (cx_ok C ok_116) (fun _ h => h) rfl dg (kk p e s m args below meth c H locs ls C hh hS hl)
/-- putfield row of SplaySequence -/
theorem pf_RX4_41 {o : Option Nat} {a : Nat} {v : Option Nat} (dg : decode M.2.1 pc = .ok (.putfield 41, 3)) (hM : M.1.cls = RX4) (hI : M.1.name = "<init>") (ho : o = some a) (hk : isK ((L, K, AN, R0), (Rc, Ic, AIc, AR), (Im, AIm), AL) 4 a) (kk : WP G M Q k n (pc + 3) lv st ((L, K, AN, u2 R0 7 a v), (Rc, Ic, AIc, AR), (Im, AIm), AL)) : WP G M Q k n pc lv (vr v :: vr o :: st) ((L, K, AN, R0), (Rc, Ic, AIc, AR), (Im, AIm), AL) := by
  subst ho
  intro p e s m args below meth c H locs ls C hh hS hl
  obtain ⟨j, hj⟩ := pool_at G.2.2.2.1 hk.1
  have hj2 := hj
  rw [cl_4 _ hk.2] at hj
  have hown := C.2.2.2.2.2.1
  rw [hM] at hown
  have he : (va_pl L (cE G.2.2.2.1 ((L, K, AN, R0), (Rc, Ic, AIc, AR), (Im, AIm), AL))).set j (a, .inr (4, [va_rf (R0 1 a), va_rf (R0 2 a), va_rf (R0 3 a), va_rf (R0 4 a), va_rf (R0 5 a), va_rf (R0 6 a), va_rf (v), va_rf (R0 8 a)])) = va_pl L (cE G.2.2.2.1 ((L, K, AN, u2 R0 7 a v), (Rc, Ic, AIc, AR), (Im, AIm), AL)) := (va_pl_set (X := []) hh.2 hk.1 hj2).trans (va_pl_congr (cu_4_6 _ hk.2 v))
  have hn : narrow (tyX4 6) (va_rf v) = va_rf v := by cases v <;> rfl
  have hf : fits (tyX4 6) (va_rf v) = true := by cases v <;> rfl
  exact va_putF (C := RX4) (T := TX4) (N := 8) (Ts := wsX40) C.1 C.2.1 (fun w h => cx_ok C (gd_4 w h)) (fun _ h => h) tyX4 tyX4_ok nmX4 hown (cx_K C) hh.1 hh.2 hS j hj rfl 6 (by decide) (cx_ok C ok_116) (fun _ h => h) rfl (C.2.2.2.2.2.2.1.trans hI) rfl (tyX4_ok 6 (by decide)) hn hf (by show 6 < 8; decide) dg (fun H1 locs1 hP1 hD1 hS1 => kk p e s m args below meth c H1 locs1 ls C ⟨by rw [← he]; exact hP1, by rw [← he]; exact hD1⟩ hS1 hl)
theorem ok_117 : okw (.fieldLink RX4 45 RX4 "clippedRow" "LSplaySequence$Row;") := ⟨List.mem_of_getElem? (i := 117) (by decide +kernel), by decide +kernel⟩
/-- getfield clippedRow of SplaySequence -/
theorem gf_RX4_45 {o : Option Nat} {a : Nat} (dg : decode M.2.1 pc = .ok (.getfield 45, 3)) (hM : M.1.cls = RX4) (ho : o = some a) (hk : isK ((L, K, AN, R0), (Rc, Ic, AIc, AR), (Im, AIm), AL) 4 a) (kk : WP G M Q k n (pc + 3) lv (vr (R0 8 a) :: st) ((L, K, AN, R0), (Rc, Ic, AIc, AR), (Im, AIm), AL)) : WP G M Q k n pc lv (vr o :: st) ((L, K, AN, R0), (Rc, Ic, AIc, AR), (Im, AIm), AL) := by
  subst ho
  intro p e s m args below meth c H locs ls C hh hS hl
  obtain ⟨j, hj⟩ := pool_at G.2.2.2.1 hk.1
  rw [cl_4 _ hk.2] at hj
  have hown := C.2.2.2.2.2.1
  rw [hM] at hown
  exact va_get (C := RX4) (T := TX4) (N := 8) (Ts := wsX40) C.1 C.2.1 (fun w h => cx_ok C (gd_4 w h)) (fun _ h => h) hown (cx_K C) hh.1 j hj rfl 7 (by decide) (cx_ok C ok_117) (fun _ h => h) rfl dg (kk p e s m args below meth c H locs ls C hh hS hl)
/-- putfield clippedRow of SplaySequence -/
theorem pf_RX4_45 {o : Option Nat} {a : Nat} {v : Option Nat} (dg : decode M.2.1 pc = .ok (.putfield 45, 3)) (hM : M.1.cls = RX4) (hI : M.1.name = "<init>") (ho : o = some a) (hk : isK ((L, K, AN, R0), (Rc, Ic, AIc, AR), (Im, AIm), AL) 4 a) (kk : WP G M Q k n (pc + 3) lv st ((L, K, AN, u2 R0 8 a v), (Rc, Ic, AIc, AR), (Im, AIm), AL)) : WP G M Q k n pc lv (vr v :: vr o :: st) ((L, K, AN, R0), (Rc, Ic, AIc, AR), (Im, AIm), AL) := by
  subst ho
  intro p e s m args below meth c H locs ls C hh hS hl
  obtain ⟨j, hj⟩ := pool_at G.2.2.2.1 hk.1
  have hj2 := hj
  rw [cl_4 _ hk.2] at hj
  have hown := C.2.2.2.2.2.1
  rw [hM] at hown
  have he : (va_pl L (cE G.2.2.2.1 ((L, K, AN, R0), (Rc, Ic, AIc, AR), (Im, AIm), AL))).set j (a, .inr (4, [va_rf (R0 1 a), va_rf (R0 2 a), va_rf (R0 3 a), va_rf (R0 4 a), va_rf (R0 5 a), va_rf (R0 6 a), va_rf (R0 7 a), va_rf (v)])) = va_pl L (cE G.2.2.2.1 ((L, K, AN, u2 R0 8 a v), (Rc, Ic, AIc, AR), (Im, AIm), AL)) := (va_pl_set (X := []) hh.2 hk.1 hj2).trans (va_pl_congr (cu_4_7 _ hk.2 v))
  have hn : narrow (tyX4 7) (va_rf v) = va_rf v := by cases v <;> rfl
  have hf : fits (tyX4 7) (va_rf v) = true := by cases v <;> rfl
  exact va_putF (C := RX4) (T := TX4) (N := 8) (Ts := wsX40) C.1 C.2.1 (fun w h => cx_ok C (gd_4 w h)) (fun _ h => h) tyX4 tyX4_ok nmX4 hown (cx_K C) hh.1 hh.2 hS j hj rfl 7 (by decide) (cx_ok C ok_117) (fun _ h => h) rfl (C.2.2.2.2.2.2.1.trans hI) rfl (tyX4_ok 7 (by decide)) hn hf (by show 7 < 8; decide) dg (fun H1 locs1 hP1 hD1 hS1 => kk p e s m args below meth c H1 locs1 ls C ⟨by rw [← he]; exact hP1, by rw [← he]; exact hD1⟩ hS1 hl)
theorem ok_373 : okw (.fieldLink RX0 20 RX0 "left" "LSplaySequence$Node;") := ⟨List.mem_of_getElem? (i := 373) (by decide +kernel), by decide +kernel⟩
/-- getfield left of SplaySequence$Node -/
theorem gf_RX0_20 {o : Option Nat} {a : Nat} (dg : decode M.2.1 pc = .ok (.getfield 20, 3)) (hM : M.1.cls = RX0) (ho : o = some a) (hk : isK ((L, K, AN, R0), (Rc, Ic, AIc, AR), (Im, AIm), AL) 0 a) (kk : WP G M Q k n (pc + 3) lv (vr (Rc 0 a) :: st) ((L, K, AN, R0), (Rc, Ic, AIc, AR), (Im, AIm), AL)) : WP G M Q k n pc lv (vr o :: st) ((L, K, AN, R0), (Rc, Ic, AIc, AR), (Im, AIm), AL) := by
  subst ho
  intro p e s m args below meth c H locs ls C hh hS hl
  obtain ⟨j, hj⟩ := pool_at G.2.2.2.1 hk.1
  rw [cl_0 _ hk.2] at hj
  have hown := C.2.2.2.2.2.1
  rw [hM] at hown
  exact va_get (C := RX0) (T := TX0) (N := 5) (Ts := wsX00) C.1 C.2.1 (fun w h => cx_ok C (gd_0 w h)) (fun _ h => h) hown (cx_K C) hh.1 j hj rfl 0 (by decide) (cx_ok C ok_373) (fun _ h => h) rfl dg (kk p e s m args below meth c H locs ls C hh hS hl)
/-- putfield left of SplaySequence$Node -/
theorem pf_RX0_20 {o : Option Nat} {a : Nat} {v : Option Nat} (dg : decode M.2.1 pc = .ok (.putfield 20, 3)) (hM : M.1.cls = RX0) (ho : o = some a) (hk : isK ((L, K, AN, R0), (Rc, Ic, AIc, AR), (Im, AIm), AL) 0 a) (kk : WP G M Q k n (pc + 3) lv st ((L, K, AN, R0), (u2 Rc 0 a v, Ic, AIc, AR), (Im, AIm), AL)) : WP G M Q k n pc lv (vr v :: vr o :: st) ((L, K, AN, R0), (Rc, Ic, AIc, AR), (Im, AIm), AL) := by
  subst ho
  intro p e s m args below meth c H locs ls C hh hS hl
  obtain ⟨j, hj⟩ := pool_at G.2.2.2.1 hk.1
  have hj2 := hj
  rw [cl_0 _ hk.2] at hj
  have hown := C.2.2.2.2.2.1
  rw [hM] at hown
  have he : (va_pl L (cE G.2.2.2.1 ((L, K, AN, R0), (Rc, Ic, AIc, AR), (Im, AIm), AL))).set j (a, .inr (0, [va_rf (v), va_rf (Rc 1 a), va_rf (Rc 2 a), .int (Ic 0 a), .int (Ic 1 a)])) = va_pl L (cE G.2.2.2.1 ((L, K, AN, R0), (u2 Rc 0 a v, Ic, AIc, AR), (Im, AIm), AL)) := (va_pl_set (X := []) hh.2 hk.1 hj2).trans (va_pl_congr (cu_0_0 _ hk.2 v))
  have hn : narrow (tyX0 0) (va_rf v) = va_rf v := by cases v <;> rfl
  have hf : fits (tyX0 0) (va_rf v) = true := by cases v <;> rfl
  exact va_put (C := RX0) (T := TX0) (N := 5) (Ts := wsX00) C.1 C.2.1 (fun w h => cx_ok C (gd_0 w h)) (fun _ h => h) tyX0 tyX0_ok nmX0 hown (cx_K C) hh.1 hh.2 hS j hj rfl 0 (by decide) (cx_ok C ok_373) (fun _ h => h) rfl (tyX0_ok 0 (by decide)) hn hf (by show 0 < 5; decide) dg (fun H1 locs1 hP1 hD1 hS1 => kk p e s m args below meth c H1 locs1 ls C ⟨by rw [← he]; exact hP1, by rw [← he]; exact hD1⟩ hS1 hl)
theorem ok_378 : okw (.fieldLink RX0 27 RX0 "right" "LSplaySequence$Node;") := ⟨List.mem_of_getElem? (i := 378) (by decide +kernel), by decide +kernel⟩
/-- getfield right of SplaySequence$Node -/
theorem gf_RX0_27 {o : Option Nat} {a : Nat} (dg : decode M.2.1 pc = .ok (.getfield 27, 3)) (hM : M.1.cls = RX0) (ho : o = some a) (hk : isK ((L, K, AN, R0), (Rc, Ic, AIc, AR), (Im, AIm), AL) 0 a) (kk : WP G M Q k n (pc + 3) lv (vr (Rc 1 a) :: st) ((L, K, AN, R0), (Rc, Ic, AIc, AR), (Im, AIm), AL)) : WP G M Q k n pc lv (vr o :: st) ((L, K, AN, R0), (Rc, Ic, AIc, AR), (Im, AIm), AL) := by
  subst ho
  intro p e s m args below meth c H locs ls C hh hS hl
  obtain ⟨j, hj⟩ := pool_at G.2.2.2.1 hk.1
  rw [cl_0 _ hk.2] at hj
  have hown := C.2.2.2.2.2.1
  rw [hM] at hown
  exact va_get (C := RX0) (T := TX0) (N := 5) (Ts := wsX00) C.1 C.2.1 (fun w h => cx_ok C (gd_0 w h)) (fun _ h => h) hown (cx_K C) hh.1 j hj rfl 1 (by decide) (cx_ok C ok_378) (fun _ h => h) rfl dg (kk p e s m args below meth c H locs ls C hh hS hl)
/-- putfield right of SplaySequence$Node -/
theorem pf_RX0_27 {o : Option Nat} {a : Nat} {v : Option Nat} (dg : decode M.2.1 pc = .ok (.putfield 27, 3)) (hM : M.1.cls = RX0) (ho : o = some a) (hk : isK ((L, K, AN, R0), (Rc, Ic, AIc, AR), (Im, AIm), AL) 0 a) (kk : WP G M Q k n (pc + 3) lv st ((L, K, AN, R0), (u2 Rc 1 a v, Ic, AIc, AR), (Im, AIm), AL)) : WP G M Q k n pc lv (vr v :: vr o :: st) ((L, K, AN, R0), (Rc, Ic, AIc, AR), (Im, AIm), AL) := by
  subst ho
  intro p e s m args below meth c H locs ls C hh hS hl
  obtain ⟨j, hj⟩ := pool_at G.2.2.2.1 hk.1
  have hj2 := hj
  rw [cl_0 _ hk.2] at hj
  have hown := C.2.2.2.2.2.1
  rw [hM] at hown
  have he : (va_pl L (cE G.2.2.2.1 ((L, K, AN, R0), (Rc, Ic, AIc, AR), (Im, AIm), AL))).set j (a, .inr (0, [va_rf (Rc 0 a), va_rf (v), va_rf (Rc 2 a), .int (Ic 0 a), .int (Ic 1 a)])) = va_pl L (cE G.2.2.2.1 ((L, K, AN, R0), (u2 Rc 1 a v, Ic, AIc, AR), (Im, AIm), AL)) := (va_pl_set (X := []) hh.2 hk.1 hj2).trans (va_pl_congr (cu_0_1 _ hk.2 v))
  have hn : narrow (tyX0 1) (va_rf v) = va_rf v := by cases v <;> rfl
  have hf : fits (tyX0 1) (va_rf v) = true := by cases v <;> rfl
  exact va_put (C := RX0) (T := TX0) (N := 5) (Ts := wsX00) C.1 C.2.1 (fun w h => cx_ok C (gd_0 w h)) (fun _ h => h) tyX0 tyX0_ok nmX0 hown (cx_K C) hh.1 hh.2 hS j hj rfl 1 (by decide) (cx_ok C ok_378) (fun _ h => h) rfl (tyX0_ok 1 (by decide)) hn hf (by show 1 < 5; decide) dg (fun H1 locs1 hP1 hD1 hS1 => kk p e s m args below meth c H1 locs1 ls C ⟨by rw [← he]; exact hP1, by rw [← he]; exact hD1⟩ hS1 hl)
theorem ok_381 : okw (.fieldLink RX0 16 RX0 "parent" "LSplaySequence$Node;") := ⟨List.mem_of_getElem? (i := 381) (by decide +kernel), by decide +kernel⟩
/-- getfield parent of SplaySequence$Node -/
theorem gf_RX0_16 {o : Option Nat} {a : Nat} (dg : decode M.2.1 pc = .ok (.getfield 16, 3)) (hM : M.1.cls = RX0) (ho : o = some a) (hk : isK ((L, K, AN, R0), (Rc, Ic, AIc, AR), (Im, AIm), AL) 0 a) (kk : WP G M Q k n (pc + 3) lv (vr (Rc 2 a) :: st) ((L, K, AN, R0), (Rc, Ic, AIc, AR), (Im, AIm), AL)) : WP G M Q k n pc lv (vr o :: st) ((L, K, AN, R0), (Rc, Ic, AIc, AR), (Im, AIm), AL) := by
  subst ho
  intro p e s m args below meth c H locs ls C hh hS hl
  obtain ⟨j, hj⟩ := pool_at G.2.2.2.1 hk.1
  rw [cl_0 _ hk.2] at hj
  have hown := C.2.2.2.2.2.1
  rw [hM] at hown
  exact va_get (C := RX0) (T := TX0) (N := 5) (Ts := wsX00) C.1 C.2.1 (fun w h => cx_ok C (gd_0 w h)) (fun _ h => h) hown (cx_K C) hh.1 j hj rfl 2 (by decide) (cx_ok C ok_381) (fun _ h => h) rfl dg (kk p e s m args below meth c H locs ls C hh hS hl)
/-- putfield parent of SplaySequence$Node -/
theorem pf_RX0_16 {o : Option Nat} {a : Nat} {v : Option Nat} (dg : decode M.2.1 pc = .ok (.putfield 16, 3)) (hM : M.1.cls = RX0) (ho : o = some a) (hk : isK ((L, K, AN, R0), (Rc, Ic, AIc, AR), (Im, AIm), AL) 0 a) (kk : WP G M Q k n (pc + 3) lv st ((L, K, AN, R0), (u2 Rc 2 a v, Ic, AIc, AR), (Im, AIm), AL)) : WP G M Q k n pc lv (vr v :: vr o :: st) ((L, K, AN, R0), (Rc, Ic, AIc, AR), (Im, AIm), AL) := by
  subst ho
  intro p e s m args below meth c H locs ls C hh hS hl
  obtain ⟨j, hj⟩ := pool_at G.2.2.2.1 hk.1
  have hj2 := hj
  rw [cl_0 _ hk.2] at hj
  have hown := C.2.2.2.2.2.1
  rw [hM] at hown
  have he : (va_pl L (cE G.2.2.2.1 ((L, K, AN, R0), (Rc, Ic, AIc, AR), (Im, AIm), AL))).set j (a, .inr (0, [va_rf (Rc 0 a), va_rf (Rc 1 a), va_rf (v), .int (Ic 0 a), .int (Ic 1 a)])) = va_pl L (cE G.2.2.2.1 ((L, K, AN, R0), (u2 Rc 2 a v, Ic, AIc, AR), (Im, AIm), AL)) := (va_pl_set (X := []) hh.2 hk.1 hj2).trans (va_pl_congr (cu_0_2 _ hk.2 v))
  have hn : narrow (tyX0 2) (va_rf v) = va_rf v := by cases v <;> rfl
  have hf : fits (tyX0 2) (va_rf v) = true := by cases v <;> rfl
  exact va_put (C := RX0) (T := TX0) (N := 5) (Ts := wsX00) C.1 C.2.1 (fun w h => cx_ok C (gd_0 w h)) (fun _ h => h) tyX0 tyX0_ok nmX0 hown (cx_K C) hh.1 hh.2 hS j hj rfl 2 (by decide) (cx_ok C ok_381) (fun _ h => h) rfl (tyX0_ok 2 (by decide)) hn hf (by show 2 < 5; decide) dg (fun H1 locs1 hP1 hD1 hS1 => kk p e s m args below meth c H1 locs1 ls C ⟨by rw [← he]; exact hP1, by rw [← he]; exact hD1⟩ hS1 hl)
theorem ok_383 : okw (.fieldLink RX0 7 RX0 "count" "I") := ⟨List.mem_of_getElem? (i := 383) (by decide +kernel), by decide +kernel⟩
/-- getfield count of SplaySequence$Node -/
theorem gf_RX0_7 {o : Option Nat} {a : Nat} (dg : decode M.2.1 pc = .ok (.getfield 7, 3)) (hM : M.1.cls = RX0) (ho : o = some a) (hk : isK ((L, K, AN, R0), (Rc, Ic, AIc, AR), (Im, AIm), AL) 0 a) (kk : WP G M Q k n (pc + 3) lv (vi (Ic 0 a) :: st) ((L, K, AN, R0), (Rc, Ic, AIc, AR), (Im, AIm), AL)) : WP G M Q k n pc lv (vr o :: st) ((L, K, AN, R0), (Rc, Ic, AIc, AR), (Im, AIm), AL) := by
  subst ho
  intro p e s m args below meth c H locs ls C hh hS hl
  obtain ⟨j, hj⟩ := pool_at G.2.2.2.1 hk.1
  rw [cl_0 _ hk.2] at hj
  have hown := C.2.2.2.2.2.1
  rw [hM] at hown
  exact va_get (C := RX0) (T := TX0) (N := 5) (Ts := wsX00) C.1 C.2.1 (fun w h => cx_ok C (gd_0 w h)) (fun _ h => h) hown (cx_K C) hh.1 j hj rfl 3 (by decide) (cx_ok C ok_383) (fun _ h => h) rfl dg (kk p e s m args below meth c H locs ls C hh hS hl)
/-- putfield count of SplaySequence$Node -/
theorem pf_RX0_7 {o : Option Nat} {a : Nat} {v : Int32} (dg : decode M.2.1 pc = .ok (.putfield 7, 3)) (hM : M.1.cls = RX0) (ho : o = some a) (hk : isK ((L, K, AN, R0), (Rc, Ic, AIc, AR), (Im, AIm), AL) 0 a) (kk : WP G M Q k n (pc + 3) lv st ((L, K, AN, R0), (Rc, u2 Ic 0 a v, AIc, AR), (Im, AIm), AL)) : WP G M Q k n pc lv (vi v :: vr o :: st) ((L, K, AN, R0), (Rc, Ic, AIc, AR), (Im, AIm), AL) := by
  subst ho
  intro p e s m args below meth c H locs ls C hh hS hl
  obtain ⟨j, hj⟩ := pool_at G.2.2.2.1 hk.1
  have hj2 := hj
  rw [cl_0 _ hk.2] at hj
  have hown := C.2.2.2.2.2.1
  rw [hM] at hown
  have he : (va_pl L (cE G.2.2.2.1 ((L, K, AN, R0), (Rc, Ic, AIc, AR), (Im, AIm), AL))).set j (a, .inr (0, [va_rf (Rc 0 a), va_rf (Rc 1 a), va_rf (Rc 2 a), .int (v), .int (Ic 1 a)])) = va_pl L (cE G.2.2.2.1 ((L, K, AN, R0), (Rc, u2 Ic 0 a v, AIc, AR), (Im, AIm), AL)) := (va_pl_set (X := []) hh.2 hk.1 hj2).trans (va_pl_congr (cu_0_3 _ hk.2 v))
  have hn : narrow (tyX0 3) (.int v) = .int v := rfl
  have hf : fits (tyX0 3) (.int v) = true := rfl
  exact va_put (C := RX0) (T := TX0) (N := 5) (Ts := wsX00) C.1 C.2.1 (fun w h => cx_ok C (gd_0 w h)) (fun _ h => h) tyX0 tyX0_ok nmX0 hown (cx_K C) hh.1 hh.2 hS j hj rfl 3 (by decide) (cx_ok C ok_383) (fun _ h => h) rfl (tyX0_ok 3 (by decide)) hn hf (by show 3 < 5; decide) dg (fun H1 locs1 hP1 hD1 hS1 => kk p e s m args below meth c H1 locs1 ls C ⟨by rw [← he]; exact hP1, by rw [← he]; exact hD1⟩ hS1 hl)
theorem ok_386 : okw (.fieldLink RX0 13 RX0 "value" "I") := ⟨List.mem_of_getElem? (i := 386) (by decide +kernel), by decide +kernel⟩
/-- getfield value of SplaySequence$Node -/
theorem gf_RX0_13 {o : Option Nat} {a : Nat} (dg : decode M.2.1 pc = .ok (.getfield 13, 3)) (hM : M.1.cls = RX0) (ho : o = some a) (hk : isK ((L, K, AN, R0), (Rc, Ic, AIc, AR), (Im, AIm), AL) 0 a) (kk : WP G M Q k n (pc + 3) lv (vi (Ic 1 a) :: st) ((L, K, AN, R0), (Rc, Ic, AIc, AR), (Im, AIm), AL)) : WP G M Q k n pc lv (vr o :: st) ((L, K, AN, R0), (Rc, Ic, AIc, AR), (Im, AIm), AL) := by
  subst ho
  intro p e s m args below meth c H locs ls C hh hS hl
  obtain ⟨j, hj⟩ := pool_at G.2.2.2.1 hk.1
  rw [cl_0 _ hk.2] at hj
  have hown := C.2.2.2.2.2.1
  rw [hM] at hown
  exact va_get (C := RX0) (T := TX0) (N := 5) (Ts := wsX00) C.1 C.2.1 (fun w h => cx_ok C (gd_0 w h)) (fun _ h => h) hown (cx_K C) hh.1 j hj rfl 4 (by decide) (cx_ok C ok_386) (fun _ h => h) rfl dg (kk p e s m args below meth c H locs ls C hh hS hl)
/-- putfield value of SplaySequence$Node -/
theorem pf_RX0_13 {o : Option Nat} {a : Nat} {v : Int32} (dg : decode M.2.1 pc = .ok (.putfield 13, 3)) (hM : M.1.cls = RX0) (ho : o = some a) (hk : isK ((L, K, AN, R0), (Rc, Ic, AIc, AR), (Im, AIm), AL) 0 a) (kk : WP G M Q k n (pc + 3) lv st ((L, K, AN, R0), (Rc, u2 Ic 1 a v, AIc, AR), (Im, AIm), AL)) : WP G M Q k n pc lv (vi v :: vr o :: st) ((L, K, AN, R0), (Rc, Ic, AIc, AR), (Im, AIm), AL) := by
  subst ho
  intro p e s m args below meth c H locs ls C hh hS hl
  obtain ⟨j, hj⟩ := pool_at G.2.2.2.1 hk.1
  have hj2 := hj
  rw [cl_0 _ hk.2] at hj
  have hown := C.2.2.2.2.2.1
  rw [hM] at hown
  have he : (va_pl L (cE G.2.2.2.1 ((L, K, AN, R0), (Rc, Ic, AIc, AR), (Im, AIm), AL))).set j (a, .inr (0, [va_rf (Rc 0 a), va_rf (Rc 1 a), va_rf (Rc 2 a), .int (Ic 0 a), .int (v)])) = va_pl L (cE G.2.2.2.1 ((L, K, AN, R0), (Rc, u2 Ic 1 a v, AIc, AR), (Im, AIm), AL)) := (va_pl_set (X := []) hh.2 hk.1 hj2).trans (va_pl_congr (cu_0_4 _ hk.2 v))
  have hn : narrow (tyX0 4) (.int v) = .int v := rfl
  have hf : fits (tyX0 4) (.int v) = true := rfl
  exact va_put (C := RX0) (T := TX0) (N := 5) (Ts := wsX00) C.1 C.2.1 (fun w h => cx_ok C (gd_0 w h)) (fun _ h => h) tyX0 tyX0_ok nmX0 hown (cx_K C) hh.1 hh.2 hS j hj rfl 4 (by decide) (cx_ok C ok_386) (fun _ h => h) rfl (tyX0_ok 4 (by decide)) hn hf (by show 4 < 5; decide) dg (fun H1 locs1 hP1 hD1 hS1 => kk p e s m args below meth c H1 locs1 ls C ⟨by rw [← he]; exact hP1, by rw [← he]; exact hD1⟩ hS1 hl)
theorem ok_656 : okw (.fieldLink RX5 39 RX5 "thrown" "I") := ⟨List.mem_of_getElem? (i := 656) (by decide +kernel), by decide +kernel⟩
/-- getfield thrown of SplaySequenceModel -/
theorem gf_RX5_39 {o : Option Nat} {a : Nat} (dg : decode M.2.1 pc = .ok (.getfield 39, 3)) (hM : M.1.cls = RX5) (ho : o = some a) (hk : isK ((L, K, AN, R0), (Rc, Ic, AIc, AR), (Im, AIm), AL) 5 a) (kk : WP G M Q k n (pc + 3) lv (vi (Im 0 a) :: st) ((L, K, AN, R0), (Rc, Ic, AIc, AR), (Im, AIm), AL)) : WP G M Q k n pc lv (vr o :: st) ((L, K, AN, R0), (Rc, Ic, AIc, AR), (Im, AIm), AL) := by
  subst ho
  intro p e s m args below meth c H locs ls C hh hS hl
  obtain ⟨j, hj⟩ := pool_at G.2.2.2.1 hk.1
  rw [cl_5 _ hk.2] at hj
  have hown := C.2.2.2.2.2.1
  rw [hM] at hown
  exact va_get (C := RX5) (T := TX5) (N := 20) (Ts := wsX50) C.1 C.2.1 (fun w h => cx_ok C (gd_5 w h)) (fun _ h => h) hown (cx_K C) hh.1 j hj rfl 0 (by decide) (cx_ok C ok_656) (fun _ h => h) rfl dg (kk p e s m args below meth c H locs ls C hh hS hl)
/-- putfield thrown of SplaySequenceModel -/
theorem pf_RX5_39 {o : Option Nat} {a : Nat} {v : Int32} (dg : decode M.2.1 pc = .ok (.putfield 39, 3)) (hM : M.1.cls = RX5) (ho : o = some a) (hk : isK ((L, K, AN, R0), (Rc, Ic, AIc, AR), (Im, AIm), AL) 5 a) (kk : WP G M Q k n (pc + 3) lv st ((L, K, AN, R0), (Rc, Ic, AIc, AR), (u2 Im 0 a v, AIm), AL)) : WP G M Q k n pc lv (vi v :: vr o :: st) ((L, K, AN, R0), (Rc, Ic, AIc, AR), (Im, AIm), AL) := by
  subst ho
  intro p e s m args below meth c H locs ls C hh hS hl
  obtain ⟨j, hj⟩ := pool_at G.2.2.2.1 hk.1
  have hj2 := hj
  rw [cl_5 _ hk.2] at hj
  have hown := C.2.2.2.2.2.1
  rw [hM] at hown
  have he : (va_pl L (cE G.2.2.2.1 ((L, K, AN, R0), (Rc, Ic, AIc, AR), (Im, AIm), AL))).set j (a, .inr (5, [.int (v), .int (Im 1 a), .int (Im 2 a), va_rf (R0 9 a), va_rf (R0 10 a), va_rf (R0 11 a), va_rf (R0 12 a), va_rf (R0 13 a), va_rf (R0 14 a), va_rf (R0 15 a), .int (Im 3 a), .int (Im 4 a), .int (Im 5 a), .int (Im 6 a), .int (Im 7 a), .int (Im 8 a), .int (Im 9 a), .int (Im 10 a), .int (Im 11 a), .int (Im 12 a)])) = va_pl L (cE G.2.2.2.1 ((L, K, AN, R0), (Rc, Ic, AIc, AR), (u2 Im 0 a v, AIm), AL)) := (va_pl_set (X := []) hh.2 hk.1 hj2).trans (va_pl_congr (cu_5_0 _ hk.2 v))
  have hn : narrow (tyX5 0) (.int v) = .int v := rfl
  have hf : fits (tyX5 0) (.int v) = true := rfl
  exact va_put (C := RX5) (T := TX5) (N := 20) (Ts := wsX50) C.1 C.2.1 (fun w h => cx_ok C (gd_5 w h)) (fun _ h => h) tyX5 tyX5_ok nmX5 hown (cx_K C) hh.1 hh.2 hS j hj rfl 0 (by decide) (cx_ok C ok_656) (fun _ h => h) rfl (tyX5_ok 0 (by decide)) hn hf (by show 0 < 20; decide) dg (fun H1 locs1 hP1 hD1 hS1 => kk p e s m args below meth c H1 locs1 ls C ⟨by rw [← he]; exact hP1, by rw [← he]; exact hD1⟩ hS1 hl)
theorem ok_657 : okw (.fieldLink RX5 9 RX5 "tree" "I") := ⟨List.mem_of_getElem? (i := 657) (by decide +kernel), by decide +kernel⟩
/-- getfield tree of SplaySequenceModel -/
theorem gf_RX5_9 {o : Option Nat} {a : Nat} (dg : decode M.2.1 pc = .ok (.getfield 9, 3)) (hM : M.1.cls = RX5) (ho : o = some a) (hk : isK ((L, K, AN, R0), (Rc, Ic, AIc, AR), (Im, AIm), AL) 5 a) (kk : WP G M Q k n (pc + 3) lv (vi (Im 1 a) :: st) ((L, K, AN, R0), (Rc, Ic, AIc, AR), (Im, AIm), AL)) : WP G M Q k n pc lv (vr o :: st) ((L, K, AN, R0), (Rc, Ic, AIc, AR), (Im, AIm), AL) := by
  subst ho
  intro p e s m args below meth c H locs ls C hh hS hl
  obtain ⟨j, hj⟩ := pool_at G.2.2.2.1 hk.1
  rw [cl_5 _ hk.2] at hj
  have hown := C.2.2.2.2.2.1
  rw [hM] at hown
  exact va_get (C := RX5) (T := TX5) (N := 20) (Ts := wsX50) C.1 C.2.1 (fun w h => cx_ok C (gd_5 w h)) (fun _ h => h) hown (cx_K C) hh.1 j hj rfl 1 (by decide) (cx_ok C ok_657) (fun _ h => h) rfl dg (kk p e s m args below meth c H locs ls C hh hS hl)
/-- putfield tree of SplaySequenceModel -/
theorem pf_RX5_9 {o : Option Nat} {a : Nat} {v : Int32} (dg : decode M.2.1 pc = .ok (.putfield 9, 3)) (hM : M.1.cls = RX5) (ho : o = some a) (hk : isK ((L, K, AN, R0), (Rc, Ic, AIc, AR), (Im, AIm), AL) 5 a) (kk : WP G M Q k n (pc + 3) lv st ((L, K, AN, R0), (Rc, Ic, AIc, AR), (u2 Im 1 a v, AIm), AL)) : WP G M Q k n pc lv (vi v :: vr o :: st) ((L, K, AN, R0), (Rc, Ic, AIc, AR), (Im, AIm), AL) := by
  subst ho
  intro p e s m args below meth c H locs ls C hh hS hl
  obtain ⟨j, hj⟩ := pool_at G.2.2.2.1 hk.1
  have hj2 := hj
  rw [cl_5 _ hk.2] at hj
  have hown := C.2.2.2.2.2.1
  rw [hM] at hown
  have he : (va_pl L (cE G.2.2.2.1 ((L, K, AN, R0), (Rc, Ic, AIc, AR), (Im, AIm), AL))).set j (a, .inr (5, [.int (Im 0 a), .int (v), .int (Im 2 a), va_rf (R0 9 a), va_rf (R0 10 a), va_rf (R0 11 a), va_rf (R0 12 a), va_rf (R0 13 a), va_rf (R0 14 a), va_rf (R0 15 a), .int (Im 3 a), .int (Im 4 a), .int (Im 5 a), .int (Im 6 a), .int (Im 7 a), .int (Im 8 a), .int (Im 9 a), .int (Im 10 a), .int (Im 11 a), .int (Im 12 a)])) = va_pl L (cE G.2.2.2.1 ((L, K, AN, R0), (Rc, Ic, AIc, AR), (u2 Im 1 a v, AIm), AL)) := (va_pl_set (X := []) hh.2 hk.1 hj2).trans (va_pl_congr (cu_5_1 _ hk.2 v))
  have hn : narrow (tyX5 1) (.int v) = .int v := rfl
  have hf : fits (tyX5 1) (.int v) = true := rfl
  exact va_put (C := RX5) (T := TX5) (N := 20) (Ts := wsX50) C.1 C.2.1 (fun w h => cx_ok C (gd_5 w h)) (fun _ h => h) tyX5 tyX5_ok nmX5 hown (cx_K C) hh.1 hh.2 hS j hj rfl 1 (by decide) (cx_ok C ok_657) (fun _ h => h) rfl (tyX5_ok 1 (by decide)) hn hf (by show 1 < 20; decide) dg (fun H1 locs1 hP1 hD1 hS1 => kk p e s m args below meth c H1 locs1 ls C ⟨by rw [← he]; exact hP1, by rw [← he]; exact hD1⟩ hS1 hl)
theorem ok_658 : okw (.fieldLink RX5 13 RX5 "clip" "I") := ⟨List.mem_of_getElem? (i := 658) (by decide +kernel), by decide +kernel⟩
/-- getfield clip of SplaySequenceModel -/
theorem gf_RX5_13 {o : Option Nat} {a : Nat} (dg : decode M.2.1 pc = .ok (.getfield 13, 3)) (hM : M.1.cls = RX5) (ho : o = some a) (hk : isK ((L, K, AN, R0), (Rc, Ic, AIc, AR), (Im, AIm), AL) 5 a) (kk : WP G M Q k n (pc + 3) lv (vi (Im 2 a) :: st) ((L, K, AN, R0), (Rc, Ic, AIc, AR), (Im, AIm), AL)) : WP G M Q k n pc lv (vr o :: st) ((L, K, AN, R0), (Rc, Ic, AIc, AR), (Im, AIm), AL) := by
  subst ho
  intro p e s m args below meth c H locs ls C hh hS hl
  obtain ⟨j, hj⟩ := pool_at G.2.2.2.1 hk.1
  rw [cl_5 _ hk.2] at hj
  have hown := C.2.2.2.2.2.1
  rw [hM] at hown
  exact va_get (C := RX5) (T := TX5) (N := 20) (Ts := wsX50) C.1 C.2.1 (fun w h => cx_ok C (gd_5 w h)) (fun _ h => h) hown (cx_K C) hh.1 j hj rfl 2 (by decide) (cx_ok C ok_658) (fun _ h => h) rfl dg (kk p e s m args below meth c H locs ls C hh hS hl)
/-- putfield clip of SplaySequenceModel -/
theorem pf_RX5_13 {o : Option Nat} {a : Nat} {v : Int32} (dg : decode M.2.1 pc = .ok (.putfield 13, 3)) (hM : M.1.cls = RX5) (ho : o = some a) (hk : isK ((L, K, AN, R0), (Rc, Ic, AIc, AR), (Im, AIm), AL) 5 a) (kk : WP G M Q k n (pc + 3) lv st ((L, K, AN, R0), (Rc, Ic, AIc, AR), (u2 Im 2 a v, AIm), AL)) : WP G M Q k n pc lv (vi v :: vr o :: st) ((L, K, AN, R0), (Rc, Ic, AIc, AR), (Im, AIm), AL) := by
  subst ho
  intro p e s m args below meth c H locs ls C hh hS hl
  obtain ⟨j, hj⟩ := pool_at G.2.2.2.1 hk.1
  have hj2 := hj
  rw [cl_5 _ hk.2] at hj
  have hown := C.2.2.2.2.2.1
  rw [hM] at hown
  have he : (va_pl L (cE G.2.2.2.1 ((L, K, AN, R0), (Rc, Ic, AIc, AR), (Im, AIm), AL))).set j (a, .inr (5, [.int (Im 0 a), .int (Im 1 a), .int (v), va_rf (R0 9 a), va_rf (R0 10 a), va_rf (R0 11 a), va_rf (R0 12 a), va_rf (R0 13 a), va_rf (R0 14 a), va_rf (R0 15 a), .int (Im 3 a), .int (Im 4 a), .int (Im 5 a), .int (Im 6 a), .int (Im 7 a), .int (Im 8 a), .int (Im 9 a), .int (Im 10 a), .int (Im 11 a), .int (Im 12 a)])) = va_pl L (cE G.2.2.2.1 ((L, K, AN, R0), (Rc, Ic, AIc, AR), (u2 Im 2 a v, AIm), AL)) := (va_pl_set (X := []) hh.2 hk.1 hj2).trans (va_pl_congr (cu_5_2 _ hk.2 v))
  have hn : narrow (tyX5 2) (.int v) = .int v := rfl
  have hf : fits (tyX5 2) (.int v) = true := rfl
  exact va_put (C := RX5) (T := TX5) (N := 20) (Ts := wsX50) C.1 C.2.1 (fun w h => cx_ok C (gd_5 w h)) (fun _ h => h) tyX5 tyX5_ok nmX5 hown (cx_K C) hh.1 hh.2 hS j hj rfl 2 (by decide) (cx_ok C ok_658) (fun _ h => h) rfl (tyX5_ok 2 (by decide)) hn hf (by show 2 < 20; decide) dg (fun H1 locs1 hP1 hD1 hS1 => kk p e s m args below meth c H1 locs1 ls C ⟨by rw [← he]; exact hP1, by rw [← he]; exact hD1⟩ hS1 hl)
theorem ok_659 : okw (.fieldLink RX5 16 RX5 "values" "[I") := ⟨List.mem_of_getElem? (i := 659) (by decide +kernel), by decide +kernel⟩
/-- getfield values of SplaySequenceModel -/
theorem gf_RX5_16 {o : Option Nat} {a : Nat} (dg : decode M.2.1 pc = .ok (.getfield 16, 3)) (hM : M.1.cls = RX5) (ho : o = some a) (hk : isK ((L, K, AN, R0), (Rc, Ic, AIc, AR), (Im, AIm), AL) 5 a) (kk : WP G M Q k n (pc + 3) lv (vr (R0 9 a) :: st) ((L, K, AN, R0), (Rc, Ic, AIc, AR), (Im, AIm), AL)) : WP G M Q k n pc lv (vr o :: st) ((L, K, AN, R0), (Rc, Ic, AIc, AR), (Im, AIm), AL) := by
  subst ho
  intro p e s m args below meth c H locs ls C hh hS hl
  obtain ⟨j, hj⟩ := pool_at G.2.2.2.1 hk.1
  rw [cl_5 _ hk.2] at hj
  have hown := C.2.2.2.2.2.1
  rw [hM] at hown
  exact va_get (C := RX5) (T := TX5) (N := 20) (Ts := wsX50) C.1 C.2.1 (fun w h => cx_ok C (gd_5 w h)) (fun _ h => h) hown (cx_K C) hh.1 j hj rfl 3 (by decide) (cx_ok C ok_659) (fun _ h => h) rfl dg (kk p e s m args below meth c H locs ls C hh hS hl)
/-- putfield values of SplaySequenceModel -/
theorem pf_RX5_16 {o : Option Nat} {a : Nat} {v : Option Nat} (dg : decode M.2.1 pc = .ok (.putfield 16, 3)) (hM : M.1.cls = RX5) (hI : M.1.name = "<init>") (ho : o = some a) (hk : isK ((L, K, AN, R0), (Rc, Ic, AIc, AR), (Im, AIm), AL) 5 a) (kk : WP G M Q k n (pc + 3) lv st ((L, K, AN, u2 R0 9 a v), (Rc, Ic, AIc, AR), (Im, AIm), AL)) : WP G M Q k n pc lv (vr v :: vr o :: st) ((L, K, AN, R0), (Rc, Ic, AIc, AR), (Im, AIm), AL) := by
  subst ho
  intro p e s m args below meth c H locs ls C hh hS hl
  obtain ⟨j, hj⟩ := pool_at G.2.2.2.1 hk.1
  have hj2 := hj
  rw [cl_5 _ hk.2] at hj
  have hown := C.2.2.2.2.2.1
  rw [hM] at hown
  have he : (va_pl L (cE G.2.2.2.1 ((L, K, AN, R0), (Rc, Ic, AIc, AR), (Im, AIm), AL))).set j (a, .inr (5, [.int (Im 0 a), .int (Im 1 a), .int (Im 2 a), va_rf (v), va_rf (R0 10 a), va_rf (R0 11 a), va_rf (R0 12 a), va_rf (R0 13 a), va_rf (R0 14 a), va_rf (R0 15 a), .int (Im 3 a), .int (Im 4 a), .int (Im 5 a), .int (Im 6 a), .int (Im 7 a), .int (Im 8 a), .int (Im 9 a), .int (Im 10 a), .int (Im 11 a), .int (Im 12 a)])) = va_pl L (cE G.2.2.2.1 ((L, K, AN, u2 R0 9 a v), (Rc, Ic, AIc, AR), (Im, AIm), AL)) := (va_pl_set (X := []) hh.2 hk.1 hj2).trans (va_pl_congr (cu_5_3 _ hk.2 v))
  have hn : narrow (tyX5 3) (va_rf v) = va_rf v := by cases v <;> rfl
  have hf : fits (tyX5 3) (va_rf v) = true := by cases v <;> rfl
  exact va_putF (C := RX5) (T := TX5) (N := 20) (Ts := wsX50) C.1 C.2.1 (fun w h => cx_ok C (gd_5 w h)) (fun _ h => h) tyX5 tyX5_ok nmX5 hown (cx_K C) hh.1 hh.2 hS j hj rfl 3 (by decide) (cx_ok C ok_659) (fun _ h => h) rfl (C.2.2.2.2.2.2.1.trans hI) rfl (tyX5_ok 3 (by decide)) hn hf (by show 3 < 20; decide) dg (fun H1 locs1 hP1 hD1 hS1 => kk p e s m args below meth c H1 locs1 ls C ⟨by rw [← he]; exact hP1, by rw [← he]; exact hD1⟩ hS1 hl)
theorem ok_660 : okw (.fieldLink RX5 20 RX5 "left" "[I") := ⟨List.mem_of_getElem? (i := 660) (by decide +kernel), by decide +kernel⟩
/-- getfield left of SplaySequenceModel -/
theorem gf_RX5_20 {o : Option Nat} {a : Nat} (dg : decode M.2.1 pc = .ok (.getfield 20, 3)) (hM : M.1.cls = RX5) (ho : o = some a) (hk : isK ((L, K, AN, R0), (Rc, Ic, AIc, AR), (Im, AIm), AL) 5 a) (kk : WP G M Q k n (pc + 3) lv (vr (R0 10 a) :: st) ((L, K, AN, R0), (Rc, Ic, AIc, AR), (Im, AIm), AL)) : WP G M Q k n pc lv (vr o :: st) ((L, K, AN, R0), (Rc, Ic, AIc, AR), (Im, AIm), AL) := by
  subst ho
  intro p e s m args below meth c H locs ls C hh hS hl
  obtain ⟨j, hj⟩ := pool_at G.2.2.2.1 hk.1
  rw [cl_5 _ hk.2] at hj
  have hown := C.2.2.2.2.2.1
  rw [hM] at hown
  exact va_get (C := RX5) (T := TX5) (N := 20) (Ts := wsX50) C.1 C.2.1 (fun w h => cx_ok C (gd_5 w h)) (fun _ h => h) hown (cx_K C) hh.1 j hj rfl 4 (by decide) (cx_ok C ok_660) (fun _ h => h) rfl dg (kk p e s m args below meth c H locs ls C hh hS hl)
/-- putfield left of SplaySequenceModel -/
theorem pf_RX5_20 {o : Option Nat} {a : Nat} {v : Option Nat} (dg : decode M.2.1 pc = .ok (.putfield 20, 3)) (hM : M.1.cls = RX5) (hI : M.1.name = "<init>") (ho : o = some a) (hk : isK ((L, K, AN, R0), (Rc, Ic, AIc, AR), (Im, AIm), AL) 5 a) (kk : WP G M Q k n (pc + 3) lv st ((L, K, AN, u2 R0 10 a v), (Rc, Ic, AIc, AR), (Im, AIm), AL)) : WP G M Q k n pc lv (vr v :: vr o :: st) ((L, K, AN, R0), (Rc, Ic, AIc, AR), (Im, AIm), AL) := by
  subst ho
  intro p e s m args below meth c H locs ls C hh hS hl
  obtain ⟨j, hj⟩ := pool_at G.2.2.2.1 hk.1
  have hj2 := hj
  rw [cl_5 _ hk.2] at hj
  have hown := C.2.2.2.2.2.1
  rw [hM] at hown
  have he : (va_pl L (cE G.2.2.2.1 ((L, K, AN, R0), (Rc, Ic, AIc, AR), (Im, AIm), AL))).set j (a, .inr (5, [.int (Im 0 a), .int (Im 1 a), .int (Im 2 a), va_rf (R0 9 a), va_rf (v), va_rf (R0 11 a), va_rf (R0 12 a), va_rf (R0 13 a), va_rf (R0 14 a), va_rf (R0 15 a), .int (Im 3 a), .int (Im 4 a), .int (Im 5 a), .int (Im 6 a), .int (Im 7 a), .int (Im 8 a), .int (Im 9 a), .int (Im 10 a), .int (Im 11 a), .int (Im 12 a)])) = va_pl L (cE G.2.2.2.1 ((L, K, AN, u2 R0 10 a v), (Rc, Ic, AIc, AR), (Im, AIm), AL)) := (va_pl_set (X := []) hh.2 hk.1 hj2).trans (va_pl_congr (cu_5_4 _ hk.2 v))
  have hn : narrow (tyX5 4) (va_rf v) = va_rf v := by cases v <;> rfl
  have hf : fits (tyX5 4) (va_rf v) = true := by cases v <;> rfl
  exact va_putF (C := RX5) (T := TX5) (N := 20) (Ts := wsX50) C.1 C.2.1 (fun w h => cx_ok C (gd_5 w h)) (fun _ h => h) tyX5 tyX5_ok nmX5 hown (cx_K C) hh.1 hh.2 hS j hj rfl 4 (by decide) (cx_ok C ok_660) (fun _ h => h) rfl (C.2.2.2.2.2.2.1.trans hI) rfl (tyX5_ok 4 (by decide)) hn hf (by show 4 < 20; decide) dg (fun H1 locs1 hP1 hD1 hS1 => kk p e s m args below meth c H1 locs1 ls C ⟨by rw [← he]; exact hP1, by rw [← he]; exact hD1⟩ hS1 hl)
theorem ok_661 : okw (.fieldLink RX5 23 RX5 "right" "[I") := ⟨List.mem_of_getElem? (i := 661) (by decide +kernel), by decide +kernel⟩
/-- getfield right of SplaySequenceModel -/
theorem gf_RX5_23 {o : Option Nat} {a : Nat} (dg : decode M.2.1 pc = .ok (.getfield 23, 3)) (hM : M.1.cls = RX5) (ho : o = some a) (hk : isK ((L, K, AN, R0), (Rc, Ic, AIc, AR), (Im, AIm), AL) 5 a) (kk : WP G M Q k n (pc + 3) lv (vr (R0 11 a) :: st) ((L, K, AN, R0), (Rc, Ic, AIc, AR), (Im, AIm), AL)) : WP G M Q k n pc lv (vr o :: st) ((L, K, AN, R0), (Rc, Ic, AIc, AR), (Im, AIm), AL) := by
  subst ho
  intro p e s m args below meth c H locs ls C hh hS hl
  obtain ⟨j, hj⟩ := pool_at G.2.2.2.1 hk.1
  rw [cl_5 _ hk.2] at hj
  have hown := C.2.2.2.2.2.1
  rw [hM] at hown
  exact va_get (C := RX5) (T := TX5) (N := 20) (Ts := wsX50) C.1 C.2.1 (fun w h => cx_ok C (gd_5 w h)) (fun _ h => h) hown (cx_K C) hh.1 j hj rfl 5 (by decide) (cx_ok C ok_661) (fun _ h => h) rfl dg (kk p e s m args below meth c H locs ls C hh hS hl)
/-- putfield right of SplaySequenceModel -/
theorem pf_RX5_23 {o : Option Nat} {a : Nat} {v : Option Nat} (dg : decode M.2.1 pc = .ok (.putfield 23, 3)) (hM : M.1.cls = RX5) (hI : M.1.name = "<init>") (ho : o = some a) (hk : isK ((L, K, AN, R0), (Rc, Ic, AIc, AR), (Im, AIm), AL) 5 a) (kk : WP G M Q k n (pc + 3) lv st ((L, K, AN, u2 R0 11 a v), (Rc, Ic, AIc, AR), (Im, AIm), AL)) : WP G M Q k n pc lv (vr v :: vr o :: st) ((L, K, AN, R0), (Rc, Ic, AIc, AR), (Im, AIm), AL) := by
  subst ho
  intro p e s m args below meth c H locs ls C hh hS hl
  obtain ⟨j, hj⟩ := pool_at G.2.2.2.1 hk.1
  have hj2 := hj
  rw [cl_5 _ hk.2] at hj
  have hown := C.2.2.2.2.2.1
  rw [hM] at hown
  have he : (va_pl L (cE G.2.2.2.1 ((L, K, AN, R0), (Rc, Ic, AIc, AR), (Im, AIm), AL))).set j (a, .inr (5, [.int (Im 0 a), .int (Im 1 a), .int (Im 2 a), va_rf (R0 9 a), va_rf (R0 10 a), va_rf (v), va_rf (R0 12 a), va_rf (R0 13 a), va_rf (R0 14 a), va_rf (R0 15 a), .int (Im 3 a), .int (Im 4 a), .int (Im 5 a), .int (Im 6 a), .int (Im 7 a), .int (Im 8 a), .int (Im 9 a), .int (Im 10 a), .int (Im 11 a), .int (Im 12 a)])) = va_pl L (cE G.2.2.2.1 ((L, K, AN, u2 R0 11 a v), (Rc, Ic, AIc, AR), (Im, AIm), AL)) := (va_pl_set (X := []) hh.2 hk.1 hj2).trans (va_pl_congr (cu_5_5 _ hk.2 v))
  have hn : narrow (tyX5 5) (va_rf v) = va_rf v := by cases v <;> rfl
  have hf : fits (tyX5 5) (va_rf v) = true := by cases v <;> rfl
  exact va_putF (C := RX5) (T := TX5) (N := 20) (Ts := wsX50) C.1 C.2.1 (fun w h => cx_ok C (gd_5 w h)) (fun _ h => h) tyX5 tyX5_ok nmX5 hown (cx_K C) hh.1 hh.2 hS j hj rfl 5 (by decide) (cx_ok C ok_661) (fun _ h => h) rfl (C.2.2.2.2.2.2.1.trans hI) rfl (tyX5_ok 5 (by decide)) hn hf (by show 5 < 20; decide) dg (fun H1 locs1 hP1 hD1 hS1 => kk p e s m args below meth c H1 locs1 ls C ⟨by rw [← he]; exact hP1, by rw [← he]; exact hD1⟩ hS1 hl)
theorem ok_662 : okw (.fieldLink RX5 26 RX5 "parent" "[I") := ⟨List.mem_of_getElem? (i := 662) (by decide +kernel), by decide +kernel⟩
/-- getfield parent of SplaySequenceModel -/
theorem gf_RX5_26 {o : Option Nat} {a : Nat} (dg : decode M.2.1 pc = .ok (.getfield 26, 3)) (hM : M.1.cls = RX5) (ho : o = some a) (hk : isK ((L, K, AN, R0), (Rc, Ic, AIc, AR), (Im, AIm), AL) 5 a) (kk : WP G M Q k n (pc + 3) lv (vr (R0 12 a) :: st) ((L, K, AN, R0), (Rc, Ic, AIc, AR), (Im, AIm), AL)) : WP G M Q k n pc lv (vr o :: st) ((L, K, AN, R0), (Rc, Ic, AIc, AR), (Im, AIm), AL) := by
  subst ho
  intro p e s m args below meth c H locs ls C hh hS hl
  obtain ⟨j, hj⟩ := pool_at G.2.2.2.1 hk.1
  rw [cl_5 _ hk.2] at hj
  have hown := C.2.2.2.2.2.1
  rw [hM] at hown
  exact va_get (C := RX5) (T := TX5) (N := 20) (Ts := wsX50) C.1 C.2.1 (fun w h => cx_ok C (gd_5 w h)) (fun _ h => h) hown (cx_K C) hh.1 j hj rfl 6 (by decide) (cx_ok C ok_662) (fun _ h => h) rfl dg (kk p e s m args below meth c H locs ls C hh hS hl)
/-- putfield parent of SplaySequenceModel -/
theorem pf_RX5_26 {o : Option Nat} {a : Nat} {v : Option Nat} (dg : decode M.2.1 pc = .ok (.putfield 26, 3)) (hM : M.1.cls = RX5) (hI : M.1.name = "<init>") (ho : o = some a) (hk : isK ((L, K, AN, R0), (Rc, Ic, AIc, AR), (Im, AIm), AL) 5 a) (kk : WP G M Q k n (pc + 3) lv st ((L, K, AN, u2 R0 12 a v), (Rc, Ic, AIc, AR), (Im, AIm), AL)) : WP G M Q k n pc lv (vr v :: vr o :: st) ((L, K, AN, R0), (Rc, Ic, AIc, AR), (Im, AIm), AL) := by
  subst ho
  intro p e s m args below meth c H locs ls C hh hS hl
  obtain ⟨j, hj⟩ := pool_at G.2.2.2.1 hk.1
  have hj2 := hj
  rw [cl_5 _ hk.2] at hj
  have hown := C.2.2.2.2.2.1
  rw [hM] at hown
  have he : (va_pl L (cE G.2.2.2.1 ((L, K, AN, R0), (Rc, Ic, AIc, AR), (Im, AIm), AL))).set j (a, .inr (5, [.int (Im 0 a), .int (Im 1 a), .int (Im 2 a), va_rf (R0 9 a), va_rf (R0 10 a), va_rf (R0 11 a), va_rf (v), va_rf (R0 13 a), va_rf (R0 14 a), va_rf (R0 15 a), .int (Im 3 a), .int (Im 4 a), .int (Im 5 a), .int (Im 6 a), .int (Im 7 a), .int (Im 8 a), .int (Im 9 a), .int (Im 10 a), .int (Im 11 a), .int (Im 12 a)])) = va_pl L (cE G.2.2.2.1 ((L, K, AN, u2 R0 12 a v), (Rc, Ic, AIc, AR), (Im, AIm), AL)) := (va_pl_set (X := []) hh.2 hk.1 hj2).trans (va_pl_congr (cu_5_6 _ hk.2 v))
  have hn : narrow (tyX5 6) (va_rf v) = va_rf v := by cases v <;> rfl
  have hf : fits (tyX5 6) (va_rf v) = true := by cases v <;> rfl
  exact va_putF (C := RX5) (T := TX5) (N := 20) (Ts := wsX50) C.1 C.2.1 (fun w h => cx_ok C (gd_5 w h)) (fun _ h => h) tyX5 tyX5_ok nmX5 hown (cx_K C) hh.1 hh.2 hS j hj rfl 6 (by decide) (cx_ok C ok_662) (fun _ h => h) rfl (C.2.2.2.2.2.2.1.trans hI) rfl (tyX5_ok 6 (by decide)) hn hf (by show 6 < 20; decide) dg (fun H1 locs1 hP1 hD1 hS1 => kk p e s m args below meth c H1 locs1 ls C ⟨by rw [← he]; exact hP1, by rw [← he]; exact hD1⟩ hS1 hl)
theorem ok_663 : okw (.fieldLink RX5 29 RX5 "isThere" "[Z") := ⟨List.mem_of_getElem? (i := 663) (by decide +kernel), by decide +kernel⟩
/-- getfield isThere of SplaySequenceModel -/
theorem gf_RX5_29 {o : Option Nat} {a : Nat} (dg : decode M.2.1 pc = .ok (.getfield 29, 3)) (hM : M.1.cls = RX5) (ho : o = some a) (hk : isK ((L, K, AN, R0), (Rc, Ic, AIc, AR), (Im, AIm), AL) 5 a) (kk : WP G M Q k n (pc + 3) lv (vr (R0 13 a) :: st) ((L, K, AN, R0), (Rc, Ic, AIc, AR), (Im, AIm), AL)) : WP G M Q k n pc lv (vr o :: st) ((L, K, AN, R0), (Rc, Ic, AIc, AR), (Im, AIm), AL) := by
  subst ho
  intro p e s m args below meth c H locs ls C hh hS hl
  obtain ⟨j, hj⟩ := pool_at G.2.2.2.1 hk.1
  rw [cl_5 _ hk.2] at hj
  have hown := C.2.2.2.2.2.1
  rw [hM] at hown
  exact va_get (C := RX5) (T := TX5) (N := 20) (Ts := wsX50) C.1 C.2.1 (fun w h => cx_ok C (gd_5 w h)) (fun _ h => h) hown (cx_K C) hh.1 j hj rfl 7 (by decide) (cx_ok C ok_663) (fun _ h => h) rfl dg (kk p e s m args below meth c H locs ls C hh hS hl)
/-- putfield isThere of SplaySequenceModel -/
theorem pf_RX5_29 {o : Option Nat} {a : Nat} {v : Option Nat} (dg : decode M.2.1 pc = .ok (.putfield 29, 3)) (hM : M.1.cls = RX5) (hI : M.1.name = "<init>") (ho : o = some a) (hk : isK ((L, K, AN, R0), (Rc, Ic, AIc, AR), (Im, AIm), AL) 5 a) (kk : WP G M Q k n (pc + 3) lv st ((L, K, AN, u2 R0 13 a v), (Rc, Ic, AIc, AR), (Im, AIm), AL)) : WP G M Q k n pc lv (vr v :: vr o :: st) ((L, K, AN, R0), (Rc, Ic, AIc, AR), (Im, AIm), AL) := by
  subst ho
  intro p e s m args below meth c H locs ls C hh hS hl
  obtain ⟨j, hj⟩ := pool_at G.2.2.2.1 hk.1
  have hj2 := hj
  rw [cl_5 _ hk.2] at hj
  have hown := C.2.2.2.2.2.1
  rw [hM] at hown
  have he : (va_pl L (cE G.2.2.2.1 ((L, K, AN, R0), (Rc, Ic, AIc, AR), (Im, AIm), AL))).set j (a, .inr (5, [.int (Im 0 a), .int (Im 1 a), .int (Im 2 a), va_rf (R0 9 a), va_rf (R0 10 a), va_rf (R0 11 a), va_rf (R0 12 a), va_rf (v), va_rf (R0 14 a), va_rf (R0 15 a), .int (Im 3 a), .int (Im 4 a), .int (Im 5 a), .int (Im 6 a), .int (Im 7 a), .int (Im 8 a), .int (Im 9 a), .int (Im 10 a), .int (Im 11 a), .int (Im 12 a)])) = va_pl L (cE G.2.2.2.1 ((L, K, AN, u2 R0 13 a v), (Rc, Ic, AIc, AR), (Im, AIm), AL)) := (va_pl_set (X := []) hh.2 hk.1 hj2).trans (va_pl_congr (cu_5_7 _ hk.2 v))
  have hn : narrow (tyX5 7) (va_rf v) = va_rf v := by cases v <;> rfl
  have hf : fits (tyX5 7) (va_rf v) = true := by cases v <;> rfl
  exact va_putF (C := RX5) (T := TX5) (N := 20) (Ts := wsX50) C.1 C.2.1 (fun w h => cx_ok C (gd_5 w h)) (fun _ h => h) tyX5 tyX5_ok nmX5 hown (cx_K C) hh.1 hh.2 hS j hj rfl 7 (by decide) (cx_ok C ok_663) (fun _ h => h) rfl (C.2.2.2.2.2.2.1.trans hI) rfl (tyX5_ok 7 (by decide)) hn hf (by show 7 < 20; decide) dg (fun H1 locs1 hP1 hD1 hS1 => kk p e s m args below meth c H1 locs1 ls C ⟨by rw [← he]; exact hP1, by rw [← he]; exact hD1⟩ hS1 hl)
theorem ok_664 : okw (.fieldLink RX5 33 RX5 "fingers" "[I") := ⟨List.mem_of_getElem? (i := 664) (by decide +kernel), by decide +kernel⟩
/-- getfield fingers of SplaySequenceModel -/
theorem gf_RX5_33 {o : Option Nat} {a : Nat} (dg : decode M.2.1 pc = .ok (.getfield 33, 3)) (hM : M.1.cls = RX5) (ho : o = some a) (hk : isK ((L, K, AN, R0), (Rc, Ic, AIc, AR), (Im, AIm), AL) 5 a) (kk : WP G M Q k n (pc + 3) lv (vr (R0 14 a) :: st) ((L, K, AN, R0), (Rc, Ic, AIc, AR), (Im, AIm), AL)) : WP G M Q k n pc lv (vr o :: st) ((L, K, AN, R0), (Rc, Ic, AIc, AR), (Im, AIm), AL) := by
  subst ho
  intro p e s m args below meth c H locs ls C hh hS hl
  obtain ⟨j, hj⟩ := pool_at G.2.2.2.1 hk.1
  rw [cl_5 _ hk.2] at hj
  have hown := C.2.2.2.2.2.1
  rw [hM] at hown
  exact va_get (C := RX5) (T := TX5) (N := 20) (Ts := wsX50) C.1 C.2.1 (fun w h => cx_ok C (gd_5 w h)) (fun _ h => h) hown (cx_K C) hh.1 j hj rfl 8 (by decide) (cx_ok C ok_664) (fun _ h => h) rfl dg (kk p e s m args below meth c H locs ls C hh hS hl)
/-- putfield fingers of SplaySequenceModel -/
theorem pf_RX5_33 {o : Option Nat} {a : Nat} {v : Option Nat} (dg : decode M.2.1 pc = .ok (.putfield 33, 3)) (hM : M.1.cls = RX5) (hI : M.1.name = "<init>") (ho : o = some a) (hk : isK ((L, K, AN, R0), (Rc, Ic, AIc, AR), (Im, AIm), AL) 5 a) (kk : WP G M Q k n (pc + 3) lv st ((L, K, AN, u2 R0 14 a v), (Rc, Ic, AIc, AR), (Im, AIm), AL)) : WP G M Q k n pc lv (vr v :: vr o :: st) ((L, K, AN, R0), (Rc, Ic, AIc, AR), (Im, AIm), AL) := by
  subst ho
  intro p e s m args below meth c H locs ls C hh hS hl
  obtain ⟨j, hj⟩ := pool_at G.2.2.2.1 hk.1
  have hj2 := hj
  rw [cl_5 _ hk.2] at hj
  have hown := C.2.2.2.2.2.1
  rw [hM] at hown
  have he : (va_pl L (cE G.2.2.2.1 ((L, K, AN, R0), (Rc, Ic, AIc, AR), (Im, AIm), AL))).set j (a, .inr (5, [.int (Im 0 a), .int (Im 1 a), .int (Im 2 a), va_rf (R0 9 a), va_rf (R0 10 a), va_rf (R0 11 a), va_rf (R0 12 a), va_rf (R0 13 a), va_rf (v), va_rf (R0 15 a), .int (Im 3 a), .int (Im 4 a), .int (Im 5 a), .int (Im 6 a), .int (Im 7 a), .int (Im 8 a), .int (Im 9 a), .int (Im 10 a), .int (Im 11 a), .int (Im 12 a)])) = va_pl L (cE G.2.2.2.1 ((L, K, AN, u2 R0 14 a v), (Rc, Ic, AIc, AR), (Im, AIm), AL)) := (va_pl_set (X := []) hh.2 hk.1 hj2).trans (va_pl_congr (cu_5_8 _ hk.2 v))
  have hn : narrow (tyX5 8) (va_rf v) = va_rf v := by cases v <;> rfl
  have hf : fits (tyX5 8) (va_rf v) = true := by cases v <;> rfl
  exact va_putF (C := RX5) (T := TX5) (N := 20) (Ts := wsX50) C.1 C.2.1 (fun w h => cx_ok C (gd_5 w h)) (fun _ h => h) tyX5 tyX5_ok nmX5 hown (cx_K C) hh.1 hh.2 hS j hj rfl 8 (by decide) (cx_ok C ok_664) (fun _ h => h) rfl (C.2.2.2.2.2.2.1.trans hI) rfl (tyX5_ok 8 (by decide)) hn hf (by show 8 < 20; decide) dg (fun H1 locs1 hP1 hD1 hS1 => kk p e s m args below meth c H1 locs1 ls C ⟨by rw [← he]; exact hP1, by rw [← he]; exact hD1⟩ hS1 hl)
theorem ok_665 : okw (.fieldLink RX5 36 RX5 "order" "[I") := ⟨List.mem_of_getElem? (i := 665) (by decide +kernel), by decide +kernel⟩
/-- getfield order of SplaySequenceModel -/
theorem gf_RX5_36 {o : Option Nat} {a : Nat} (dg : decode M.2.1 pc = .ok (.getfield 36, 3)) (hM : M.1.cls = RX5) (ho : o = some a) (hk : isK ((L, K, AN, R0), (Rc, Ic, AIc, AR), (Im, AIm), AL) 5 a) (kk : WP G M Q k n (pc + 3) lv (vr (R0 15 a) :: st) ((L, K, AN, R0), (Rc, Ic, AIc, AR), (Im, AIm), AL)) : WP G M Q k n pc lv (vr o :: st) ((L, K, AN, R0), (Rc, Ic, AIc, AR), (Im, AIm), AL) := by
  subst ho
  intro p e s m args below meth c H locs ls C hh hS hl
  obtain ⟨j, hj⟩ := pool_at G.2.2.2.1 hk.1
  rw [cl_5 _ hk.2] at hj
  have hown := C.2.2.2.2.2.1
  rw [hM] at hown
  exact va_get (C := RX5) (T := TX5) (N := 20) (Ts := wsX50) C.1 C.2.1 (fun w h => cx_ok C (gd_5 w h)) (fun _ h => h) hown (cx_K C) hh.1 j hj rfl 9 (by decide) (cx_ok C ok_665) (fun _ h => h) rfl dg (kk p e s m args below meth c H locs ls C hh hS hl)
/-- putfield order of SplaySequenceModel -/
theorem pf_RX5_36 {o : Option Nat} {a : Nat} {v : Option Nat} (dg : decode M.2.1 pc = .ok (.putfield 36, 3)) (hM : M.1.cls = RX5) (hI : M.1.name = "<init>") (ho : o = some a) (hk : isK ((L, K, AN, R0), (Rc, Ic, AIc, AR), (Im, AIm), AL) 5 a) (kk : WP G M Q k n (pc + 3) lv st ((L, K, AN, u2 R0 15 a v), (Rc, Ic, AIc, AR), (Im, AIm), AL)) : WP G M Q k n pc lv (vr v :: vr o :: st) ((L, K, AN, R0), (Rc, Ic, AIc, AR), (Im, AIm), AL) := by
  subst ho
  intro p e s m args below meth c H locs ls C hh hS hl
  obtain ⟨j, hj⟩ := pool_at G.2.2.2.1 hk.1
  have hj2 := hj
  rw [cl_5 _ hk.2] at hj
  have hown := C.2.2.2.2.2.1
  rw [hM] at hown
  have he : (va_pl L (cE G.2.2.2.1 ((L, K, AN, R0), (Rc, Ic, AIc, AR), (Im, AIm), AL))).set j (a, .inr (5, [.int (Im 0 a), .int (Im 1 a), .int (Im 2 a), va_rf (R0 9 a), va_rf (R0 10 a), va_rf (R0 11 a), va_rf (R0 12 a), va_rf (R0 13 a), va_rf (R0 14 a), va_rf (v), .int (Im 3 a), .int (Im 4 a), .int (Im 5 a), .int (Im 6 a), .int (Im 7 a), .int (Im 8 a), .int (Im 9 a), .int (Im 10 a), .int (Im 11 a), .int (Im 12 a)])) = va_pl L (cE G.2.2.2.1 ((L, K, AN, u2 R0 15 a v), (Rc, Ic, AIc, AR), (Im, AIm), AL)) := (va_pl_set (X := []) hh.2 hk.1 hj2).trans (va_pl_congr (cu_5_9 _ hk.2 v))
  have hn : narrow (tyX5 9) (va_rf v) = va_rf v := by cases v <;> rfl
  have hf : fits (tyX5 9) (va_rf v) = true := by cases v <;> rfl
  exact va_putF (C := RX5) (T := TX5) (N := 20) (Ts := wsX50) C.1 C.2.1 (fun w h => cx_ok C (gd_5 w h)) (fun _ h => h) tyX5 tyX5_ok nmX5 hown (cx_K C) hh.1 hh.2 hS j hj rfl 9 (by decide) (cx_ok C ok_665) (fun _ h => h) rfl (C.2.2.2.2.2.2.1.trans hI) rfl (tyX5_ok 9 (by decide)) hn hf (by show 9 < 20; decide) dg (fun H1 locs1 hP1 hD1 hS1 => kk p e s m args below meth c H1 locs1 ls C ⟨by rw [← he]; exact hP1, by rw [← he]; exact hD1⟩ hS1 hl)
theorem ok_666 : okw (.fieldLink RX5 46 RX5 "many" "I") := ⟨List.mem_of_getElem? (i := 666) (by decide +kernel), by decide +kernel⟩
/-- getfield many of SplaySequenceModel -/
theorem gf_RX5_46 {o : Option Nat} {a : Nat} (dg : decode M.2.1 pc = .ok (.getfield 46, 3)) (hM : M.1.cls = RX5) (ho : o = some a) (hk : isK ((L, K, AN, R0), (Rc, Ic, AIc, AR), (Im, AIm), AL) 5 a) (kk : WP G M Q k n (pc + 3) lv (vi (Im 3 a) :: st) ((L, K, AN, R0), (Rc, Ic, AIc, AR), (Im, AIm), AL)) : WP G M Q k n pc lv (vr o :: st) ((L, K, AN, R0), (Rc, Ic, AIc, AR), (Im, AIm), AL) := by
  subst ho
  intro p e s m args below meth c H locs ls C hh hS hl
  obtain ⟨j, hj⟩ := pool_at G.2.2.2.1 hk.1
  rw [cl_5 _ hk.2] at hj
  have hown := C.2.2.2.2.2.1
  rw [hM] at hown
  exact va_get (C := RX5) (T := TX5) (N := 20) (Ts := wsX50) C.1 C.2.1 (fun w h => cx_ok C (gd_5 w h)) (fun _ h => h) hown (cx_K C) hh.1 j hj rfl 10 (by decide) (cx_ok C ok_666) (fun _ h => h) rfl dg (kk p e s m args below meth c H locs ls C hh hS hl)
/-- putfield many of SplaySequenceModel -/
theorem pf_RX5_46 {o : Option Nat} {a : Nat} {v : Int32} (dg : decode M.2.1 pc = .ok (.putfield 46, 3)) (hM : M.1.cls = RX5) (ho : o = some a) (hk : isK ((L, K, AN, R0), (Rc, Ic, AIc, AR), (Im, AIm), AL) 5 a) (kk : WP G M Q k n (pc + 3) lv st ((L, K, AN, R0), (Rc, Ic, AIc, AR), (u2 Im 3 a v, AIm), AL)) : WP G M Q k n pc lv (vi v :: vr o :: st) ((L, K, AN, R0), (Rc, Ic, AIc, AR), (Im, AIm), AL) := by
  subst ho
  intro p e s m args below meth c H locs ls C hh hS hl
  obtain ⟨j, hj⟩ := pool_at G.2.2.2.1 hk.1
  have hj2 := hj
  rw [cl_5 _ hk.2] at hj
  have hown := C.2.2.2.2.2.1
  rw [hM] at hown
  have he : (va_pl L (cE G.2.2.2.1 ((L, K, AN, R0), (Rc, Ic, AIc, AR), (Im, AIm), AL))).set j (a, .inr (5, [.int (Im 0 a), .int (Im 1 a), .int (Im 2 a), va_rf (R0 9 a), va_rf (R0 10 a), va_rf (R0 11 a), va_rf (R0 12 a), va_rf (R0 13 a), va_rf (R0 14 a), va_rf (R0 15 a), .int (v), .int (Im 4 a), .int (Im 5 a), .int (Im 6 a), .int (Im 7 a), .int (Im 8 a), .int (Im 9 a), .int (Im 10 a), .int (Im 11 a), .int (Im 12 a)])) = va_pl L (cE G.2.2.2.1 ((L, K, AN, R0), (Rc, Ic, AIc, AR), (u2 Im 3 a v, AIm), AL)) := (va_pl_set (X := []) hh.2 hk.1 hj2).trans (va_pl_congr (cu_5_10 _ hk.2 v))
  have hn : narrow (tyX5 10) (.int v) = .int v := rfl
  have hf : fits (tyX5 10) (.int v) = true := rfl
  exact va_put (C := RX5) (T := TX5) (N := 20) (Ts := wsX50) C.1 C.2.1 (fun w h => cx_ok C (gd_5 w h)) (fun _ h => h) tyX5 tyX5_ok nmX5 hown (cx_K C) hh.1 hh.2 hS j hj rfl 10 (by decide) (cx_ok C ok_666) (fun _ h => h) rfl (tyX5_ok 10 (by decide)) hn hf (by show 10 < 20; decide) dg (fun H1 locs1 hP1 hD1 hS1 => kk p e s m args below meth c H1 locs1 ls C ⟨by rw [← he]; exact hP1, by rw [← he]; exact hD1⟩ hS1 hl)
theorem ok_667 : okw (.fieldLink RX5 81 RX5 "first" "I") := ⟨List.mem_of_getElem? (i := 667) (by decide +kernel), by decide +kernel⟩
/-- getfield first of SplaySequenceModel -/
theorem gf_RX5_81 {o : Option Nat} {a : Nat} (dg : decode M.2.1 pc = .ok (.getfield 81, 3)) (hM : M.1.cls = RX5) (ho : o = some a) (hk : isK ((L, K, AN, R0), (Rc, Ic, AIc, AR), (Im, AIm), AL) 5 a) (kk : WP G M Q k n (pc + 3) lv (vi (Im 4 a) :: st) ((L, K, AN, R0), (Rc, Ic, AIc, AR), (Im, AIm), AL)) : WP G M Q k n pc lv (vr o :: st) ((L, K, AN, R0), (Rc, Ic, AIc, AR), (Im, AIm), AL) := by
  subst ho
  intro p e s m args below meth c H locs ls C hh hS hl
  obtain ⟨j, hj⟩ := pool_at G.2.2.2.1 hk.1
  rw [cl_5 _ hk.2] at hj
  have hown := C.2.2.2.2.2.1
  rw [hM] at hown
  exact va_get (C := RX5) (T := TX5) (N := 20) (Ts := wsX50) C.1 C.2.1 (fun w h => cx_ok C (gd_5 w h)) (fun _ h => h) hown (cx_K C) hh.1 j hj rfl 11 (by decide) (cx_ok C ok_667) (fun _ h => h) rfl dg (kk p e s m args below meth c H locs ls C hh hS hl)
/-- putfield first of SplaySequenceModel -/
theorem pf_RX5_81 {o : Option Nat} {a : Nat} {v : Int32} (dg : decode M.2.1 pc = .ok (.putfield 81, 3)) (hM : M.1.cls = RX5) (ho : o = some a) (hk : isK ((L, K, AN, R0), (Rc, Ic, AIc, AR), (Im, AIm), AL) 5 a) (kk : WP G M Q k n (pc + 3) lv st ((L, K, AN, R0), (Rc, Ic, AIc, AR), (u2 Im 4 a v, AIm), AL)) : WP G M Q k n pc lv (vi v :: vr o :: st) ((L, K, AN, R0), (Rc, Ic, AIc, AR), (Im, AIm), AL) := by
  subst ho
  intro p e s m args below meth c H locs ls C hh hS hl
  obtain ⟨j, hj⟩ := pool_at G.2.2.2.1 hk.1
  have hj2 := hj
  rw [cl_5 _ hk.2] at hj
  have hown := C.2.2.2.2.2.1
  rw [hM] at hown
  have he : (va_pl L (cE G.2.2.2.1 ((L, K, AN, R0), (Rc, Ic, AIc, AR), (Im, AIm), AL))).set j (a, .inr (5, [.int (Im 0 a), .int (Im 1 a), .int (Im 2 a), va_rf (R0 9 a), va_rf (R0 10 a), va_rf (R0 11 a), va_rf (R0 12 a), va_rf (R0 13 a), va_rf (R0 14 a), va_rf (R0 15 a), .int (Im 3 a), .int (v), .int (Im 5 a), .int (Im 6 a), .int (Im 7 a), .int (Im 8 a), .int (Im 9 a), .int (Im 10 a), .int (Im 11 a), .int (Im 12 a)])) = va_pl L (cE G.2.2.2.1 ((L, K, AN, R0), (Rc, Ic, AIc, AR), (u2 Im 4 a v, AIm), AL)) := (va_pl_set (X := []) hh.2 hk.1 hj2).trans (va_pl_congr (cu_5_11 _ hk.2 v))
  have hn : narrow (tyX5 11) (.int v) = .int v := rfl
  have hf : fits (tyX5 11) (.int v) = true := rfl
  exact va_put (C := RX5) (T := TX5) (N := 20) (Ts := wsX50) C.1 C.2.1 (fun w h => cx_ok C (gd_5 w h)) (fun _ h => h) tyX5 tyX5_ok nmX5 hown (cx_K C) hh.1 hh.2 hS j hj rfl 11 (by decide) (cx_ok C ok_667) (fun _ h => h) rfl (tyX5_ok 11 (by decide)) hn hf (by show 11 < 20; decide) dg (fun H1 locs1 hP1 hD1 hS1 => kk p e s m args below meth c H1 locs1 ls C ⟨by rw [← he]; exact hP1, by rw [← he]; exact hD1⟩ hS1 hl)
theorem ok_668 : okw (.fieldLink RX5 84 RX5 "second" "I") := ⟨List.mem_of_getElem? (i := 668) (by decide +kernel), by decide +kernel⟩
/-- getfield second of SplaySequenceModel -/
theorem gf_RX5_84 {o : Option Nat} {a : Nat} (dg : decode M.2.1 pc = .ok (.getfield 84, 3)) (hM : M.1.cls = RX5) (ho : o = some a) (hk : isK ((L, K, AN, R0), (Rc, Ic, AIc, AR), (Im, AIm), AL) 5 a) (kk : WP G M Q k n (pc + 3) lv (vi (Im 5 a) :: st) ((L, K, AN, R0), (Rc, Ic, AIc, AR), (Im, AIm), AL)) : WP G M Q k n pc lv (vr o :: st) ((L, K, AN, R0), (Rc, Ic, AIc, AR), (Im, AIm), AL) := by
  subst ho
  intro p e s m args below meth c H locs ls C hh hS hl
  obtain ⟨j, hj⟩ := pool_at G.2.2.2.1 hk.1
  rw [cl_5 _ hk.2] at hj
  have hown := C.2.2.2.2.2.1
  rw [hM] at hown
  exact va_get (C := RX5) (T := TX5) (N := 20) (Ts := wsX50) C.1 C.2.1 (fun w h => cx_ok C (gd_5 w h)) (fun _ h => h) hown (cx_K C) hh.1 j hj rfl 12 (by decide) (cx_ok C ok_668) (fun _ h => h) rfl dg (kk p e s m args below meth c H locs ls C hh hS hl)
/-- putfield second of SplaySequenceModel -/
theorem pf_RX5_84 {o : Option Nat} {a : Nat} {v : Int32} (dg : decode M.2.1 pc = .ok (.putfield 84, 3)) (hM : M.1.cls = RX5) (ho : o = some a) (hk : isK ((L, K, AN, R0), (Rc, Ic, AIc, AR), (Im, AIm), AL) 5 a) (kk : WP G M Q k n (pc + 3) lv st ((L, K, AN, R0), (Rc, Ic, AIc, AR), (u2 Im 5 a v, AIm), AL)) : WP G M Q k n pc lv (vi v :: vr o :: st) ((L, K, AN, R0), (Rc, Ic, AIc, AR), (Im, AIm), AL) := by
  subst ho
  intro p e s m args below meth c H locs ls C hh hS hl
  obtain ⟨j, hj⟩ := pool_at G.2.2.2.1 hk.1
  have hj2 := hj
  rw [cl_5 _ hk.2] at hj
  have hown := C.2.2.2.2.2.1
  rw [hM] at hown
  have he : (va_pl L (cE G.2.2.2.1 ((L, K, AN, R0), (Rc, Ic, AIc, AR), (Im, AIm), AL))).set j (a, .inr (5, [.int (Im 0 a), .int (Im 1 a), .int (Im 2 a), va_rf (R0 9 a), va_rf (R0 10 a), va_rf (R0 11 a), va_rf (R0 12 a), va_rf (R0 13 a), va_rf (R0 14 a), va_rf (R0 15 a), .int (Im 3 a), .int (Im 4 a), .int (v), .int (Im 6 a), .int (Im 7 a), .int (Im 8 a), .int (Im 9 a), .int (Im 10 a), .int (Im 11 a), .int (Im 12 a)])) = va_pl L (cE G.2.2.2.1 ((L, K, AN, R0), (Rc, Ic, AIc, AR), (u2 Im 5 a v, AIm), AL)) := (va_pl_set (X := []) hh.2 hk.1 hj2).trans (va_pl_congr (cu_5_12 _ hk.2 v))
  have hn : narrow (tyX5 12) (.int v) = .int v := rfl
  have hf : fits (tyX5 12) (.int v) = true := rfl
  exact va_put (C := RX5) (T := TX5) (N := 20) (Ts := wsX50) C.1 C.2.1 (fun w h => cx_ok C (gd_5 w h)) (fun _ h => h) tyX5 tyX5_ok nmX5 hown (cx_K C) hh.1 hh.2 hS j hj rfl 12 (by decide) (cx_ok C ok_668) (fun _ h => h) rfl (tyX5_ok 12 (by decide)) hn hf (by show 12 < 20; decide) dg (fun H1 locs1 hP1 hD1 hS1 => kk p e s m args below meth c H1 locs1 ls C ⟨by rw [← he]; exact hP1, by rw [← he]; exact hD1⟩ hS1 hl)
theorem ok_669 : okw (.fieldLink RX5 72 RX5 "latestSteps" "I") := ⟨List.mem_of_getElem? (i := 669) (by decide +kernel), by decide +kernel⟩
/-- getfield latestSteps of SplaySequenceModel -/
theorem gf_RX5_72 {o : Option Nat} {a : Nat} (dg : decode M.2.1 pc = .ok (.getfield 72, 3)) (hM : M.1.cls = RX5) (ho : o = some a) (hk : isK ((L, K, AN, R0), (Rc, Ic, AIc, AR), (Im, AIm), AL) 5 a) (kk : WP G M Q k n (pc + 3) lv (vi (Im 6 a) :: st) ((L, K, AN, R0), (Rc, Ic, AIc, AR), (Im, AIm), AL)) : WP G M Q k n pc lv (vr o :: st) ((L, K, AN, R0), (Rc, Ic, AIc, AR), (Im, AIm), AL) := by
  subst ho
  intro p e s m args below meth c H locs ls C hh hS hl
  obtain ⟨j, hj⟩ := pool_at G.2.2.2.1 hk.1
  rw [cl_5 _ hk.2] at hj
  have hown := C.2.2.2.2.2.1
  rw [hM] at hown
  exact va_get (C := RX5) (T := TX5) (N := 20) (Ts := wsX50) C.1 C.2.1 (fun w h => cx_ok C (gd_5 w h)) (fun _ h => h) hown (cx_K C) hh.1 j hj rfl 13 (by decide) (cx_ok C ok_669) (fun _ h => h) rfl dg (kk p e s m args below meth c H locs ls C hh hS hl)
/-- putfield latestSteps of SplaySequenceModel -/
theorem pf_RX5_72 {o : Option Nat} {a : Nat} {v : Int32} (dg : decode M.2.1 pc = .ok (.putfield 72, 3)) (hM : M.1.cls = RX5) (ho : o = some a) (hk : isK ((L, K, AN, R0), (Rc, Ic, AIc, AR), (Im, AIm), AL) 5 a) (kk : WP G M Q k n (pc + 3) lv st ((L, K, AN, R0), (Rc, Ic, AIc, AR), (u2 Im 6 a v, AIm), AL)) : WP G M Q k n pc lv (vi v :: vr o :: st) ((L, K, AN, R0), (Rc, Ic, AIc, AR), (Im, AIm), AL) := by
  subst ho
  intro p e s m args below meth c H locs ls C hh hS hl
  obtain ⟨j, hj⟩ := pool_at G.2.2.2.1 hk.1
  have hj2 := hj
  rw [cl_5 _ hk.2] at hj
  have hown := C.2.2.2.2.2.1
  rw [hM] at hown
  have he : (va_pl L (cE G.2.2.2.1 ((L, K, AN, R0), (Rc, Ic, AIc, AR), (Im, AIm), AL))).set j (a, .inr (5, [.int (Im 0 a), .int (Im 1 a), .int (Im 2 a), va_rf (R0 9 a), va_rf (R0 10 a), va_rf (R0 11 a), va_rf (R0 12 a), va_rf (R0 13 a), va_rf (R0 14 a), va_rf (R0 15 a), .int (Im 3 a), .int (Im 4 a), .int (Im 5 a), .int (v), .int (Im 7 a), .int (Im 8 a), .int (Im 9 a), .int (Im 10 a), .int (Im 11 a), .int (Im 12 a)])) = va_pl L (cE G.2.2.2.1 ((L, K, AN, R0), (Rc, Ic, AIc, AR), (u2 Im 6 a v, AIm), AL)) := (va_pl_set (X := []) hh.2 hk.1 hj2).trans (va_pl_congr (cu_5_13 _ hk.2 v))
  have hn : narrow (tyX5 13) (.int v) = .int v := rfl
  have hf : fits (tyX5 13) (.int v) = true := rfl
  exact va_put (C := RX5) (T := TX5) (N := 20) (Ts := wsX50) C.1 C.2.1 (fun w h => cx_ok C (gd_5 w h)) (fun _ h => h) tyX5 tyX5_ok nmX5 hown (cx_K C) hh.1 hh.2 hS j hj rfl 13 (by decide) (cx_ok C ok_669) (fun _ h => h) rfl (tyX5_ok 13 (by decide)) hn hf (by show 13 < 20; decide) dg (fun H1 locs1 hP1 hD1 hS1 => kk p e s m args below meth c H1 locs1 ls C ⟨by rw [← he]; exact hP1, by rw [← he]; exact hD1⟩ hS1 hl)
theorem ok_670 : okw (.fieldLink RX5 63 RX5 "latestRotations" "I") := ⟨List.mem_of_getElem? (i := 670) (by decide +kernel), by decide +kernel⟩
/-- getfield latestRotations of SplaySequenceModel -/
theorem gf_RX5_63 {o : Option Nat} {a : Nat} (dg : decode M.2.1 pc = .ok (.getfield 63, 3)) (hM : M.1.cls = RX5) (ho : o = some a) (hk : isK ((L, K, AN, R0), (Rc, Ic, AIc, AR), (Im, AIm), AL) 5 a) (kk : WP G M Q k n (pc + 3) lv (vi (Im 7 a) :: st) ((L, K, AN, R0), (Rc, Ic, AIc, AR), (Im, AIm), AL)) : WP G M Q k n pc lv (vr o :: st) ((L, K, AN, R0), (Rc, Ic, AIc, AR), (Im, AIm), AL) := by
  subst ho
  intro p e s m args below meth c H locs ls C hh hS hl
  obtain ⟨j, hj⟩ := pool_at G.2.2.2.1 hk.1
  rw [cl_5 _ hk.2] at hj
  have hown := C.2.2.2.2.2.1
  rw [hM] at hown
  exact va_get (C := RX5) (T := TX5) (N := 20) (Ts := wsX50) C.1 C.2.1 (fun w h => cx_ok C (gd_5 w h)) (fun _ h => h) hown (cx_K C) hh.1 j hj rfl 14 (by decide) (cx_ok C ok_670) (fun _ h => h) rfl dg (kk p e s m args below meth c H locs ls C hh hS hl)
/-- putfield latestRotations of SplaySequenceModel -/
theorem pf_RX5_63 {o : Option Nat} {a : Nat} {v : Int32} (dg : decode M.2.1 pc = .ok (.putfield 63, 3)) (hM : M.1.cls = RX5) (ho : o = some a) (hk : isK ((L, K, AN, R0), (Rc, Ic, AIc, AR), (Im, AIm), AL) 5 a) (kk : WP G M Q k n (pc + 3) lv st ((L, K, AN, R0), (Rc, Ic, AIc, AR), (u2 Im 7 a v, AIm), AL)) : WP G M Q k n pc lv (vi v :: vr o :: st) ((L, K, AN, R0), (Rc, Ic, AIc, AR), (Im, AIm), AL) := by
  subst ho
  intro p e s m args below meth c H locs ls C hh hS hl
  obtain ⟨j, hj⟩ := pool_at G.2.2.2.1 hk.1
  have hj2 := hj
  rw [cl_5 _ hk.2] at hj
  have hown := C.2.2.2.2.2.1
  rw [hM] at hown
  have he : (va_pl L (cE G.2.2.2.1 ((L, K, AN, R0), (Rc, Ic, AIc, AR), (Im, AIm), AL))).set j (a, .inr (5, [.int (Im 0 a), .int (Im 1 a), .int (Im 2 a), va_rf (R0 9 a), va_rf (R0 10 a), va_rf (R0 11 a), va_rf (R0 12 a), va_rf (R0 13 a), va_rf (R0 14 a), va_rf (R0 15 a), .int (Im 3 a), .int (Im 4 a), .int (Im 5 a), .int (Im 6 a), .int (v), .int (Im 8 a), .int (Im 9 a), .int (Im 10 a), .int (Im 11 a), .int (Im 12 a)])) = va_pl L (cE G.2.2.2.1 ((L, K, AN, R0), (Rc, Ic, AIc, AR), (u2 Im 7 a v, AIm), AL)) := (va_pl_set (X := []) hh.2 hk.1 hj2).trans (va_pl_congr (cu_5_14 _ hk.2 v))
  have hn : narrow (tyX5 14) (.int v) = .int v := rfl
  have hf : fits (tyX5 14) (.int v) = true := rfl
  exact va_put (C := RX5) (T := TX5) (N := 20) (Ts := wsX50) C.1 C.2.1 (fun w h => cx_ok C (gd_5 w h)) (fun _ h => h) tyX5 tyX5_ok nmX5 hown (cx_K C) hh.1 hh.2 hS j hj rfl 14 (by decide) (cx_ok C ok_670) (fun _ h => h) rfl (tyX5_ok 14 (by decide)) hn hf (by show 14 < 20; decide) dg (fun H1 locs1 hP1 hD1 hS1 => kk p e s m args below meth c H1 locs1 ls C ⟨by rw [← he]; exact hP1, by rw [← he]; exact hD1⟩ hS1 hl)
theorem ok_671 : okw (.fieldLink RX5 75 RX5 "allSteps" "I") := ⟨List.mem_of_getElem? (i := 671) (by decide +kernel), by decide +kernel⟩
/-- getfield allSteps of SplaySequenceModel -/
theorem gf_RX5_75 {o : Option Nat} {a : Nat} (dg : decode M.2.1 pc = .ok (.getfield 75, 3)) (hM : M.1.cls = RX5) (ho : o = some a) (hk : isK ((L, K, AN, R0), (Rc, Ic, AIc, AR), (Im, AIm), AL) 5 a) (kk : WP G M Q k n (pc + 3) lv (vi (Im 8 a) :: st) ((L, K, AN, R0), (Rc, Ic, AIc, AR), (Im, AIm), AL)) : WP G M Q k n pc lv (vr o :: st) ((L, K, AN, R0), (Rc, Ic, AIc, AR), (Im, AIm), AL) := by
  subst ho
  intro p e s m args below meth c H locs ls C hh hS hl
  obtain ⟨j, hj⟩ := pool_at G.2.2.2.1 hk.1
  rw [cl_5 _ hk.2] at hj
  have hown := C.2.2.2.2.2.1
  rw [hM] at hown
  exact va_get (C := RX5) (T := TX5) (N := 20) (Ts := wsX50) C.1 C.2.1 (fun w h => cx_ok C (gd_5 w h)) (fun _ h => h) hown (cx_K C) hh.1 j hj rfl 15 (by decide) (cx_ok C ok_671) (fun _ h => h) rfl dg (kk p e s m args below meth c H locs ls C hh hS hl)
/-- putfield allSteps of SplaySequenceModel -/
theorem pf_RX5_75 {o : Option Nat} {a : Nat} {v : Int32} (dg : decode M.2.1 pc = .ok (.putfield 75, 3)) (hM : M.1.cls = RX5) (ho : o = some a) (hk : isK ((L, K, AN, R0), (Rc, Ic, AIc, AR), (Im, AIm), AL) 5 a) (kk : WP G M Q k n (pc + 3) lv st ((L, K, AN, R0), (Rc, Ic, AIc, AR), (u2 Im 8 a v, AIm), AL)) : WP G M Q k n pc lv (vi v :: vr o :: st) ((L, K, AN, R0), (Rc, Ic, AIc, AR), (Im, AIm), AL) := by
  subst ho
  intro p e s m args below meth c H locs ls C hh hS hl
  obtain ⟨j, hj⟩ := pool_at G.2.2.2.1 hk.1
  have hj2 := hj
  rw [cl_5 _ hk.2] at hj
  have hown := C.2.2.2.2.2.1
  rw [hM] at hown
  have he : (va_pl L (cE G.2.2.2.1 ((L, K, AN, R0), (Rc, Ic, AIc, AR), (Im, AIm), AL))).set j (a, .inr (5, [.int (Im 0 a), .int (Im 1 a), .int (Im 2 a), va_rf (R0 9 a), va_rf (R0 10 a), va_rf (R0 11 a), va_rf (R0 12 a), va_rf (R0 13 a), va_rf (R0 14 a), va_rf (R0 15 a), .int (Im 3 a), .int (Im 4 a), .int (Im 5 a), .int (Im 6 a), .int (Im 7 a), .int (v), .int (Im 9 a), .int (Im 10 a), .int (Im 11 a), .int (Im 12 a)])) = va_pl L (cE G.2.2.2.1 ((L, K, AN, R0), (Rc, Ic, AIc, AR), (u2 Im 8 a v, AIm), AL)) := (va_pl_set (X := []) hh.2 hk.1 hj2).trans (va_pl_congr (cu_5_15 _ hk.2 v))
  have hn : narrow (tyX5 15) (.int v) = .int v := rfl
  have hf : fits (tyX5 15) (.int v) = true := rfl
  exact va_put (C := RX5) (T := TX5) (N := 20) (Ts := wsX50) C.1 C.2.1 (fun w h => cx_ok C (gd_5 w h)) (fun _ h => h) tyX5 tyX5_ok nmX5 hown (cx_K C) hh.1 hh.2 hS j hj rfl 15 (by decide) (cx_ok C ok_671) (fun _ h => h) rfl (tyX5_ok 15 (by decide)) hn hf (by show 15 < 20; decide) dg (fun H1 locs1 hP1 hD1 hS1 => kk p e s m args below meth c H1 locs1 ls C ⟨by rw [← he]; exact hP1, by rw [← he]; exact hD1⟩ hS1 hl)
theorem ok_672 : okw (.fieldLink RX5 66 RX5 "allSplays" "I") := ⟨List.mem_of_getElem? (i := 672) (by decide +kernel), by decide +kernel⟩
/-- getfield allSplays of SplaySequenceModel -/
theorem gf_RX5_66 {o : Option Nat} {a : Nat} (dg : decode M.2.1 pc = .ok (.getfield 66, 3)) (hM : M.1.cls = RX5) (ho : o = some a) (hk : isK ((L, K, AN, R0), (Rc, Ic, AIc, AR), (Im, AIm), AL) 5 a) (kk : WP G M Q k n (pc + 3) lv (vi (Im 9 a) :: st) ((L, K, AN, R0), (Rc, Ic, AIc, AR), (Im, AIm), AL)) : WP G M Q k n pc lv (vr o :: st) ((L, K, AN, R0), (Rc, Ic, AIc, AR), (Im, AIm), AL) := by
  subst ho
  intro p e s m args below meth c H locs ls C hh hS hl
  obtain ⟨j, hj⟩ := pool_at G.2.2.2.1 hk.1
  rw [cl_5 _ hk.2] at hj
  have hown := C.2.2.2.2.2.1
  rw [hM] at hown
  exact va_get (C := RX5) (T := TX5) (N := 20) (Ts := wsX50) C.1 C.2.1 (fun w h => cx_ok C (gd_5 w h)) (fun _ h => h) hown (cx_K C) hh.1 j hj rfl 16 (by decide) (cx_ok C ok_672) (fun _ h => h) rfl dg (kk p e s m args below meth c H locs ls C hh hS hl)
/-- putfield allSplays of SplaySequenceModel -/
theorem pf_RX5_66 {o : Option Nat} {a : Nat} {v : Int32} (dg : decode M.2.1 pc = .ok (.putfield 66, 3)) (hM : M.1.cls = RX5) (ho : o = some a) (hk : isK ((L, K, AN, R0), (Rc, Ic, AIc, AR), (Im, AIm), AL) 5 a) (kk : WP G M Q k n (pc + 3) lv st ((L, K, AN, R0), (Rc, Ic, AIc, AR), (u2 Im 9 a v, AIm), AL)) : WP G M Q k n pc lv (vi v :: vr o :: st) ((L, K, AN, R0), (Rc, Ic, AIc, AR), (Im, AIm), AL) := by
  subst ho
  intro p e s m args below meth c H locs ls C hh hS hl
  obtain ⟨j, hj⟩ := pool_at G.2.2.2.1 hk.1
  have hj2 := hj
  rw [cl_5 _ hk.2] at hj
  have hown := C.2.2.2.2.2.1
  rw [hM] at hown
  have he : (va_pl L (cE G.2.2.2.1 ((L, K, AN, R0), (Rc, Ic, AIc, AR), (Im, AIm), AL))).set j (a, .inr (5, [.int (Im 0 a), .int (Im 1 a), .int (Im 2 a), va_rf (R0 9 a), va_rf (R0 10 a), va_rf (R0 11 a), va_rf (R0 12 a), va_rf (R0 13 a), va_rf (R0 14 a), va_rf (R0 15 a), .int (Im 3 a), .int (Im 4 a), .int (Im 5 a), .int (Im 6 a), .int (Im 7 a), .int (Im 8 a), .int (v), .int (Im 10 a), .int (Im 11 a), .int (Im 12 a)])) = va_pl L (cE G.2.2.2.1 ((L, K, AN, R0), (Rc, Ic, AIc, AR), (u2 Im 9 a v, AIm), AL)) := (va_pl_set (X := []) hh.2 hk.1 hj2).trans (va_pl_congr (cu_5_16 _ hk.2 v))
  have hn : narrow (tyX5 16) (.int v) = .int v := rfl
  have hf : fits (tyX5 16) (.int v) = true := rfl
  exact va_put (C := RX5) (T := TX5) (N := 20) (Ts := wsX50) C.1 C.2.1 (fun w h => cx_ok C (gd_5 w h)) (fun _ h => h) tyX5 tyX5_ok nmX5 hown (cx_K C) hh.1 hh.2 hS j hj rfl 16 (by decide) (cx_ok C ok_672) (fun _ h => h) rfl (tyX5_ok 16 (by decide)) hn hf (by show 16 < 20; decide) dg (fun H1 locs1 hP1 hD1 hS1 => kk p e s m args below meth c H1 locs1 ls C ⟨by rw [← he]; exact hP1, by rw [← he]; exact hD1⟩ hS1 hl)
theorem ok_673 : okw (.fieldLink RX5 124 RX5 "ahead" "I") := ⟨List.mem_of_getElem? (i := 673) (by decide +kernel), by decide +kernel⟩
/-- getfield ahead of SplaySequenceModel -/
theorem gf_RX5_124 {o : Option Nat} {a : Nat} (dg : decode M.2.1 pc = .ok (.getfield 124, 3)) (hM : M.1.cls = RX5) (ho : o = some a) (hk : isK ((L, K, AN, R0), (Rc, Ic, AIc, AR), (Im, AIm), AL) 5 a) (kk : WP G M Q k n (pc + 3) lv (vi (Im 10 a) :: st) ((L, K, AN, R0), (Rc, Ic, AIc, AR), (Im, AIm), AL)) : WP G M Q k n pc lv (vr o :: st) ((L, K, AN, R0), (Rc, Ic, AIc, AR), (Im, AIm), AL) := by
  subst ho
  intro p e s m args below meth c H locs ls C hh hS hl
  obtain ⟨j, hj⟩ := pool_at G.2.2.2.1 hk.1
  rw [cl_5 _ hk.2] at hj
  have hown := C.2.2.2.2.2.1
  rw [hM] at hown
  exact va_get (C := RX5) (T := TX5) (N := 20) (Ts := wsX50) C.1 C.2.1 (fun w h => cx_ok C (gd_5 w h)) (fun _ h => h) hown (cx_K C) hh.1 j hj rfl 17 (by decide) (cx_ok C ok_673) (fun _ h => h) rfl dg (kk p e s m args below meth c H locs ls C hh hS hl)
/-- putfield ahead of SplaySequenceModel -/
theorem pf_RX5_124 {o : Option Nat} {a : Nat} {v : Int32} (dg : decode M.2.1 pc = .ok (.putfield 124, 3)) (hM : M.1.cls = RX5) (ho : o = some a) (hk : isK ((L, K, AN, R0), (Rc, Ic, AIc, AR), (Im, AIm), AL) 5 a) (kk : WP G M Q k n (pc + 3) lv st ((L, K, AN, R0), (Rc, Ic, AIc, AR), (u2 Im 10 a v, AIm), AL)) : WP G M Q k n pc lv (vi v :: vr o :: st) ((L, K, AN, R0), (Rc, Ic, AIc, AR), (Im, AIm), AL) := by
  subst ho
  intro p e s m args below meth c H locs ls C hh hS hl
  obtain ⟨j, hj⟩ := pool_at G.2.2.2.1 hk.1
  have hj2 := hj
  rw [cl_5 _ hk.2] at hj
  have hown := C.2.2.2.2.2.1
  rw [hM] at hown
  have he : (va_pl L (cE G.2.2.2.1 ((L, K, AN, R0), (Rc, Ic, AIc, AR), (Im, AIm), AL))).set j (a, .inr (5, [.int (Im 0 a), .int (Im 1 a), .int (Im 2 a), va_rf (R0 9 a), va_rf (R0 10 a), va_rf (R0 11 a), va_rf (R0 12 a), va_rf (R0 13 a), va_rf (R0 14 a), va_rf (R0 15 a), .int (Im 3 a), .int (Im 4 a), .int (Im 5 a), .int (Im 6 a), .int (Im 7 a), .int (Im 8 a), .int (Im 9 a), .int (v), .int (Im 11 a), .int (Im 12 a)])) = va_pl L (cE G.2.2.2.1 ((L, K, AN, R0), (Rc, Ic, AIc, AR), (u2 Im 10 a v, AIm), AL)) := (va_pl_set (X := []) hh.2 hk.1 hj2).trans (va_pl_congr (cu_5_17 _ hk.2 v))
  have hn : narrow (tyX5 17) (.int v) = .int v := rfl
  have hf : fits (tyX5 17) (.int v) = true := rfl
  exact va_put (C := RX5) (T := TX5) (N := 20) (Ts := wsX50) C.1 C.2.1 (fun w h => cx_ok C (gd_5 w h)) (fun _ h => h) tyX5 tyX5_ok nmX5 hown (cx_K C) hh.1 hh.2 hS j hj rfl 17 (by decide) (cx_ok C ok_673) (fun _ h => h) rfl (tyX5_ok 17 (by decide)) hn hf (by show 17 < 20; decide) dg (fun H1 locs1 hP1 hD1 hS1 => kk p e s m args below meth c H1 locs1 ls C ⟨by rw [← he]; exact hP1, by rw [← he]; exact hD1⟩ hS1 hl)
theorem ok_674 : okw (.fieldLink RX5 127 RX5 "range" "I") := ⟨List.mem_of_getElem? (i := 674) (by decide +kernel), by decide +kernel⟩
/-- getfield range of SplaySequenceModel -/
theorem gf_RX5_127 {o : Option Nat} {a : Nat} (dg : decode M.2.1 pc = .ok (.getfield 127, 3)) (hM : M.1.cls = RX5) (ho : o = some a) (hk : isK ((L, K, AN, R0), (Rc, Ic, AIc, AR), (Im, AIm), AL) 5 a) (kk : WP G M Q k n (pc + 3) lv (vi (Im 11 a) :: st) ((L, K, AN, R0), (Rc, Ic, AIc, AR), (Im, AIm), AL)) : WP G M Q k n pc lv (vr o :: st) ((L, K, AN, R0), (Rc, Ic, AIc, AR), (Im, AIm), AL) := by
  subst ho
  intro p e s m args below meth c H locs ls C hh hS hl
  obtain ⟨j, hj⟩ := pool_at G.2.2.2.1 hk.1
  rw [cl_5 _ hk.2] at hj
  have hown := C.2.2.2.2.2.1
  rw [hM] at hown
  exact va_get (C := RX5) (T := TX5) (N := 20) (Ts := wsX50) C.1 C.2.1 (fun w h => cx_ok C (gd_5 w h)) (fun _ h => h) hown (cx_K C) hh.1 j hj rfl 18 (by decide) (cx_ok C ok_674) (fun _ h => h) rfl dg (kk p e s m args below meth c H locs ls C hh hS hl)
/-- putfield range of SplaySequenceModel -/
theorem pf_RX5_127 {o : Option Nat} {a : Nat} {v : Int32} (dg : decode M.2.1 pc = .ok (.putfield 127, 3)) (hM : M.1.cls = RX5) (ho : o = some a) (hk : isK ((L, K, AN, R0), (Rc, Ic, AIc, AR), (Im, AIm), AL) 5 a) (kk : WP G M Q k n (pc + 3) lv st ((L, K, AN, R0), (Rc, Ic, AIc, AR), (u2 Im 11 a v, AIm), AL)) : WP G M Q k n pc lv (vi v :: vr o :: st) ((L, K, AN, R0), (Rc, Ic, AIc, AR), (Im, AIm), AL) := by
  subst ho
  intro p e s m args below meth c H locs ls C hh hS hl
  obtain ⟨j, hj⟩ := pool_at G.2.2.2.1 hk.1
  have hj2 := hj
  rw [cl_5 _ hk.2] at hj
  have hown := C.2.2.2.2.2.1
  rw [hM] at hown
  have he : (va_pl L (cE G.2.2.2.1 ((L, K, AN, R0), (Rc, Ic, AIc, AR), (Im, AIm), AL))).set j (a, .inr (5, [.int (Im 0 a), .int (Im 1 a), .int (Im 2 a), va_rf (R0 9 a), va_rf (R0 10 a), va_rf (R0 11 a), va_rf (R0 12 a), va_rf (R0 13 a), va_rf (R0 14 a), va_rf (R0 15 a), .int (Im 3 a), .int (Im 4 a), .int (Im 5 a), .int (Im 6 a), .int (Im 7 a), .int (Im 8 a), .int (Im 9 a), .int (Im 10 a), .int (v), .int (Im 12 a)])) = va_pl L (cE G.2.2.2.1 ((L, K, AN, R0), (Rc, Ic, AIc, AR), (u2 Im 11 a v, AIm), AL)) := (va_pl_set (X := []) hh.2 hk.1 hj2).trans (va_pl_congr (cu_5_18 _ hk.2 v))
  have hn : narrow (tyX5 18) (.int v) = .int v := rfl
  have hf : fits (tyX5 18) (.int v) = true := rfl
  exact va_put (C := RX5) (T := TX5) (N := 20) (Ts := wsX50) C.1 C.2.1 (fun w h => cx_ok C (gd_5 w h)) (fun _ h => h) tyX5 tyX5_ok nmX5 hown (cx_K C) hh.1 hh.2 hS j hj rfl 18 (by decide) (cx_ok C ok_674) (fun _ h => h) rfl (tyX5_ok 18 (by decide)) hn hf (by show 18 < 20; decide) dg (fun H1 locs1 hP1 hD1 hS1 => kk p e s m args below meth c H1 locs1 ls C ⟨by rw [← he]; exact hP1, by rw [← he]; exact hD1⟩ hS1 hl)
theorem ok_675 : okw (.fieldLink RX5 130 RX5 "behind" "I") := ⟨List.mem_of_getElem? (i := 675) (by decide +kernel), by decide +kernel⟩
/-- getfield behind of SplaySequenceModel -/
theorem gf_RX5_130 {o : Option Nat} {a : Nat} (dg : decode M.2.1 pc = .ok (.getfield 130, 3)) (hM : M.1.cls = RX5) (ho : o = some a) (hk : isK ((L, K, AN, R0), (Rc, Ic, AIc, AR), (Im, AIm), AL) 5 a) (kk : WP G M Q k n (pc + 3) lv (vi (Im 12 a) :: st) ((L, K, AN, R0), (Rc, Ic, AIc, AR), (Im, AIm), AL)) : WP G M Q k n pc lv (vr o :: st) ((L, K, AN, R0), (Rc, Ic, AIc, AR), (Im, AIm), AL) := by
  subst ho
  intro p e s m args below meth c H locs ls C hh hS hl
  obtain ⟨j, hj⟩ := pool_at G.2.2.2.1 hk.1
  rw [cl_5 _ hk.2] at hj
  have hown := C.2.2.2.2.2.1
  rw [hM] at hown
  exact va_get (C := RX5) (T := TX5) (N := 20) (Ts := wsX50) C.1 C.2.1 (fun w h => cx_ok C (gd_5 w h)) (fun _ h => h) hown (cx_K C) hh.1 j hj rfl 19 (by decide) (cx_ok C ok_675) (fun _ h => h) rfl dg (kk p e s m args below meth c H locs ls C hh hS hl)
/-- putfield behind of SplaySequenceModel -/
theorem pf_RX5_130 {o : Option Nat} {a : Nat} {v : Int32} (dg : decode M.2.1 pc = .ok (.putfield 130, 3)) (hM : M.1.cls = RX5) (ho : o = some a) (hk : isK ((L, K, AN, R0), (Rc, Ic, AIc, AR), (Im, AIm), AL) 5 a) (kk : WP G M Q k n (pc + 3) lv st ((L, K, AN, R0), (Rc, Ic, AIc, AR), (u2 Im 12 a v, AIm), AL)) : WP G M Q k n pc lv (vi v :: vr o :: st) ((L, K, AN, R0), (Rc, Ic, AIc, AR), (Im, AIm), AL) := by
  subst ho
  intro p e s m args below meth c H locs ls C hh hS hl
  obtain ⟨j, hj⟩ := pool_at G.2.2.2.1 hk.1
  have hj2 := hj
  rw [cl_5 _ hk.2] at hj
  have hown := C.2.2.2.2.2.1
  rw [hM] at hown
  have he : (va_pl L (cE G.2.2.2.1 ((L, K, AN, R0), (Rc, Ic, AIc, AR), (Im, AIm), AL))).set j (a, .inr (5, [.int (Im 0 a), .int (Im 1 a), .int (Im 2 a), va_rf (R0 9 a), va_rf (R0 10 a), va_rf (R0 11 a), va_rf (R0 12 a), va_rf (R0 13 a), va_rf (R0 14 a), va_rf (R0 15 a), .int (Im 3 a), .int (Im 4 a), .int (Im 5 a), .int (Im 6 a), .int (Im 7 a), .int (Im 8 a), .int (Im 9 a), .int (Im 10 a), .int (Im 11 a), .int (v)])) = va_pl L (cE G.2.2.2.1 ((L, K, AN, R0), (Rc, Ic, AIc, AR), (u2 Im 12 a v, AIm), AL)) := (va_pl_set (X := []) hh.2 hk.1 hj2).trans (va_pl_congr (cu_5_19 _ hk.2 v))
  have hn : narrow (tyX5 19) (.int v) = .int v := rfl
  have hf : fits (tyX5 19) (.int v) = true := rfl
  exact va_put (C := RX5) (T := TX5) (N := 20) (Ts := wsX50) C.1 C.2.1 (fun w h => cx_ok C (gd_5 w h)) (fun _ h => h) tyX5 tyX5_ok nmX5 hown (cx_K C) hh.1 hh.2 hS j hj rfl 19 (by decide) (cx_ok C ok_675) (fun _ h => h) rfl (tyX5_ok 19 (by decide)) hn hf (by show 19 < 20; decide) dg (fun H1 locs1 hP1 hD1 hS1 => kk p e s m args below meth c H1 locs1 ls C ⟨by rw [← he]; exact hP1, by rw [← he]; exact hD1⟩ hS1 hl)
theorem nk_66 : Cond.fieldLinkNest RX4 86 RX3 "root" "LSplaySequence$Node;" "SplaySequence" ∈ lw_tbl := List.mem_of_getElem? (i := 66) (by decide +kernel)
/-- getfield root of SplaySequence$Tree -/
theorem gf_RX4_86 {o : Option Nat} {a : Nat} (dg : decode M.2.1 pc = .ok (.getfield 86, 3)) (hM : M.1.cls = RX4) (ho : o = some a) (hk : isK ((L, K, AN, R0), (Rc, Ic, AIc, AR), (Im, AIm), AL) 3 a) (kk : WP G M Q k n (pc + 3) lv (vr (Rc 3 a) :: st) ((L, K, AN, R0), (Rc, Ic, AIc, AR), (Im, AIm), AL)) : WP G M Q k n pc lv (vr o :: st) ((L, K, AN, R0), (Rc, Ic, AIc, AR), (Im, AIm), AL) := by
  subst ho
  intro p e s m args below meth c H locs ls C hh hS hl
  obtain ⟨j, hj⟩ := pool_at G.2.2.2.1 hk.1
  rw [cl_3 _ hk.2] at hj
  have hown := C.2.2.2.2.2.1
  rw [hM] at hown
  exact va_getN (C := RX3) (T := TX3) (N := 1) (Ts := wsX30) C.1 C.2.1 (fun w h => cx_ok C (gd_3 w h)) (fun _ h => h) hown (cx_K C) hh.1 j hj rfl 0 (by decide) (cx_nf (S := ((L, K, AN, R0), (Rc, Ic, AIc, AR), (Im, AIm), AL)) C nk_66) (fun _ h => h) rfl dg (kk p e s m args below meth c H locs ls C hh hS hl)
/-- putfield root of SplaySequence$Tree -/
theorem pf_RX4_86 {o : Option Nat} {a : Nat} {v : Option Nat} (dg : decode M.2.1 pc = .ok (.putfield 86, 3)) (hM : M.1.cls = RX4) (ho : o = some a) (hk : isK ((L, K, AN, R0), (Rc, Ic, AIc, AR), (Im, AIm), AL) 3 a) (kk : WP G M Q k n (pc + 3) lv st ((L, K, AN, R0), (u2 Rc 3 a v, Ic, AIc, AR), (Im, AIm), AL)) : WP G M Q k n pc lv (vr v :: vr o :: st) ((L, K, AN, R0), (Rc, Ic, AIc, AR), (Im, AIm), AL) := by
  subst ho
  intro p e s m args below meth c H locs ls C hh hS hl
  obtain ⟨j, hj⟩ := pool_at G.2.2.2.1 hk.1
  have hj2 := hj
  rw [cl_3 _ hk.2] at hj
  have hown := C.2.2.2.2.2.1
  rw [hM] at hown
  have he : (va_pl L (cE G.2.2.2.1 ((L, K, AN, R0), (Rc, Ic, AIc, AR), (Im, AIm), AL))).set j (a, .inr (3, [va_rf (v)])) = va_pl L (cE G.2.2.2.1 ((L, K, AN, R0), (u2 Rc 3 a v, Ic, AIc, AR), (Im, AIm), AL)) := (va_pl_set (X := []) hh.2 hk.1 hj2).trans (va_pl_congr (cu_3_0 _ hk.2 v))
  have hn : narrow (tyX3 0) (va_rf v) = va_rf v := by cases v <;> rfl
  have hf : fits (tyX3 0) (va_rf v) = true := by cases v <;> rfl
  exact va_putN (C := RX3) (T := TX3) (N := 1) (Ts := wsX30) C.1 C.2.1 (fun w h => cx_ok C (gd_3 w h)) (fun _ h => h) tyX3 tyX3_ok nmX3 hown (cx_K C) hh.1 hh.2 hS j hj rfl 0 (by decide) (cx_nf (S := ((L, K, AN, R0), (Rc, Ic, AIc, AR), (Im, AIm), AL)) C nk_66) (fun _ h => h) rfl (tyX3_ok 0 (by decide)) hn hf (by show 0 < 1; decide) dg (fun H1 locs1 hP1 hD1 hS1 => kk p e s m args below meth c H1 locs1 ls C ⟨by rw [← he]; exact hP1, by rw [← he]; exact hD1⟩ hS1 hl)
theorem nk_67 : Cond.fieldLinkNest RX2 38 RX3 "root" "LSplaySequence$Node;" "SplaySequence" ∈ lw_tbl := List.mem_of_getElem? (i := 67) (by decide +kernel)
/-- getfield root of SplaySequence$Tree -/
theorem gf_RX2_38 {o : Option Nat} {a : Nat} (dg : decode M.2.1 pc = .ok (.getfield 38, 3)) (hM : M.1.cls = RX2) (ho : o = some a) (hk : isK ((L, K, AN, R0), (Rc, Ic, AIc, AR), (Im, AIm), AL) 3 a) (kk : WP G M Q k n (pc + 3) lv (vr (Rc 3 a) :: st) ((L, K, AN, R0), (Rc, Ic, AIc, AR), (Im, AIm), AL)) : WP G M Q k n pc lv (vr o :: st) ((L, K, AN, R0), (Rc, Ic, AIc, AR), (Im, AIm), AL) := by
  subst ho
  intro p e s m args below meth c H locs ls C hh hS hl
  obtain ⟨j, hj⟩ := pool_at G.2.2.2.1 hk.1
  rw [cl_3 _ hk.2] at hj
  have hown := C.2.2.2.2.2.1
  rw [hM] at hown
  exact va_getN (C := RX3) (T := TX3) (N := 1) (Ts := wsX30) C.1 C.2.1 (fun w h => cx_ok C (gd_3 w h)) (fun _ h => h) hown (cx_K C) hh.1 j hj rfl 0 (by decide) (cx_nf (S := ((L, K, AN, R0), (Rc, Ic, AIc, AR), (Im, AIm), AL)) C nk_67) (fun _ h => h) rfl dg (kk p e s m args below meth c H locs ls C hh hS hl)
/-- putfield root of SplaySequence$Tree -/
theorem pf_RX2_38 {o : Option Nat} {a : Nat} {v : Option Nat} (dg : decode M.2.1 pc = .ok (.putfield 38, 3)) (hM : M.1.cls = RX2) (ho : o = some a) (hk : isK ((L, K, AN, R0), (Rc, Ic, AIc, AR), (Im, AIm), AL) 3 a) (kk : WP G M Q k n (pc + 3) lv st ((L, K, AN, R0), (u2 Rc 3 a v, Ic, AIc, AR), (Im, AIm), AL)) : WP G M Q k n pc lv (vr v :: vr o :: st) ((L, K, AN, R0), (Rc, Ic, AIc, AR), (Im, AIm), AL) := by
  subst ho
  intro p e s m args below meth c H locs ls C hh hS hl
  obtain ⟨j, hj⟩ := pool_at G.2.2.2.1 hk.1
  have hj2 := hj
  rw [cl_3 _ hk.2] at hj
  have hown := C.2.2.2.2.2.1
  rw [hM] at hown
  have he : (va_pl L (cE G.2.2.2.1 ((L, K, AN, R0), (Rc, Ic, AIc, AR), (Im, AIm), AL))).set j (a, .inr (3, [va_rf (v)])) = va_pl L (cE G.2.2.2.1 ((L, K, AN, R0), (u2 Rc 3 a v, Ic, AIc, AR), (Im, AIm), AL)) := (va_pl_set (X := []) hh.2 hk.1 hj2).trans (va_pl_congr (cu_3_0 _ hk.2 v))
  have hn : narrow (tyX3 0) (va_rf v) = va_rf v := by cases v <;> rfl
  have hf : fits (tyX3 0) (va_rf v) = true := by cases v <;> rfl
  exact va_putN (C := RX3) (T := TX3) (N := 1) (Ts := wsX30) C.1 C.2.1 (fun w h => cx_ok C (gd_3 w h)) (fun _ h => h) tyX3 tyX3_ok nmX3 hown (cx_K C) hh.1 hh.2 hS j hj rfl 0 (by decide) (cx_nf (S := ((L, K, AN, R0), (Rc, Ic, AIc, AR), (Im, AIm), AL)) C nk_67) (fun _ h => h) rfl (tyX3_ok 0 (by decide)) hn hf (by show 0 < 1; decide) dg (fun H1 locs1 hP1 hD1 hS1 => kk p e s m args below meth c H1 locs1 ls C ⟨by rw [← he]; exact hP1, by rw [← he]; exact hD1⟩ hS1 hl)
theorem nk_78 : Cond.fieldLinkNest RX4 180 RX2 "callSteps" "I" "SplaySequence" ∈ lw_tbl := List.mem_of_getElem? (i := 78) (by decide +kernel)
/-- getfield callSteps of SplaySequence$Splayer -/
theorem gf_RX4_180 {o : Option Nat} {a : Nat} (dg : decode M.2.1 pc = .ok (.getfield 180, 3)) (hM : M.1.cls = RX4) (ho : o = some a) (hk : isK ((L, K, AN, R0), (Rc, Ic, AIc, AR), (Im, AIm), AL) 2 a) (kk : WP G M Q k n (pc + 3) lv (vi (Ic 3 a) :: st) ((L, K, AN, R0), (Rc, Ic, AIc, AR), (Im, AIm), AL)) : WP G M Q k n pc lv (vr o :: st) ((L, K, AN, R0), (Rc, Ic, AIc, AR), (Im, AIm), AL) := by
  subst ho
  intro p e s m args below meth c H locs ls C hh hS hl
  obtain ⟨j, hj⟩ := pool_at G.2.2.2.1 hk.1
  rw [cl_2 _ hk.2] at hj
  have hown := C.2.2.2.2.2.1
  rw [hM] at hown
  exact va_getN (C := RX2) (T := TX2) (N := 4) (Ts := wsX20) C.1 C.2.1 (fun w h => cx_ok C (gd_2 w h)) (fun _ h => h) hown (cx_K C) hh.1 j hj rfl 0 (by decide) (cx_nf (S := ((L, K, AN, R0), (Rc, Ic, AIc, AR), (Im, AIm), AL)) C nk_78) (fun _ h => h) rfl dg (kk p e s m args below meth c H locs ls C hh hS hl)
/-- putfield callSteps of SplaySequence$Splayer -/
theorem pf_RX4_180 {o : Option Nat} {a : Nat} {v : Int32} (dg : decode M.2.1 pc = .ok (.putfield 180, 3)) (hM : M.1.cls = RX4) (ho : o = some a) (hk : isK ((L, K, AN, R0), (Rc, Ic, AIc, AR), (Im, AIm), AL) 2 a) (kk : WP G M Q k n (pc + 3) lv st ((L, K, AN, R0), (Rc, u2 Ic 3 a v, AIc, AR), (Im, AIm), AL)) : WP G M Q k n pc lv (vi v :: vr o :: st) ((L, K, AN, R0), (Rc, Ic, AIc, AR), (Im, AIm), AL) := by
  subst ho
  intro p e s m args below meth c H locs ls C hh hS hl
  obtain ⟨j, hj⟩ := pool_at G.2.2.2.1 hk.1
  have hj2 := hj
  rw [cl_2 _ hk.2] at hj
  have hown := C.2.2.2.2.2.1
  rw [hM] at hown
  have he : (va_pl L (cE G.2.2.2.1 ((L, K, AN, R0), (Rc, Ic, AIc, AR), (Im, AIm), AL))).set j (a, .inr (2, [.int (v), .int (Ic 4 a), .int (Ic 5 a), .int (Ic 6 a)])) = va_pl L (cE G.2.2.2.1 ((L, K, AN, R0), (Rc, u2 Ic 3 a v, AIc, AR), (Im, AIm), AL)) := (va_pl_set (X := []) hh.2 hk.1 hj2).trans (va_pl_congr (cu_2_0 _ hk.2 v))
  have hn : narrow (tyX2 0) (.int v) = .int v := rfl
  have hf : fits (tyX2 0) (.int v) = true := rfl
  exact va_putN (C := RX2) (T := TX2) (N := 4) (Ts := wsX20) C.1 C.2.1 (fun w h => cx_ok C (gd_2 w h)) (fun _ h => h) tyX2 tyX2_ok nmX2 hown (cx_K C) hh.1 hh.2 hS j hj rfl 0 (by decide) (cx_nf (S := ((L, K, AN, R0), (Rc, Ic, AIc, AR), (Im, AIm), AL)) C nk_78) (fun _ h => h) rfl (tyX2_ok 0 (by decide)) hn hf (by show 0 < 4; decide) dg (fun H1 locs1 hP1 hD1 hS1 => kk p e s m args below meth c H1 locs1 ls C ⟨by rw [← he]; exact hP1, by rw [← he]; exact hD1⟩ hS1 hl)
theorem nk_80 : Cond.fieldLinkNest RX4 183 RX2 "callRotations" "I" "SplaySequence" ∈ lw_tbl := List.mem_of_getElem? (i := 80) (by decide +kernel)
/-- getfield callRotations of SplaySequence$Splayer -/
theorem gf_RX4_183 {o : Option Nat} {a : Nat} (dg : decode M.2.1 pc = .ok (.getfield 183, 3)) (hM : M.1.cls = RX4) (ho : o = some a) (hk : isK ((L, K, AN, R0), (Rc, Ic, AIc, AR), (Im, AIm), AL) 2 a) (kk : WP G M Q k n (pc + 3) lv (vi (Ic 4 a) :: st) ((L, K, AN, R0), (Rc, Ic, AIc, AR), (Im, AIm), AL)) : WP G M Q k n pc lv (vr o :: st) ((L, K, AN, R0), (Rc, Ic, AIc, AR), (Im, AIm), AL) := by
  subst ho
  intro p e s m args below meth c H locs ls C hh hS hl
  obtain ⟨j, hj⟩ := pool_at G.2.2.2.1 hk.1
  rw [cl_2 _ hk.2] at hj
  have hown := C.2.2.2.2.2.1
  rw [hM] at hown
  exact va_getN (C := RX2) (T := TX2) (N := 4) (Ts := wsX20) C.1 C.2.1 (fun w h => cx_ok C (gd_2 w h)) (fun _ h => h) hown (cx_K C) hh.1 j hj rfl 1 (by decide) (cx_nf (S := ((L, K, AN, R0), (Rc, Ic, AIc, AR), (Im, AIm), AL)) C nk_80) (fun _ h => h) rfl dg (kk p e s m args below meth c H locs ls C hh hS hl)
/-- putfield callRotations of SplaySequence$Splayer -/
theorem pf_RX4_183 {o : Option Nat} {a : Nat} {v : Int32} (dg : decode M.2.1 pc = .ok (.putfield 183, 3)) (hM : M.1.cls = RX4) (ho : o = some a) (hk : isK ((L, K, AN, R0), (Rc, Ic, AIc, AR), (Im, AIm), AL) 2 a) (kk : WP G M Q k n (pc + 3) lv st ((L, K, AN, R0), (Rc, u2 Ic 4 a v, AIc, AR), (Im, AIm), AL)) : WP G M Q k n pc lv (vi v :: vr o :: st) ((L, K, AN, R0), (Rc, Ic, AIc, AR), (Im, AIm), AL) := by
  subst ho
  intro p e s m args below meth c H locs ls C hh hS hl
  obtain ⟨j, hj⟩ := pool_at G.2.2.2.1 hk.1
  have hj2 := hj
  rw [cl_2 _ hk.2] at hj
  have hown := C.2.2.2.2.2.1
  rw [hM] at hown
  have he : (va_pl L (cE G.2.2.2.1 ((L, K, AN, R0), (Rc, Ic, AIc, AR), (Im, AIm), AL))).set j (a, .inr (2, [.int (Ic 3 a), .int (v), .int (Ic 5 a), .int (Ic 6 a)])) = va_pl L (cE G.2.2.2.1 ((L, K, AN, R0), (Rc, u2 Ic 4 a v, AIc, AR), (Im, AIm), AL)) := (va_pl_set (X := []) hh.2 hk.1 hj2).trans (va_pl_congr (cu_2_1 _ hk.2 v))
  have hn : narrow (tyX2 1) (.int v) = .int v := rfl
  have hf : fits (tyX2 1) (.int v) = true := rfl
  exact va_putN (C := RX2) (T := TX2) (N := 4) (Ts := wsX20) C.1 C.2.1 (fun w h => cx_ok C (gd_2 w h)) (fun _ h => h) tyX2 tyX2_ok nmX2 hown (cx_K C) hh.1 hh.2 hS j hj rfl 1 (by decide) (cx_nf (S := ((L, K, AN, R0), (Rc, Ic, AIc, AR), (Im, AIm), AL)) C nk_80) (fun _ h => h) rfl (tyX2_ok 1 (by decide)) hn hf (by show 1 < 4; decide) dg (fun H1 locs1 hP1 hD1 hS1 => kk p e s m args below meth c H1 locs1 ls C ⟨by rw [← he]; exact hP1, by rw [← he]; exact hD1⟩ hS1 hl)
theorem nk_82 : Cond.fieldLinkNest RX4 186 RX2 "allSteps" "I" "SplaySequence" ∈ lw_tbl := List.mem_of_getElem? (i := 82) (by decide +kernel)
/-- getfield allSteps of SplaySequence$Splayer -/
theorem gf_RX4_186 {o : Option Nat} {a : Nat} (dg : decode M.2.1 pc = .ok (.getfield 186, 3)) (hM : M.1.cls = RX4) (ho : o = some a) (hk : isK ((L, K, AN, R0), (Rc, Ic, AIc, AR), (Im, AIm), AL) 2 a) (kk : WP G M Q k n (pc + 3) lv (vi (Ic 5 a) :: st) ((L, K, AN, R0), (Rc, Ic, AIc, AR), (Im, AIm), AL)) : WP G M Q k n pc lv (vr o :: st) ((L, K, AN, R0), (Rc, Ic, AIc, AR), (Im, AIm), AL) := by
  subst ho
  intro p e s m args below meth c H locs ls C hh hS hl
  obtain ⟨j, hj⟩ := pool_at G.2.2.2.1 hk.1
  rw [cl_2 _ hk.2] at hj
  have hown := C.2.2.2.2.2.1
  rw [hM] at hown
  exact va_getN (C := RX2) (T := TX2) (N := 4) (Ts := wsX20) C.1 C.2.1 (fun w h => cx_ok C (gd_2 w h)) (fun _ h => h) hown (cx_K C) hh.1 j hj rfl 2 (by decide) (cx_nf (S := ((L, K, AN, R0), (Rc, Ic, AIc, AR), (Im, AIm), AL)) C nk_82) (fun _ h => h) rfl dg (kk p e s m args below meth c H locs ls C hh hS hl)
/-- putfield allSteps of SplaySequence$Splayer -/
theorem pf_RX4_186 {o : Option Nat} {a : Nat} {v : Int32} (dg : decode M.2.1 pc = .ok (.putfield 186, 3)) (hM : M.1.cls = RX4) (ho : o = some a) (hk : isK ((L, K, AN, R0), (Rc, Ic, AIc, AR), (Im, AIm), AL) 2 a) (kk : WP G M Q k n (pc + 3) lv st ((L, K, AN, R0), (Rc, u2 Ic 5 a v, AIc, AR), (Im, AIm), AL)) : WP G M Q k n pc lv (vi v :: vr o :: st) ((L, K, AN, R0), (Rc, Ic, AIc, AR), (Im, AIm), AL) := by
  subst ho
  intro p e s m args below meth c H locs ls C hh hS hl
  obtain ⟨j, hj⟩ := pool_at G.2.2.2.1 hk.1
  have hj2 := hj
  rw [cl_2 _ hk.2] at hj
  have hown := C.2.2.2.2.2.1
  rw [hM] at hown
  have he : (va_pl L (cE G.2.2.2.1 ((L, K, AN, R0), (Rc, Ic, AIc, AR), (Im, AIm), AL))).set j (a, .inr (2, [.int (Ic 3 a), .int (Ic 4 a), .int (v), .int (Ic 6 a)])) = va_pl L (cE G.2.2.2.1 ((L, K, AN, R0), (Rc, u2 Ic 5 a v, AIc, AR), (Im, AIm), AL)) := (va_pl_set (X := []) hh.2 hk.1 hj2).trans (va_pl_congr (cu_2_2 _ hk.2 v))
  have hn : narrow (tyX2 2) (.int v) = .int v := rfl
  have hf : fits (tyX2 2) (.int v) = true := rfl
  exact va_putN (C := RX2) (T := TX2) (N := 4) (Ts := wsX20) C.1 C.2.1 (fun w h => cx_ok C (gd_2 w h)) (fun _ h => h) tyX2 tyX2_ok nmX2 hown (cx_K C) hh.1 hh.2 hS j hj rfl 2 (by decide) (cx_nf (S := ((L, K, AN, R0), (Rc, Ic, AIc, AR), (Im, AIm), AL)) C nk_82) (fun _ h => h) rfl (tyX2_ok 2 (by decide)) hn hf (by show 2 < 4; decide) dg (fun H1 locs1 hP1 hD1 hS1 => kk p e s m args below meth c H1 locs1 ls C ⟨by rw [← he]; exact hP1, by rw [← he]; exact hD1⟩ hS1 hl)
theorem nk_84 : Cond.fieldLinkNest RX4 189 RX2 "allSplays" "I" "SplaySequence" ∈ lw_tbl := List.mem_of_getElem? (i := 84) (by decide +kernel)
/-- getfield allSplays of SplaySequence$Splayer -/
theorem gf_RX4_189 {o : Option Nat} {a : Nat} (dg : decode M.2.1 pc = .ok (.getfield 189, 3)) (hM : M.1.cls = RX4) (ho : o = some a) (hk : isK ((L, K, AN, R0), (Rc, Ic, AIc, AR), (Im, AIm), AL) 2 a) (kk : WP G M Q k n (pc + 3) lv (vi (Ic 6 a) :: st) ((L, K, AN, R0), (Rc, Ic, AIc, AR), (Im, AIm), AL)) : WP G M Q k n pc lv (vr o :: st) ((L, K, AN, R0), (Rc, Ic, AIc, AR), (Im, AIm), AL) := by
  subst ho
  intro p e s m args below meth c H locs ls C hh hS hl
  obtain ⟨j, hj⟩ := pool_at G.2.2.2.1 hk.1
  rw [cl_2 _ hk.2] at hj
  have hown := C.2.2.2.2.2.1
  rw [hM] at hown
  exact va_getN (C := RX2) (T := TX2) (N := 4) (Ts := wsX20) C.1 C.2.1 (fun w h => cx_ok C (gd_2 w h)) (fun _ h => h) hown (cx_K C) hh.1 j hj rfl 3 (by decide) (cx_nf (S := ((L, K, AN, R0), (Rc, Ic, AIc, AR), (Im, AIm), AL)) C nk_84) (fun _ h => h) rfl dg (kk p e s m args below meth c H locs ls C hh hS hl)
/-- putfield allSplays of SplaySequence$Splayer -/
theorem pf_RX4_189 {o : Option Nat} {a : Nat} {v : Int32} (dg : decode M.2.1 pc = .ok (.putfield 189, 3)) (hM : M.1.cls = RX4) (ho : o = some a) (hk : isK ((L, K, AN, R0), (Rc, Ic, AIc, AR), (Im, AIm), AL) 2 a) (kk : WP G M Q k n (pc + 3) lv st ((L, K, AN, R0), (Rc, u2 Ic 6 a v, AIc, AR), (Im, AIm), AL)) : WP G M Q k n pc lv (vi v :: vr o :: st) ((L, K, AN, R0), (Rc, Ic, AIc, AR), (Im, AIm), AL) := by
  subst ho
  intro p e s m args below meth c H locs ls C hh hS hl
  obtain ⟨j, hj⟩ := pool_at G.2.2.2.1 hk.1
  have hj2 := hj
  rw [cl_2 _ hk.2] at hj
  have hown := C.2.2.2.2.2.1
  rw [hM] at hown
  have he : (va_pl L (cE G.2.2.2.1 ((L, K, AN, R0), (Rc, Ic, AIc, AR), (Im, AIm), AL))).set j (a, .inr (2, [.int (Ic 3 a), .int (Ic 4 a), .int (Ic 5 a), .int (v)])) = va_pl L (cE G.2.2.2.1 ((L, K, AN, R0), (Rc, u2 Ic 6 a v, AIc, AR), (Im, AIm), AL)) := (va_pl_set (X := []) hh.2 hk.1 hj2).trans (va_pl_congr (cu_2_3 _ hk.2 v))
  have hn : narrow (tyX2 3) (.int v) = .int v := rfl
  have hf : fits (tyX2 3) (.int v) = true := rfl
  exact va_putN (C := RX2) (T := TX2) (N := 4) (Ts := wsX20) C.1 C.2.1 (fun w h => cx_ok C (gd_2 w h)) (fun _ h => h) tyX2 tyX2_ok nmX2 hown (cx_K C) hh.1 hh.2 hS j hj rfl 3 (by decide) (cx_nf (S := ((L, K, AN, R0), (Rc, Ic, AIc, AR), (Im, AIm), AL)) C nk_84) (fun _ h => h) rfl (tyX2_ok 3 (by decide)) hn hf (by show 3 < 4; decide) dg (fun H1 locs1 hP1 hD1 hS1 => kk p e s m args below meth c H1 locs1 ls C ⟨by rw [← he]; exact hP1, by rw [← he]; exact hD1⟩ hS1 hl)
theorem nk_374 : Cond.fieldLinkNest RX3 19 RX0 "left" "LSplaySequence$Node;" "SplaySequence" ∈ lw_tbl := List.mem_of_getElem? (i := 374) (by decide +kernel)
/-- getfield left of SplaySequence$Node -/
theorem gf_RX3_19 {o : Option Nat} {a : Nat} (dg : decode M.2.1 pc = .ok (.getfield 19, 3)) (hM : M.1.cls = RX3) (ho : o = some a) (hk : isK ((L, K, AN, R0), (Rc, Ic, AIc, AR), (Im, AIm), AL) 0 a) (kk : WP G M Q k n (pc + 3) lv (vr (Rc 0 a) :: st) ((L, K, AN, R0), (Rc, Ic, AIc, AR), (Im, AIm), AL)) : WP G M Q k n pc lv (vr o :: st) ((L, K, AN, R0), (Rc, Ic, AIc, AR), (Im, AIm), AL) := by
  subst ho
  intro p e s m args below meth c H locs ls C hh hS hl
  obtain ⟨j, hj⟩ := pool_at G.2.2.2.1 hk.1
  rw [cl_0 _ hk.2] at hj
  have hown := C.2.2.2.2.2.1
  rw [hM] at hown
  exact va_getN (C := RX0) (T := TX0) (N := 5) (Ts := wsX00) C.1 C.2.1 (fun w h => cx_ok C (gd_0 w h)) (fun _ h => h) hown (cx_K C) hh.1 j hj rfl 0 (by decide) (cx_nf (S := ((L, K, AN, R0), (Rc, Ic, AIc, AR), (Im, AIm), AL)) C nk_374) (fun _ h => h) rfl dg (kk p e s m args below meth c H locs ls C hh hS hl)
/-- putfield left of SplaySequence$Node -/
theorem pf_RX3_19 {o : Option Nat} {a : Nat} {v : Option Nat} (dg : decode M.2.1 pc = .ok (.putfield 19, 3)) (hM : M.1.cls = RX3) (ho : o = some a) (hk : isK ((L, K, AN, R0), (Rc, Ic, AIc, AR), (Im, AIm), AL) 0 a) (kk : WP G M Q k n (pc + 3) lv st ((L, K, AN, R0), (u2 Rc 0 a v, Ic, AIc, AR), (Im, AIm), AL)) : WP G M Q k n pc lv (vr v :: vr o :: st) ((L, K, AN, R0), (Rc, Ic, AIc, AR), (Im, AIm), AL) := by
  subst ho
  intro p e s m args below meth c H locs ls C hh hS hl
  obtain ⟨j, hj⟩ := pool_at G.2.2.2.1 hk.1
  have hj2 := hj
  rw [cl_0 _ hk.2] at hj
  have hown := C.2.2.2.2.2.1
  rw [hM] at hown
  have he : (va_pl L (cE G.2.2.2.1 ((L, K, AN, R0), (Rc, Ic, AIc, AR), (Im, AIm), AL))).set j (a, .inr (0, [va_rf (v), va_rf (Rc 1 a), va_rf (Rc 2 a), .int (Ic 0 a), .int (Ic 1 a)])) = va_pl L (cE G.2.2.2.1 ((L, K, AN, R0), (u2 Rc 0 a v, Ic, AIc, AR), (Im, AIm), AL)) := (va_pl_set (X := []) hh.2 hk.1 hj2).trans (va_pl_congr (cu_0_0 _ hk.2 v))
  have hn : narrow (tyX0 0) (va_rf v) = va_rf v := by cases v <;> rfl
  have hf : fits (tyX0 0) (va_rf v) = true := by cases v <;> rfl
  exact va_putN (C := RX0) (T := TX0) (N := 5) (Ts := wsX00) C.1 C.2.1 (fun w h => cx_ok C (gd_0 w h)) (fun _ h => h) tyX0 tyX0_ok nmX0 hown (cx_K C) hh.1 hh.2 hS j hj rfl 0 (by decide) (cx_nf (S := ((L, K, AN, R0), (Rc, Ic, AIc, AR), (Im, AIm), AL)) C nk_374) (fun _ h => h) rfl (tyX0_ok 0 (by decide)) hn hf (by show 0 < 5; decide) dg (fun H1 locs1 hP1 hD1 hS1 => kk p e s m args below meth c H1 locs1 ls C ⟨by rw [← he]; exact hP1, by rw [← he]; exact hD1⟩ hS1 hl)
theorem nk_375 : Cond.fieldLinkNest RX2 52 RX0 "left" "LSplaySequence$Node;" "SplaySequence" ∈ lw_tbl := List.mem_of_getElem? (i := 375) (by decide +kernel)
/-- getfield left of SplaySequence$Node -/
theorem gf_RX2_52 {o : Option Nat} {a : Nat} (dg : decode M.2.1 pc = .ok (.getfield 52, 3)) (hM : M.1.cls = RX2) (ho : o = some a) (hk : isK ((L, K, AN, R0), (Rc, Ic, AIc, AR), (Im, AIm), AL) 0 a) (kk : WP G M Q k n (pc + 3) lv (vr (Rc 0 a) :: st) ((L, K, AN, R0), (Rc, Ic, AIc, AR), (Im, AIm), AL)) : WP G M Q k n pc lv (vr o :: st) ((L, K, AN, R0), (Rc, Ic, AIc, AR), (Im, AIm), AL) := by
  subst ho
  intro p e s m args below meth c H locs ls C hh hS hl
  obtain ⟨j, hj⟩ := pool_at G.2.2.2.1 hk.1
  rw [cl_0 _ hk.2] at hj
  have hown := C.2.2.2.2.2.1
  rw [hM] at hown
  exact va_getN (C := RX0) (T := TX0) (N := 5) (Ts := wsX00) C.1 C.2.1 (fun w h => cx_ok C (gd_0 w h)) (fun _ h => h) hown (cx_K C) hh.1 j hj rfl 0 (by decide) (cx_nf (S := ((L, K, AN, R0), (Rc, Ic, AIc, AR), (Im, AIm), AL)) C nk_375) (fun _ h => h) rfl dg (kk p e s m args below meth c H locs ls C hh hS hl)
/-- putfield left of SplaySequence$Node -/
theorem pf_RX2_52 {o : Option Nat} {a : Nat} {v : Option Nat} (dg : decode M.2.1 pc = .ok (.putfield 52, 3)) (hM : M.1.cls = RX2) (ho : o = some a) (hk : isK ((L, K, AN, R0), (Rc, Ic, AIc, AR), (Im, AIm), AL) 0 a) (kk : WP G M Q k n (pc + 3) lv st ((L, K, AN, R0), (u2 Rc 0 a v, Ic, AIc, AR), (Im, AIm), AL)) : WP G M Q k n pc lv (vr v :: vr o :: st) ((L, K, AN, R0), (Rc, Ic, AIc, AR), (Im, AIm), AL) := by
  subst ho
  intro p e s m args below meth c H locs ls C hh hS hl
  obtain ⟨j, hj⟩ := pool_at G.2.2.2.1 hk.1
  have hj2 := hj
  rw [cl_0 _ hk.2] at hj
  have hown := C.2.2.2.2.2.1
  rw [hM] at hown
  have he : (va_pl L (cE G.2.2.2.1 ((L, K, AN, R0), (Rc, Ic, AIc, AR), (Im, AIm), AL))).set j (a, .inr (0, [va_rf (v), va_rf (Rc 1 a), va_rf (Rc 2 a), .int (Ic 0 a), .int (Ic 1 a)])) = va_pl L (cE G.2.2.2.1 ((L, K, AN, R0), (u2 Rc 0 a v, Ic, AIc, AR), (Im, AIm), AL)) := (va_pl_set (X := []) hh.2 hk.1 hj2).trans (va_pl_congr (cu_0_0 _ hk.2 v))
  have hn : narrow (tyX0 0) (va_rf v) = va_rf v := by cases v <;> rfl
  have hf : fits (tyX0 0) (va_rf v) = true := by cases v <;> rfl
  exact va_putN (C := RX0) (T := TX0) (N := 5) (Ts := wsX00) C.1 C.2.1 (fun w h => cx_ok C (gd_0 w h)) (fun _ h => h) tyX0 tyX0_ok nmX0 hown (cx_K C) hh.1 hh.2 hS j hj rfl 0 (by decide) (cx_nf (S := ((L, K, AN, R0), (Rc, Ic, AIc, AR), (Im, AIm), AL)) C nk_375) (fun _ h => h) rfl (tyX0_ok 0 (by decide)) hn hf (by show 0 < 5; decide) dg (fun H1 locs1 hP1 hD1 hS1 => kk p e s m args below meth c H1 locs1 ls C ⟨by rw [← he]; exact hP1, by rw [← he]; exact hD1⟩ hS1 hl)
theorem nk_376 : Cond.fieldLinkNest RX4 210 RX0 "left" "LSplaySequence$Node;" "SplaySequence" ∈ lw_tbl := List.mem_of_getElem? (i := 376) (by decide +kernel)
/-- getfield left of SplaySequence$Node -/
theorem gf_RX4_210 {o : Option Nat} {a : Nat} (dg : decode M.2.1 pc = .ok (.getfield 210, 3)) (hM : M.1.cls = RX4) (ho : o = some a) (hk : isK ((L, K, AN, R0), (Rc, Ic, AIc, AR), (Im, AIm), AL) 0 a) (kk : WP G M Q k n (pc + 3) lv (vr (Rc 0 a) :: st) ((L, K, AN, R0), (Rc, Ic, AIc, AR), (Im, AIm), AL)) : WP G M Q k n pc lv (vr o :: st) ((L, K, AN, R0), (Rc, Ic, AIc, AR), (Im, AIm), AL) := by
  subst ho
  intro p e s m args below meth c H locs ls C hh hS hl
  obtain ⟨j, hj⟩ := pool_at G.2.2.2.1 hk.1
  rw [cl_0 _ hk.2] at hj
  have hown := C.2.2.2.2.2.1
  rw [hM] at hown
  exact va_getN (C := RX0) (T := TX0) (N := 5) (Ts := wsX00) C.1 C.2.1 (fun w h => cx_ok C (gd_0 w h)) (fun _ h => h) hown (cx_K C) hh.1 j hj rfl 0 (by decide) (cx_nf (S := ((L, K, AN, R0), (Rc, Ic, AIc, AR), (Im, AIm), AL)) C nk_376) (fun _ h => h) rfl dg (kk p e s m args below meth c H locs ls C hh hS hl)
/-- putfield left of SplaySequence$Node -/
theorem pf_RX4_210 {o : Option Nat} {a : Nat} {v : Option Nat} (dg : decode M.2.1 pc = .ok (.putfield 210, 3)) (hM : M.1.cls = RX4) (ho : o = some a) (hk : isK ((L, K, AN, R0), (Rc, Ic, AIc, AR), (Im, AIm), AL) 0 a) (kk : WP G M Q k n (pc + 3) lv st ((L, K, AN, R0), (u2 Rc 0 a v, Ic, AIc, AR), (Im, AIm), AL)) : WP G M Q k n pc lv (vr v :: vr o :: st) ((L, K, AN, R0), (Rc, Ic, AIc, AR), (Im, AIm), AL) := by
  subst ho
  intro p e s m args below meth c H locs ls C hh hS hl
  obtain ⟨j, hj⟩ := pool_at G.2.2.2.1 hk.1
  have hj2 := hj
  rw [cl_0 _ hk.2] at hj
  have hown := C.2.2.2.2.2.1
  rw [hM] at hown
  have he : (va_pl L (cE G.2.2.2.1 ((L, K, AN, R0), (Rc, Ic, AIc, AR), (Im, AIm), AL))).set j (a, .inr (0, [va_rf (v), va_rf (Rc 1 a), va_rf (Rc 2 a), .int (Ic 0 a), .int (Ic 1 a)])) = va_pl L (cE G.2.2.2.1 ((L, K, AN, R0), (u2 Rc 0 a v, Ic, AIc, AR), (Im, AIm), AL)) := (va_pl_set (X := []) hh.2 hk.1 hj2).trans (va_pl_congr (cu_0_0 _ hk.2 v))
  have hn : narrow (tyX0 0) (va_rf v) = va_rf v := by cases v <;> rfl
  have hf : fits (tyX0 0) (va_rf v) = true := by cases v <;> rfl
  exact va_putN (C := RX0) (T := TX0) (N := 5) (Ts := wsX00) C.1 C.2.1 (fun w h => cx_ok C (gd_0 w h)) (fun _ h => h) tyX0 tyX0_ok nmX0 hown (cx_K C) hh.1 hh.2 hS j hj rfl 0 (by decide) (cx_nf (S := ((L, K, AN, R0), (Rc, Ic, AIc, AR), (Im, AIm), AL)) C nk_376) (fun _ h => h) rfl (tyX0_ok 0 (by decide)) hn hf (by show 0 < 5; decide) dg (fun H1 locs1 hP1 hD1 hS1 => kk p e s m args below meth c H1 locs1 ls C ⟨by rw [← he]; exact hP1, by rw [← he]; exact hD1⟩ hS1 hl)
theorem nk_377 : Cond.fieldLinkNest RX3 22 RX0 "right" "LSplaySequence$Node;" "SplaySequence" ∈ lw_tbl := List.mem_of_getElem? (i := 377) (by decide +kernel)
/-- getfield right of SplaySequence$Node -/
theorem gf_RX3_22 {o : Option Nat} {a : Nat} (dg : decode M.2.1 pc = .ok (.getfield 22, 3)) (hM : M.1.cls = RX3) (ho : o = some a) (hk : isK ((L, K, AN, R0), (Rc, Ic, AIc, AR), (Im, AIm), AL) 0 a) (kk : WP G M Q k n (pc + 3) lv (vr (Rc 1 a) :: st) ((L, K, AN, R0), (Rc, Ic, AIc, AR), (Im, AIm), AL)) : WP G M Q k n pc lv (vr o :: st) ((L, K, AN, R0), (Rc, Ic, AIc, AR), (Im, AIm), AL) := by
  subst ho
  intro p e s m args below meth c H locs ls C hh hS hl
  obtain ⟨j, hj⟩ := pool_at G.2.2.2.1 hk.1
  rw [cl_0 _ hk.2] at hj
  have hown := C.2.2.2.2.2.1
  rw [hM] at hown
  exact va_getN (C := RX0) (T := TX0) (N := 5) (Ts := wsX00) C.1 C.2.1 (fun w h => cx_ok C (gd_0 w h)) (fun _ h => h) hown (cx_K C) hh.1 j hj rfl 1 (by decide) (cx_nf (S := ((L, K, AN, R0), (Rc, Ic, AIc, AR), (Im, AIm), AL)) C nk_377) (fun _ h => h) rfl dg (kk p e s m args below meth c H locs ls C hh hS hl)
/-- putfield right of SplaySequence$Node -/
theorem pf_RX3_22 {o : Option Nat} {a : Nat} {v : Option Nat} (dg : decode M.2.1 pc = .ok (.putfield 22, 3)) (hM : M.1.cls = RX3) (ho : o = some a) (hk : isK ((L, K, AN, R0), (Rc, Ic, AIc, AR), (Im, AIm), AL) 0 a) (kk : WP G M Q k n (pc + 3) lv st ((L, K, AN, R0), (u2 Rc 1 a v, Ic, AIc, AR), (Im, AIm), AL)) : WP G M Q k n pc lv (vr v :: vr o :: st) ((L, K, AN, R0), (Rc, Ic, AIc, AR), (Im, AIm), AL) := by
  subst ho
  intro p e s m args below meth c H locs ls C hh hS hl
  obtain ⟨j, hj⟩ := pool_at G.2.2.2.1 hk.1
  have hj2 := hj
  rw [cl_0 _ hk.2] at hj
  have hown := C.2.2.2.2.2.1
  rw [hM] at hown
  have he : (va_pl L (cE G.2.2.2.1 ((L, K, AN, R0), (Rc, Ic, AIc, AR), (Im, AIm), AL))).set j (a, .inr (0, [va_rf (Rc 0 a), va_rf (v), va_rf (Rc 2 a), .int (Ic 0 a), .int (Ic 1 a)])) = va_pl L (cE G.2.2.2.1 ((L, K, AN, R0), (u2 Rc 1 a v, Ic, AIc, AR), (Im, AIm), AL)) := (va_pl_set (X := []) hh.2 hk.1 hj2).trans (va_pl_congr (cu_0_1 _ hk.2 v))
  have hn : narrow (tyX0 1) (va_rf v) = va_rf v := by cases v <;> rfl
  have hf : fits (tyX0 1) (va_rf v) = true := by cases v <;> rfl
  exact va_putN (C := RX0) (T := TX0) (N := 5) (Ts := wsX00) C.1 C.2.1 (fun w h => cx_ok C (gd_0 w h)) (fun _ h => h) tyX0 tyX0_ok nmX0 hown (cx_K C) hh.1 hh.2 hS j hj rfl 1 (by decide) (cx_nf (S := ((L, K, AN, R0), (Rc, Ic, AIc, AR), (Im, AIm), AL)) C nk_377) (fun _ h => h) rfl (tyX0_ok 1 (by decide)) hn hf (by show 1 < 5; decide) dg (fun H1 locs1 hP1 hD1 hS1 => kk p e s m args below meth c H1 locs1 ls C ⟨by rw [← he]; exact hP1, by rw [← he]; exact hD1⟩ hS1 hl)
theorem nk_379 : Cond.fieldLinkNest RX2 43 RX0 "right" "LSplaySequence$Node;" "SplaySequence" ∈ lw_tbl := List.mem_of_getElem? (i := 379) (by decide +kernel)
/-- getfield right of SplaySequence$Node -/
theorem gf_RX2_43 {o : Option Nat} {a : Nat} (dg : decode M.2.1 pc = .ok (.getfield 43, 3)) (hM : M.1.cls = RX2) (ho : o = some a) (hk : isK ((L, K, AN, R0), (Rc, Ic, AIc, AR), (Im, AIm), AL) 0 a) (kk : WP G M Q k n (pc + 3) lv (vr (Rc 1 a) :: st) ((L, K, AN, R0), (Rc, Ic, AIc, AR), (Im, AIm), AL)) : WP G M Q k n pc lv (vr o :: st) ((L, K, AN, R0), (Rc, Ic, AIc, AR), (Im, AIm), AL) := by
  subst ho
  intro p e s m args below meth c H locs ls C hh hS hl
  obtain ⟨j, hj⟩ := pool_at G.2.2.2.1 hk.1
  rw [cl_0 _ hk.2] at hj
  have hown := C.2.2.2.2.2.1
  rw [hM] at hown
  exact va_getN (C := RX0) (T := TX0) (N := 5) (Ts := wsX00) C.1 C.2.1 (fun w h => cx_ok C (gd_0 w h)) (fun _ h => h) hown (cx_K C) hh.1 j hj rfl 1 (by decide) (cx_nf (S := ((L, K, AN, R0), (Rc, Ic, AIc, AR), (Im, AIm), AL)) C nk_379) (fun _ h => h) rfl dg (kk p e s m args below meth c H locs ls C hh hS hl)
/-- putfield right of SplaySequence$Node -/
theorem pf_RX2_43 {o : Option Nat} {a : Nat} {v : Option Nat} (dg : decode M.2.1 pc = .ok (.putfield 43, 3)) (hM : M.1.cls = RX2) (ho : o = some a) (hk : isK ((L, K, AN, R0), (Rc, Ic, AIc, AR), (Im, AIm), AL) 0 a) (kk : WP G M Q k n (pc + 3) lv st ((L, K, AN, R0), (u2 Rc 1 a v, Ic, AIc, AR), (Im, AIm), AL)) : WP G M Q k n pc lv (vr v :: vr o :: st) ((L, K, AN, R0), (Rc, Ic, AIc, AR), (Im, AIm), AL) := by
  subst ho
  intro p e s m args below meth c H locs ls C hh hS hl
  obtain ⟨j, hj⟩ := pool_at G.2.2.2.1 hk.1
  have hj2 := hj
  rw [cl_0 _ hk.2] at hj
  have hown := C.2.2.2.2.2.1
  rw [hM] at hown
  have he : (va_pl L (cE G.2.2.2.1 ((L, K, AN, R0), (Rc, Ic, AIc, AR), (Im, AIm), AL))).set j (a, .inr (0, [va_rf (Rc 0 a), va_rf (v), va_rf (Rc 2 a), .int (Ic 0 a), .int (Ic 1 a)])) = va_pl L (cE G.2.2.2.1 ((L, K, AN, R0), (u2 Rc 1 a v, Ic, AIc, AR), (Im, AIm), AL)) := (va_pl_set (X := []) hh.2 hk.1 hj2).trans (va_pl_congr (cu_0_1 _ hk.2 v))
  have hn : narrow (tyX0 1) (va_rf v) = va_rf v := by cases v <;> rfl
  have hf : fits (tyX0 1) (va_rf v) = true := by cases v <;> rfl
  exact va_putN (C := RX0) (T := TX0) (N := 5) (Ts := wsX00) C.1 C.2.1 (fun w h => cx_ok C (gd_0 w h)) (fun _ h => h) tyX0 tyX0_ok nmX0 hown (cx_K C) hh.1 hh.2 hS j hj rfl 1 (by decide) (cx_nf (S := ((L, K, AN, R0), (Rc, Ic, AIc, AR), (Im, AIm), AL)) C nk_379) (fun _ h => h) rfl (tyX0_ok 1 (by decide)) hn hf (by show 1 < 5; decide) dg (fun H1 locs1 hP1 hD1 hS1 => kk p e s m args below meth c H1 locs1 ls C ⟨by rw [← he]; exact hP1, by rw [← he]; exact hD1⟩ hS1 hl)
theorem nk_380 : Cond.fieldLinkNest RX4 207 RX0 "right" "LSplaySequence$Node;" "SplaySequence" ∈ lw_tbl := List.mem_of_getElem? (i := 380) (by decide +kernel)
/-- getfield right of SplaySequence$Node -/
theorem gf_RX4_207 {o : Option Nat} {a : Nat} (dg : decode M.2.1 pc = .ok (.getfield 207, 3)) (hM : M.1.cls = RX4) (ho : o = some a) (hk : isK ((L, K, AN, R0), (Rc, Ic, AIc, AR), (Im, AIm), AL) 0 a) (kk : WP G M Q k n (pc + 3) lv (vr (Rc 1 a) :: st) ((L, K, AN, R0), (Rc, Ic, AIc, AR), (Im, AIm), AL)) : WP G M Q k n pc lv (vr o :: st) ((L, K, AN, R0), (Rc, Ic, AIc, AR), (Im, AIm), AL) := by
  subst ho
  intro p e s m args below meth c H locs ls C hh hS hl
  obtain ⟨j, hj⟩ := pool_at G.2.2.2.1 hk.1
  rw [cl_0 _ hk.2] at hj
  have hown := C.2.2.2.2.2.1
  rw [hM] at hown
  exact va_getN (C := RX0) (T := TX0) (N := 5) (Ts := wsX00) C.1 C.2.1 (fun w h => cx_ok C (gd_0 w h)) (fun _ h => h) hown (cx_K C) hh.1 j hj rfl 1 (by decide) (cx_nf (S := ((L, K, AN, R0), (Rc, Ic, AIc, AR), (Im, AIm), AL)) C nk_380) (fun _ h => h) rfl dg (kk p e s m args below meth c H locs ls C hh hS hl)
/-- putfield right of SplaySequence$Node -/
theorem pf_RX4_207 {o : Option Nat} {a : Nat} {v : Option Nat} (dg : decode M.2.1 pc = .ok (.putfield 207, 3)) (hM : M.1.cls = RX4) (ho : o = some a) (hk : isK ((L, K, AN, R0), (Rc, Ic, AIc, AR), (Im, AIm), AL) 0 a) (kk : WP G M Q k n (pc + 3) lv st ((L, K, AN, R0), (u2 Rc 1 a v, Ic, AIc, AR), (Im, AIm), AL)) : WP G M Q k n pc lv (vr v :: vr o :: st) ((L, K, AN, R0), (Rc, Ic, AIc, AR), (Im, AIm), AL) := by
  subst ho
  intro p e s m args below meth c H locs ls C hh hS hl
  obtain ⟨j, hj⟩ := pool_at G.2.2.2.1 hk.1
  have hj2 := hj
  rw [cl_0 _ hk.2] at hj
  have hown := C.2.2.2.2.2.1
  rw [hM] at hown
  have he : (va_pl L (cE G.2.2.2.1 ((L, K, AN, R0), (Rc, Ic, AIc, AR), (Im, AIm), AL))).set j (a, .inr (0, [va_rf (Rc 0 a), va_rf (v), va_rf (Rc 2 a), .int (Ic 0 a), .int (Ic 1 a)])) = va_pl L (cE G.2.2.2.1 ((L, K, AN, R0), (u2 Rc 1 a v, Ic, AIc, AR), (Im, AIm), AL)) := (va_pl_set (X := []) hh.2 hk.1 hj2).trans (va_pl_congr (cu_0_1 _ hk.2 v))
  have hn : narrow (tyX0 1) (va_rf v) = va_rf v := by cases v <;> rfl
  have hf : fits (tyX0 1) (va_rf v) = true := by cases v <;> rfl
  exact va_putN (C := RX0) (T := TX0) (N := 5) (Ts := wsX00) C.1 C.2.1 (fun w h => cx_ok C (gd_0 w h)) (fun _ h => h) tyX0 tyX0_ok nmX0 hown (cx_K C) hh.1 hh.2 hS j hj rfl 1 (by decide) (cx_nf (S := ((L, K, AN, R0), (Rc, Ic, AIc, AR), (Im, AIm), AL)) C nk_380) (fun _ h => h) rfl (tyX0_ok 1 (by decide)) hn hf (by show 1 < 5; decide) dg (fun H1 locs1 hP1 hD1 hS1 => kk p e s m args below meth c H1 locs1 ls C ⟨by rw [← he]; exact hP1, by rw [← he]; exact hD1⟩ hS1 hl)
theorem nk_382 : Cond.fieldLinkNest RX2 21 RX0 "parent" "LSplaySequence$Node;" "SplaySequence" ∈ lw_tbl := List.mem_of_getElem? (i := 382) (by decide +kernel)
/-- getfield parent of SplaySequence$Node -/
theorem gf_RX2_21 {o : Option Nat} {a : Nat} (dg : decode M.2.1 pc = .ok (.getfield 21, 3)) (hM : M.1.cls = RX2) (ho : o = some a) (hk : isK ((L, K, AN, R0), (Rc, Ic, AIc, AR), (Im, AIm), AL) 0 a) (kk : WP G M Q k n (pc + 3) lv (vr (Rc 2 a) :: st) ((L, K, AN, R0), (Rc, Ic, AIc, AR), (Im, AIm), AL)) : WP G M Q k n pc lv (vr o :: st) ((L, K, AN, R0), (Rc, Ic, AIc, AR), (Im, AIm), AL) := by
  subst ho
  intro p e s m args below meth c H locs ls C hh hS hl
  obtain ⟨j, hj⟩ := pool_at G.2.2.2.1 hk.1
  rw [cl_0 _ hk.2] at hj
  have hown := C.2.2.2.2.2.1
  rw [hM] at hown
  exact va_getN (C := RX0) (T := TX0) (N := 5) (Ts := wsX00) C.1 C.2.1 (fun w h => cx_ok C (gd_0 w h)) (fun _ h => h) hown (cx_K C) hh.1 j hj rfl 2 (by decide) (cx_nf (S := ((L, K, AN, R0), (Rc, Ic, AIc, AR), (Im, AIm), AL)) C nk_382) (fun _ h => h) rfl dg (kk p e s m args below meth c H locs ls C hh hS hl)
/-- putfield parent of SplaySequence$Node -/
theorem pf_RX2_21 {o : Option Nat} {a : Nat} {v : Option Nat} (dg : decode M.2.1 pc = .ok (.putfield 21, 3)) (hM : M.1.cls = RX2) (ho : o = some a) (hk : isK ((L, K, AN, R0), (Rc, Ic, AIc, AR), (Im, AIm), AL) 0 a) (kk : WP G M Q k n (pc + 3) lv st ((L, K, AN, R0), (u2 Rc 2 a v, Ic, AIc, AR), (Im, AIm), AL)) : WP G M Q k n pc lv (vr v :: vr o :: st) ((L, K, AN, R0), (Rc, Ic, AIc, AR), (Im, AIm), AL) := by
  subst ho
  intro p e s m args below meth c H locs ls C hh hS hl
  obtain ⟨j, hj⟩ := pool_at G.2.2.2.1 hk.1
  have hj2 := hj
  rw [cl_0 _ hk.2] at hj
  have hown := C.2.2.2.2.2.1
  rw [hM] at hown
  have he : (va_pl L (cE G.2.2.2.1 ((L, K, AN, R0), (Rc, Ic, AIc, AR), (Im, AIm), AL))).set j (a, .inr (0, [va_rf (Rc 0 a), va_rf (Rc 1 a), va_rf (v), .int (Ic 0 a), .int (Ic 1 a)])) = va_pl L (cE G.2.2.2.1 ((L, K, AN, R0), (u2 Rc 2 a v, Ic, AIc, AR), (Im, AIm), AL)) := (va_pl_set (X := []) hh.2 hk.1 hj2).trans (va_pl_congr (cu_0_2 _ hk.2 v))
  have hn : narrow (tyX0 2) (va_rf v) = va_rf v := by cases v <;> rfl
  have hf : fits (tyX0 2) (va_rf v) = true := by cases v <;> rfl
  exact va_putN (C := RX0) (T := TX0) (N := 5) (Ts := wsX00) C.1 C.2.1 (fun w h => cx_ok C (gd_0 w h)) (fun _ h => h) tyX0 tyX0_ok nmX0 hown (cx_K C) hh.1 hh.2 hS j hj rfl 2 (by decide) (cx_nf (S := ((L, K, AN, R0), (Rc, Ic, AIc, AR), (Im, AIm), AL)) C nk_382) (fun _ h => h) rfl (tyX0_ok 2 (by decide)) hn hf (by show 2 < 5; decide) dg (fun H1 locs1 hP1 hD1 hS1 => kk p e s m args below meth c H1 locs1 ls C ⟨by rw [← he]; exact hP1, by rw [← he]; exact hD1⟩ hS1 hl)
theorem nk_384 : Cond.fieldLinkNest RX3 49 RX0 "count" "I" "SplaySequence" ∈ lw_tbl := List.mem_of_getElem? (i := 384) (by decide +kernel)
/-- getfield count of SplaySequence$Node -/
theorem gf_RX3_49 {o : Option Nat} {a : Nat} (dg : decode M.2.1 pc = .ok (.getfield 49, 3)) (hM : M.1.cls = RX3) (ho : o = some a) (hk : isK ((L, K, AN, R0), (Rc, Ic, AIc, AR), (Im, AIm), AL) 0 a) (kk : WP G M Q k n (pc + 3) lv (vi (Ic 0 a) :: st) ((L, K, AN, R0), (Rc, Ic, AIc, AR), (Im, AIm), AL)) : WP G M Q k n pc lv (vr o :: st) ((L, K, AN, R0), (Rc, Ic, AIc, AR), (Im, AIm), AL) := by
  subst ho
  intro p e s m args below meth c H locs ls C hh hS hl
  obtain ⟨j, hj⟩ := pool_at G.2.2.2.1 hk.1
  rw [cl_0 _ hk.2] at hj
  have hown := C.2.2.2.2.2.1
  rw [hM] at hown
  exact va_getN (C := RX0) (T := TX0) (N := 5) (Ts := wsX00) C.1 C.2.1 (fun w h => cx_ok C (gd_0 w h)) (fun _ h => h) hown (cx_K C) hh.1 j hj rfl 3 (by decide) (cx_nf (S := ((L, K, AN, R0), (Rc, Ic, AIc, AR), (Im, AIm), AL)) C nk_384) (fun _ h => h) rfl dg (kk p e s m args below meth c H locs ls C hh hS hl)
/-- putfield count of SplaySequence$Node -/
theorem pf_RX3_49 {o : Option Nat} {a : Nat} {v : Int32} (dg : decode M.2.1 pc = .ok (.putfield 49, 3)) (hM : M.1.cls = RX3) (ho : o = some a) (hk : isK ((L, K, AN, R0), (Rc, Ic, AIc, AR), (Im, AIm), AL) 0 a) (kk : WP G M Q k n (pc + 3) lv st ((L, K, AN, R0), (Rc, u2 Ic 0 a v, AIc, AR), (Im, AIm), AL)) : WP G M Q k n pc lv (vi v :: vr o :: st) ((L, K, AN, R0), (Rc, Ic, AIc, AR), (Im, AIm), AL) := by
  subst ho
  intro p e s m args below meth c H locs ls C hh hS hl
  obtain ⟨j, hj⟩ := pool_at G.2.2.2.1 hk.1
  have hj2 := hj
  rw [cl_0 _ hk.2] at hj
  have hown := C.2.2.2.2.2.1
  rw [hM] at hown
  have he : (va_pl L (cE G.2.2.2.1 ((L, K, AN, R0), (Rc, Ic, AIc, AR), (Im, AIm), AL))).set j (a, .inr (0, [va_rf (Rc 0 a), va_rf (Rc 1 a), va_rf (Rc 2 a), .int (v), .int (Ic 1 a)])) = va_pl L (cE G.2.2.2.1 ((L, K, AN, R0), (Rc, u2 Ic 0 a v, AIc, AR), (Im, AIm), AL)) := (va_pl_set (X := []) hh.2 hk.1 hj2).trans (va_pl_congr (cu_0_3 _ hk.2 v))
  have hn : narrow (tyX0 3) (.int v) = .int v := rfl
  have hf : fits (tyX0 3) (.int v) = true := rfl
  exact va_putN (C := RX0) (T := TX0) (N := 5) (Ts := wsX00) C.1 C.2.1 (fun w h => cx_ok C (gd_0 w h)) (fun _ h => h) tyX0 tyX0_ok nmX0 hown (cx_K C) hh.1 hh.2 hS j hj rfl 3 (by decide) (cx_nf (S := ((L, K, AN, R0), (Rc, Ic, AIc, AR), (Im, AIm), AL)) C nk_384) (fun _ h => h) rfl (tyX0_ok 3 (by decide)) hn hf (by show 3 < 5; decide) dg (fun H1 locs1 hP1 hD1 hS1 => kk p e s m args below meth c H1 locs1 ls C ⟨by rw [← he]; exact hP1, by rw [← he]; exact hD1⟩ hS1 hl)
theorem nk_385 : Cond.fieldLinkNest RX4 205 RX0 "count" "I" "SplaySequence" ∈ lw_tbl := List.mem_of_getElem? (i := 385) (by decide +kernel)
/-- getfield count of SplaySequence$Node -/
theorem gf_RX4_205 {o : Option Nat} {a : Nat} (dg : decode M.2.1 pc = .ok (.getfield 205, 3)) (hM : M.1.cls = RX4) (ho : o = some a) (hk : isK ((L, K, AN, R0), (Rc, Ic, AIc, AR), (Im, AIm), AL) 0 a) (kk : WP G M Q k n (pc + 3) lv (vi (Ic 0 a) :: st) ((L, K, AN, R0), (Rc, Ic, AIc, AR), (Im, AIm), AL)) : WP G M Q k n pc lv (vr o :: st) ((L, K, AN, R0), (Rc, Ic, AIc, AR), (Im, AIm), AL) := by
  subst ho
  intro p e s m args below meth c H locs ls C hh hS hl
  obtain ⟨j, hj⟩ := pool_at G.2.2.2.1 hk.1
  rw [cl_0 _ hk.2] at hj
  have hown := C.2.2.2.2.2.1
  rw [hM] at hown
  exact va_getN (C := RX0) (T := TX0) (N := 5) (Ts := wsX00) C.1 C.2.1 (fun w h => cx_ok C (gd_0 w h)) (fun _ h => h) hown (cx_K C) hh.1 j hj rfl 3 (by decide) (cx_nf (S := ((L, K, AN, R0), (Rc, Ic, AIc, AR), (Im, AIm), AL)) C nk_385) (fun _ h => h) rfl dg (kk p e s m args below meth c H locs ls C hh hS hl)
/-- putfield count of SplaySequence$Node -/
theorem pf_RX4_205 {o : Option Nat} {a : Nat} {v : Int32} (dg : decode M.2.1 pc = .ok (.putfield 205, 3)) (hM : M.1.cls = RX4) (ho : o = some a) (hk : isK ((L, K, AN, R0), (Rc, Ic, AIc, AR), (Im, AIm), AL) 0 a) (kk : WP G M Q k n (pc + 3) lv st ((L, K, AN, R0), (Rc, u2 Ic 0 a v, AIc, AR), (Im, AIm), AL)) : WP G M Q k n pc lv (vi v :: vr o :: st) ((L, K, AN, R0), (Rc, Ic, AIc, AR), (Im, AIm), AL) := by
  subst ho
  intro p e s m args below meth c H locs ls C hh hS hl
  obtain ⟨j, hj⟩ := pool_at G.2.2.2.1 hk.1
  have hj2 := hj
  rw [cl_0 _ hk.2] at hj
  have hown := C.2.2.2.2.2.1
  rw [hM] at hown
  have he : (va_pl L (cE G.2.2.2.1 ((L, K, AN, R0), (Rc, Ic, AIc, AR), (Im, AIm), AL))).set j (a, .inr (0, [va_rf (Rc 0 a), va_rf (Rc 1 a), va_rf (Rc 2 a), .int (v), .int (Ic 1 a)])) = va_pl L (cE G.2.2.2.1 ((L, K, AN, R0), (Rc, u2 Ic 0 a v, AIc, AR), (Im, AIm), AL)) := (va_pl_set (X := []) hh.2 hk.1 hj2).trans (va_pl_congr (cu_0_3 _ hk.2 v))
  have hn : narrow (tyX0 3) (.int v) = .int v := rfl
  have hf : fits (tyX0 3) (.int v) = true := rfl
  exact va_putN (C := RX0) (T := TX0) (N := 5) (Ts := wsX00) C.1 C.2.1 (fun w h => cx_ok C (gd_0 w h)) (fun _ h => h) tyX0 tyX0_ok nmX0 hown (cx_K C) hh.1 hh.2 hS j hj rfl 3 (by decide) (cx_nf (S := ((L, K, AN, R0), (Rc, Ic, AIc, AR), (Im, AIm), AL)) C nk_385) (fun _ h => h) rfl (tyX0_ok 3 (by decide)) hn hf (by show 3 < 5; decide) dg (fun H1 locs1 hP1 hD1 hS1 => kk p e s m args below meth c H1 locs1 ls C ⟨by rw [← he]; exact hP1, by rw [← he]; exact hD1⟩ hS1 hl)
theorem nk_387 : Cond.fieldLinkNest RX4 118 RX0 "value" "I" "SplaySequence" ∈ lw_tbl := List.mem_of_getElem? (i := 387) (by decide +kernel)
/-- getfield value of SplaySequence$Node -/
theorem gf_RX4_118 {o : Option Nat} {a : Nat} (dg : decode M.2.1 pc = .ok (.getfield 118, 3)) (hM : M.1.cls = RX4) (ho : o = some a) (hk : isK ((L, K, AN, R0), (Rc, Ic, AIc, AR), (Im, AIm), AL) 0 a) (kk : WP G M Q k n (pc + 3) lv (vi (Ic 1 a) :: st) ((L, K, AN, R0), (Rc, Ic, AIc, AR), (Im, AIm), AL)) : WP G M Q k n pc lv (vr o :: st) ((L, K, AN, R0), (Rc, Ic, AIc, AR), (Im, AIm), AL) := by
  subst ho
  intro p e s m args below meth c H locs ls C hh hS hl
  obtain ⟨j, hj⟩ := pool_at G.2.2.2.1 hk.1
  rw [cl_0 _ hk.2] at hj
  have hown := C.2.2.2.2.2.1
  rw [hM] at hown
  exact va_getN (C := RX0) (T := TX0) (N := 5) (Ts := wsX00) C.1 C.2.1 (fun w h => cx_ok C (gd_0 w h)) (fun _ h => h) hown (cx_K C) hh.1 j hj rfl 4 (by decide) (cx_nf (S := ((L, K, AN, R0), (Rc, Ic, AIc, AR), (Im, AIm), AL)) C nk_387) (fun _ h => h) rfl dg (kk p e s m args below meth c H locs ls C hh hS hl)
/-- putfield value of SplaySequence$Node -/
theorem pf_RX4_118 {o : Option Nat} {a : Nat} {v : Int32} (dg : decode M.2.1 pc = .ok (.putfield 118, 3)) (hM : M.1.cls = RX4) (ho : o = some a) (hk : isK ((L, K, AN, R0), (Rc, Ic, AIc, AR), (Im, AIm), AL) 0 a) (kk : WP G M Q k n (pc + 3) lv st ((L, K, AN, R0), (Rc, u2 Ic 1 a v, AIc, AR), (Im, AIm), AL)) : WP G M Q k n pc lv (vi v :: vr o :: st) ((L, K, AN, R0), (Rc, Ic, AIc, AR), (Im, AIm), AL) := by
  subst ho
  intro p e s m args below meth c H locs ls C hh hS hl
  obtain ⟨j, hj⟩ := pool_at G.2.2.2.1 hk.1
  have hj2 := hj
  rw [cl_0 _ hk.2] at hj
  have hown := C.2.2.2.2.2.1
  rw [hM] at hown
  have he : (va_pl L (cE G.2.2.2.1 ((L, K, AN, R0), (Rc, Ic, AIc, AR), (Im, AIm), AL))).set j (a, .inr (0, [va_rf (Rc 0 a), va_rf (Rc 1 a), va_rf (Rc 2 a), .int (Ic 0 a), .int (v)])) = va_pl L (cE G.2.2.2.1 ((L, K, AN, R0), (Rc, u2 Ic 1 a v, AIc, AR), (Im, AIm), AL)) := (va_pl_set (X := []) hh.2 hk.1 hj2).trans (va_pl_congr (cu_0_4 _ hk.2 v))
  have hn : narrow (tyX0 4) (.int v) = .int v := rfl
  have hf : fits (tyX0 4) (.int v) = true := rfl
  exact va_putN (C := RX0) (T := TX0) (N := 5) (Ts := wsX00) C.1 C.2.1 (fun w h => cx_ok C (gd_0 w h)) (fun _ h => h) tyX0 tyX0_ok nmX0 hown (cx_K C) hh.1 hh.2 hS j hj rfl 4 (by decide) (cx_nf (S := ((L, K, AN, R0), (Rc, Ic, AIc, AR), (Im, AIm), AL)) C nk_387) (fun _ h => h) rfl (tyX0_ok 4 (by decide)) hn hf (by show 4 < 5; decide) dg (fun H1 locs1 hP1 hD1 hS1 => kk p e s m args below meth c H1 locs1 ls C ⟨by rw [← he]; exact hP1, by rw [← he]; exact hD1⟩ hS1 hl)
theorem nk_388 : Cond.fieldLinkNest RX3 39 RX0 "value" "I" "SplaySequence" ∈ lw_tbl := List.mem_of_getElem? (i := 388) (by decide +kernel)
/-- getfield value of SplaySequence$Node -/
theorem gf_RX3_39 {o : Option Nat} {a : Nat} (dg : decode M.2.1 pc = .ok (.getfield 39, 3)) (hM : M.1.cls = RX3) (ho : o = some a) (hk : isK ((L, K, AN, R0), (Rc, Ic, AIc, AR), (Im, AIm), AL) 0 a) (kk : WP G M Q k n (pc + 3) lv (vi (Ic 1 a) :: st) ((L, K, AN, R0), (Rc, Ic, AIc, AR), (Im, AIm), AL)) : WP G M Q k n pc lv (vr o :: st) ((L, K, AN, R0), (Rc, Ic, AIc, AR), (Im, AIm), AL) := by
  subst ho
  intro p e s m args below meth c H locs ls C hh hS hl
  obtain ⟨j, hj⟩ := pool_at G.2.2.2.1 hk.1
  rw [cl_0 _ hk.2] at hj
  have hown := C.2.2.2.2.2.1
  rw [hM] at hown
  exact va_getN (C := RX0) (T := TX0) (N := 5) (Ts := wsX00) C.1 C.2.1 (fun w h => cx_ok C (gd_0 w h)) (fun _ h => h) hown (cx_K C) hh.1 j hj rfl 4 (by decide) (cx_nf (S := ((L, K, AN, R0), (Rc, Ic, AIc, AR), (Im, AIm), AL)) C nk_388) (fun _ h => h) rfl dg (kk p e s m args below meth c H locs ls C hh hS hl)
/-- putfield value of SplaySequence$Node -/
theorem pf_RX3_39 {o : Option Nat} {a : Nat} {v : Int32} (dg : decode M.2.1 pc = .ok (.putfield 39, 3)) (hM : M.1.cls = RX3) (ho : o = some a) (hk : isK ((L, K, AN, R0), (Rc, Ic, AIc, AR), (Im, AIm), AL) 0 a) (kk : WP G M Q k n (pc + 3) lv st ((L, K, AN, R0), (Rc, u2 Ic 1 a v, AIc, AR), (Im, AIm), AL)) : WP G M Q k n pc lv (vi v :: vr o :: st) ((L, K, AN, R0), (Rc, Ic, AIc, AR), (Im, AIm), AL) := by
  subst ho
  intro p e s m args below meth c H locs ls C hh hS hl
  obtain ⟨j, hj⟩ := pool_at G.2.2.2.1 hk.1
  have hj2 := hj
  rw [cl_0 _ hk.2] at hj
  have hown := C.2.2.2.2.2.1
  rw [hM] at hown
  have he : (va_pl L (cE G.2.2.2.1 ((L, K, AN, R0), (Rc, Ic, AIc, AR), (Im, AIm), AL))).set j (a, .inr (0, [va_rf (Rc 0 a), va_rf (Rc 1 a), va_rf (Rc 2 a), .int (Ic 0 a), .int (v)])) = va_pl L (cE G.2.2.2.1 ((L, K, AN, R0), (Rc, u2 Ic 1 a v, AIc, AR), (Im, AIm), AL)) := (va_pl_set (X := []) hh.2 hk.1 hj2).trans (va_pl_congr (cu_0_4 _ hk.2 v))
  have hn : narrow (tyX0 4) (.int v) = .int v := rfl
  have hf : fits (tyX0 4) (.int v) = true := rfl
  exact va_putN (C := RX0) (T := TX0) (N := 5) (Ts := wsX00) C.1 C.2.1 (fun w h => cx_ok C (gd_0 w h)) (fun _ h => h) tyX0 tyX0_ok nmX0 hown (cx_K C) hh.1 hh.2 hS j hj rfl 4 (by decide) (cx_nf (S := ((L, K, AN, R0), (Rc, Ic, AIc, AR), (Im, AIm), AL)) C nk_388) (fun _ h => h) rfl (tyX0_ok 4 (by decide)) hn hf (by show 4 < 5; decide) dg (fun H1 locs1 hP1 hD1 hS1 => kk p e s m args below meth c H1 locs1 ls C ⟨by rw [← he]; exact hP1, by rw [← he]; exact hD1⟩ hS1 hl)
end FLD
end
section
theorem ok_409 : okw (.native arraycopyName) := ⟨List.mem_of_getElem? (i := 409) (by decide +kernel), by decide +kernel⟩
theorem ok_408 : okw (.static arraycopyName) := ⟨List.mem_of_getElem? (i := 408) (by decide +kernel), by decide +kernel⟩
theorem ok_49 : okw (.initialized "java/lang/System") := ⟨List.mem_of_getElem? (i := 49) (by decide +kernel), by decide +kernel⟩
theorem ok_50 : okw (.initialized "java/lang/Math") := ⟨List.mem_of_getElem? (i := 50) (by decide +kernel), by decide +kernel⟩
theorem ok_109 : okw (.arrayClass .int) := ⟨List.mem_of_getElem? (i := 109) (by decide +kernel), by decide +kernel⟩
theorem ok_717 : okw (.arrayClass .boolean) := ⟨List.mem_of_getElem? (i := 717) (by decide +kernel), by decide +kernel⟩
theorem ok_948 : okw (.arrayClass .long) := ⟨List.mem_of_getElem? (i := 948) (by decide +kernel), by decide +kernel⟩
theorem ok_57 : okw (.instanceMethod objectInit) := ⟨List.mem_of_getElem? (i := 57) (by decide +kernel), by decide +kernel⟩
theorem ok_58 : okw (.code objectInit ⟨#[0xb1]⟩ 1 none) := ⟨List.mem_of_getElem? (i := 58) (by decide +kernel), by decide +kernel⟩
theorem ok_211 : okw (.static Lib.Math.max.name) := ⟨List.mem_of_getElem? (i := 211) (by decide +kernel), by decide +kernel⟩
theorem ok_212 : okw (.code Lib.Math.max.name Lib.Math.max.code 2 (some .int)) := ⟨List.mem_of_getElem? (i := 212) (by decide +kernel), by decide +kernel⟩
theorem ok_538 : okw (.static Lib.Math.min.name) := ⟨List.mem_of_getElem? (i := 538) (by decide +kernel), by decide +kernel⟩
theorem ok_539 : okw (.code Lib.Math.min.name Lib.Math.min.code 2 (some .int)) := ⟨List.mem_of_getElem? (i := 539) (by decide +kernel), by decide +kernel⟩
theorem ok_56 : okw (.methodLink RX4 1 objectInit) := ⟨List.mem_of_getElem? (i := 56) (by decide +kernel), by decide +kernel⟩
theorem ok_64 : okw (.methodLink RX3 1 objectInit) := ⟨List.mem_of_getElem? (i := 64) (by decide +kernel), by decide +kernel⟩
theorem ok_76 : okw (.methodLink RX2 3 objectInit) := ⟨List.mem_of_getElem? (i := 76) (by decide +kernel), by decide +kernel⟩
theorem ok_101 : okw (.methodLink RX1 3 objectInit) := ⟨List.mem_of_getElem? (i := 101) (by decide +kernel), by decide +kernel⟩
theorem ok_210 : okw (.methodLink RX3 58 Lib.Math.max.name) := ⟨List.mem_of_getElem? (i := 210) (by decide +kernel), by decide +kernel⟩
theorem ok_372 : okw (.methodLink RX0 1 objectInit) := ⟨List.mem_of_getElem? (i := 372) (by decide +kernel), by decide +kernel⟩
theorem ok_407 : okw (.methodLink RX1 19 arraycopyName) := ⟨List.mem_of_getElem? (i := 407) (by decide +kernel), by decide +kernel⟩
theorem ok_537 : okw (.methodLink RX3 43 Lib.Math.min.name) := ⟨List.mem_of_getElem? (i := 537) (by decide +kernel), by decide +kernel⟩
theorem ok_655 : okw (.methodLink RX5 1 objectInit) := ⟨List.mem_of_getElem? (i := 655) (by decide +kernel), by decide +kernel⟩
theorem ok_51 : okw (.classLink RL 8 RX4) := ⟨List.mem_of_getElem? (i := 51) (by decide +kernel), by decide +kernel⟩
theorem ok_59 : okw (.classLink RX4 7 RX3) := ⟨List.mem_of_getElem? (i := 59) (by decide +kernel), by decide +kernel⟩
theorem ok_71 : okw (.classLink RX4 25 RX2) := ⟨List.mem_of_getElem? (i := 71) (by decide +kernel), by decide +kernel⟩
theorem ok_94 : okw (.classLink RX4 32 RX0) := ⟨List.mem_of_getElem? (i := 94) (by decide +kernel), by decide +kernel⟩
theorem ok_96 : okw (.classLink RX4 38 RX1) := ⟨List.mem_of_getElem? (i := 96) (by decide +kernel), by decide +kernel⟩
theorem ok_216 : okw (.classLink RL 13 "java/lang/IndexOutOfBoundsException") := ⟨List.mem_of_getElem? (i := 216) (by decide +kernel), by decide +kernel⟩
theorem ok_217 : okw (.classLink RL 15 "java/lang/IllegalArgumentException") := ⟨List.mem_of_getElem? (i := 217) (by decide +kernel), by decide +kernel⟩
theorem ok_218 : okw (.classLink RL 17 "java/lang/IllegalStateException") := ⟨List.mem_of_getElem? (i := 218) (by decide +kernel), by decide +kernel⟩
theorem ok_227 : okw (.classLink RX4 223 "java/lang/IndexOutOfBoundsException") := ⟨List.mem_of_getElem? (i := 227) (by decide +kernel), by decide +kernel⟩
theorem ok_298 : okw (.classLink RX4 148 "java/lang/IllegalArgumentException") := ⟨List.mem_of_getElem? (i := 298) (by decide +kernel), by decide +kernel⟩
theorem ok_314 : okw (.classLink RX4 59 "java/lang/IllegalStateException") := ⟨List.mem_of_getElem? (i := 314) (by decide +kernel), by decide +kernel⟩
theorem ok_650 : okw (.classLink RL 77 RX5) := ⟨List.mem_of_getElem? (i := 650) (by decide +kernel), by decide +kernel⟩
theorem nk_61 : Cond.methodLinkNest RX4 9 yX3_init "SplaySequence" ∈ lw_tbl := List.mem_of_getElem? (i := 61) (by decide +kernel)
theorem nk_73 : Cond.methodLinkNest RX4 27 yX2_init "SplaySequence" ∈ lw_tbl := List.mem_of_getElem? (i := 73) (by decide +kernel)
theorem nk_98 : Cond.methodLinkNest RX4 40 yX1_init "SplaySequence" ∈ lw_tbl := List.mem_of_getElem? (i := 98) (by decide +kernel)
/-! ===== arrays, new cells, constructors ===== -/
section HPR
variable {G : GC} {M : MD} {Q : RS → SS → Prop} {k n pc : Nat} {lv : List (Nat × VV)} {st rest : List VV} {L : List Nat} {K AN : Nat → Nat} {R0 Rc : Nat → Nat → Option Nat} {Ic AIc Im AIm : Nat → Nat → Int32} {AR : Nat → Nat → Option Nat} {AL : Nat → Nat → Int64}
theorem cl_6 (cy : CY) {a : Nat} (h : K a = 6) : cE cy ((L, K, AN, R0), (Rc, Ic, AIc, AR), (Im, AIm), AL) a = .inl (cy.1, AN a, .inl (AIc a)) := by simp [cE, h]
theorem cu_6 (cy : CY) {a : Nat} (h : K a = 6) (f : Nat → Int32) (x : Nat) : va_up (cE cy ((L, K, AN, R0), (Rc, Ic, AIc, AR), (Im, AIm), AL)) a (.inl (cy.1, AN a, .inl (f))) x = cE cy ((L, K, AN, R0), (Rc, Ic, va_up AIc a f, AR), (Im, AIm), AL) x := by
  by_cases hb : x = a
  · subst hb
    simp [va_up, cE, h]
  · simp [va_up, cE, hb]
theorem ald_6 {o : Option Nat} {a : Nat} {i : Int32} (j N9 : Nat) (dg : decode M.2.1 pc = .ok (.iaload, 1)) (ho : o = some a) (hk : isK ((L, K, AN, R0), (Rc, Ic, AIc, AR), (Im, AIm), AL) 6 a) (hN : AN a = N9) (hi : i = nI j) (hj : j < N9) (h31 : N9 < 2 ^ 31) (kk : WP G M Q k n (pc + 1) lv (vi (AIc a j) :: st) ((L, K, AN, R0), (Rc, Ic, AIc, AR), (Im, AIm), AL)) : WP G M Q k n pc lv (vi i :: vr o :: st) ((L, K, AN, R0), (Rc, Ic, AIc, AR), (Im, AIm), AL) := by
  subst ho
  subst hi
  intro p e s m args below meth c H locs ls C hh hS hl
  obtain ⟨j9, hj9⟩ := pool_at G.2.2.2.1 hk.1
  rw [cl_6 _ hk.2] at hj9
  refine va_iald C.1 C.2.1 (cx_K C) hh.1 j9 0 hj9 rfl (vp_in_nI (by rw [hN]; exact hj) (by rw [hN]; exact h31)) dg ?_
  rw [nI_clamp (Nat.lt_trans hj h31)]
  exact kk p e s m args below meth c H locs ls C hh hS hl
theorem ast_6 {o : Option Nat} {a : Nat} {i : Int32} (j N9 : Nat) {x : Int32} (dg : decode M.2.1 pc = .ok (.iastore, 1)) (ho : o = some a) (hk : isK ((L, K, AN, R0), (Rc, Ic, AIc, AR), (Im, AIm), AL) 6 a) (hN : AN a = N9) (hi : i = nI j) (hj : j < N9) (h31 : N9 < 2 ^ 31) (kk : WP G M Q k n (pc + 1) lv st ((L, K, AN, R0), (Rc, Ic, va_up AIc a (upd (AIc a) j x), AR), (Im, AIm), AL)) : WP G M Q k n pc lv (vi x :: vi i :: vr o :: st) ((L, K, AN, R0), (Rc, Ic, AIc, AR), (Im, AIm), AL) := by
  subst ho
  subst hi
  intro p e s m args below meth c H locs ls C hh hS hl
  obtain ⟨j9, hj9⟩ := pool_at G.2.2.2.1 hk.1
  have hj2 := hj9
  rw [cl_6 _ hk.2] at hj9
  have he : (va_pl L (cE G.2.2.2.1 ((L, K, AN, R0), (Rc, Ic, AIc, AR), (Im, AIm), AL))).set j9 (a, .inl (G.2.2.2.1.1, AN a, .inl (upd (AIc a) j x))) = va_pl L (cE G.2.2.2.1 ((L, K, AN, R0), (Rc, Ic, va_up AIc a (upd (AIc a) j x), AR), (Im, AIm), AL)) := (va_pl_set (X := []) hh.2 hk.1 hj2).trans (va_pl_congr (cu_6 _ hk.2 _))
  refine va_iast C.1 C.2.1 (cx_K C) hh.1 hh.2 hS j9 0 hj9 rfl (vp_in_nI (by rw [hN]; exact hj) (by rw [hN]; exact h31)) dg (fun H1 locs1 hP1 hD1 hS1 => ?_)
  rw [nI_clamp (Nat.lt_trans hj h31)] at hP1 hD1
  exact kk p e s m args below meth c H1 locs1 ls C ⟨by rw [← he]; exact hP1, by rw [← he]; exact hD1⟩ hS1 hl
theorem alen_6 {o : Option Nat} {a : Nat} (N9 : Nat) (dg : decode M.2.1 pc = .ok (.arraylength, 1)) (ho : o = some a) (hk : isK ((L, K, AN, R0), (Rc, Ic, AIc, AR), (Im, AIm), AL) 6 a) (hN : AN a = N9) (kk : WP G M Q k n (pc + 1) lv (vi (nI N9) :: st) ((L, K, AN, R0), (Rc, Ic, AIc, AR), (Im, AIm), AL)) : WP G M Q k n pc lv (vr o :: st) ((L, K, AN, R0), (Rc, Ic, AIc, AR), (Im, AIm), AL) := by
  subst ho
  intro p e s m args below meth c H locs ls C hh hS hl
  obtain ⟨j9, hj9⟩ := pool_at G.2.2.2.1 hk.1
  rw [cl_6 _ hk.2] at hj9
  exact va_alen C.1 C.2.1 (cx_K C) hh.1 j9 0 hj9 rfl (v := nI N9) (by rw [← hN]; rfl) dg (kk p e s m args below meth c H locs ls C hh hS hl)
theorem cl_7 (cy : CY) {a : Nat} (h : K a = 7) : cE cy ((L, K, AN, R0), (Rc, Ic, AIc, AR), (Im, AIm), AL) a = .inl (cy.1, AN a, .inl (AIm a)) := by simp [cE, h]
theorem cu_7 (cy : CY) {a : Nat} (h : K a = 7) (f : Nat → Int32) (x : Nat) : va_up (cE cy ((L, K, AN, R0), (Rc, Ic, AIc, AR), (Im, AIm), AL)) a (.inl (cy.1, AN a, .inl (f))) x = cE cy ((L, K, AN, R0), (Rc, Ic, AIc, AR), (Im, va_up AIm a f), AL) x := by
  by_cases hb : x = a
  · subst hb
    simp [va_up, cE, h]
  · simp [va_up, cE, hb]
theorem ald_7 {o : Option Nat} {a : Nat} {i : Int32} (j N9 : Nat) (dg : decode M.2.1 pc = .ok (.iaload, 1)) (ho : o = some a) (hk : isK ((L, K, AN, R0), (Rc, Ic, AIc, AR), (Im, AIm), AL) 7 a) (hN : AN a = N9) (hi : i = nI j) (hj : j < N9) (h31 : N9 < 2 ^ 31) (kk : WP G M Q k n (pc + 1) lv (vi (AIm a j) :: st) ((L, K, AN, R0), (Rc, Ic, AIc, AR), (Im, AIm), AL)) : WP G M Q k n pc lv (vi i :: vr o :: st) ((L, K, AN, R0), (Rc, Ic, AIc, AR), (Im, AIm), AL) := by
  subst ho
  subst hi
  intro p e s m args below meth c H locs ls C hh hS hl
  obtain ⟨j9, hj9⟩ := pool_at G.2.2.2.1 hk.1
  rw [cl_7 _ hk.2] at hj9
  refine va_iald C.1 C.2.1 (cx_K C) hh.1 j9 0 hj9 rfl (vp_in_nI (by rw [hN]; exact hj) (by rw [hN]; exact h31)) dg ?_
  rw [nI_clamp (Nat.lt_trans hj h31)]
  exact kk p e s m args below meth c H locs ls C hh hS hl
theorem ast_7 {o : Option Nat} {a : Nat} {i : Int32} (j N9 : Nat) {x : Int32} (dg : decode M.2.1 pc = .ok (.iastore, 1)) (ho : o = some a) (hk : isK ((L, K, AN, R0), (Rc, Ic, AIc, AR), (Im, AIm), AL) 7 a) (hN : AN a = N9) (hi : i = nI j) (hj : j < N9) (h31 : N9 < 2 ^ 31) (kk : WP G M Q k n (pc + 1) lv st ((L, K, AN, R0), (Rc, Ic, AIc, AR), (Im, va_up AIm a (upd (AIm a) j x)), AL)) : WP G M Q k n pc lv (vi x :: vi i :: vr o :: st) ((L, K, AN, R0), (Rc, Ic, AIc, AR), (Im, AIm), AL) := by
  subst ho
  subst hi
  intro p e s m args below meth c H locs ls C hh hS hl
  obtain ⟨j9, hj9⟩ := pool_at G.2.2.2.1 hk.1
  have hj2 := hj9
  rw [cl_7 _ hk.2] at hj9
  have he : (va_pl L (cE G.2.2.2.1 ((L, K, AN, R0), (Rc, Ic, AIc, AR), (Im, AIm), AL))).set j9 (a, .inl (G.2.2.2.1.1, AN a, .inl (upd (AIm a) j x))) = va_pl L (cE G.2.2.2.1 ((L, K, AN, R0), (Rc, Ic, AIc, AR), (Im, va_up AIm a (upd (AIm a) j x)), AL)) := (va_pl_set (X := []) hh.2 hk.1 hj2).trans (va_pl_congr (cu_7 _ hk.2 _))
  refine va_iast C.1 C.2.1 (cx_K C) hh.1 hh.2 hS j9 0 hj9 rfl (vp_in_nI (by rw [hN]; exact hj) (by rw [hN]; exact h31)) dg (fun H1 locs1 hP1 hD1 hS1 => ?_)
  rw [nI_clamp (Nat.lt_trans hj h31)] at hP1 hD1
  exact kk p e s m args below meth c H1 locs1 ls C ⟨by rw [← he]; exact hP1, by rw [← he]; exact hD1⟩ hS1 hl
theorem alen_7 {o : Option Nat} {a : Nat} (N9 : Nat) (dg : decode M.2.1 pc = .ok (.arraylength, 1)) (ho : o = some a) (hk : isK ((L, K, AN, R0), (Rc, Ic, AIc, AR), (Im, AIm), AL) 7 a) (hN : AN a = N9) (kk : WP G M Q k n (pc + 1) lv (vi (nI N9) :: st) ((L, K, AN, R0), (Rc, Ic, AIc, AR), (Im, AIm), AL)) : WP G M Q k n pc lv (vr o :: st) ((L, K, AN, R0), (Rc, Ic, AIc, AR), (Im, AIm), AL) := by
  subst ho
  intro p e s m args below meth c H locs ls C hh hS hl
  obtain ⟨j9, hj9⟩ := pool_at G.2.2.2.1 hk.1
  rw [cl_7 _ hk.2] at hj9
  exact va_alen C.1 C.2.1 (cx_K C) hh.1 j9 0 hj9 rfl (v := nI N9) (by rw [← hN]; rfl) dg (kk p e s m args below meth c H locs ls C hh hS hl)
theorem cl_8 (cy : CY) {a : Nat} (h : K a = 8) : cE cy ((L, K, AN, R0), (Rc, Ic, AIc, AR), (Im, AIm), AL) a = .inl (cy.2.1, AN a, .inl (AIm a)) := by simp [cE, h]
theorem cu_8 (cy : CY) {a : Nat} (h : K a = 8) (f : Nat → Int32) (x : Nat) : va_up (cE cy ((L, K, AN, R0), (Rc, Ic, AIc, AR), (Im, AIm), AL)) a (.inl (cy.2.1, AN a, .inl (f))) x = cE cy ((L, K, AN, R0), (Rc, Ic, AIc, AR), (Im, va_up AIm a f), AL) x := by
  by_cases hb : x = a
  · subst hb
    simp [va_up, cE, h]
  · simp [va_up, cE, hb]
theorem ald_8 {o : Option Nat} {a : Nat} {i : Int32} (j N9 : Nat) (dg : decode M.2.1 pc = .ok (.baload, 1)) (ho : o = some a) (hk : isK ((L, K, AN, R0), (Rc, Ic, AIc, AR), (Im, AIm), AL) 8 a) (hN : AN a = N9) (hi : i = nI j) (hj : j < N9) (h31 : N9 < 2 ^ 31) (kk : WP G M Q k n (pc + 1) lv (vi (AIm a j) :: st) ((L, K, AN, R0), (Rc, Ic, AIc, AR), (Im, AIm), AL)) : WP G M Q k n pc lv (vi i :: vr o :: st) ((L, K, AN, R0), (Rc, Ic, AIc, AR), (Im, AIm), AL) := by
  subst ho
  subst hi
  intro p e s m args below meth c H locs ls C hh hS hl
  obtain ⟨j9, hj9⟩ := pool_at G.2.2.2.1 hk.1
  rw [cl_8 _ hk.2] at hj9
  refine va_zald C.1 C.2.1 (cx_K C) hh.1 j9 1 hj9 rfl (vp_in_nI (by rw [hN]; exact hj) (by rw [hN]; exact h31)) dg ?_
  rw [nI_clamp (Nat.lt_trans hj h31)]
  exact kk p e s m args below meth c H locs ls C hh hS hl
theorem ast_8 {o : Option Nat} {a : Nat} {i : Int32} (j N9 : Nat) {x : Int32} (dg : decode M.2.1 pc = .ok (.bastore, 1)) (ho : o = some a) (hk : isK ((L, K, AN, R0), (Rc, Ic, AIc, AR), (Im, AIm), AL) 8 a) (hN : AN a = N9) (hi : i = nI j) (hj : j < N9) (h31 : N9 < 2 ^ 31) (kk : WP G M Q k n (pc + 1) lv st ((L, K, AN, R0), (Rc, Ic, AIc, AR), (Im, va_up AIm a (upd (AIm a) j (vp_nar .boolean x))), AL)) : WP G M Q k n pc lv (vi x :: vi i :: vr o :: st) ((L, K, AN, R0), (Rc, Ic, AIc, AR), (Im, AIm), AL) := by
  subst ho
  subst hi
  intro p e s m args below meth c H locs ls C hh hS hl
  obtain ⟨j9, hj9⟩ := pool_at G.2.2.2.1 hk.1
  have hj2 := hj9
  rw [cl_8 _ hk.2] at hj9
  have he : (va_pl L (cE G.2.2.2.1 ((L, K, AN, R0), (Rc, Ic, AIc, AR), (Im, AIm), AL))).set j9 (a, .inl (G.2.2.2.1.2.1, AN a, .inl (upd (AIm a) j (vp_nar .boolean x)))) = va_pl L (cE G.2.2.2.1 ((L, K, AN, R0), (Rc, Ic, AIc, AR), (Im, va_up AIm a (upd (AIm a) j (vp_nar .boolean x))), AL)) := (va_pl_set (X := []) hh.2 hk.1 hj2).trans (va_pl_congr (cu_8 _ hk.2 _))
  refine va_zast C.1 C.2.1 (cx_K C) hh.1 hh.2 hS j9 1 hj9 rfl (vp_in_nI (by rw [hN]; exact hj) (by rw [hN]; exact h31)) dg (fun H1 locs1 hP1 hD1 hS1 => ?_)
  rw [nI_clamp (Nat.lt_trans hj h31)] at hP1 hD1
  exact kk p e s m args below meth c H1 locs1 ls C ⟨by rw [← he]; exact hP1, by rw [← he]; exact hD1⟩ hS1 hl
theorem alen_8 {o : Option Nat} {a : Nat} (N9 : Nat) (dg : decode M.2.1 pc = .ok (.arraylength, 1)) (ho : o = some a) (hk : isK ((L, K, AN, R0), (Rc, Ic, AIc, AR), (Im, AIm), AL) 8 a) (hN : AN a = N9) (kk : WP G M Q k n (pc + 1) lv (vi (nI N9) :: st) ((L, K, AN, R0), (Rc, Ic, AIc, AR), (Im, AIm), AL)) : WP G M Q k n pc lv (vr o :: st) ((L, K, AN, R0), (Rc, Ic, AIc, AR), (Im, AIm), AL) := by
  subst ho
  intro p e s m args below meth c H locs ls C hh hS hl
  obtain ⟨j9, hj9⟩ := pool_at G.2.2.2.1 hk.1
  rw [cl_8 _ hk.2] at hj9
  exact va_alen C.1 C.2.1 (cx_K C) hh.1 j9 1 hj9 rfl (v := nI N9) (by rw [← hN]; rfl) dg (kk p e s m args below meth c H locs ls C hh hS hl)
theorem cl_9 (cy : CY) {a : Nat} (h : K a = 9) : cE cy ((L, K, AN, R0), (Rc, Ic, AIc, AR), (Im, AIm), AL) a = .inl (cy.2.2.1, AN a, .inr (.inr (.inr (.inr (AR a))))) := by simp [cE, h]
theorem cu_9 (cy : CY) {a : Nat} (h : K a = 9) (f : Nat → Option Nat) (x : Nat) : va_up (cE cy ((L, K, AN, R0), (Rc, Ic, AIc, AR), (Im, AIm), AL)) a (.inl (cy.2.2.1, AN a, .inr (.inr (.inr (.inr (f)))))) x = cE cy ((L, K, AN, R0), (Rc, Ic, AIc, va_up AR a f), (Im, AIm), AL) x := by
  by_cases hb : x = a
  · subst hb
    simp [va_up, cE, h]
  · simp [va_up, cE, hb]
theorem ald_9 {o : Option Nat} {a : Nat} {i : Int32} (j N9 : Nat) (dg : decode M.2.1 pc = .ok (.aaload, 1)) (ho : o = some a) (hk : isK ((L, K, AN, R0), (Rc, Ic, AIc, AR), (Im, AIm), AL) 9 a) (hN : AN a = N9) (hi : i = nI j) (hj : j < N9) (h31 : N9 < 2 ^ 31) (kk : WP G M Q k n (pc + 1) lv (vr (AR a j) :: st) ((L, K, AN, R0), (Rc, Ic, AIc, AR), (Im, AIm), AL)) : WP G M Q k n pc lv (vi i :: vr o :: st) ((L, K, AN, R0), (Rc, Ic, AIc, AR), (Im, AIm), AL) := by
  subst ho
  subst hi
  intro p e s m args below meth c H locs ls C hh hS hl
  obtain ⟨j9, hj9⟩ := pool_at G.2.2.2.1 hk.1
  rw [cl_9 _ hk.2] at hj9
  refine va_aldq C.1 C.2.1 (cx_K C) hh.1 j9 2 hj9 rfl (vp_in_nI (by rw [hN]; exact hj) (by rw [hN]; exact h31)) dg ?_
  rw [nI_clamp (Nat.lt_trans hj h31)]
  exact kk p e s m args below meth c H locs ls C hh hS hl
theorem ast_9 {o : Option Nat} {a : Nat} {i : Int32} (j N9 : Nat) {x : Option Nat} (dg : decode M.2.1 pc = .ok (.aastore, 1)) (ho : o = some a) (hk : isK ((L, K, AN, R0), (Rc, Ic, AIc, AR), (Im, AIm), AL) 9 a) (hN : AN a = N9) (hi : i = nI j) (hj : j < N9) (h31 : N9 < 2 ^ 31) (hx : ∀ y, x = some y → isK ((L, K, AN, R0), (Rc, Ic, AIc, AR), (Im, AIm), AL) 0 y) (kk : WP G M Q k n (pc + 1) lv st ((L, K, AN, R0), (Rc, Ic, AIc, va_up AR a (va_up (AR a) j x)), (Im, AIm), AL)) : WP G M Q k n pc lv (vr x :: vi i :: vr o :: st) ((L, K, AN, R0), (Rc, Ic, AIc, AR), (Im, AIm), AL) := by
  subst ho
  subst hi
  intro p e s m args below meth c H locs ls C hh hS hl
  obtain ⟨j9, hj9⟩ := pool_at G.2.2.2.1 hk.1
  have hj2 := hj9
  rw [cl_9 _ hk.2] at hj9
  have he : (va_pl L (cE G.2.2.2.1 ((L, K, AN, R0), (Rc, Ic, AIc, AR), (Im, AIm), AL))).set j9 (a, .inl (G.2.2.2.1.2.2.1, AN a, .inr (.inr (.inr (.inr (va_up (AR a) j x)))))) = va_pl L (cE G.2.2.2.1 ((L, K, AN, R0), (Rc, Ic, AIc, va_up AR a (va_up (AR a) j x)), (Im, AIm), AL)) := (va_pl_set (X := []) hh.2 hk.1 hj2).trans (va_pl_congr (cu_9 _ hk.2 _))
  have hin : vp_in (nI j) (AN a) := vp_in_nI (by rw [hN]; exact hj) (by rw [hN]; exact h31)
  cases x with
  | none =>
    refine va_astqN C.1 C.2.1 (cx_K C) hh.1 hh.2 hS j9 2 hj9 rfl hin dg (fun H1 locs1 hP1 hD1 hS1 => ?_)
    rw [nI_clamp (Nat.lt_trans hj h31)] at hP1 hD1
    exact kk p e s m args below meth c H1 locs1 ls C ⟨by rw [← he]; exact hP1, by rw [← he]; exact hD1⟩ hS1 hl
  | some y =>
    have hy := hx y rfl
    obtain ⟨j8, hj8⟩ := pool_at G.2.2.2.1 hy.1
    rw [cl_0 _ hy.2] at hj8
    refine va_astq (r := (RX0, TX0, 5)) C.1 C.2.1 (cx_K C) hh.1 hh.2 hS j9 2 j8 0 hj9 rfl hj8 rfl hin dg (fun H1 locs1 hP1 hD1 hS1 => ?_)
    rw [nI_clamp (Nat.lt_trans hj h31)] at hP1 hD1
    exact kk p e s m args below meth c H1 locs1 ls C ⟨by rw [← he]; exact hP1, by rw [← he]; exact hD1⟩ hS1 hl
theorem alen_9 {o : Option Nat} {a : Nat} (N9 : Nat) (dg : decode M.2.1 pc = .ok (.arraylength, 1)) (ho : o = some a) (hk : isK ((L, K, AN, R0), (Rc, Ic, AIc, AR), (Im, AIm), AL) 9 a) (hN : AN a = N9) (kk : WP G M Q k n (pc + 1) lv (vi (nI N9) :: st) ((L, K, AN, R0), (Rc, Ic, AIc, AR), (Im, AIm), AL)) : WP G M Q k n pc lv (vr o :: st) ((L, K, AN, R0), (Rc, Ic, AIc, AR), (Im, AIm), AL) := by
  subst ho
  intro p e s m args below meth c H locs ls C hh hS hl
  obtain ⟨j9, hj9⟩ := pool_at G.2.2.2.1 hk.1
  rw [cl_9 _ hk.2] at hj9
  exact va_alen C.1 C.2.1 (cx_K C) hh.1 j9 2 hj9 rfl (v := nI N9) (by rw [← hN]; rfl) dg (kk p e s m args below meth c H locs ls C hh hS hl)
theorem cl_10 (cy : CY) {a : Nat} (h : K a = 10) : cE cy ((L, K, AN, R0), (Rc, Ic, AIc, AR), (Im, AIm), AL) a = .inl (cy.2.2.2, AN a, .inr (.inl (AL a))) := by simp [cE, h]
theorem cu_10 (cy : CY) {a : Nat} (h : K a = 10) (f : Nat → Int64) (x : Nat) : va_up (cE cy ((L, K, AN, R0), (Rc, Ic, AIc, AR), (Im, AIm), AL)) a (.inl (cy.2.2.2, AN a, .inr (.inl (f)))) x = cE cy ((L, K, AN, R0), (Rc, Ic, AIc, AR), (Im, AIm), va_up AL a f) x := by
  by_cases hb : x = a
  · subst hb
    simp [va_up, cE, h]
  · simp [va_up, cE, hb]
theorem ald_10 {o : Option Nat} {a : Nat} {i : Int32} (j N9 : Nat) (dg : decode M.2.1 pc = .ok (.laload, 1)) (ho : o = some a) (hk : isK ((L, K, AN, R0), (Rc, Ic, AIc, AR), (Im, AIm), AL) 10 a) (hN : AN a = N9) (hi : i = nI j) (hj : j < N9) (h31 : N9 < 2 ^ 31) (kk : WP G M Q k n (pc + 1) lv (vl (AL a j) :: st) ((L, K, AN, R0), (Rc, Ic, AIc, AR), (Im, AIm), AL)) : WP G M Q k n pc lv (vi i :: vr o :: st) ((L, K, AN, R0), (Rc, Ic, AIc, AR), (Im, AIm), AL) := by
  subst ho
  subst hi
  intro p e s m args below meth c H locs ls C hh hS hl
  obtain ⟨j9, hj9⟩ := pool_at G.2.2.2.1 hk.1
  rw [cl_10 _ hk.2] at hj9
  refine va_lald C.1 C.2.1 (cx_K C) hh.1 j9 3 hj9 rfl (vp_in_nI (by rw [hN]; exact hj) (by rw [hN]; exact h31)) dg ?_
  rw [nI_clamp (Nat.lt_trans hj h31)]
  exact kk p e s m args below meth c H locs ls C hh hS hl
theorem ast_10 {o : Option Nat} {a : Nat} {i : Int32} (j N9 : Nat) {x : Int64} (dg : decode M.2.1 pc = .ok (.lastore, 1)) (ho : o = some a) (hk : isK ((L, K, AN, R0), (Rc, Ic, AIc, AR), (Im, AIm), AL) 10 a) (hN : AN a = N9) (hi : i = nI j) (hj : j < N9) (h31 : N9 < 2 ^ 31) (kk : WP G M Q k n (pc + 1) lv st ((L, K, AN, R0), (Rc, Ic, AIc, AR), (Im, AIm), va_up AL a (vp_updL (AL a) j x))) : WP G M Q k n pc lv (vl x :: vi i :: vr o :: st) ((L, K, AN, R0), (Rc, Ic, AIc, AR), (Im, AIm), AL) := by
  subst ho
  subst hi
  intro p e s m args below meth c H locs ls C hh hS hl
  obtain ⟨j9, hj9⟩ := pool_at G.2.2.2.1 hk.1
  have hj2 := hj9
  rw [cl_10 _ hk.2] at hj9
  have he : (va_pl L (cE G.2.2.2.1 ((L, K, AN, R0), (Rc, Ic, AIc, AR), (Im, AIm), AL))).set j9 (a, .inl (G.2.2.2.1.2.2.2, AN a, .inr (.inl (vp_updL (AL a) j x)))) = va_pl L (cE G.2.2.2.1 ((L, K, AN, R0), (Rc, Ic, AIc, AR), (Im, AIm), va_up AL a (vp_updL (AL a) j x))) := (va_pl_set (X := []) hh.2 hk.1 hj2).trans (va_pl_congr (cu_10 _ hk.2 _))
  refine va_last C.1 C.2.1 (cx_K C) hh.1 hh.2 hS j9 3 hj9 rfl (vp_in_nI (by rw [hN]; exact hj) (by rw [hN]; exact h31)) dg (fun H1 locs1 hP1 hD1 hS1 => ?_)
  rw [nI_clamp (Nat.lt_trans hj h31)] at hP1 hD1
  exact kk p e s m args below meth c H1 locs1 ls C ⟨by rw [← he]; exact hP1, by rw [← he]; exact hD1⟩ hS1 hl
theorem alen_10 {o : Option Nat} {a : Nat} (N9 : Nat) (dg : decode M.2.1 pc = .ok (.arraylength, 1)) (ho : o = some a) (hk : isK ((L, K, AN, R0), (Rc, Ic, AIc, AR), (Im, AIm), AL) 10 a) (hN : AN a = N9) (kk : WP G M Q k n (pc + 1) lv (vi (nI N9) :: st) ((L, K, AN, R0), (Rc, Ic, AIc, AR), (Im, AIm), AL)) : WP G M Q k n pc lv (vr o :: st) ((L, K, AN, R0), (Rc, Ic, AIc, AR), (Im, AIm), AL) := by
  subst ho
  intro p e s m args below meth c H locs ls C hh hS hl
  obtain ⟨j9, hj9⟩ := pool_at G.2.2.2.1 hk.1
  rw [cl_10 _ hk.2] at hj9
  exact va_alen C.1 C.2.1 (cx_K C) hh.1 j9 3 hj9 rfl (v := nI N9) (by rw [← hN]; rfl) dg (kk p e s m args below meth c H locs ls C hh hS hl)
theorem WP_copy {idx : Nat} {o0 o1 : Option Nat} {a0 a : Nat} {sp dp nn : Int32} (sp' dp' n' N0 N1 : Nat) (dg : decode M.2.1 pc = .ok (.invokestatic idx, 3)) (hlk : okw (.methodLink M.1.cls idx arraycopyName)) (h0 : o0 = some a0) (h1 : o1 = some a) (hk0 : isK ((L, K, AN, R0), (Rc, Ic, AIc, AR), (Im, AIm), AL) 6 a0) (hk1 : isK ((L, K, AN, R0), (Rc, Ic, AIc, AR), (Im, AIm), AL) 6 a) (hN0 : AN a0 = N0) (hN1 : AN a = N1) (hsp : sp = nI sp') (hdp : dp = nI dp') (hnn : nn = nI n') (hb0 : sp' + n' ≤ N0) (hb1 : dp' + n' ≤ N1) (h31 : N0 < 2 ^ 31) (h32 : N1 < 2 ^ 31) (hd : 2 ≤ M.2.2.2.2.2.1) (hrest : argsSz st ≤ 8)
    (kk : WP G M Q k n (pc + 3) lv st ((L, K, AN, R0), (Rc, Ic, va_up AIc a (va_cpy (AIc a0) (AIc a) sp' dp' n'), AR), (Im, AIm), AL)) : WP G M Q k n pc lv (vi nn :: vi dp :: vr o1 :: vi sp :: vr o0 :: st) ((L, K, AN, R0), (Rc, Ic, AIc, AR), (Im, AIm), AL) := by
  subst h0; subst h1; subst hsp; subst hdp; subst hnn
  intro p e s m args below meth c H locs ls C hh hS hl
  obtain ⟨j0, hj0⟩ := pool_at G.2.2.2.1 hk0.1
  obtain ⟨j1, hj1⟩ := pool_at G.2.2.2.1 hk1.1
  have hj2 := hj1
  rw [cl_6 _ hk0.2] at hj0
  rw [cl_6 _ hk1.2] at hj1
  have he : (va_pl L (cE G.2.2.2.1 ((L, K, AN, R0), (Rc, Ic, AIc, AR), (Im, AIm), AL))).set j1 (a, .inl (G.2.2.2.1.1, AN a, .inl (va_cpy (AIc a0) (AIc a) sp' dp' n'))) = va_pl L (cE G.2.2.2.1 ((L, K, AN, R0), (Rc, Ic, va_up AIc a (va_cpy (AIc a0) (AIc a) sp' dp' n'), AR), (Im, AIm), AL)) := (va_pl_set (X := []) hh.2 hk1.1 hj2).trans (va_pl_congr (cu_6 _ hk1.2 _))
  have c1 : (nI sp').toNatClampNeg = sp' := nI_clamp (by omega)
  have c2 : (nI dp').toNatClampNeg = dp' := nI_clamp (by omega)
  have c3 : (nI n').toNatClampNeg = n' := nI_clamp (by omega)
  refine va_copyi C.1 C.2.1 (C.2.2.2.2.1.trans hl.1.symm) C.2.2.2.2.2.1 (cx_ok C hlk) (cx_ok C ok_409) (cx_ok C ok_408) (cx_ok C ok_49) (cx_K C) hh.1 hh.2 hS j0 j1 0 0 hj0 hj1 rfl rfl rfl
    (nI_pos (by omega)) (nI_pos (by omega)) (nI_pos (by omega)) (by rw [c1, c3, hN0]; exact hb0) (by rw [c2, c3, hN1]; exact hb1) (fun _ _ => rfl) (Nat.le_trans (by decide) hd) (by
      have h9 : nativeFrameWords "java/lang/System" "arraycopy" 5 ≤ 40 := by decide +kernel
      show _ ≤ 36 * M.2.2.2.2.2.1
      rw [catSum]
      omega) dg (fun H1 locs1 hP1 hD1 hS1 => ?_)
  rw [c1, c2, c3] at hP1 hD1
  exact kk p e s m args below meth c H1 locs1 ls C ⟨by rw [← he]; exact hP1, by rw [← he]; exact hD1⟩ hS1 hl
theorem oki_0 : okw (.instantiable RX0 5) := ⟨List.mem_of_getElem? (i := 368) (by decide +kernel), by decide +kernel⟩
theorem cn_0 (cy : CY) (q x : Nat) : va_up (cE cy ((L, K, AN, R0), (Rc, Ic, AIc, AR), (Im, AIm), AL)) q (.inr (0, [.null, .null, .null, .int 0, .int 0])) x = cE cy ((L ++ [q], va_up K q 0, AN, R0), (u2 (u2 (u2 Rc 0 q none) 1 q none) 2 q none, u2 (u2 Ic 0 q 0) 1 q 0, AIc, AR), (Im, AIm), AL) x := by
  by_cases hb : x = q
  · subst hb
    simp [va_up, cE, u2, va_rf]
  · simp [va_up, cE, u2, hb]
theorem new_0 {idx : Nat} (dg : decode M.2.1 pc = .ok (.new idx, 3)) (hcl : okw (.classLink M.1.cls idx RX0)) (hc : k + 1 ≤ M.2.2.2.2.2.2.1) (hs : n + 5 ≤ M.2.2.2.2.2.2.2) (kk : ∀ q : Nat, q ∉ L → WP G M Q (k + 1) (n + 5) (pc + 3) lv (vr (some q) :: st) ((L ++ [q], va_up K q 0, AN, R0), (u2 (u2 (u2 Rc 0 q none) 1 q none) 2 q none, u2 (u2 Ic 0 q 0) 1 q 0, AIc, AR), (Im, AIm), AL)) : WP G M Q k n pc lv st ((L, K, AN, R0), (Rc, Ic, AIc, AR), (Im, AIm), AL) := by
  intro p e s m args below meth c H locs ls C hh hS hl
  refine va_new (ci := 0) (fs := [.null, .null, .null, .int 0, .int 0]) (C := RX0) (T := TX0) (N := 5) (Ts := wsX00) C.1 C.2.1 (fun w h => cx_ok C (gd_0 w h)) (fun _ h => h) tyX0 tyX0_ok C.2.2.2.2.2.1 (cx_ok C hcl) (cx_ok C oki_0) (cx_ok C ok_42) (cx_K C) hh.1 hh.2 hS (fun q h => Nat.le_trans C.2.2.2.2.2.2.2.2.2.2.1 h) rfl (by intro j hj; rcases (show j = 0 ∨ j = 1 ∨ j = 2 ∨ j = 3 ∨ j = 4 by omega) with rfl | rfl | rfl | rfl | rfl <;> rfl) hc hs dg (fun q H1 hP1 hD1 hS1 => ?_)
  have hq : q ∉ L := va_pl_fresh2 (X := []) hD1
  have he : va_pl L (cE G.2.2.2.1 ((L, K, AN, R0), (Rc, Ic, AIc, AR), (Im, AIm), AL)) ++ [(q, .inr (0, [.null, .null, .null, .int 0, .int 0]))] = va_pl (L ++ [q]) (cE G.2.2.2.1 ((L ++ [q], va_up K q 0, AN, R0), (u2 (u2 (u2 Rc 0 q none) 1 q none) 2 q none, u2 (u2 Ic 0 q 0) 1 q 0, AIc, AR), (Im, AIm), AL)) := (va_pl_push hq).trans (va_pl_congr (cn_0 _ q))
  exact kk q hq p e s m args below meth c H1 locs ls C ⟨by rw [← he]; exact hP1, by rw [← he]; exact hD1⟩ hS1 hl
theorem oki_1 : okw (.instantiable RX1 2) := ⟨List.mem_of_getElem? (i := 97) (by decide +kernel), by decide +kernel⟩
theorem cn_1 (cy : CY) (q x : Nat) : va_up (cE cy ((L, K, AN, R0), (Rc, Ic, AIc, AR), (Im, AIm), AL)) q (.inr (1, [.null, .int 0])) x = cE cy ((L ++ [q], va_up K q 1, AN, u2 R0 0 q none), (Rc, u2 Ic 2 q 0, AIc, AR), (Im, AIm), AL) x := by
  by_cases hb : x = q
  · subst hb
    simp [va_up, cE, u2, va_rf]
  · simp [va_up, cE, u2, hb]
theorem new_1 {idx : Nat} (dg : decode M.2.1 pc = .ok (.new idx, 3)) (hcl : okw (.classLink M.1.cls idx RX1)) (hc : k + 1 ≤ M.2.2.2.2.2.2.1) (hs : n + 2 ≤ M.2.2.2.2.2.2.2) (kk : ∀ q : Nat, q ∉ L → WP G M Q (k + 1) (n + 2) (pc + 3) lv (vr (some q) :: st) ((L ++ [q], va_up K q 1, AN, u2 R0 0 q none), (Rc, u2 Ic 2 q 0, AIc, AR), (Im, AIm), AL)) : WP G M Q k n pc lv st ((L, K, AN, R0), (Rc, Ic, AIc, AR), (Im, AIm), AL) := by
  intro p e s m args below meth c H locs ls C hh hS hl
  refine va_new (ci := 1) (fs := [.null, .int 0]) (C := RX1) (T := TX1) (N := 2) (Ts := wsX10) C.1 C.2.1 (fun w h => cx_ok C (gd_1 w h)) (fun _ h => h) tyX1 tyX1_ok C.2.2.2.2.2.1 (cx_ok C hcl) (cx_ok C oki_1) (cx_ok C ok_40) (cx_K C) hh.1 hh.2 hS (fun q h => Nat.le_trans C.2.2.2.2.2.2.2.2.2.2.1 h) rfl (by intro j hj; rcases (show j = 0 ∨ j = 1 by omega) with rfl | rfl <;> rfl) hc hs dg (fun q H1 hP1 hD1 hS1 => ?_)
  have hq : q ∉ L := va_pl_fresh2 (X := []) hD1
  have he : va_pl L (cE G.2.2.2.1 ((L, K, AN, R0), (Rc, Ic, AIc, AR), (Im, AIm), AL)) ++ [(q, .inr (1, [.null, .int 0]))] = va_pl (L ++ [q]) (cE G.2.2.2.1 ((L ++ [q], va_up K q 1, AN, u2 R0 0 q none), (Rc, u2 Ic 2 q 0, AIc, AR), (Im, AIm), AL)) := (va_pl_push hq).trans (va_pl_congr (cn_1 _ q))
  exact kk q hq p e s m args below meth c H1 locs ls C ⟨by rw [← he]; exact hP1, by rw [← he]; exact hD1⟩ hS1 hl
theorem oki_2 : okw (.instantiable RX2 4) := ⟨List.mem_of_getElem? (i := 72) (by decide +kernel), by decide +kernel⟩
theorem cn_2 (cy : CY) (q x : Nat) : va_up (cE cy ((L, K, AN, R0), (Rc, Ic, AIc, AR), (Im, AIm), AL)) q (.inr (2, [.int 0, .int 0, .int 0, .int 0])) x = cE cy ((L ++ [q], va_up K q 2, AN, R0), (Rc, u2 (u2 (u2 (u2 Ic 3 q 0) 4 q 0) 5 q 0) 6 q 0, AIc, AR), (Im, AIm), AL) x := by
  by_cases hb : x = q
  · subst hb
    simp [va_up, cE, u2, va_rf]
  · simp [va_up, cE, u2, hb]
theorem new_2 {idx : Nat} (dg : decode M.2.1 pc = .ok (.new idx, 3)) (hcl : okw (.classLink M.1.cls idx RX2)) (hc : k + 1 ≤ M.2.2.2.2.2.2.1) (hs : n + 4 ≤ M.2.2.2.2.2.2.2) (kk : ∀ q : Nat, q ∉ L → WP G M Q (k + 1) (n + 4) (pc + 3) lv (vr (some q) :: st) ((L ++ [q], va_up K q 2, AN, R0), (Rc, u2 (u2 (u2 (u2 Ic 3 q 0) 4 q 0) 5 q 0) 6 q 0, AIc, AR), (Im, AIm), AL)) : WP G M Q k n pc lv st ((L, K, AN, R0), (Rc, Ic, AIc, AR), (Im, AIm), AL) := by
  intro p e s m args below meth c H locs ls C hh hS hl
  refine va_new (ci := 2) (fs := [.int 0, .int 0, .int 0, .int 0]) (C := RX2) (T := TX2) (N := 4) (Ts := wsX20) C.1 C.2.1 (fun w h => cx_ok C (gd_2 w h)) (fun _ h => h) tyX2 tyX2_ok C.2.2.2.2.2.1 (cx_ok C hcl) (cx_ok C oki_2) (cx_ok C ok_39) (cx_K C) hh.1 hh.2 hS (fun q h => Nat.le_trans C.2.2.2.2.2.2.2.2.2.2.1 h) rfl (by intro j hj; rcases (show j = 0 ∨ j = 1 ∨ j = 2 ∨ j = 3 by omega) with rfl | rfl | rfl | rfl <;> rfl) hc hs dg (fun q H1 hP1 hD1 hS1 => ?_)
  have hq : q ∉ L := va_pl_fresh2 (X := []) hD1
  have he : va_pl L (cE G.2.2.2.1 ((L, K, AN, R0), (Rc, Ic, AIc, AR), (Im, AIm), AL)) ++ [(q, .inr (2, [.int 0, .int 0, .int 0, .int 0]))] = va_pl (L ++ [q]) (cE G.2.2.2.1 ((L ++ [q], va_up K q 2, AN, R0), (Rc, u2 (u2 (u2 (u2 Ic 3 q 0) 4 q 0) 5 q 0) 6 q 0, AIc, AR), (Im, AIm), AL)) := (va_pl_push hq).trans (va_pl_congr (cn_2 _ q))
  exact kk q hq p e s m args below meth c H1 locs ls C ⟨by rw [← he]; exact hP1, by rw [← he]; exact hD1⟩ hS1 hl
theorem oki_3 : okw (.instantiable RX3 1) := ⟨List.mem_of_getElem? (i := 60) (by decide +kernel), by decide +kernel⟩
theorem cn_3 (cy : CY) (q x : Nat) : va_up (cE cy ((L, K, AN, R0), (Rc, Ic, AIc, AR), (Im, AIm), AL)) q (.inr (3, [.null])) x = cE cy ((L ++ [q], va_up K q 3, AN, R0), (u2 Rc 3 q none, Ic, AIc, AR), (Im, AIm), AL) x := by
  by_cases hb : x = q
  · subst hb
    simp [va_up, cE, u2, va_rf]
  · simp [va_up, cE, u2, hb]
theorem new_3 {idx : Nat} (dg : decode M.2.1 pc = .ok (.new idx, 3)) (hcl : okw (.classLink M.1.cls idx RX3)) (hc : k + 1 ≤ M.2.2.2.2.2.2.1) (hs : n + 1 ≤ M.2.2.2.2.2.2.2) (kk : ∀ q : Nat, q ∉ L → WP G M Q (k + 1) (n + 1) (pc + 3) lv (vr (some q) :: st) ((L ++ [q], va_up K q 3, AN, R0), (u2 Rc 3 q none, Ic, AIc, AR), (Im, AIm), AL)) : WP G M Q k n pc lv st ((L, K, AN, R0), (Rc, Ic, AIc, AR), (Im, AIm), AL) := by
  intro p e s m args below meth c H locs ls C hh hS hl
  refine va_new (ci := 3) (fs := [.null]) (C := RX3) (T := TX3) (N := 1) (Ts := wsX30) C.1 C.2.1 (fun w h => cx_ok C (gd_3 w h)) (fun _ h => h) tyX3 tyX3_ok C.2.2.2.2.2.1 (cx_ok C hcl) (cx_ok C oki_3) (cx_ok C ok_38) (cx_K C) hh.1 hh.2 hS (fun q h => Nat.le_trans C.2.2.2.2.2.2.2.2.2.2.1 h) rfl (by intro j hj; rcases (show j = 0 by omega) with rfl <;> rfl) hc hs dg (fun q H1 hP1 hD1 hS1 => ?_)
  have hq : q ∉ L := va_pl_fresh2 (X := []) hD1
  have he : va_pl L (cE G.2.2.2.1 ((L, K, AN, R0), (Rc, Ic, AIc, AR), (Im, AIm), AL)) ++ [(q, .inr (3, [.null]))] = va_pl (L ++ [q]) (cE G.2.2.2.1 ((L ++ [q], va_up K q 3, AN, R0), (u2 Rc 3 q none, Ic, AIc, AR), (Im, AIm), AL)) := (va_pl_push hq).trans (va_pl_congr (cn_3 _ q))
  exact kk q hq p e s m args below meth c H1 locs ls C ⟨by rw [← he]; exact hP1, by rw [← he]; exact hD1⟩ hS1 hl
theorem oki_4 : okw (.instantiable RX4 8) := ⟨List.mem_of_getElem? (i := 52) (by decide +kernel), by decide +kernel⟩
theorem cn_4 (cy : CY) (q x : Nat) : va_up (cE cy ((L, K, AN, R0), (Rc, Ic, AIc, AR), (Im, AIm), AL)) q (.inr (4, [.null, .null, .null, .null, .null, .null, .null, .null])) x = cE cy ((L ++ [q], va_up K q 4, AN, u2 (u2 (u2 (u2 (u2 (u2 (u2 (u2 R0 1 q none) 2 q none) 3 q none) 4 q none) 5 q none) 6 q none) 7 q none) 8 q none), (Rc, Ic, AIc, AR), (Im, AIm), AL) x := by
  by_cases hb : x = q
  · subst hb
    simp [va_up, cE, u2, va_rf]
  · simp [va_up, cE, u2, hb]
theorem new_4 {idx : Nat} (dg : decode M.2.1 pc = .ok (.new idx, 3)) (hcl : okw (.classLink M.1.cls idx RX4)) (hc : k + 1 ≤ M.2.2.2.2.2.2.1) (hs : n + 8 ≤ M.2.2.2.2.2.2.2) (kk : ∀ q : Nat, q ∉ L → WP G M Q (k + 1) (n + 8) (pc + 3) lv (vr (some q) :: st) ((L ++ [q], va_up K q 4, AN, u2 (u2 (u2 (u2 (u2 (u2 (u2 (u2 R0 1 q none) 2 q none) 3 q none) 4 q none) 5 q none) 6 q none) 7 q none) 8 q none), (Rc, Ic, AIc, AR), (Im, AIm), AL)) : WP G M Q k n pc lv st ((L, K, AN, R0), (Rc, Ic, AIc, AR), (Im, AIm), AL) := by
  intro p e s m args below meth c H locs ls C hh hS hl
  refine va_new (ci := 4) (fs := [.null, .null, .null, .null, .null, .null, .null, .null]) (C := RX4) (T := TX4) (N := 8) (Ts := wsX40) C.1 C.2.1 (fun w h => cx_ok C (gd_4 w h)) (fun _ h => h) tyX4 tyX4_ok C.2.2.2.2.2.1 (cx_ok C hcl) (cx_ok C oki_4) (cx_ok C ok_37) (cx_K C) hh.1 hh.2 hS (fun q h => Nat.le_trans C.2.2.2.2.2.2.2.2.2.2.1 h) rfl (by intro j hj; rcases (show j = 0 ∨ j = 1 ∨ j = 2 ∨ j = 3 ∨ j = 4 ∨ j = 5 ∨ j = 6 ∨ j = 7 by omega) with rfl | rfl | rfl | rfl | rfl | rfl | rfl | rfl <;> rfl) hc hs dg (fun q H1 hP1 hD1 hS1 => ?_)
  have hq : q ∉ L := va_pl_fresh2 (X := []) hD1
  have he : va_pl L (cE G.2.2.2.1 ((L, K, AN, R0), (Rc, Ic, AIc, AR), (Im, AIm), AL)) ++ [(q, .inr (4, [.null, .null, .null, .null, .null, .null, .null, .null]))] = va_pl (L ++ [q]) (cE G.2.2.2.1 ((L ++ [q], va_up K q 4, AN, u2 (u2 (u2 (u2 (u2 (u2 (u2 (u2 R0 1 q none) 2 q none) 3 q none) 4 q none) 5 q none) 6 q none) 7 q none) 8 q none), (Rc, Ic, AIc, AR), (Im, AIm), AL)) := (va_pl_push hq).trans (va_pl_congr (cn_4 _ q))
  exact kk q hq p e s m args below meth c H1 locs ls C ⟨by rw [← he]; exact hP1, by rw [← he]; exact hD1⟩ hS1 hl
theorem oki_5 : okw (.instantiable RX5 20) := ⟨List.mem_of_getElem? (i := 651) (by decide +kernel), by decide +kernel⟩
theorem cn_5 (cy : CY) (q x : Nat) : va_up (cE cy ((L, K, AN, R0), (Rc, Ic, AIc, AR), (Im, AIm), AL)) q (.inr (5, [.int 0, .int 0, .int 0, .null, .null, .null, .null, .null, .null, .null, .int 0, .int 0, .int 0, .int 0, .int 0, .int 0, .int 0, .int 0, .int 0, .int 0])) x = cE cy ((L ++ [q], va_up K q 5, AN, u2 (u2 (u2 (u2 (u2 (u2 (u2 R0 9 q none) 10 q none) 11 q none) 12 q none) 13 q none) 14 q none) 15 q none), (Rc, Ic, AIc, AR), (u2 (u2 (u2 (u2 (u2 (u2 (u2 (u2 (u2 (u2 (u2 (u2 (u2 Im 0 q 0) 1 q 0) 2 q 0) 3 q 0) 4 q 0) 5 q 0) 6 q 0) 7 q 0) 8 q 0) 9 q 0) 10 q 0) 11 q 0) 12 q 0, AIm), AL) x := by
  by_cases hb : x = q
  · subst hb
    simp [va_up, cE, u2, va_rf]
  · simp [va_up, cE, u2, hb]
theorem new_5 {idx : Nat} (dg : decode M.2.1 pc = .ok (.new idx, 3)) (hcl : okw (.classLink M.1.cls idx RX5)) (hc : k + 1 ≤ M.2.2.2.2.2.2.1) (hs : n + 20 ≤ M.2.2.2.2.2.2.2) (kk : ∀ q : Nat, q ∉ L → WP G M Q (k + 1) (n + 20) (pc + 3) lv (vr (some q) :: st) ((L ++ [q], va_up K q 5, AN, u2 (u2 (u2 (u2 (u2 (u2 (u2 R0 9 q none) 10 q none) 11 q none) 12 q none) 13 q none) 14 q none) 15 q none), (Rc, Ic, AIc, AR), (u2 (u2 (u2 (u2 (u2 (u2 (u2 (u2 (u2 (u2 (u2 (u2 (u2 Im 0 q 0) 1 q 0) 2 q 0) 3 q 0) 4 q 0) 5 q 0) 6 q 0) 7 q 0) 8 q 0) 9 q 0) 10 q 0) 11 q 0) 12 q 0, AIm), AL)) : WP G M Q k n pc lv st ((L, K, AN, R0), (Rc, Ic, AIc, AR), (Im, AIm), AL) := by
  intro p e s m args below meth c H locs ls C hh hS hl
  refine va_new (ci := 5) (fs := [.int 0, .int 0, .int 0, .null, .null, .null, .null, .null, .null, .null, .int 0, .int 0, .int 0, .int 0, .int 0, .int 0, .int 0, .int 0, .int 0, .int 0]) (C := RX5) (T := TX5) (N := 20) (Ts := wsX50) C.1 C.2.1 (fun w h => cx_ok C (gd_5 w h)) (fun _ h => h) tyX5 tyX5_ok C.2.2.2.2.2.1 (cx_ok C hcl) (cx_ok C oki_5) (cx_ok C ok_41) (cx_K C) hh.1 hh.2 hS (fun q h => Nat.le_trans C.2.2.2.2.2.2.2.2.2.2.1 h) rfl (by intro j hj; rcases (show j = 0 ∨ j = 1 ∨ j = 2 ∨ j = 3 ∨ j = 4 ∨ j = 5 ∨ j = 6 ∨ j = 7 ∨ j = 8 ∨ j = 9 ∨ j = 10 ∨ j = 11 ∨ j = 12 ∨ j = 13 ∨ j = 14 ∨ j = 15 ∨ j = 16 ∨ j = 17 ∨ j = 18 ∨ j = 19 by omega) with rfl | rfl | rfl | rfl | rfl | rfl | rfl | rfl | rfl | rfl | rfl | rfl | rfl | rfl | rfl | rfl | rfl | rfl | rfl | rfl <;> rfl) hc hs dg (fun q H1 hP1 hD1 hS1 => ?_)
  have hq : q ∉ L := va_pl_fresh2 (X := []) hD1
  have he : va_pl L (cE G.2.2.2.1 ((L, K, AN, R0), (Rc, Ic, AIc, AR), (Im, AIm), AL)) ++ [(q, .inr (5, [.int 0, .int 0, .int 0, .null, .null, .null, .null, .null, .null, .null, .int 0, .int 0, .int 0, .int 0, .int 0, .int 0, .int 0, .int 0, .int 0, .int 0]))] = va_pl (L ++ [q]) (cE G.2.2.2.1 ((L ++ [q], va_up K q 5, AN, u2 (u2 (u2 (u2 (u2 (u2 (u2 R0 9 q none) 10 q none) 11 q none) 12 q none) 13 q none) 14 q none) 15 q none), (Rc, Ic, AIc, AR), (u2 (u2 (u2 (u2 (u2 (u2 (u2 (u2 (u2 (u2 (u2 (u2 (u2 Im 0 q 0) 1 q 0) 2 q 0) 3 q 0) 4 q 0) 5 q 0) 6 q 0) 7 q 0) 8 q 0) 9 q 0) 10 q 0) 11 q 0) 12 q 0, AIm), AL)) := (va_pl_push hq).trans (va_pl_congr (cn_5 _ q))
  exact kk q hq p e s m args below meth c H1 locs ls C ⟨by rw [← he]; exact hP1, by rw [← he]; exact hD1⟩ hS1 hl
theorem cn_6 (cy : CY) (N9 q x : Nat) : va_up (cE cy ((L, K, AN, R0), (Rc, Ic, AIc, AR), (Im, AIm), AL)) q (.inl (cy.1, N9, .inl (fun _ => 0))) x = cE cy ((L ++ [q], va_up K q 6, va_up AN q N9, R0), (Rc, Ic, va_up AIc q (fun _ => 0), AR), (Im, AIm), AL) x := by
  by_cases hb : x = q
  · subst hb
    simp [va_up, cE]
  · simp [va_up, cE, hb]
theorem newa_6 {i : Int32} (N9 : Nat) (dg : decode M.2.1 pc = .ok (.newarray .int, 2)) (hi : i = nI N9) (h31 : N9 < 2 ^ 20) (hc : k + 1 ≤ M.2.2.2.2.2.2.1) (hs : n + N9 ≤ M.2.2.2.2.2.2.2) (kk : ∀ q : Nat, q ∉ L → WP G M Q (k + 1) (n + N9) (pc + 2) lv (vr (some q) :: st) ((L ++ [q], va_up K q 6, va_up AN q N9, R0), (Rc, Ic, va_up AIc q (fun _ => 0), AR), (Im, AIm), AL)) : WP G M Q k n pc lv (vi i :: st) ((L, K, AN, R0), (Rc, Ic, AIc, AR), (Im, AIm), AL) := by
  subst hi
  intro p e s m args below meth c H locs ls C hh hS hl
  refine va_newa (atype := .int) (ty := .int) (N' := N9) (a0 := (N9, .inl (fun _ => 0))) C.1 C.2.1 (cx_ok C ok_109) rfl (cx_K C) hh.1 hh.2 hS (fun q h => Nat.le_trans C.2.2.2.2.2.2.2.2.2.2.1 h) (fun _ => rfl) (nI_pos (by omega)) (nI_clamp (by omega)) (by show N9 * 4 ≤ 536870912; omega) hc hs dg (fun q cA H1 hK1 hP1 hD1 hS1 => ?_)
  have hA1 := (hK1.2 4 (cA, .int) rfl).2
  have hA2 := (hK1.2 0 (G.2.2.2.1.1, .int) rfl).2
  have hcA : cA = G.2.2.2.1.1 := Option.some.inj (Eq.trans (Eq.symm (show s.vm.findClass _ = some cA from hA1)) hA2)
  subst hcA
  have hq : q ∉ L := va_pl_fresh2 (X := []) hD1
  have he : va_pl L (cE G.2.2.2.1 ((L, K, AN, R0), (Rc, Ic, AIc, AR), (Im, AIm), AL)) ++ [(q, .inl (G.2.2.2.1.1, N9, .inl (fun _ => 0)))] = va_pl (L ++ [q]) (cE G.2.2.2.1 ((L ++ [q], va_up K q 6, va_up AN q N9, R0), (Rc, Ic, va_up AIc q (fun _ => 0), AR), (Im, AIm), AL)) := (va_pl_push hq).trans (va_pl_congr (cn_6 _ N9 q))
  exact kk q hq p e s m args below meth c H1 locs ls C ⟨by rw [← he]; exact hP1, by rw [← he]; exact hD1⟩ hS1 hl
theorem cn_7 (cy : CY) (N9 q x : Nat) : va_up (cE cy ((L, K, AN, R0), (Rc, Ic, AIc, AR), (Im, AIm), AL)) q (.inl (cy.1, N9, .inl (fun _ => 0))) x = cE cy ((L ++ [q], va_up K q 7, va_up AN q N9, R0), (Rc, Ic, AIc, AR), (Im, va_up AIm q (fun _ => 0)), AL) x := by
  by_cases hb : x = q
  · subst hb
    simp [va_up, cE]
  · simp [va_up, cE, hb]
theorem newa_7 {i : Int32} (N9 : Nat) (dg : decode M.2.1 pc = .ok (.newarray .int, 2)) (hi : i = nI N9) (h31 : N9 < 2 ^ 20) (hc : k + 1 ≤ M.2.2.2.2.2.2.1) (hs : n + N9 ≤ M.2.2.2.2.2.2.2) (kk : ∀ q : Nat, q ∉ L → WP G M Q (k + 1) (n + N9) (pc + 2) lv (vr (some q) :: st) ((L ++ [q], va_up K q 7, va_up AN q N9, R0), (Rc, Ic, AIc, AR), (Im, va_up AIm q (fun _ => 0)), AL)) : WP G M Q k n pc lv (vi i :: st) ((L, K, AN, R0), (Rc, Ic, AIc, AR), (Im, AIm), AL) := by
  subst hi
  intro p e s m args below meth c H locs ls C hh hS hl
  refine va_newa (atype := .int) (ty := .int) (N' := N9) (a0 := (N9, .inl (fun _ => 0))) C.1 C.2.1 (cx_ok C ok_109) rfl (cx_K C) hh.1 hh.2 hS (fun q h => Nat.le_trans C.2.2.2.2.2.2.2.2.2.2.1 h) (fun _ => rfl) (nI_pos (by omega)) (nI_clamp (by omega)) (by show N9 * 4 ≤ 536870912; omega) hc hs dg (fun q cA H1 hK1 hP1 hD1 hS1 => ?_)
  have hA1 := (hK1.2 4 (cA, .int) rfl).2
  have hA2 := (hK1.2 0 (G.2.2.2.1.1, .int) rfl).2
  have hcA : cA = G.2.2.2.1.1 := Option.some.inj (Eq.trans (Eq.symm (show s.vm.findClass _ = some cA from hA1)) hA2)
  subst hcA
  have hq : q ∉ L := va_pl_fresh2 (X := []) hD1
  have he : va_pl L (cE G.2.2.2.1 ((L, K, AN, R0), (Rc, Ic, AIc, AR), (Im, AIm), AL)) ++ [(q, .inl (G.2.2.2.1.1, N9, .inl (fun _ => 0)))] = va_pl (L ++ [q]) (cE G.2.2.2.1 ((L ++ [q], va_up K q 7, va_up AN q N9, R0), (Rc, Ic, AIc, AR), (Im, va_up AIm q (fun _ => 0)), AL)) := (va_pl_push hq).trans (va_pl_congr (cn_7 _ N9 q))
  exact kk q hq p e s m args below meth c H1 locs ls C ⟨by rw [← he]; exact hP1, by rw [← he]; exact hD1⟩ hS1 hl
theorem cn_8 (cy : CY) (N9 q x : Nat) : va_up (cE cy ((L, K, AN, R0), (Rc, Ic, AIc, AR), (Im, AIm), AL)) q (.inl (cy.2.1, N9, .inl (fun _ => 0))) x = cE cy ((L ++ [q], va_up K q 8, va_up AN q N9, R0), (Rc, Ic, AIc, AR), (Im, va_up AIm q (fun _ => 0)), AL) x := by
  by_cases hb : x = q
  · subst hb
    simp [va_up, cE]
  · simp [va_up, cE, hb]
theorem newa_8 {i : Int32} (N9 : Nat) (dg : decode M.2.1 pc = .ok (.newarray .boolean, 2)) (hi : i = nI N9) (h31 : N9 < 2 ^ 20) (hc : k + 1 ≤ M.2.2.2.2.2.2.1) (hs : n + N9 ≤ M.2.2.2.2.2.2.2) (kk : ∀ q : Nat, q ∉ L → WP G M Q (k + 1) (n + N9) (pc + 2) lv (vr (some q) :: st) ((L ++ [q], va_up K q 8, va_up AN q N9, R0), (Rc, Ic, AIc, AR), (Im, va_up AIm q (fun _ => 0)), AL)) : WP G M Q k n pc lv (vi i :: st) ((L, K, AN, R0), (Rc, Ic, AIc, AR), (Im, AIm), AL) := by
  subst hi
  intro p e s m args below meth c H locs ls C hh hS hl
  refine va_newa (atype := .boolean) (ty := .boolean) (N' := N9) (a0 := (N9, .inl (fun _ => 0))) C.1 C.2.1 (cx_ok C ok_717) rfl (cx_K C) hh.1 hh.2 hS (fun q h => Nat.le_trans C.2.2.2.2.2.2.2.2.2.2.1 h) (fun _ => rfl) (nI_pos (by omega)) (nI_clamp (by omega)) (by show N9 * 1 ≤ 536870912; omega) hc hs dg (fun q cA H1 hK1 hP1 hD1 hS1 => ?_)
  have hA1 := (hK1.2 4 (cA, .boolean) rfl).2
  have hA2 := (hK1.2 1 (G.2.2.2.1.2.1, .boolean) rfl).2
  have hcA : cA = G.2.2.2.1.2.1 := Option.some.inj (Eq.trans (Eq.symm (show s.vm.findClass _ = some cA from hA1)) hA2)
  subst hcA
  have hq : q ∉ L := va_pl_fresh2 (X := []) hD1
  have he : va_pl L (cE G.2.2.2.1 ((L, K, AN, R0), (Rc, Ic, AIc, AR), (Im, AIm), AL)) ++ [(q, .inl (G.2.2.2.1.2.1, N9, .inl (fun _ => 0)))] = va_pl (L ++ [q]) (cE G.2.2.2.1 ((L ++ [q], va_up K q 8, va_up AN q N9, R0), (Rc, Ic, AIc, AR), (Im, va_up AIm q (fun _ => 0)), AL)) := (va_pl_push hq).trans (va_pl_congr (cn_8 _ N9 q))
  exact kk q hq p e s m args below meth c H1 locs ls C ⟨by rw [← he]; exact hP1, by rw [← he]; exact hD1⟩ hS1 hl
theorem cn_10 (cy : CY) (N9 q x : Nat) : va_up (cE cy ((L, K, AN, R0), (Rc, Ic, AIc, AR), (Im, AIm), AL)) q (.inl (cy.2.2.2, N9, .inr (.inl (fun _ => 0)))) x = cE cy ((L ++ [q], va_up K q 10, va_up AN q N9, R0), (Rc, Ic, AIc, AR), (Im, AIm), va_up AL q (fun _ => 0)) x := by
  by_cases hb : x = q
  · subst hb
    simp [va_up, cE]
  · simp [va_up, cE, hb]
theorem newa_10 {i : Int32} (N9 : Nat) (dg : decode M.2.1 pc = .ok (.newarray .long, 2)) (hi : i = nI N9) (h31 : N9 < 2 ^ 20) (hc : k + 1 ≤ M.2.2.2.2.2.2.1) (hs : n + N9 ≤ M.2.2.2.2.2.2.2) (kk : ∀ q : Nat, q ∉ L → WP G M Q (k + 1) (n + N9) (pc + 2) lv (vr (some q) :: st) ((L ++ [q], va_up K q 10, va_up AN q N9, R0), (Rc, Ic, AIc, AR), (Im, AIm), va_up AL q (fun _ => 0))) : WP G M Q k n pc lv (vi i :: st) ((L, K, AN, R0), (Rc, Ic, AIc, AR), (Im, AIm), AL) := by
  subst hi
  intro p e s m args below meth c H locs ls C hh hS hl
  refine va_newa (atype := .long) (ty := .long) (N' := N9) (a0 := (N9, .inr (.inl (fun _ => 0)))) C.1 C.2.1 (cx_ok C ok_948) rfl (cx_K C) hh.1 hh.2 hS (fun q h => Nat.le_trans C.2.2.2.2.2.2.2.2.2.2.1 h) (fun _ => rfl) (nI_pos (by omega)) (nI_clamp (by omega)) (by show N9 * 8 ≤ 536870912; omega) hc hs dg (fun q cA H1 hK1 hP1 hD1 hS1 => ?_)
  have hA1 := (hK1.2 4 (cA, .long) rfl).2
  have hA2 := (hK1.2 3 (G.2.2.2.1.2.2.2, .long) rfl).2
  have hcA : cA = G.2.2.2.1.2.2.2 := Option.some.inj (Eq.trans (Eq.symm (show s.vm.findClass _ = some cA from hA1)) hA2)
  subst hcA
  have hq : q ∉ L := va_pl_fresh2 (X := []) hD1
  have he : va_pl L (cE G.2.2.2.1 ((L, K, AN, R0), (Rc, Ic, AIc, AR), (Im, AIm), AL)) ++ [(q, .inl (G.2.2.2.1.2.2.2, N9, .inr (.inl (fun _ => 0))))] = va_pl (L ++ [q]) (cE G.2.2.2.1 ((L ++ [q], va_up K q 10, va_up AN q N9, R0), (Rc, Ic, AIc, AR), (Im, AIm), va_up AL q (fun _ => 0))) := (va_pl_push hq).trans (va_pl_congr (cn_10 _ N9 q))
  exact kk q hq p e s m args below meth c H1 locs ls C ⟨by rw [← he]; exact hP1, by rw [← he]; exact hD1⟩ hS1 hl
theorem cn_9 (cy : CY) (N9 q x : Nat) : va_up (cE cy ((L, K, AN, R0), (Rc, Ic, AIc, AR), (Im, AIm), AL)) q (.inl (cy.2.2.1, N9, .inr (.inr (.inr (.inr (fun _ => none)))))) x = cE cy ((L ++ [q], va_up K q 9, va_up AN q N9, R0), (Rc, Ic, AIc, va_up AR q (fun _ => none)), (Im, AIm), AL) x := by
  by_cases hb : x = q
  · subst hb
    simp [va_up, cE]
  · simp [va_up, cE, hb]
theorem ao_9 : Cond.arrayOver (.object RX0) ∈ lw_tbl := List.mem_of_getElem? (i := 95) (by decide +kernel)
theorem newa_9 {i : Int32} {idx : Nat} (N9 : Nat) (dg : decode M.2.1 pc = .ok (.anewarray idx, 3)) (hcl : okw (.classLink M.1.cls idx RX0)) (hi : i = nI N9) (h31 : N9 < 2 ^ 20) (hc : k + 1 ≤ M.2.2.2.2.2.2.1) (hs : n + N9 ≤ M.2.2.2.2.2.2.2) (kk : ∀ q : Nat, q ∉ L → WP G M Q (k + 1) (n + N9) (pc + 3) lv (vr (some q) :: st) ((L ++ [q], va_up K q 9, va_up AN q N9, R0), (Rc, Ic, AIc, va_up AR q (fun _ => none)), (Im, AIm), AL)) : WP G M Q k n pc lv (vi i :: st) ((L, K, AN, R0), (Rc, Ic, AIc, AR), (Im, AIm), AL) := by
  subst hi
  intro p e s m args below meth c H locs ls C hh hS hl
  refine va_newq (N' := N9) C.1 C.2.1 C.2.2.2.2.2.1 (cx_ok C hcl) (va_AO.moved C.2.2.2.2.2.2.2.2.2.1.alike (va_AO.of (C.2.2.2.2.2.2.2.2.1.2.1 _ ao_9))) (cx_K C) hh.1 hh.2 hS (fun q h => Nat.le_trans C.2.2.2.2.2.2.2.2.2.2.1 h) (nI_pos (by omega)) (nI_clamp (by omega)) (by omega) hc hs dg (fun q cA H1 hK1 hP1 hD1 hS1 => ?_)
  have hA1 := (hK1.2 4 (cA, .object RX0) rfl).2
  have hA2 := (hK1.2 2 (G.2.2.2.1.2.2.1, .object RX0) rfl).2
  obtain ⟨_, _, _, _, _, h1⟩ := hA1
  obtain ⟨_, _, _, _, _, h2⟩ := hA2
  have hcA : cA = G.2.2.2.1.2.2.1 := Option.some.inj (Eq.trans (Eq.symm h1) h2)
  subst hcA
  have hq : q ∉ L := va_pl_fresh2 (X := []) hD1
  have he : va_pl L (cE G.2.2.2.1 ((L, K, AN, R0), (Rc, Ic, AIc, AR), (Im, AIm), AL)) ++ [(q, .inl (G.2.2.2.1.2.2.1, N9, .inr (.inr (.inr (.inr (fun _ => none))))))] = va_pl (L ++ [q]) (cE G.2.2.2.1 ((L ++ [q], va_up K q 9, va_up AN q N9, R0), (Rc, Ic, AIc, va_up AR q (fun _ => none)), (Im, AIm), AL)) := (va_pl_push hq).trans (va_pl_congr (cn_9 _ N9 q))
  exact kk q hq p e s m args below meth c H1 locs ls C ⟨by rw [← he]; exact hP1, by rw [← he]; exact hD1⟩ hS1 hl
theorem WP_obj {idx a : Nat} {S : SS} (dg : decode M.2.1 pc = .ok (.invokespecial idx, 3)) (hlk : okw (.methodLink M.1.cls idx objectInit)) (hd : 1 ≤ M.2.2.2.2.2.1) (hrest : argsSz st ≤ 8) (kk : WP G M Q k n (pc + 3) lv st S) : WP G M Q k n pc lv (vr (some a) :: st) S := fun p e s m args below meth c H locs ls C hh hS hl =>
  W.objInit C.1 C.2.1 C.2.2.2.2.2.1 (cx_ok C hlk) (cx_ok C ok_57) (cx_ok C ok_58) (g := F0 m pc ls ((vr (some a) :: st).map toV)) rfl (hl.1.trans C.2.2.2.2.1.symm) rfl dg hd (by show 2 * 0 + ((st.map toV).map fun v => v.category).sum + 12 ≤ 36 * M.2.2.2.2.2.1; rw [catSum]; omega) (kk p e s m args below meth c H locs ls C hh hS hl)
theorem MT.met {Z : MD} {av : List VV} {S : SS} {Qz : RS → SS → Prop} (h : MT G Z av S Qz) (hq : ∀ E S', ¬ Qz (.inr E) S') : Met G.1 Z.1 [mw Z] (rmOf Z) (PC G av S) (QC G Qz) Z.2.2.2.2.2.2.1 Z.2.2.2.2.2.2.2 (AA G.2.1) := by
  intro p e ha hc hk s m args below hf happ hP hK
  obtain ⟨n1, o, h1, h2, h3, h4⟩ := h p e ha hc hk s m args below hf happ hP hK
  refine ⟨n1, o, h1, h2, h3, ?_⟩
  rcases h4 with h4 | ⟨q, e1, E, ce, L, ⟨S', hq', e2⟩, e3⟩
  · exact h4
  · exact absurd hq' (hq E S')
theorem W_afterM {p : Program} {e : Env} {R : Room} {s : State} {m : MethodId} {args : Array Value} {below : List Frame} {meth : Method} {c : Code} {H : Heap} {locs : List Loc} {ls : Array Slot} {mc ms : Nat} {Qz : RS → SS → Prop} {a9 : Array Value} {Qf : State → Prop} {st0 : List Value}
    (hr : va_Run p G.1 e R s m args below meth c H locs k n mc ms (F0 m pc ls st0) (rest.map toV) (QC G Qz a9) (AA G.2.1)) (hS : va_S (AA G.2.1) s.heap H locs)
    (kret : ∀ (v : Option VV) (S' : SS) (H1 : Heap) (locs1 : List Loc), Qz (.inl v) S' → HH G S' H1 → va_S (AA G.2.1) s.heap H1 locs1 → W p G.1 e R s m args below meth c H1 locs1 (k + mc) (n + ms) Qf (F0 m (pc + 3) ls ((v.toList ++ rest).map toV))) :
    W p G.1 e R s m args below meth c H locs k n Qf (F0 m pc ls st0) := by
  intro T hT X
  obtain ⟨v, st₀, t, T', L, h0, X', hL, e1, e2, ⟨v', S', hv, hq, hh', hF⟩, st⟩ := hr T hT X
  cases hv
  obtain ⟨k1, k2, k3⟩ := vx_keep h0 e1 hS (fun _ _ h => h) (fun _ h => h) hL hF
  obtain ⟨t2, a1, b1⟩ := kret v' S' T'.heap (locs ++ L) hq (by rw [e1]; exact hh') k3 T' rfl X'
  refine ⟨t2, st t2 ?_, b1⟩
  cases v' <;> exact a1
theorem WP_callI (Z : MD) {na idx a : Nat} {As : List VV} {S : SS} {Qz : RS → SS → Prop} (dg : decode M.2.1 pc = .ok (.invokespecial idx, 3)) (hz : okw (mw Z) ∧ okw (.instanceMethod Z.1) ∧ okw (.initialized Z.1.cls)) (htb : Z.2.2.2.2.1 = []) (hret : Z.2.2.2.1 = none) (hnm : Z.1.name = "<init>") (hd : (Z.1.cls ≠ "java/lang/invoke/MethodHandle" ∧ Z.1.cls ≠ "java/lang/invoke/VarHandle") ∧ (parseMethodDescriptor Z.1.desc).map (fun d => d.parameters.length) = some na) (hl9 : okw (.methodLink M.1.cls idx Z.1)) (hR : okR M Z)
    (hst : st = As.reverse ++ vr (some a) :: rest) (hn : As.length = na) (hrest : argsSz rest ≤ 8) (hc : k + Z.2.2.2.2.2.2.1 ≤ M.2.2.2.2.2.2.1) (hsl : n + Z.2.2.2.2.2.2.2 ≤ M.2.2.2.2.2.2.2)
    (hM : MT G Z (vr (some a) :: As) S Qz) (hq : ∀ E S', ¬ Qz (.inr E) S')
    (kret : ∀ (v : Option VV) (S' : SS), Qz (.inl v) S' → WP G M Q (k + Z.2.2.2.2.2.2.1) (n + Z.2.2.2.2.2.2.2) (pc + 3) lv (v.toList ++ rest) S') :
    WP G M Q k n pc lv st S := by
  subst hst
  intro p e s m args below meth c H locs ls C hh hS hl
  obtain ⟨z1, z2, z4⟩ := hz
  have hw : mw Z = .code Z.1 Z.2.1 Z.2.2.1 none := by unfold mw; rw [htb, hret]
  have h0 : ((As.reverse ++ vr (some a) :: rest).map toV) = (As.map toV).reverse ++ Value.ref a :: rest.map toV := by
    rw [List.map_append, List.map_reverse]
    rfl
  rw [h0]
  refine W_afterM (mc := Z.2.2.2.2.2.2.1) (ms := Z.2.2.2.2.2.2.2) (rest := rest) (Qz := Qz) (va_runI (y := Z.1) (bytes := Z.2.1) (maxL := Z.2.2.1) (ws := [mw Z]) (rm := rmOf Z) (n := na) (Ts := []) (own := M.1.cls) (nL := M.2.2.1) (As := As.map toV)
    ⟨C.1, C.2.1, C.2.2.2.2.1, C.2.2.2.2.2.1, fun w h => absurd h List.not_mem_nil⟩ (hM.met hq)
    ⟨⟨rfl, rfl, hR.1, hR.2, fun w hw9 a' U hW => by rw [List.mem_singleton.mp hw9]; exact okw_at (s := s) C.2.2.2.2.2.2.2.2.1 (State.WarmedH.trans C.2.2.2.2.2.2.2.2.2.1 hW) z1, by rw [hw]; exact List.mem_singleton.mpr rfl, by rw [← hw]; exact cx_ok C z1, cx_ok C z4, hd.1, nArgs hd.2, cx_ok C hl9⟩, hnm, cx_ok C z2⟩
    ⟨PC_blind, fun U hU hW => PC_of C hh hS hU hW⟩ rfl (by rw [List.length_map]; exact hn) hl.1 rfl (lv_room (by rw [catSum]; exact hrest)) dg ⟨hc, hsl⟩) hS
    (fun v S' H1 locs1 hq hh1 hS1 => kret v S' hq p e s m args below meth c H1 locs1 ls C hh1 hS1 hl)
/-- .. of a nest mate's private constructor -/
theorem WP_callIN (Z : MD) {na idx a : Nat} {host : String} {As : List VV} {S : SS} {Qz : RS → SS → Prop} (dg : decode M.2.1 pc = .ok (.invokespecial idx, 3)) (hz : okw (mw Z) ∧ okw (.instanceMethod Z.1) ∧ okw (.initialized Z.1.cls)) (htb : Z.2.2.2.2.1 = []) (hret : Z.2.2.2.1 = none) (hnm : Z.1.name = "<init>") (hd : (Z.1.cls ≠ "java/lang/invoke/MethodHandle" ∧ Z.1.cls ≠ "java/lang/invoke/VarHandle") ∧ (parseMethodDescriptor Z.1.desc).map (fun d => d.parameters.length) = some na) (hl9 : Cond.methodLinkNest M.1.cls idx Z.1 host ∈ lw_tbl) (hR : okR M Z)
    (hst : st = As.reverse ++ vr (some a) :: rest) (hn : As.length = na) (hrest : argsSz rest ≤ 8) (hc : k + Z.2.2.2.2.2.2.1 ≤ M.2.2.2.2.2.2.1) (hsl : n + Z.2.2.2.2.2.2.2 ≤ M.2.2.2.2.2.2.2)
    (hM : MT G Z (vr (some a) :: As) S Qz) (hq : ∀ E S', ¬ Qz (.inr E) S')
    (kret : ∀ (v : Option VV) (S' : SS), Qz (.inl v) S' → WP G M Q (k + Z.2.2.2.2.2.2.1) (n + Z.2.2.2.2.2.2.2) (pc + 3) lv (v.toList ++ rest) S') :
    WP G M Q k n pc lv st S := by
  subst hst
  intro p e s m args below meth c H locs ls C hh hS hl
  obtain ⟨z1, z2, z4⟩ := hz
  have hw : mw Z = .code Z.1 Z.2.1 Z.2.2.1 none := by unfold mw; rw [htb, hret]
  have h0 : ((As.reverse ++ vr (some a) :: rest).map toV) = (As.map toV).reverse ++ Value.ref a :: rest.map toV := by
    rw [List.map_append, List.map_reverse]
    rfl
  rw [h0]
  refine W_afterM (mc := Z.2.2.2.2.2.2.1) (ms := Z.2.2.2.2.2.2.2) (rest := rest) (Qz := Qz) (va_runIN (y := Z.1) (bytes := Z.2.1) (maxL := Z.2.2.1) (ws := [mw Z]) (rm := rmOf Z) (n := na) (Ts := []) (own := M.1.cls) (host := host) (nL := M.2.2.1) (As := As.map toV)
    ⟨C.1, C.2.1, C.2.2.2.2.1, C.2.2.2.2.2.1, fun w h => absurd h List.not_mem_nil⟩ (hM.met hq)
    ⟨⟨⟨rfl, rfl, hR.1, hR.2, fun w hw9 a' U hW => by rw [List.mem_singleton.mp hw9]; exact okw_at (s := s) C.2.2.2.2.2.2.2.2.1 (State.WarmedH.trans C.2.2.2.2.2.2.2.2.2.1 hW) z1, by rw [hw]; exact List.mem_singleton.mpr rfl⟩, by rw [← hw]; exact cx_ok C z1, cx_ok C z4, hd.1, nArgs hd.2, va_Nw.use rfl (va_Nw.warmM C.2.2.2.2.2.2.2.2.2.1 (va_Nw.of rfl (C.2.2.2.2.2.2.2.2.1.2.1 _ hl9)))⟩, hnm, cx_ok C z2⟩
    ⟨PC_blind, fun U hU hW => PC_of C hh hS hU hW⟩ rfl (by rw [List.length_map]; exact hn) hl.1 rfl (lv_room (by rw [catSum]; exact hrest)) dg ⟨hc, hsl⟩) hS
    (fun v S' H1 locs1 hq hh1 hS1 => kret v S' hq p e s m args below meth c H1 locs1 ls C hh1 hS1 hl)
theorem WP_max {idx : Nat} {x y : Int32} {S : SS} (dg : decode M.2.1 pc = .ok (.invokestatic idx, 3)) (hlk : okw (.methodLink M.1.cls idx Lib.Math.max.name)) (hd : 1 ≤ M.2.2.2.2.2.1) (hrest : argsSz st ≤ 8) (h1 : k ≤ M.2.2.2.2.2.2.1) (h2 : n ≤ M.2.2.2.2.2.2.2) (kk : WP G M Q k n (pc + 3) lv (vi (if x < y then y else x) :: st) S) : WP G M Q k n pc lv (vi y :: vi x :: st) S := fun p e s m args below meth c H locs ls C hh hS hl =>
  va_mmax C.1 C.2.1 (C.2.2.2.2.1.trans hl.1.symm) C.2.2.2.2.2.1 (cx_ok C hlk) (cx_ok C ok_211) (cx_ok C ok_50) (cx_ok C ok_212) hd (by show ((st.map toV).map fun v => v.category).sum + 13 ≤ 36 * M.2.2.2.2.2.1; rw [catSum]; omega) h1 h2 dg (kk p e s m args below meth c H locs ls C hh hS hl)
theorem WP_min {idx : Nat} {x y : Int32} {S : SS} (dg : decode M.2.1 pc = .ok (.invokestatic idx, 3)) (hlk : okw (.methodLink M.1.cls idx Lib.Math.min.name)) (hd : 1 ≤ M.2.2.2.2.2.1) (hrest : argsSz st ≤ 8) (h1 : k ≤ M.2.2.2.2.2.2.1) (h2 : n ≤ M.2.2.2.2.2.2.2) (kk : WP G M Q k n (pc + 3) lv (vi (if y < x then y else x) :: st) S) : WP G M Q k n pc lv (vi y :: vi x :: st) S := fun p e s m args below meth c H locs ls C hh hS hl =>
  va_mmin C.1 C.2.1 (C.2.2.2.2.1.trans hl.1.symm) C.2.2.2.2.2.1 (cx_ok C hlk) (cx_ok C ok_538) (cx_ok C ok_50) (cx_ok C ok_539) hd (by show ((st.map toV).map fun v => v.category).sum + 13 ≤ 36 * M.2.2.2.2.2.1; rw [catSum]; omega) h1 h2 dg (kk p e s m args below meth c H locs ls C hh hS hl)
end HPR
end
section
/-! ===== throw new E("text") ===== -/
section THR
variable {G : GC} {M : MD} {Q : RS → SS → Prop} {k n pc : Nat} {lv : List (Nat × VV)} {st : List VV} {S : SS}
abbrev exD : List Cond := [.declares (Bundle.initS "java/lang/RuntimeException"), .declares (Bundle.initS "java/lang/Exception"), .declares (Bundle.initS "java/lang/Throwable")]
theorem exD_ok : ∀ w ∈ exD, w ∈ lw_tbl := by decide +kernel
theorem exD_d : ∀ w ∈ exD, ∃ x, w = Cond.declares x := by
  intro w hw
  rcases List.mem_cons.mp hw with rfl | hw
  · exact ⟨_, rfl⟩
  · rcases List.mem_cons.mp hw with rfl | hw
    · exact ⟨_, rfl⟩
    · exact ⟨_, List.mem_singleton.mp hw⟩
abbrev exN : List String := ["java/lang/RuntimeException", "java/lang/Exception"]
theorem sr_225 : Cond.stringRef RX4 225 "no such position" ∈ lw_tbl := List.mem_of_getElem? (i := 268) (by decide +kernel)
theorem sx_225 (hG : G0 G) : (Cond.exactly (.string RX4 225) "java/lang/String").before #[Value.ref G.2.2.2.2] G.2.1 = true := flat_of_before _ hG.2.2.2 _ (by decide +kernel)
theorem sr_232 : Cond.stringRef RX4 232 "a value or an amount is out of range" ∈ lw_tbl := List.mem_of_getElem? (i := 307) (by decide +kernel)
theorem sx_232 (hG : G0 G) : (Cond.exactly (.string RX4 232) "java/lang/String").before #[Value.ref G.2.2.2.2] G.2.1 = true := flat_of_before _ hG.2.2.2 _ (by decide +kernel)
theorem sr_61 : Cond.stringRef RX4 61 "the sequence and the clipboard are full" ∈ lw_tbl := List.mem_of_getElem? (i := 323) (by decide +kernel)
theorem sx_61 (hG : G0 G) : (Cond.exactly (.string RX4 61) "java/lang/String").before #[Value.ref G.2.2.2.2] G.2.1 = true := flat_of_before _ hG.2.2.2 _ (by decide +kernel)
theorem sr_228 : Cond.stringRef RX4 228 "no such range" ∈ lw_tbl := List.mem_of_getElem? (i := 474) (by decide +kernel)
theorem sx_228 (hG : G0 G) : (Cond.exactly (.string RX4 228) "java/lang/String").before #[Value.ref G.2.2.2.2] G.2.1 = true := flat_of_before _ hG.2.2.2 _ (by decide +kernel)
theorem sr_150 : Cond.stringRef RX4 150 "an empty range has no least value" ∈ lw_tbl := List.mem_of_getElem? (i := 532) (by decide +kernel)
theorem sx_150 (hG : G0 G) : (Cond.exactly (.string RX4 150) "java/lang/String").before #[Value.ref G.2.2.2.2] G.2.1 = true := flat_of_before _ hG.2.2.2 _ (by decide +kernel)
theorem sr_156 : Cond.stringRef RX4 156 "the clipboard is not empty" ∈ lw_tbl := List.mem_of_getElem? (i := 547) (by decide +kernel)
theorem sx_156 (hG : G0 G) : (Cond.exactly (.string RX4 156) "java/lang/String").before #[Value.ref G.2.2.2.2] G.2.1 = true := flat_of_before _ hG.2.2.2 _ (by decide +kernel)
theorem sr_230 : Cond.stringRef RX4 230 "no such finger" ∈ lw_tbl := List.mem_of_getElem? (i := 574) (by decide +kernel)
theorem sx_230 (hG : G0 G) : (Cond.exactly (.string RX4 230) "java/lang/String").before #[Value.ref G.2.2.2.2] G.2.1 = true := flat_of_before _ hG.2.2.2 _ (by decide +kernel)
theorem sr_176 : Cond.stringRef RX4 176 "the finger is not on a node of the sequence" ∈ lw_tbl := List.mem_of_getElem? (i := 597) (by decide +kernel)
theorem sx_176 (hG : G0 G) : (Cond.exactly (.string RX4 176) "java/lang/String").before #[Value.ref G.2.2.2.2] G.2.1 = true := flat_of_before _ hG.2.2.2 _ (by decide +kernel)
theorem sr_178 : Cond.stringRef RX4 178 "there is no such new position" ∈ lw_tbl := List.mem_of_getElem? (i := 598) (by decide +kernel)
theorem sx_178 (hG : G0 G) : (Cond.exactly (.string RX4 178) "java/lang/String").before #[Value.ref G.2.2.2.2] G.2.1 = true := flat_of_before _ hG.2.2.2 _ (by decide +kernel)
theorem cst_O : Cond.castable "java/lang/IndexOutOfBoundsException" "java/lang/IndexOutOfBoundsException" ∈ lw_tbl := List.mem_of_getElem? (i := 229) (by decide +kernel)
theorem tw_O : ∀ w ∈ vx_atS RX4 227 "java/lang/IndexOutOfBoundsException" exN, (w ∈ lw_tbl ∧ goodWord w = true) ∨ w = .castable "java/lang/IndexOutOfBoundsException" "java/lang/IndexOutOfBoundsException" ∨ w ∈ exD := by decide +kernel
theorem to_O : ∀ w ∈ Cond.classLink RX4 223 "java/lang/IndexOutOfBoundsException" :: Cond.initialized "java/lang/IndexOutOfBoundsException" :: vx_atS RX4 227 "java/lang/IndexOutOfBoundsException" exN, vx_ot w = true := by decide +kernel
theorem ok_46 : okw (.initialized "java/lang/IndexOutOfBoundsException") := ⟨List.mem_of_getElem? (i := 46) (by decide +kernel), by decide +kernel⟩
theorem cst_A : Cond.castable "java/lang/IllegalArgumentException" "java/lang/IllegalArgumentException" ∈ lw_tbl := List.mem_of_getElem? (i := 300) (by decide +kernel)
theorem tw_A : ∀ w ∈ vx_atS RX4 152 "java/lang/IllegalArgumentException" exN, (w ∈ lw_tbl ∧ goodWord w = true) ∨ w = .castable "java/lang/IllegalArgumentException" "java/lang/IllegalArgumentException" ∨ w ∈ exD := by decide +kernel
theorem to_A : ∀ w ∈ Cond.classLink RX4 148 "java/lang/IllegalArgumentException" :: Cond.initialized "java/lang/IllegalArgumentException" :: vx_atS RX4 152 "java/lang/IllegalArgumentException" exN, vx_ot w = true := by decide +kernel
theorem ok_47 : okw (.initialized "java/lang/IllegalArgumentException") := ⟨List.mem_of_getElem? (i := 47) (by decide +kernel), by decide +kernel⟩
theorem cst_S : Cond.castable "java/lang/IllegalStateException" "java/lang/IllegalStateException" ∈ lw_tbl := List.mem_of_getElem? (i := 316) (by decide +kernel)
theorem tw_S : ∀ w ∈ vx_atS RX4 63 "java/lang/IllegalStateException" exN, (w ∈ lw_tbl ∧ goodWord w = true) ∨ w = .castable "java/lang/IllegalStateException" "java/lang/IllegalStateException" ∨ w ∈ exD := by decide +kernel
theorem to_S : ∀ w ∈ Cond.classLink RX4 59 "java/lang/IllegalStateException" :: Cond.initialized "java/lang/IllegalStateException" :: vx_atS RX4 63 "java/lang/IllegalStateException" exN, vx_ot w = true := by decide +kernel
theorem ok_48 : okw (.initialized "java/lang/IllegalStateException") := ⟨List.mem_of_getElem? (i := 48) (by decide +kernel), by decide +kernel⟩
theorem zq_UNASSIGNED_STACK (hG : G0 G) : vx_Zq Bundle.tN "UNASSIGNED_STACK" Bundle.steD (AA G.2.1) G.2.1 G.2.1.heap := vx_Zqof (hG.2.1 _ (List.mem_of_getElem? (i := 254) (by decide +kernel))) (hG.2.1 _ (List.mem_of_getElem? (i := 43) (by decide +kernel))) (flat_of_before _ hG.2.2.2 _ (by decide +kernel)) (fun a h => Nat.not_le.mpr h)
theorem cz_UNASSIGNED_STACK {p : Program} {s : State} {m : MethodId} {meth : Method} {c : Code} (C : Cx G p M s m meth c) : vx_Zq Bundle.tN "UNASSIGNED_STACK" Bundle.steD (AA G.2.1) s s.heap := vx_Zq.moved C.2.2.2.2.2.2.2.2.2.1.alike (vx_Zq.kept (zq_UNASSIGNED_STACK C.2.2.2.2.2.2.2.2.1) (fun a h _ => C.2.2.2.2.2.2.2.2.2.2.2 a h))
theorem zq_SUPPRESSED_SENTINEL (hG : G0 G) : vx_Zq Bundle.tN "SUPPRESSED_SENTINEL" Bundle.listD (AA G.2.1) G.2.1 G.2.1.heap := vx_Zqof (hG.2.1 _ (List.mem_of_getElem? (i := 256) (by decide +kernel))) (hG.2.1 _ (List.mem_of_getElem? (i := 43) (by decide +kernel))) (flat_of_before _ hG.2.2.2 _ (by decide +kernel)) (fun a h => Nat.not_le.mpr h)
theorem cz_SUPPRESSED_SENTINEL {p : Program} {s : State} {m : MethodId} {meth : Method} {c : Code} (C : Cx G p M s m meth c) : vx_Zq Bundle.tN "SUPPRESSED_SENTINEL" Bundle.listD (AA G.2.1) s s.heap := vx_Zq.moved C.2.2.2.2.2.2.2.2.2.1.alike (vx_Zq.kept (zq_SUPPRESSED_SENTINEL C.2.2.2.2.2.2.2.2.1) (fun a h _ => C.2.2.2.2.2.2.2.2.2.2.2 a h))
theorem WP_throw (cls text : String) (ik is ic : Nat) (hM : M.1.cls = RX4) (htb : M.2.2.2.2.1 = []) (hfit : Bundle.fit cls = true)
    (hkl : okw (.classLink RX4 ik cls)) (hkl2 : okw (.initialized cls)) (hsr : Cond.stringRef RX4 is text ∈ lw_tbl) (hsx : G0 G → (Cond.exactly (.string RX4 is) "java/lang/String").before #[Value.ref G.2.2.2.2] G.2.1 = true)
    (htw : ∀ w ∈ vx_atS RX4 ic cls exN, (w ∈ lw_tbl ∧ goodWord w = true) ∨ w = .castable cls cls ∨ w ∈ exD) (hto : ∀ w ∈ Cond.classLink RX4 ik cls :: Cond.initialized cls :: vx_atS RX4 ic cls exN, vx_ot w = true) (hcst : Cond.castable cls cls ∈ lw_tbl)
    (d0 : decode M.2.1 pc = .ok (.new ik, 3)) (d3 : decode M.2.1 (pc + 3) = .ok (.dup, 1)) (d4 : decode M.2.1 (pc + 4) = .ok (.ldc is, 2)) (d6 : decode M.2.1 (pc + 6) = .ok (.invokespecial ic, 3)) (d9 : decode M.2.1 (pc + 9) = .ok (.athrow, 1))
    (hd : 6 ≤ M.2.2.2.2.2.1) (hrest : argsSz st ≤ 8) (hc : k + 1 ≤ M.2.2.2.2.2.2.1) (hs : n + 6 ≤ M.2.2.2.2.2.2.2) (hq : Q (.inr cls) S) : WP G M Q k n pc lv st S := by
  intro p e s m args below meth c H locs ls C hh hS hl
  have hG := C.2.2.2.2.2.2.2.2.1
  have hW := C.2.2.2.2.2.2.2.2.2.1
  have hown := C.2.2.2.2.2.1
  rw [hM] at hown
  have htl : G.1.stackTraces = false := by
    unfold Launch.stackTraces
    rw [hG.1]
    decide +kernel
  obtain ⟨sa, _, _, _, q1, _⟩ := Cond.exactly_spec (hsx hG)
  have hR : vk_R RX4 is text sa s := vk_R.warm hW (vk_R.of (A := #[Value.ref G.2.2.2.2]) (hG.2.1 _ hsr) q1)
  refine vx_throwS (ik := ik) (is := is) (ic := ic) (names := exN) (A := AA G.2.1) C.1 C.2.1 htl hown hfit (by decide) (cx_ok C hkl) (cx_ok C hkl2) hR (fun w hw => ?_) hto (cz_UNASSIGNED_STACK C) (cz_SUPPRESSED_SENTINEL C) hS (hl.1.trans C.2.2.2.2.1.symm) d0 d3 d4 d6 d9 (fun x hx => ?_) (by show 2 + 3 < M.2.2.2.2.2.1; omega) (by
      show _ ≤ 36 * M.2.2.2.2.2.1
      rw [catSum]
      show argsSz st + (13 * (2 + 1) + 43) ≤ 36 * M.2.2.2.2.2.1
      omega) hc hs C.2.2.2.1 (fun t hA h1 h2 => ⟨S, hq, ⟨hh.1.kept (fun j q hj => h2 q.1 (hh.1 j q hj).lt), hh.2⟩, ⟨Nat.le_trans hS.1 h1, fun q g1 g2 => (h2 q (Nat.lt_of_lt_of_le g1 hS.1)).trans (hS.2.1 q g1 g2)⟩⟩) hS.2.2 hc hs
  · rcases htw w hw with ⟨h1, h2⟩ | h | h
    · exact cx_w C h1 h2
    · rw [h]
      exact va_Nw.use rfl (va_Nw.warmC hW (va_Nw.of rfl (hG.2.1 _ hcst)))
    · obtain ⟨x, rfl⟩ := exD_d w h
      exact va_Nw.use rfl (va_Nw.warmD hW (va_Nw.of rfl (hG.2.1 _ (exD_ok _ h))))
  · have h9 := C.2.2.2.2.2.2.2.1
    rw [htb] at h9
    rw [h9] at hx
    cases hx
end THR
end
section
/-! ===== posts by their kind of answer; calls of methods that never throw ===== -/
def rI (p : Int32 → SS → Prop) : RS → SS → Prop := fun r S' => ∃ x : Int32, r = .inl (some (vi x)) ∧ p x S'
def rV (p : SS → Prop) : RS → SS → Prop := fun r S' => r = .inl none ∧ p S'
def rR (p : Option Nat → SS → Prop) : RS → SS → Prop := fun r S' => ∃ o : Option Nat, r = .inl (some (vr o)) ∧ p o S'
/-- it may throw: the classes, by what holds then -/
def rT (q : RS → SS → Prop) (t : String → SS → Prop) : RS → SS → Prop := fun r S' => q r S' ∨ ∃ E : String, r = .inr E ∧ t E S'
section PST
variable {G : GC} {M : MD} {Q : RS → SS → Prop} {k n pc : Nat} {lv : List (Nat × VV)} {st rest : List VV} {S : SS}
theorem rI_no {p : Int32 → SS → Prop} : ∀ E S', ¬ rI p (.inr E) S' := fun E S' ⟨_, h, _⟩ => by cases h
theorem rV_no {p : SS → Prop} : ∀ E S', ¬ rV p (.inr E) S' := fun E S' ⟨h, _⟩ => by cases h
theorem rR_no {p : Option Nat → SS → Prop} : ∀ E S', ¬ rR p (.inr E) S' := fun E S' ⟨_, h, _⟩ => by cases h
theorem callVi (Z : MD) {ci na idx a : Nat} (As : List VV) {o : Option Nat} {p : Int32 → SS → Prop} (dg : decode M.2.1 pc = .ok (.invokevirtual idx, 3)) (hz : okV Z ci na) (hl9 : okw (.methodLink M.1.cls idx Z.1)) (hR : okR M Z)
    (hst : st = As.reverse ++ vr o :: rest) (ho : o = some a) (hk : isK S ci a) (hn : As.length = na) (hrest : argsSz rest ≤ 8) (hc : k + Z.2.2.2.2.2.2.1 ≤ M.2.2.2.2.2.2.1) (hsl : n + Z.2.2.2.2.2.2.2 ≤ M.2.2.2.2.2.2.2)
    (hM : MT G Z (vr (some a) :: As) S (rI p))
    (kret : ∀ (x : Int32) (S' : SS), p x S' → WP G M Q (k + Z.2.2.2.2.2.2.1) (n + Z.2.2.2.2.2.2.2) (pc + 3) lv (vi x :: rest) S') : WP G M Q k n pc lv st S :=
  WP_callV Z dg hz hl9 hR hst ho hk hn hrest hc hsl hM (fun v S' h => by obtain ⟨x, h1, h2⟩ := h; cases h1; exact kret x S' h2) (fun E S' h => absurd h (rI_no E S'))
theorem callVv (Z : MD) {ci na idx a : Nat} (As : List VV) {o : Option Nat} {p : SS → Prop} (dg : decode M.2.1 pc = .ok (.invokevirtual idx, 3)) (hz : okV Z ci na) (hl9 : okw (.methodLink M.1.cls idx Z.1)) (hR : okR M Z)
    (hst : st = As.reverse ++ vr o :: rest) (ho : o = some a) (hk : isK S ci a) (hn : As.length = na) (hrest : argsSz rest ≤ 8) (hc : k + Z.2.2.2.2.2.2.1 ≤ M.2.2.2.2.2.2.1) (hsl : n + Z.2.2.2.2.2.2.2 ≤ M.2.2.2.2.2.2.2)
    (hM : MT G Z (vr (some a) :: As) S (rV p))
    (kret : ∀ (S' : SS), p S' → WP G M Q (k + Z.2.2.2.2.2.2.1) (n + Z.2.2.2.2.2.2.2) (pc + 3) lv rest S') : WP G M Q k n pc lv st S :=
  WP_callV Z dg hz hl9 hR hst ho hk hn hrest hc hsl hM (fun v S' h => by obtain ⟨h1, h2⟩ := h; cases h1; exact kret S' h2) (fun E S' h => absurd h (rV_no E S'))
theorem callVr (Z : MD) {ci na idx a : Nat} (As : List VV) {o : Option Nat} {p : Option Nat → SS → Prop} (dg : decode M.2.1 pc = .ok (.invokevirtual idx, 3)) (hz : okV Z ci na) (hl9 : okw (.methodLink M.1.cls idx Z.1)) (hR : okR M Z)
    (hst : st = As.reverse ++ vr o :: rest) (ho : o = some a) (hk : isK S ci a) (hn : As.length = na) (hrest : argsSz rest ≤ 8) (hc : k + Z.2.2.2.2.2.2.1 ≤ M.2.2.2.2.2.2.1) (hsl : n + Z.2.2.2.2.2.2.2 ≤ M.2.2.2.2.2.2.2)
    (hM : MT G Z (vr (some a) :: As) S (rR p))
    (kret : ∀ (x : Option Nat) (S' : SS), p x S' → WP G M Q (k + Z.2.2.2.2.2.2.1) (n + Z.2.2.2.2.2.2.2) (pc + 3) lv (vr x :: rest) S') : WP G M Q k n pc lv st S :=
  WP_callV Z dg hz hl9 hR hst ho hk hn hrest hc hsl hM (fun v S' h => by obtain ⟨x, h1, h2⟩ := h; cases h1; exact kret x S' h2) (fun E S' h => absurd h (rR_no E S'))
theorem callSi (Z : MD) {na idx : Nat} (As : List VV) {p : Int32 → SS → Prop} (dg : decode M.2.1 pc = .ok (.invokestatic idx, 3)) (hz : okS Z na) (hl9 : okw (.methodLink M.1.cls idx Z.1)) (hR : okR M Z)
    (hst : st = As.reverse ++ rest) (hn : As.length = na) (hrest : argsSz rest ≤ 8) (hc : k + Z.2.2.2.2.2.2.1 ≤ M.2.2.2.2.2.2.1) (hsl : n + Z.2.2.2.2.2.2.2 ≤ M.2.2.2.2.2.2.2)
    (hM : MT G Z As S (rI p)) (htb : Z.2.2.2.2.1 = [])
    (kret : ∀ (x : Int32) (S' : SS), p x S' → WP G M Q (k + Z.2.2.2.2.2.2.1) (n + Z.2.2.2.2.2.2.2) (pc + 3) lv (vi x :: rest) S') : WP G M Q k n pc lv st S :=
  WP_callS Z dg hz htb hl9 hR hst hn hrest hc hsl hM (fun v S' h => by obtain ⟨x, h1, h2⟩ := h; cases h1; exact kret x S' h2) (fun E S' h => absurd h (rI_no E S'))
/-- a callee that may throw, in a method without a table: what it throws goes on -/
theorem callVt (Z : MD) {ci na idx a : Nat} (As : List VV) {o : Option Nat} {q : RS → SS → Prop} {t : String → SS → Prop} (dg : decode M.2.1 pc = .ok (.invokevirtual idx, 3)) (hz : okV Z ci na) (hl9 : okw (.methodLink M.1.cls idx Z.1)) (hR : okR M Z)
    (hst : st = As.reverse ++ vr o :: rest) (ho : o = some a) (hk : isK S ci a) (hn : As.length = na) (hrest : argsSz rest ≤ 8) (hc : k + Z.2.2.2.2.2.2.1 ≤ M.2.2.2.2.2.2.1) (hsl : n + Z.2.2.2.2.2.2.2 ≤ M.2.2.2.2.2.2.2)
    (hM : MT G Z (vr (some a) :: As) S (rT q t)) (htb : M.2.2.2.2.1 = []) (hq : ∀ E S', ¬ q (.inr E) S')
    (kthr : ∀ (E : String) (S' : SS), t E S' → Q (.inr E) S')
    (kret : ∀ (v : Option VV) (S' : SS), q (.inl v) S' → WP G M Q (k + Z.2.2.2.2.2.2.1) (n + Z.2.2.2.2.2.2.2) (pc + 3) lv (v.toList ++ rest) S') : WP G M Q k n pc lv st S :=
  WP_callV Z dg hz hl9 hR hst ho hk hn hrest hc hsl hM (fun v S' h => by
    rcases h with h | ⟨E, h, _⟩
    · exact kret v S' h
    · cases h) (fun E S' h => WX_out htb hc hsl (by
    rcases h with h | ⟨E', h, h2⟩
    · exact absurd h (hq E S')
    · cases h
      exact kthr E S' h2))
theorem callSt (Z : MD) {na idx : Nat} (As : List VV) {q : RS → SS → Prop} {t : String → SS → Prop} (dg : decode M.2.1 pc = .ok (.invokestatic idx, 3)) (hz : okS Z na) (hl9 : okw (.methodLink M.1.cls idx Z.1)) (hR : okR M Z)
    (hst : st = As.reverse ++ rest) (hn : As.length = na) (hrest : argsSz rest ≤ 8) (hc : k + Z.2.2.2.2.2.2.1 ≤ M.2.2.2.2.2.2.1) (hsl : n + Z.2.2.2.2.2.2.2 ≤ M.2.2.2.2.2.2.2)
    (hM : MT G Z As S (rT q t)) (htb' : Z.2.2.2.2.1 = []) (htb : M.2.2.2.2.1 = []) (hq : ∀ E S', ¬ q (.inr E) S')
    (kthr : ∀ (E : String) (S' : SS), t E S' → Q (.inr E) S')
    (kret : ∀ (v : Option VV) (S' : SS), q (.inl v) S' → WP G M Q (k + Z.2.2.2.2.2.2.1) (n + Z.2.2.2.2.2.2.2) (pc + 3) lv (v.toList ++ rest) S') : WP G M Q k n pc lv st S :=
  WP_callS Z dg hz htb' hl9 hR hst hn hrest hc hsl hM (fun v S' h => by
    rcases h with h | ⟨E, h, _⟩
    · exact kret v S' h
    · cases h) (fun E S' h => WX_out htb hc hsl (by
    rcases h with h | ⟨E', h, h2⟩
    · exact absurd h (hq E S')
    · cases h
      exact kthr E S' h2))
end PST
end
section
/-! ===== trees (address of the class's node, place of the model's node, value), ways down, and what rows of links hold of them ===== -/
abbrev Tr : Type := Std.DTreeMap.Internal.Impl Nat (fun _ => Int32)
abbrev lf0 : Tr := Std.DTreeMap.Internal.Impl.leaf
abbrev nd (a i : Nat) (v : Int32) (l r : Tr) : Tr := Std.DTreeMap.Internal.Impl.inner a i v l r
abbrev LB : Type := Nat × Nat × Int32
def tsz : Tr → Nat
  | .leaf => 0
  | .inner _ _ _ l r => tsz l + 1 + tsz r
def io : Tr → List LB
  | .leaf => []
  | .inner a i v l r => io l ++ (a, i, v) :: io r
abbrev Fr : Type := Bool × LB × Tr
def plug1 (f : Fr) (t : Tr) : Tr := match f with
  | (true, (a, i, v), c) => nd a i v t c
  | (false, (a, i, v), c) => nd a i v c t
def plug : List Fr → Tr → Tr
  | [], t => t
  | f :: fs, t => plug fs (plug1 f t)
def bef : List Fr → List LB
  | [] => []
  | (true, _, _) :: fs => bef fs
  | (false, x, c) :: fs => bef fs ++ (io c ++ [x])
def aft : List Fr → List LB
  | [] => []
  | (true, x, c) :: fs => x :: (io c ++ aft fs)
  | (false, _, _) :: fs => aft fs
theorem io_len (t : Tr) : (io t).length = tsz t := by
  induction t with
  | leaf => rfl
  | inner a i v l r ihl ihr =>
    simp only [io, tsz, List.length_append, List.length_cons, ihl, ihr]
    omega
theorem io_plug (fs : List Fr) : ∀ t, io (plug fs t) = bef fs ++ (io t ++ aft fs) := by
  induction fs with
  | nil => intro t; simp [plug, bef, aft]
  | cons f fs ih =>
    intro t
    obtain ⟨b, ⟨a, i, v⟩, c⟩ := f
    cases b <;> simp [plug, plug1, ih, bef, aft, io]
section GR
variable {α : Type} (em : Option Nat → α) (ky : Nat → Nat → Nat)
def rk : Tr → Option Nat
  | .leaf => none
  | .inner a i _ _ _ => some (ky a i)
def kl (t : Tr) : List Nat := (io t).map (fun x => ky x.1 x.2.1)
def fk (f : Fr) : Nat := ky f.2.1.1 f.2.1.2.1
def pk : List Fr → Option Nat
  | [] => none
  | f :: _ => some (fk ky f)
def kp : List Fr → List Nat
  | [] => []
  | f :: fs => fk ky f :: (kl ky f.2.2 ++ kp fs)
def gR (lf rt pa : Nat → α) : Tr → Option Nat → Prop
  | .leaf, _ => True
  | .inner a i _ l r, par => lf (ky a i) = em (rk ky l) ∧ rt (ky a i) = em (rk ky r) ∧ pa (ky a i) = em par ∧ gR lf rt pa l (some (ky a i)) ∧ gR lf rt pa r (some (ky a i))
def gP (lf rt pa : Nat → α) : List Fr → Option Nat → Prop
  | [], _ => True
  | f :: fs, o => lf (fk ky f) = em (if f.1 = true then o else rk ky f.2.2) ∧ rt (fk ky f) = em (if f.1 = true then rk ky f.2.2 else o) ∧ pa (fk ky f) = em (pk ky fs) ∧ gR em ky lf rt pa f.2.2 (some (fk ky f)) ∧ gP lf rt pa fs (some (fk ky f))
theorem kl_nd (a i : Nat) (v : Int32) (l r : Tr) : kl ky (nd a i v l r) = kl ky l ++ ky a i :: kl ky r := by simp [kl, io]
theorem rk_plug1 (f : Fr) (t : Tr) : rk ky (plug1 f t) = some (fk ky f) := by
  obtain ⟨b, ⟨a, i, v⟩, c⟩ := f
  cases b <;> rfl
theorem gR_plug {lf rt pa : Nat → α} (fs : List Fr) : ∀ t, gR em ky lf rt pa (plug fs t) none ↔ gR em ky lf rt pa t (pk ky fs) ∧ gP em ky lf rt pa fs (rk ky t) := by
  induction fs with
  | nil => intro t; simp [plug, pk, gP]
  | cons f fs ih =>
    intro t
    show gR em ky lf rt pa (plug fs (plug1 f t)) none ↔ _
    rw [ih, rk_plug1]
    obtain ⟨b, ⟨a, i, v⟩, c⟩ := f
    cases b
    · show (lf (ky a i) = em (rk ky c) ∧ rt (ky a i) = em (rk ky t) ∧ pa (ky a i) = em (pk ky fs) ∧ gR em ky lf rt pa c (some (ky a i)) ∧ gR em ky lf rt pa t (some (ky a i))) ∧ gP em ky lf rt pa fs (some (ky a i)) ↔ gR em ky lf rt pa t (some (ky a i)) ∧ (lf (ky a i) = em (rk ky c) ∧ rt (ky a i) = em (rk ky t) ∧ pa (ky a i) = em (pk ky fs) ∧ gR em ky lf rt pa c (some (ky a i)) ∧ gP em ky lf rt pa fs (some (ky a i)))
      constructor
      · rintro ⟨⟨h1, h2, h3, h4, h5⟩, h6⟩
        exact ⟨h5, h1, h2, h3, h4, h6⟩
      · rintro ⟨h5, h1, h2, h3, h4, h6⟩
        exact ⟨⟨h1, h2, h3, h4, h5⟩, h6⟩
    · show (lf (ky a i) = em (rk ky t) ∧ rt (ky a i) = em (rk ky c) ∧ pa (ky a i) = em (pk ky fs) ∧ gR em ky lf rt pa t (some (ky a i)) ∧ gR em ky lf rt pa c (some (ky a i))) ∧ gP em ky lf rt pa fs (some (ky a i)) ↔ gR em ky lf rt pa t (some (ky a i)) ∧ (lf (ky a i) = em (rk ky t) ∧ rt (ky a i) = em (rk ky c) ∧ pa (ky a i) = em (pk ky fs) ∧ gR em ky lf rt pa c (some (ky a i)) ∧ gP em ky lf rt pa fs (some (ky a i)))
      constructor
      · rintro ⟨⟨h1, h2, h3, h4, h5⟩, h6⟩
        exact ⟨h4, h1, h2, h3, h5, h6⟩
      · rintro ⟨h4, h1, h2, h3, h5, h6⟩
        exact ⟨⟨h1, h2, h3, h4, h5⟩, h6⟩
theorem kl_plug (fs : List Fr) : ∀ t, (kl ky (plug fs t)).Perm (kl ky t ++ kp ky fs) := by
  induction fs with
  | nil => intro t; simp [plug, kp]
  | cons f fs ih =>
    intro t
    refine (ih (plug1 f t)).trans ?_
    obtain ⟨b, ⟨a, i, v⟩, c⟩ := f
    cases b
    · show (kl ky (nd a i v c t) ++ kp ky fs).Perm (kl ky t ++ (ky a i :: (kl ky c ++ kp ky fs)))
      rw [kl_nd]
      have e1 : (kl ky c ++ ky a i :: kl ky t).Perm (kl ky t ++ (ky a i :: kl ky c)) := List.perm_append_comm.trans (by
        show (ky a i :: (kl ky t ++ kl ky c)).Perm _
        exact List.perm_middle.symm)
      refine (e1.append_right _).trans ?_
      rw [List.append_assoc]
      exact List.Perm.refl _
    · show (kl ky (nd a i v t c) ++ kp ky fs).Perm (kl ky t ++ (ky a i :: (kl ky c ++ kp ky fs)))
      rw [kl_nd, List.append_assoc]
      exact List.Perm.refl _
theorem gR_congr {lf rt pa lf' rt' pa' : Nat → α} (t : Tr) : ∀ par, (∀ q ∈ kl ky t, lf' q = lf q ∧ rt' q = rt q ∧ pa' q = pa q) → gR em ky lf rt pa t par → gR em ky lf' rt' pa' t par := by
  induction t with
  | leaf => intro par _ _; trivial
  | inner a i v l r ihl ihr =>
    intro par h hg
    obtain ⟨h1, h2, h3, h4, h5⟩ := hg
    rw [show kl ky (Std.DTreeMap.Internal.Impl.inner a i v l r) = kl ky l ++ ky a i :: kl ky r from kl_nd ky a i v l r] at h
    have h0 := h (ky a i) (by simp)
    exact ⟨h0.1.trans h1, h0.2.1.trans h2, h0.2.2.trans h3, ihl _ (fun q hq => h q (by simp [hq])) h4, ihr _ (fun q hq => h q (by simp [hq])) h5⟩
theorem gP_congr {lf rt pa lf' rt' pa' : Nat → α} (fs : List Fr) : ∀ o, (∀ q ∈ kp ky fs, lf' q = lf q ∧ rt' q = rt q ∧ pa' q = pa q) → gP em ky lf rt pa fs o → gP em ky lf' rt' pa' fs o := by
  induction fs with
  | nil => intro o _ _; trivial
  | cons f fs ih =>
    intro o h hg
    obtain ⟨h1, h2, h3, h4, h5⟩ := hg
    have h0 := h (fk ky f) (by simp [kp])
    exact ⟨h0.1.trans h1, h0.2.1.trans h2, h0.2.2.trans h3, gR_congr em ky _ _ (fun q hq => h q (by simp [kp, hq])) h4, ih _ (fun q hq => h q (by simp [kp, hq])) h5⟩
/-- another parent for a whole tree -/
def upo (f : Nat → α) (o : Option Nat) (v : α) : Nat → α := match o with
  | none => f
  | some q => va_up f q v
theorem upo_ne (f : Nat → α) {o : Option Nat} {q : Nat} (v : α) (h : o ≠ some q) : upo f o v q = f q := by
  cases o with
  | none => rfl
  | some y => exact va_up_ne _ _ (fun e => h (by rw [e]))
theorem rk_mem {t : Tr} {q : Nat} (h : rk ky t = some q) : q ∈ kl ky t := by
  cases t with
  | leaf => cases h
  | inner a i v l r =>
    cases h
    rw [show kl ky (Std.DTreeMap.Internal.Impl.inner a i v l r) = kl ky l ++ ky a i :: kl ky r from kl_nd ky a i v l r]
    simp
theorem gR_up {lf rt pa : Nat → α} {t : Tr} {par : Option Nat} (hn : (kl ky t).Nodup) (h : gR em ky lf rt pa t par) (o : Option Nat) : gR em ky lf rt (upo pa (rk ky t) (em o)) t o := by
  cases t with
  | leaf => trivial
  | inner a i v l r =>
    obtain ⟨h1, h2, h3, h4, h5⟩ := h
    rw [show kl ky (Std.DTreeMap.Internal.Impl.inner a i v l r) = kl ky l ++ ky a i :: kl ky r from kl_nd ky a i v l r] at hn
    obtain ⟨n1, n2, n3⟩ := List.nodup_append.mp hn
    obtain ⟨n4, n5⟩ := List.nodup_cons.mp n2
    refine ⟨h1, h2, va_up_self _ _ _, gR_congr em ky _ _ (fun q hq => ⟨rfl, rfl, va_up_ne _ _ ?_⟩) h4, gR_congr em ky _ _ (fun q hq => ⟨rfl, rfl, va_up_ne _ _ ?_⟩) h5⟩
    · exact n3 q hq _ List.mem_cons_self
    · exact fun e => n4 (e ▸ hq)
/-- the way up holds another subtree at its end -/
theorem gP_up {lf rt pa : Nat → α} {fs : List Fr} {o : Option Nat} (hn : (kp ky fs).Nodup) (h : gP em ky lf rt pa fs o) (o' : Option Nat) :
    gP em ky (if (fs.head?.map (·.1)) = some true then upo lf (pk ky fs) (em o') else lf) (if (fs.head?.map (·.1)) = some true then rt else upo rt (pk ky fs) (em o')) pa fs o' := by
  cases fs with
  | nil => trivial
  | cons f fs =>
    obtain ⟨h1, h2, h3, h4, h5⟩ := h
    obtain ⟨b, x, c⟩ := f
    obtain ⟨n1, n2⟩ := List.nodup_cons.mp (show (fk ky (b, x, c) :: (kl ky c ++ kp ky fs)).Nodup from hn)
    have hc : ∀ q ∈ kl ky c, q ≠ fk ky (b, x, c) := fun q hq e => n1 (by rw [← e]; simp [hq])
    have hp : ∀ q ∈ kp ky fs, q ≠ fk ky (b, x, c) := fun q hq e => n1 (by rw [← e]; simp [hq])
    cases b
    · simp only [List.head?_cons, Option.map_some, Option.some.injEq, Bool.false_eq_true, if_false]
      exact ⟨h1, va_up_self _ _ _, h3, gR_congr em ky _ _ (fun q hq => ⟨rfl, va_up_ne _ _ (hc q hq), rfl⟩) h4, gP_congr em ky _ _ (fun q hq => ⟨rfl, va_up_ne _ _ (hp q hq), rfl⟩) h5⟩
    · simp only [List.head?_cons, Option.map_some, if_true]
      exact ⟨va_up_self _ _ _, h2, h3, gR_congr em ky _ _ (fun q hq => ⟨va_up_ne _ _ (hc q hq), rfl, rfl⟩) h4, gP_congr em ky _ _ (fun q hq => ⟨va_up_ne _ _ (hp q hq), rfl, rfl⟩) h5⟩
def rot1 (t : Tr) (f : Fr) : Tr := match t, f with
  | .inner a i v b c, (true, (pa, pi, pv), d) => nd a i v b (nd pa pi pv c d)
  | .inner a i v b c, (false, (pa, pi, pv), d) => nd a i v (nd pa pi pv d b) c
  | .leaf, _ => .leaf
theorem pk_mem {fs : List Fr} {q : Nat} (h : pk ky fs = some q) : q ∈ kp ky fs := by
  cases fs with
  | nil => cases h
  | cons f fs =>
    cases h
    exact List.mem_cons_self
/-- the links after a rotation of a left child -/
theorem rotT_ok {lf rt pa : Nat → α} {a i : Nat} {v : Int32} {b c d : Tr} {x : LB} {fs : List Fr} (hn : (kl ky (plug ((true, x, d) :: fs) (nd a i v b c))).Nodup) (h : gR em ky lf rt pa (plug ((true, x, d) :: fs) (nd a i v b c)) none)
    {lf' rt' pa' : Nat → α} (hl : lf' = (if (fs.head?.map (·.1)) = some true then upo (va_up lf (ky x.1 x.2.1) (em (rk ky c))) (pk ky fs) (em (some (ky a i))) else va_up lf (ky x.1 x.2.1) (em (rk ky c))))
    (hr : rt' = (if (fs.head?.map (·.1)) = some true then va_up rt (ky a i) (em (some (ky x.1 x.2.1))) else upo (va_up rt (ky a i) (em (some (ky x.1 x.2.1)))) (pk ky fs) (em (some (ky a i)))))
    (hp : pa' = va_up (va_up (upo pa (rk ky c) (em (some (ky x.1 x.2.1)))) (ky x.1 x.2.1) (em (some (ky a i)))) (ky a i) (em (pk ky fs))) :
    gR em ky lf' rt' pa' (plug fs (rot1 (nd a i v b c) (true, x, d))) none := by
  obtain ⟨xa, xi, xv⟩ := x
  have hn2 := (kl_plug ky _ _).nodup_iff.mp hn
  rw [kl_nd] at hn2
  obtain ⟨n1, n2, n3⟩ := List.nodup_append.mp hn2
  obtain ⟨n4, n5, n6⟩ := List.nodup_append.mp n1
  obtain ⟨n7, n8⟩ := List.nodup_cons.mp n5
  obtain ⟨n9, n10⟩ := List.nodup_cons.mp (show (ky xa xi :: (kl ky d ++ kp ky fs)).Nodup from n2)
  obtain ⟨n11, n12, n13⟩ := List.nodup_append.mp n10
  obtain ⟨⟨g1, g2, g3, g4, g5⟩, g6, g7, g8, g9, g10⟩ := (gR_plug em ky _ _).mp h
  have g7 : rt (ky xa xi) = em (rk ky d) := g7
  have g8 : pa (ky xa xi) = em (pk ky fs) := g8
  have g9 : gR em ky lf rt pa d (some (ky xa xi)) := g9
  have g10 : gP em ky lf rt pa fs (some (ky xa xi)) := g10
  -- who is apart from whom
  have pm : ky xa xi ∈ kp ky ((true, (xa, xi, xv), d) :: fs) := List.mem_cons_self
  have dm : ∀ q ∈ kl ky d, q ∈ kp ky ((true, (xa, xi, xv), d) :: fs) := fun q hq => List.mem_cons_of_mem _ (List.mem_append_left _ hq)
  have fm : ∀ q ∈ kp ky fs, q ∈ kp ky ((true, (xa, xi, xv), d) :: fs) := fun q hq => List.mem_cons_of_mem _ (List.mem_append_right _ hq)
  have nm : ky a i ∈ kl ky b ++ ky a i :: kl ky c := List.mem_append_right _ List.mem_cons_self
  have bm : ∀ q ∈ kl ky b, q ∈ kl ky b ++ ky a i :: kl ky c := fun q hq => List.mem_append_left _ hq
  have cm : ∀ q ∈ kl ky c, q ∈ kl ky b ++ ky a i :: kl ky c := fun q hq => List.mem_append_right _ (List.mem_cons_of_mem _ hq)
  have np : ky a i ≠ ky xa xi := n3 _ nm _ pm
  have bp : ∀ q ∈ kl ky b, q ≠ ky xa xi := fun q hq => n3 _ (bm q hq) _ pm
  have cp : ∀ q ∈ kl ky c, q ≠ ky xa xi := fun q hq => n3 _ (cm q hq) _ pm
  have dp : ∀ q ∈ kl ky d, q ≠ ky xa xi := fun q hq e => n9 (by rw [← e]; exact List.mem_append_left _ hq)
  have fp : ∀ q ∈ kp ky fs, q ≠ ky xa xi := fun q hq e => n9 (by rw [← e]; exact List.mem_append_right _ hq)
  have bn : ∀ q ∈ kl ky b, q ≠ ky a i := fun q hq => n6 _ hq _ List.mem_cons_self
  have cn : ∀ q ∈ kl ky c, q ≠ ky a i := fun q hq e => n7 (e ▸ hq)
  have dn : ∀ q ∈ kl ky d, q ≠ ky a i := fun q hq e => n3 _ nm _ (dm q hq) e.symm
  have fn : ∀ q ∈ kp ky fs, q ≠ ky a i := fun q hq e => n3 _ nm _ (fm q hq) e.symm
  have bg : ∀ q ∈ kl ky b, pk ky fs ≠ some q := fun q hq e => n3 _ (bm q hq) _ (fm q (pk_mem ky e)) rfl
  have cg : ∀ q ∈ kl ky c, pk ky fs ≠ some q := fun q hq e => n3 _ (cm q hq) _ (fm q (pk_mem ky e)) rfl
  have dg : ∀ q ∈ kl ky d, pk ky fs ≠ some q := fun q hq e => n13 _ hq _ (pk_mem ky e) rfl
  have pg : pk ky fs ≠ some (ky xa xi) := fun e => fp _ (pk_mem ky e) rfl
  have ng : pk ky fs ≠ some (ky a i) := fun e => fn _ (pk_mem ky e) rfl
  have bc : ∀ q ∈ kl ky b, rk ky c ≠ some q := fun q hq e => n6 _ hq _ (List.mem_cons_of_mem _ (rk_mem ky e)) rfl
  have dc : ∀ q ∈ kl ky d, rk ky c ≠ some q := fun q hq e => n3 _ (cm q (rk_mem ky e)) _ (dm q hq) rfl
  have fc : ∀ q ∈ kp ky fs, rk ky c ≠ some q := fun q hq e => n3 _ (cm q (rk_mem ky e)) _ (fm q hq) rfl
  have nc : rk ky c ≠ some (ky a i) := fun e => cn _ (rk_mem ky e) rfl
  have pc : rk ky c ≠ some (ky xa xi) := fun e => cp _ (rk_mem ky e) rfl
  have L : ∀ q, pk ky fs ≠ some q → q ≠ ky xa xi → lf' q = lf q := by
    intro q h1 h2
    rw [hl]
    by_cases hb : (fs.head?.map (·.1)) = some true
    · rw [if_pos hb, upo_ne _ _ h1, va_up_ne _ _ h2]
    · rw [if_neg hb, va_up_ne _ _ h2]
  have R : ∀ q, pk ky fs ≠ some q → q ≠ ky a i → rt' q = rt q := by
    intro q h1 h2
    rw [hr]
    by_cases hb : (fs.head?.map (·.1)) = some true
    · rw [if_pos hb, va_up_ne _ _ h2]
    · rw [if_neg hb, upo_ne _ _ h1, va_up_ne _ _ h2]
  have P : ∀ q, rk ky c ≠ some q → q ≠ ky xa xi → q ≠ ky a i → pa' q = pa q := by
    intro q h1 h2 h3
    rw [hp, va_up_ne _ _ h3, va_up_ne _ _ h2, upo_ne _ _ h1]
  have Lp : lf' (ky xa xi) = em (rk ky c) := by
    rw [hl]
    by_cases hb : (fs.head?.map (·.1)) = some true
    · rw [if_pos hb, upo_ne _ _ pg, va_up_self]
    · rw [if_neg hb, va_up_self]
  have Rn : rt' (ky a i) = em (some (ky xa xi)) := by
    rw [hr]
    by_cases hb : (fs.head?.map (·.1)) = some true
    · rw [if_pos hb, va_up_self]
    · rw [if_neg hb, upo_ne _ _ ng, va_up_self]
  refine (gR_plug em ky _ _).mpr ⟨⟨(L _ ng np).trans g1, Rn, by rw [hp, va_up_self], ?_, Lp, (R _ pg (Ne.symm np)).trans g7, by rw [hp, va_up_ne _ _ (Ne.symm np), va_up_self], ?_, ?_⟩, ?_⟩
  · exact gR_congr em ky _ _ (fun q hq => ⟨L q (bg q hq) (bp q hq), R q (bg q hq) (bn q hq), P q (bc q hq) (bp q hq) (bn q hq)⟩) g4
  · refine gR_congr em ky _ _ (fun q hq => ⟨L q (cg q hq) (cp q hq), R q (cg q hq) (cn q hq), ?_⟩) (gR_up em ky n8 g5 (some (ky xa xi)))
    rw [hp, va_up_ne _ _ (cn q hq), va_up_ne _ _ (cp q hq)]
  · exact gR_congr em ky _ _ (fun q hq => ⟨L q (dg q hq) (dp q hq), R q (dg q hq) (dn q hq), P q (dc q hq) (dp q hq) (dn q hq)⟩) g9
  · refine gP_congr em ky _ _ (fun q hq => ?_) (gP_up em ky n12 g10 (some (ky a i)))
    rw [hl, hr]
    refine ⟨?_, ?_, P q (fc q hq) (fp q hq) (fn q hq)⟩
    · by_cases hb : (fs.head?.map (·.1)) = some true
      · rw [if_pos hb, if_pos hb]
        cases hk : pk ky fs with
        | none => exact va_up_ne _ _ (fp q hq)
        | some g =>
          by_cases hq2 : q = g
          · subst hq2
            simp [upo, va_up]
          · simp [upo, va_up, hq2, fp q hq]
      · rw [if_neg hb, if_neg hb, va_up_ne _ _ (fp q hq)]
    · by_cases hb : (fs.head?.map (·.1)) = some true
      · rw [if_pos hb, if_pos hb, va_up_ne _ _ (fn q hq)]
      · rw [if_neg hb, if_neg hb]
        cases hk : pk ky fs with
        | none => exact va_up_ne _ _ (fn q hq)
        | some g =>
          by_cases hq2 : q = g
          · subst hq2
            simp [upo, va_up]
          · simp [upo, va_up, hq2, fn q hq]
end GR
end
section
/-! ===== rotation of a right child, what holds of nodes, splaying, positions ===== -/
section GR
variable {α : Type} (em : Option Nat → α) (ky : Nat → Nat → Nat)
/-- the links after a rotation of a right child -/
theorem rotF_ok {lf rt pa : Nat → α} {a i : Nat} {v : Int32} {b c d : Tr} {x : LB} {fs : List Fr} (hn : (kl ky (plug ((false, x, d) :: fs) (nd a i v b c))).Nodup) (h : gR em ky lf rt pa (plug ((false, x, d) :: fs) (nd a i v b c)) none)
    {lf' rt' pa' : Nat → α} (hl : lf' = (if (fs.head?.map (·.1)) = some true then upo (va_up lf (ky a i) (em (some (ky x.1 x.2.1)))) (pk ky fs) (em (some (ky a i))) else va_up lf (ky a i) (em (some (ky x.1 x.2.1)))))
    (hr : rt' = (if (fs.head?.map (·.1)) = some true then va_up rt (ky x.1 x.2.1) (em (rk ky b)) else upo (va_up rt (ky x.1 x.2.1) (em (rk ky b))) (pk ky fs) (em (some (ky a i)))))
    (hp : pa' = va_up (va_up (upo pa (rk ky b) (em (some (ky x.1 x.2.1)))) (ky x.1 x.2.1) (em (some (ky a i)))) (ky a i) (em (pk ky fs))) :
    gR em ky lf' rt' pa' (plug fs (rot1 (nd a i v b c) (false, x, d))) none := by
  obtain ⟨xa, xi, xv⟩ := x
  have hn2 := (kl_plug ky _ _).nodup_iff.mp hn
  rw [kl_nd] at hn2
  obtain ⟨n1, n2, n3⟩ := List.nodup_append.mp hn2
  obtain ⟨n4, n5, n6⟩ := List.nodup_append.mp n1
  obtain ⟨n7, n8⟩ := List.nodup_cons.mp n5
  obtain ⟨n9, n10⟩ := List.nodup_cons.mp (show (ky xa xi :: (kl ky d ++ kp ky fs)).Nodup from n2)
  obtain ⟨n11, n12, n13⟩ := List.nodup_append.mp n10
  obtain ⟨⟨g1, g2, g3, g4, g5⟩, g6, g7, g8, g9, g10⟩ := (gR_plug em ky _ _).mp h
  have g6 : lf (ky xa xi) = em (rk ky d) := g6
  have g8 : pa (ky xa xi) = em (pk ky fs) := g8
  have g9 : gR em ky lf rt pa d (some (ky xa xi)) := g9
  have g10 : gP em ky lf rt pa fs (some (ky xa xi)) := g10
  -- who is apart from whom
  have pm : ky xa xi ∈ kp ky ((false, (xa, xi, xv), d) :: fs) := List.mem_cons_self
  have dm : ∀ q ∈ kl ky d, q ∈ kp ky ((false, (xa, xi, xv), d) :: fs) := fun q hq => List.mem_cons_of_mem _ (List.mem_append_left _ hq)
  have fm : ∀ q ∈ kp ky fs, q ∈ kp ky ((false, (xa, xi, xv), d) :: fs) := fun q hq => List.mem_cons_of_mem _ (List.mem_append_right _ hq)
  have nm : ky a i ∈ kl ky b ++ ky a i :: kl ky c := List.mem_append_right _ List.mem_cons_self
  have bm : ∀ q ∈ kl ky b, q ∈ kl ky b ++ ky a i :: kl ky c := fun q hq => List.mem_append_left _ hq
  have cm : ∀ q ∈ kl ky c, q ∈ kl ky b ++ ky a i :: kl ky c := fun q hq => List.mem_append_right _ (List.mem_cons_of_mem _ hq)
  have np : ky a i ≠ ky xa xi := n3 _ nm _ pm
  have bp : ∀ q ∈ kl ky b, q ≠ ky xa xi := fun q hq => n3 _ (bm q hq) _ pm
  have cp : ∀ q ∈ kl ky c, q ≠ ky xa xi := fun q hq => n3 _ (cm q hq) _ pm
  have dp : ∀ q ∈ kl ky d, q ≠ ky xa xi := fun q hq e => n9 (by rw [← e]; exact List.mem_append_left _ hq)
  have fp : ∀ q ∈ kp ky fs, q ≠ ky xa xi := fun q hq e => n9 (by rw [← e]; exact List.mem_append_right _ hq)
  have bn : ∀ q ∈ kl ky b, q ≠ ky a i := fun q hq => n6 _ hq _ List.mem_cons_self
  have cn : ∀ q ∈ kl ky c, q ≠ ky a i := fun q hq e => n7 (e ▸ hq)
  have dn : ∀ q ∈ kl ky d, q ≠ ky a i := fun q hq e => n3 _ nm _ (dm q hq) e.symm
  have fn : ∀ q ∈ kp ky fs, q ≠ ky a i := fun q hq e => n3 _ nm _ (fm q hq) e.symm
  have bg : ∀ q ∈ kl ky b, pk ky fs ≠ some q := fun q hq e => n3 _ (bm q hq) _ (fm q (pk_mem ky e)) rfl
  have cg : ∀ q ∈ kl ky c, pk ky fs ≠ some q := fun q hq e => n3 _ (cm q hq) _ (fm q (pk_mem ky e)) rfl
  have dg : ∀ q ∈ kl ky d, pk ky fs ≠ some q := fun q hq e => n13 _ hq _ (pk_mem ky e) rfl
  have pg : pk ky fs ≠ some (ky xa xi) := fun e => fp _ (pk_mem ky e) rfl
  have ng : pk ky fs ≠ some (ky a i) := fun e => fn _ (pk_mem ky e) rfl
  have cb : ∀ q ∈ kl ky c, rk ky b ≠ some q := fun q hq e => n6 _ (rk_mem ky e) _ (List.mem_cons_of_mem _ hq) rfl
  have db : ∀ q ∈ kl ky d, rk ky b ≠ some q := fun q hq e => n3 _ (bm q (rk_mem ky e)) _ (dm q hq) rfl
  have fb : ∀ q ∈ kp ky fs, rk ky b ≠ some q := fun q hq e => n3 _ (bm q (rk_mem ky e)) _ (fm q hq) rfl
  have L : ∀ q, pk ky fs ≠ some q → q ≠ ky a i → lf' q = lf q := by
    intro q h1 h2
    rw [hl]
    by_cases hb : (fs.head?.map (·.1)) = some true
    · rw [if_pos hb, upo_ne _ _ h1, va_up_ne _ _ h2]
    · rw [if_neg hb, va_up_ne _ _ h2]
  have R : ∀ q, pk ky fs ≠ some q → q ≠ ky xa xi → rt' q = rt q := by
    intro q h1 h2
    rw [hr]
    by_cases hb : (fs.head?.map (·.1)) = some true
    · rw [if_pos hb, va_up_ne _ _ h2]
    · rw [if_neg hb, upo_ne _ _ h1, va_up_ne _ _ h2]
  have P : ∀ q, rk ky b ≠ some q → q ≠ ky xa xi → q ≠ ky a i → pa' q = pa q := by
    intro q h1 h2 h3
    rw [hp, va_up_ne _ _ h3, va_up_ne _ _ h2, upo_ne _ _ h1]
  have Ln : lf' (ky a i) = em (some (ky xa xi)) := by
    rw [hl]
    by_cases hb : (fs.head?.map (·.1)) = some true
    · rw [if_pos hb, upo_ne _ _ ng, va_up_self]
    · rw [if_neg hb, va_up_self]
  have Rp : rt' (ky xa xi) = em (rk ky b) := by
    rw [hr]
    by_cases hb : (fs.head?.map (·.1)) = some true
    · rw [if_pos hb, va_up_self]
    · rw [if_neg hb, upo_ne _ _ pg, va_up_self]
  refine (gR_plug em ky _ _).mpr ⟨⟨Ln, (R _ ng np).trans g2, by rw [hp, va_up_self], ⟨(L _ pg (Ne.symm np)).trans g6, Rp, by rw [hp, va_up_ne _ _ (Ne.symm np), va_up_self], ?_, ?_⟩, ?_⟩, ?_⟩
  · exact gR_congr em ky _ _ (fun q hq => ⟨L q (dg q hq) (dn q hq), R q (dg q hq) (dp q hq), P q (db q hq) (dp q hq) (dn q hq)⟩) g9
  · refine gR_congr em ky _ _ (fun q hq => ⟨L q (bg q hq) (bn q hq), R q (bg q hq) (bp q hq), ?_⟩) (gR_up em ky n4 g4 (some (ky xa xi)))
    rw [hp, va_up_ne _ _ (bn q hq), va_up_ne _ _ (bp q hq)]
  · exact gR_congr em ky _ _ (fun q hq => ⟨L q (cg q hq) (cn q hq), R q (cg q hq) (cp q hq), P q (cb q hq) (cp q hq) (cn q hq)⟩) g5
  · refine gP_congr em ky _ _ (fun q hq => ?_) (gP_up em ky n12 g10 (some (ky a i)))
    rw [hl, hr]
    refine ⟨?_, ?_, P q (fb q hq) (fp q hq) (fn q hq)⟩
    · by_cases hb : (fs.head?.map (·.1)) = some true
      · rw [if_pos hb, if_pos hb]
        cases hk : pk ky fs with
        | none => exact va_up_ne _ _ (fn q hq)
        | some g =>
          by_cases hq2 : q = g
          · subst hq2
            simp [upo, va_up]
          · simp [upo, va_up, hq2, fn q hq]
      · rw [if_neg hb, if_neg hb, va_up_ne _ _ (fn q hq)]
    · by_cases hb : (fs.head?.map (·.1)) = some true
      · rw [if_pos hb, if_pos hb, va_up_ne _ _ (fp q hq)]
      · rw [if_neg hb, if_neg hb]
        cases hk : pk ky fs with
        | none => exact va_up_ne _ _ (fp q hq)
        | some g =>
          by_cases hq2 : q = g
          · subst hq2
            simp [upo, va_up]
          · simp [upo, va_up, hq2, fp q hq]

end GR
/-! what holds of each node, with the size of its subtree -/
section GN
variable (P P' : Nat → Nat → Int32 → Nat → Prop)
def gN : Tr → Prop
  | .leaf => True
  | .inner a i v l r => P a i v (tsz l + 1 + tsz r) ∧ gN l ∧ gN r
def gNP : List Fr → Nat → Prop
  | [], _ => True
  | f :: fs, s => P f.2.1.1 f.2.1.2.1 f.2.1.2.2 (s + 1 + tsz f.2.2) ∧ gN P f.2.2 ∧ gNP fs (s + 1 + tsz f.2.2)
theorem tsz_plug1 (f : Fr) (t : Tr) : tsz (plug1 f t) = tsz t + 1 + tsz f.2.2 := by
  obtain ⟨b, ⟨a, i, v⟩, c⟩ := f
  cases b
  · show tsz c + 1 + tsz t = tsz t + 1 + tsz c
    omega
  · rfl
theorem gN_plug (fs : List Fr) : ∀ t, gN P (plug fs t) ↔ gN P t ∧ gNP P fs (tsz t) := by
  induction fs with
  | nil => intro t; simp [plug, gNP]
  | cons f fs ih =>
    intro t
    show gN P (plug fs (plug1 f t)) ↔ _
    rw [ih, tsz_plug1]
    obtain ⟨b, ⟨a, i, v⟩, c⟩ := f
    cases b
    · show (P a i v (tsz c + 1 + tsz t) ∧ gN P c ∧ gN P t) ∧ gNP P fs (tsz t + 1 + tsz c) ↔ gN P t ∧ P a i v (tsz t + 1 + tsz c) ∧ gN P c ∧ gNP P fs (tsz t + 1 + tsz c)
      rw [show tsz c + 1 + tsz t = tsz t + 1 + tsz c by omega]
      constructor
      · rintro ⟨⟨h1, h2, h3⟩, h4⟩
        exact ⟨h3, h1, h2, h4⟩
      · rintro ⟨h3, h1, h2, h4⟩
        exact ⟨⟨h1, h2, h3⟩, h4⟩
    · show (P a i v (tsz t + 1 + tsz c) ∧ gN P t ∧ gN P c) ∧ gNP P fs (tsz t + 1 + tsz c) ↔ gN P t ∧ P a i v (tsz t + 1 + tsz c) ∧ gN P c ∧ gNP P fs (tsz t + 1 + tsz c)
      constructor
      · rintro ⟨⟨h1, h2, h3⟩, h4⟩
        exact ⟨h2, h1, h3, h4⟩
      · rintro ⟨h3, h1, h2, h4⟩
        exact ⟨⟨h1, h3, h2⟩, h4⟩
theorem gN_congr {P P'} (t : Tr) : (∀ a i v s, (a, i, v) ∈ io t → P a i v s → P' a i v s) → gN P t → gN P' t := by
  induction t with
  | leaf => intro _ _; trivial
  | inner a i v l r ihl ihr =>
    rintro h ⟨h1, h2, h3⟩
    exact ⟨h a i v _ (by simp [io]) h1, ihl (fun a' i' v' s hm => h a' i' v' s (by simp [io, hm])) h2, ihr (fun a' i' v' s hm => h a' i' v' s (by simp [io, hm])) h3⟩
theorem gNP_congr {P P'} (fs : List Fr) : ∀ n, (∀ a i v s, (a, i, v) ∈ bef fs ++ aft fs → P a i v s → P' a i v s) → gNP P fs n → gNP P' fs n := by
  induction fs with
  | nil => intro n _ _; trivial
  | cons f fs ih =>
    obtain ⟨b, ⟨a, i, v⟩, c⟩ := f
    rintro n h ⟨h1, h2, h3⟩
    refine ⟨h a i v _ ?_ h1, gN_congr c (fun a' i' v' s hm => h a' i' v' s ?_) h2, ih _ (fun a' i' v' s hm => h a' i' v' s ?_) h3⟩
    · cases b <;> simp [bef, aft]
    · have hm : (a', i', v') ∈ io c := hm
      cases b <;> simp [bef, aft, hm]
    · rcases List.mem_append.mp hm with hm | hm <;> cases b <;> simp [bef, aft, hm]
theorem gN_mem {P} (t : Tr) {a i : Nat} {v : Int32} (h : gN P t) (hm : (a, i, v) ∈ io t) : ∃ s, P a i v s := by
  induction t with
  | leaf => cases hm
  | inner a' i' v' l r ihl ihr =>
    obtain ⟨h1, h2, h3⟩ := h
    rcases List.mem_append.mp (show (a, i, v) ∈ io l ++ (a', i', v') :: io r from hm) with hm | hm
    · exact ihl h2 hm
    · rcases List.mem_cons.mp hm with hm | hm
      · cases hm
        exact ⟨_, h1⟩
      · exact ihr h3 hm
end GN
/-! splaying -/
def zzF (f g : Fr) : Fr := match f, g with
  | (true, x, c), (_, (ga, gi, gv), d) => (true, x, nd ga gi gv c d)
  | (false, x, c), (_, (ga, gi, gv), d) => (false, x, nd ga gi gv d c)
def step2 (f g : Fr) (t : Tr) : Tr := if f.1 = g.1 then rot1 t (zzF f g) else rot1 (rot1 t f) g
def spl : List Fr → Tr → Tr
  | [], t => t
  | [f], t => rot1 t f
  | f :: g :: fs, t => spl fs (step2 f g t)
theorem rot1_zz {f g : Fr} (h : f.1 = g.1) (t : Tr) : rot1 (plug1 f t) g = plug1 (zzF f g) t := by
  obtain ⟨b, ⟨a, i, v⟩, c⟩ := f
  obtain ⟨b', ⟨a', i', v'⟩, c'⟩ := g
  have h : b = b' := h
  subst h
  cases b <;> rfl
theorem bef_cons (f : Fr) (fs : List Fr) : bef (f :: fs) = bef fs ++ bef [f] := by
  obtain ⟨b, x, c⟩ := f
  cases b <;> simp [bef]
theorem aft_cons (f : Fr) (fs : List Fr) : aft (f :: fs) = aft [f] ++ aft fs := by
  obtain ⟨b, x, c⟩ := f
  cases b <;> simp [aft]
theorem rot1_nd (f : Fr) (a i : Nat) (v : Int32) (l r : Tr) : ∃ l' r', rot1 (nd a i v l r) f = nd a i v l' r' ∧ io l' = bef [f] ++ io l ∧ io r' = io r ++ aft [f] := by
  obtain ⟨b, ⟨a', i', v'⟩, c⟩ := f
  cases b
  · exact ⟨_, _, rfl, by simp [io, bef], by simp [aft]⟩
  · exact ⟨_, _, rfl, by simp [bef], by simp [io, aft]⟩
theorem bef_zz (f g : Fr) (h : f.1 = g.1) : bef [zzF f g] = bef [g] ++ bef [f] := by
  obtain ⟨b, ⟨a, i, v⟩, c⟩ := f
  obtain ⟨b', ⟨a', i', v'⟩, c'⟩ := g
  have h : b = b' := h
  subst h
  cases b <;> simp [zzF, bef, io]
theorem aft_zz (f g : Fr) (h : f.1 = g.1) : aft [zzF f g] = aft [f] ++ aft [g] := by
  obtain ⟨b, ⟨a, i, v⟩, c⟩ := f
  obtain ⟨b', ⟨a', i', v'⟩, c'⟩ := g
  have h : b = b' := h
  subst h
  cases b <;> simp [zzF, aft, io]
theorem step2_nd (f g : Fr) (a i : Nat) (v : Int32) (l r : Tr) : ∃ l' r', step2 f g (nd a i v l r) = nd a i v l' r' ∧ io l' = bef [f, g] ++ io l ∧ io r' = io r ++ aft [f, g] := by
  unfold step2
  by_cases h : f.1 = g.1
  · rw [if_pos h]
    obtain ⟨l', r', e1, e2, e3⟩ := rot1_nd (zzF f g) a i v l r
    exact ⟨l', r', e1, by rw [e2, bef_zz f g h, bef_cons f [g]], by rw [e3, aft_zz f g h, aft_cons f [g]]⟩
  · rw [if_neg h]
    obtain ⟨l1, r1, e1, e2, e3⟩ := rot1_nd f a i v l r
    obtain ⟨l2, r2, e4, e5, e6⟩ := rot1_nd g a i v l1 r1
    exact ⟨l2, r2, by rw [e1, e4], by rw [e5, e2, bef_cons f [g], List.append_assoc], by rw [e6, e3, aft_cons f [g], List.append_assoc]⟩
theorem spl_nd (a i : Nat) (v : Int32) : ∀ (n : Nat) (fs : List Fr), fs.length = n → ∀ l r, ∃ l' r', spl fs (nd a i v l r) = nd a i v l' r' ∧ io l' = bef fs ++ io l ∧ io r' = io r ++ aft fs := by
  intro n
  induction n using Nat.strongRecOn with
  | ind n ih =>
    intro fs hn l r
    match fs, hn with
    | [], _ => exact ⟨l, r, rfl, rfl, by simp [aft]⟩
    | [f], _ => exact rot1_nd f a i v l r
    | f :: g :: fs, hn =>
      obtain ⟨l1, r1, e1, e2, e3⟩ := step2_nd f g a i v l r
      obtain ⟨l2, r2, e4, e5, e6⟩ := ih fs.length (by simp at hn; omega) fs rfl l1 r1
      refine ⟨l2, r2, by show spl fs (step2 f g _) = _; rw [e1, e4], ?_, ?_⟩
      · rw [e5, e2, bef_cons f (g :: fs), bef_cons g fs, bef_cons f [g]]
        simp only [List.append_assoc]
      · rw [e6, e3, aft_cons f (g :: fs), aft_cons g fs, aft_cons f [g]]
        simp only [List.append_assoc]
theorem io_tsz {t t' : Tr} (h : io t = io t') : tsz t = tsz t' := by rw [← io_len, ← io_len, h]
theorem kl_io (ky : Nat → Nat → Nat) {t t' : Tr} (h : io t = io t') : kl ky t = kl ky t' := by unfold kl; rw [h]
/-! the node at a position -/
def zat : Tr → Nat → List Fr → Tr × List Fr
  | .leaf, _, fs => (.leaf, fs)
  | .inner a i v l r, k, fs => if k < tsz l then zat l k ((true, (a, i, v), r) :: fs) else if k = tsz l then (nd a i v l r, fs) else zat r (k - tsz l - 1) ((false, (a, i, v), l) :: fs)
theorem zat_in (a i : Nat) (v : Int32) (l r : Tr) (k : Nat) (fs : List Fr) : zat (nd a i v l r) k fs = if k < tsz l then zat l k ((true, (a, i, v), r) :: fs) else if k = tsz l then (nd a i v l r, fs) else zat r (k - tsz l - 1) ((false, (a, i, v), l) :: fs) := rfl
theorem zat_plug1 (t : Tr) : ∀ k fs, plug (zat t k fs).2 (zat t k fs).1 = plug fs t := by
  induction t with
  | leaf => intro k fs; rfl
  | inner a i v l r ihl ihr =>
    intro k fs
    unfold zat
    by_cases h1 : k < tsz l
    · rw [if_pos h1, ihl]
      rfl
    · rw [if_neg h1]
      by_cases h2 : k = tsz l
      · rw [if_pos h2]
      · rw [if_neg h2, ihr]
        rfl
theorem zat_nd (t : Tr) : ∀ k fs, k < tsz t → ∃ a i v l r, (zat t k fs).1 = nd a i v l r ∧ (bef (zat t k fs).2).length + tsz l = (bef fs).length + k ∧ (io t)[k]? = some (a, i, v) := by
  induction t with
  | leaf => intro k fs h; exact absurd h (Nat.not_lt_zero _)
  | inner a i v l r ihl ihr =>
    intro k fs h
    have h : k < tsz l + 1 + tsz r := h
    unfold zat
    by_cases h1 : k < tsz l
    · rw [if_pos h1]
      obtain ⟨a', i', v', l', r', e1, e2, e3⟩ := ihl k ((true, (a, i, v), r) :: fs) h1
      refine ⟨a', i', v', l', r', e1, e2, ?_⟩
      show (io l ++ (a, i, v) :: io r)[k]? = _
      rw [List.getElem?_append_left (by rw [io_len]; exact h1)]
      exact e3
    · rw [if_neg h1]
      by_cases h2 : k = tsz l
      · rw [if_pos h2]
        refine ⟨a, i, v, l, r, rfl, by rw [h2], ?_⟩
        show (io l ++ (a, i, v) :: io r)[k]? = _
        rw [List.getElem?_append_right (by rw [io_len]; omega), io_len, h2, Nat.sub_self]
        rfl
      · rw [if_neg h2]
        obtain ⟨a', i', v', l', r', e1, e2, e3⟩ := ihr (k - tsz l - 1) ((false, (a, i, v), l) :: fs) (by omega)
        refine ⟨a', i', v', l', r', e1, ?_, ?_⟩
        · rw [e2]
          simp only [bef, List.length_append, List.length_cons, List.length_nil, io_len]
          omega
        · show (io l ++ (a, i, v) :: io r)[k]? = _
          rw [List.getElem?_append_right (by rw [io_len]; omega), io_len, show k - tsz l = (k - tsz l - 1) + 1 by omega]
          exact e3
theorem zat_plug (fs : List Fr) : ∀ (t : Tr) (k : Nat) (gs : List Fr), k < tsz t → zat (plug fs t) ((bef fs).length + k) gs = zat t k (fs ++ gs) := by
  induction fs with
  | nil => intro t k gs _; simp [plug, bef]
  | cons f fs ih =>
    intro t k gs hk
    obtain ⟨b, ⟨a, i, v⟩, c⟩ := f
    cases b
    · show zat (plug fs (nd a i v c t)) _ gs = _
      have e : (bef ((false, (a, i, v), c) :: fs)).length + k = (bef fs).length + (tsz c + 1 + k) := by
        simp only [bef, List.length_append, List.length_cons, List.length_nil, io_len]
        omega
      rw [e, ih _ _ _ (show tsz c + 1 + k < tsz c + 1 + tsz t by omega)]
      rw [zat_in, if_neg (by omega), if_neg (by omega), show tsz c + 1 + k - tsz c - 1 = k by omega]
      rfl
    · show zat (plug fs (nd a i v t c)) _ gs = _
      rw [show (bef ((true, (a, i, v), c) :: fs)).length = (bef fs).length from rfl, ih _ _ _ (show k < tsz t + 1 + tsz c by omega)]
      rw [zat_in, if_pos hk]
      rfl
theorem zat_at (fs : List Fr) (a i : Nat) (v : Int32) (l r : Tr) : zat (plug fs (nd a i v l r)) ((bef fs).length + tsz l) [] = (nd a i v l r, fs) := by
  rw [zat_plug _ _ _ _ (show tsz l < tsz l + 1 + tsz r by omega), List.append_nil]
  rw [zat_in, if_neg (Nat.lt_irrefl _), if_pos rfl]
theorem zip_of (t : Tr) {a i : Nat} {v : Int32} (h : (a, i, v) ∈ io t) : ∃ fs l r, t = plug fs (nd a i v l r) := by
  obtain ⟨k, hk⟩ := List.getElem?_of_mem h
  have hlt : k < tsz t := by rw [← io_len]; exact (List.getElem?_eq_some_iff.mp hk).1
  obtain ⟨a', i', v', l, r, e1, e2, e3⟩ := zat_nd t k [] hlt
  have e := Option.some.inj (hk.symm.trans e3)
  cases e
  have e4 := zat_plug1 t k []
  rw [e1] at e4
  exact ⟨_, l, r, e4.symm⟩
def upT (t : Tr) (k : Nat) : Tr := spl (zat t k []).2 (zat t k []).1
def upN (t : Tr) (k : Nat) : Nat := (zat t k []).2.length
theorem upT_nd (t : Tr) (k : Nat) (h : k < tsz t) : ∃ a i v l r, upT t k = nd a i v l r ∧ io (nd a i v l r) = io t ∧ tsz l = k ∧ (io t)[k]? = some (a, i, v) := by
  obtain ⟨a, i, v, l, r, e1, e2, e3⟩ := zat_nd t k [] h
  have e4 := zat_plug1 t k []
  rw [e1] at e4
  have e4 : plug (zat t k []).2 (nd a i v l r) = t := e4
  obtain ⟨l', r', e5, e6, e7⟩ := spl_nd a i v _ (zat t k []).2 rfl l r
  refine ⟨a, i, v, l', r', by unfold upT; rw [e1]; exact e5, ?_, ?_, e3⟩
  · have e8 := io_plug (zat t k []).2 (nd a i v l r)
    rw [e4] at e8
    rw [e8]
    simp [io, e6, e7]
  · rw [← io_len, e6, List.length_append, io_len, e2]
    exact Nat.zero_add k
end
