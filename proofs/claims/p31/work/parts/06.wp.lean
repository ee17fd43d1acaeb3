/-! ===== the walk in few words: WP G M Q k n pc lv st S: from pc of method M with locals lv, stack st, in the world S, the run comes to an end with Q ===== -/
abbrev VV : Type := Int32 ⊕ (Option Nat ⊕ Int64)
abbrev vi (x : Int32) : VV := .inl x
abbrev vr (o : Option Nat) : VV := .inr (.inl o)
abbrev vl (x : Int64) : VV := .inr (.inr x)
def toV (v : VV) : Value := match v with
  | .inl x => .int x
  | .inr (.inl o) => va_rf o
  | .inr (.inr x) => .long x
def isL (v : VV) : Bool := match v with
  | .inr (.inr _) => true
  | _ => false
def lkp : List (Nat × VV) → Nat → Option VV
  | [], _ => none
  | (j, v) :: t, i => if j = i then some v else lkp t i
def lset (lv : List (Nat × VV)) (i : Nat) (v : VV) : List (Nat × VV) := (i, v) :: lv.filter (fun q => !(q.1 == i) && (!(q.1 + 1 == i && isL q.2) && !(isL v && q.1 == i + 1)))
abbrev tvl (lv : List (Nat × VV)) : List (Nat × Value) := lv.map (fun q => (q.1, toV q.2))
def argsLv : Nat → List VV → List (Nat × VV)
  | _, [] => []
  | i, v :: t => (i, v) :: argsLv (if isL v = true then i + 2 else i + 1) t
def argsSz : List VV → Nat
  | [] => 0
  | v :: t => (if isL v = true then 2 else 1) + argsSz t
theorem cat_toV (v : VV) : (toV v).category = if isL v = true then 2 else 1 := by
  rcases v with x | o | x
  · rfl
  · cases o <;> rfl
  · rfl
theorem cat_beq (v : VV) : ((toV v).category == 2) = isL v := by
  rw [cat_toV]
  cases isL v <;> rfl
theorem lkp_mem {lv : List (Nat × VV)} {i : Nat} {v : VV} (h : lkp lv i = some v) : (i, v) ∈ lv := by
  induction lv with
  | nil => cases h
  | cons a t ih =>
    obtain ⟨j, w⟩ := a
    unfold lkp at h
    by_cases hj : j = i
    · rw [if_pos hj] at h
      cases h
      subst hj
      exact List.mem_cons_self
    · rw [if_neg hj] at h
      exact List.mem_cons_of_mem _ (ih h)
theorem lkp_at {ls : Array Slot} {nL : Nat} {lv : List (Nat × VV)} {i : Nat} {v : VV} (hl : lv_has ls nL (tvl lv)) (h : lkp lv i = some v) : ls[i]? = some (.val (toV v)) :=
  hl.2.2 (i, toV v) (List.mem_map.mpr ⟨(i, v), lkp_mem h, rfl⟩)
theorem lset_1 {ls : Array Slot} {nL : Nat} {lv : List (Nat × VV)} {i : Nat} {v : VV} (hv : isL v = false) (h : lv_has ls nL ((i, toV v) :: (tvl lv).filter (fun q => !(q.1 == i) && !(q.1 + 1 == i && q.2.category == 2)))) : lv_has ls nL (tvl (lset lv i v)) := by
  refine ⟨h.1, h.2.1, fun q hq => h.2.2 q ?_⟩
  obtain ⟨w, hw, rfl⟩ := List.mem_map.mp hq
  unfold lset at hw
  rcases List.mem_cons.mp hw with rfl | hw
  · exact List.mem_cons_self
  · refine List.mem_cons_of_mem _ (List.mem_filter.mpr ?_)
    obtain ⟨h1, h2⟩ := List.mem_filter.mp hw
    refine ⟨List.mem_map.mpr ⟨w, h1, rfl⟩, ?_⟩
    rw [hv] at h2
    simp only [cat_beq]
    simp only [Bool.false_and, Bool.not_false, Bool.and_true] at h2
    exact h2
theorem lset_2 {ls : Array Slot} {nL : Nat} {lv : List (Nat × VV)} {i : Nat} {v : VV} (hv : isL v = true) (h : lv_has ls nL ((i, toV v) :: (tvl lv).filter (fun q => !(q.1 == i) && (!(q.1 == i + 1) && !(q.1 + 1 == i && q.2.category == 2))))) : lv_has ls nL (tvl (lset lv i v)) := by
  refine ⟨h.1, h.2.1, fun q hq => h.2.2 q ?_⟩
  obtain ⟨w, hw, rfl⟩ := List.mem_map.mp hq
  unfold lset at hw
  rcases List.mem_cons.mp hw with rfl | hw
  · exact List.mem_cons_self
  · refine List.mem_cons_of_mem _ (List.mem_filter.mpr ?_)
    obtain ⟨h1, h2⟩ := List.mem_filter.mp hw
    refine ⟨List.mem_map.mpr ⟨w, h1, rfl⟩, ?_⟩
    rw [hv] at h2
    simp only [cat_beq]
    simp only [Bool.true_and] at h2
    simp only [Bool.and_eq_true] at h2 ⊢
    exact ⟨h2.1, h2.2.2, h2.2.1⟩
theorem argsLv_eq (vs : List VV) : ∀ i, lv_args i (vs.map toV) = tvl (argsLv i vs) := by
  induction vs with
  | nil => intro i; rfl
  | cons v t ih =>
    intro i
    show (i, toV v) :: lv_args (if (toV v).category = 2 then i + 2 else i + 1) (t.map toV) = (i, toV v) :: tvl (argsLv (if isL v = true then i + 2 else i + 1) t)
    rw [← ih, cat_toV]
    cases isL v <;> rfl
theorem argsSz_eq (vs : List VV) : (lg_sl (vs.map toV)).length = argsSz vs := by
  induction vs with
  | nil => rfl
  | cons v t ih =>
    show (lg_sl (toV v :: t.map toV)).length = (if isL v = true then 2 else 1) + argsSz t
    rw [← ih]
    simp only [lg_sl, List.flatMap_cons, List.length_append, cat_toV]
    cases isL v <;> rfl
theorem catSum (st : List VV) : ((st.map toV).map fun v => v.category).sum = argsSz st := by
  induction st with
  | nil => rfl
  | cons v t ih =>
    show (toV v).category + _ = (if isL v = true then 2 else 1) + argsSz t
    rw [cat_toV, ← ih]
    rfl
/-! the world: (pool, kinds, lengths, final references), (class: references, numbers, int rows, Node rows), (model: numbers, rows), (long rows) -/
abbrev SS : Type := (List Nat × (Nat → Nat) × (Nat → Nat) × (Nat → Nat → Option Nat)) × ((Nat → Nat → Option Nat) × (Nat → Nat → Int32) × (Nat → Nat → Int32) × (Nat → Nat → Option Nat)) × ((Nat → Nat → Int32) × (Nat → Nat → Int32)) × (Nat → Nat → Int64)
abbrev CY : Type := ClassId × ClassId × ClassId × ClassId
def u2 {α : Type} (f : Nat → Nat → α) (k a : Nat) (v : α) : Nat → Nat → α := fun j b => if j = k ∧ b = a then v else f j b
theorem u2_eq {α : Type} (f : Nat → Nat → α) (k a : Nat) (v : α) : u2 f k a v k a = v := by simp [u2]
theorem u2_nf {α : Type} (f : Nat → Nat → α) {k j : Nat} (a : Nat) (v : α) (b : Nat) (h : j ≠ k) : u2 f k a v j b = f j b := by simp [u2, h]
theorem u2_na {α : Type} (f : Nat → Nat → α) (k : Nat) {a b : Nat} (v : α) (j : Nat) (h : b ≠ a) : u2 f k a v j b = f j b := by simp [u2, h]
def cE (cy : CY) (S : SS) (a : Nat) : va_E := match S with
  | ((_, K, AN, R0), (Rc, Ic, AIc, AR), (Im, AIm), AL) =>
    if K a = 0 then .inr (0, [va_rf (Rc 0 a), va_rf (Rc 1 a), va_rf (Rc 2 a), .int (Ic 0 a), .int (Ic 1 a)])
    else if K a = 1 then .inr (1, [va_rf (R0 0 a), .int (Ic 2 a)])
    else if K a = 2 then .inr (2, [.int (Ic 3 a), .int (Ic 4 a), .int (Ic 5 a), .int (Ic 6 a)])
    else if K a = 3 then .inr (3, [va_rf (Rc 3 a)])
    else if K a = 4 then .inr (4, [va_rf (R0 1 a), va_rf (R0 2 a), va_rf (R0 3 a), va_rf (R0 4 a), va_rf (R0 5 a), va_rf (R0 6 a), va_rf (R0 7 a), va_rf (R0 8 a)])
    else if K a = 6 then .inl (cy.1, AN a, .inl (AIc a))
    else if K a = 9 then .inl (cy.2.2.1, AN a, .inr (.inr (.inr (.inr (AR a)))))
    else .inl (cy.1, AN a, .inl (AIm a))
abbrev tysOf (cy : CY) : List (ClassId × FieldType) := [(cy.1, .int), (cy.1, .int), (cy.2.2.1, .object "SplaySequence$Node"), (cy.1, .int)]
abbrev vwCl : List vw_C := [(RX0, TX0, 5), (RX1, TX1, 2), (RX2, TX2, 4), (RX3, TX3, 1), (RX4, TX4, 8)]
abbrev GC : Type := Launch × State × va_G × CY × Nat × (Nat → Prop)
/-- a cell that isn't older than the law's entry, nor one of those that are set aside -/
def AG (G : GC) : Nat → Prop := fun q => G.2.1.heap.size ≤ q ∧ ¬ G.2.2.2.2.2 q
def EnvG (G : GC) (H : Heap) : Prop := G.2.1.heap.size ≤ H.size ∧ (∀ q : Nat, q < G.2.1.heap.size → H[q]? = G.2.1.heap[q]?) ∧ ∀ q : Nat, G.2.2.2.2.2 q → q < H.size
def G0 (G : GC) : Prop := G.1.flags = flags0 ∧ (∀ w ∈ lw_tbl, w.before #[Value.ref G.2.2.2.2.1] G.2.1 = true) ∧ va_K G.2.2.1 vwCl (tysOf G.2.2.2.1) G.2.1 ∧ (Jvm.Cond.and given_1 narrow_1).before #[Value.ref G.2.2.2.2.1] G.2.1 = true
abbrev MD : Type := MethodName × ByteArray × Nat × Option FieldType × List (Nat × Nat × Nat × Nat) × Nat × Nat × Nat
def mw (M : MD) : Cond := match M.2.2.2.2.1 with
  | [] => .code M.1 M.2.1 M.2.2.1 M.2.2.2.1
  | _ => .codeWith M.1 M.2.1 M.2.2.1 M.2.2.2.1 M.2.2.2.2.1
/-- what the claim's room has over 30 places a frame -/
def rmX : Nat := room_1.locals - 30 * room_1.frames
def rmOf (M : MD) : Room := { frames := M.2.2.2.2.2.1, cells := M.2.2.2.2.2.2.1, slots := M.2.2.2.2.2.2.2, locals := 30 * M.2.2.2.2.2.1 + rmX }
def HH (G : GC) (S : SS) (H : Heap) : Prop := va_P G.2.2.1 vwCl (va_pl S.1.1 (cE G.2.2.2.1 S)) H ∧ va_D (AG G) (va_pl S.1.1 (cE G.2.2.2.1 S))
abbrev RS : Type := Option VV ⊕ String
def QC (G : GC) (Q : RS → SS → Prop) : Array Value → State → Outcome → State → Prop := fun _ st o t => ∃ (v : Option VV) (S' : SS), o = .returned (v.map toV) ∧ Q (.inl v) S' ∧ HH G S' t.heap ∧ va_F (AG G) st t
def XC (G : GC) (Q : RS → SS → Prop) : String → State → State → Prop := fun E st t => ∃ S' : SS, Q (.inr E) S' ∧ HH G S' t.heap ∧ va_F (AG G) st t
def PC (G : GC) (av : List VV) (S : SS) : Array Value → State → Prop := va_Pc (av.map toV) (fun U => G0 G ∧ G.2.1.WarmedH U.vm ∧ EnvG G U.heap ∧ HH G S U.heap)
def MT (G : GC) (M : MD) (av : List VV) (S : SS) (Q : RS → SS → Prop) : Prop := vx_Met G.1 M.1 [mw M] (rmOf M) (PC G av S) (QC G Q) (XC G Q) M.2.2.2.2.2.2.1 M.2.2.2.2.2.2.2 (AG G)
def Cx (G : GC) (p : Program) (M : MD) (s : State) (m : MethodId) (meth : Method) (c : Code) : Prop :=
  p.tables.exec = Jvm.exec ∧ c.code = M.2.1 ∧ meth.sig.returnType = M.2.2.2.1 ∧ meth.locks = false ∧ c.maxLocals = M.2.2.1 ∧ s.vm.findClass M.1.cls = some m.cls ∧ meth.name = M.1.name ∧ c.exceptionTable.toList = tableOf M.2.2.2.2.1 ∧ G0 G ∧ G.2.1.WarmedH s.vm ∧ EnvG G s.heap
def WP (G : GC) (M : MD) (Q : RS → SS → Prop) (k n pc : Nat) (lv : List (Nat × VV)) (st : List VV) (S : SS) : Prop :=
  ∀ (p : Program) (e : Env) (s : State) (m : MethodId) (args : Array Value) (below : List Frame) (meth : Method) (c : Code) (H : Heap) (locs : List Loc) (ls : Array Slot),
    Cx G p M s m meth c → HH G S H → va_S (AG G) s.heap H locs → lv_has ls M.2.2.1 (tvl lv) →
    W p G.1 e (rmOf M) s m args below meth c H locs k n (vx_MQ below (QC G Q) (XC G Q) args s M.2.2.2.2.2.2.1 M.2.2.2.2.2.2.2 (AG G)) (F0 m pc ls (st.map toV))
/-- q9, an exception of the class E, flies over the frame at pc -/
def WX (G : GC) (M : MD) (Q : RS → SS → Prop) (k n pc : Nat) (lv : List (Nat × VV)) (st : List VV) (E : String) (S : SS) : Prop :=
  ∀ (p : Program) (e : Env) (s : State) (m : MethodId) (args : Array Value) (below : List Frame) (meth : Method) (c : Code) (H : Heap) (locs : List Loc) (ls : Array Slot) (ce : Cell) (q9 : Addr),
    Cx G p M s m meth c → HH G S H → va_S (AG G) s.heap H locs → lv_has ls M.2.2.1 (tvl lv) → H[q9]? = some ce → ce.vm = .none → s.vm.findClass E = some ce.cls →
    vx_W p G.1 e (rmOf M) s m args below meth c H locs k n (vx_MQ below (QC G Q) (XC G Q) args s M.2.2.2.2.2.2.1 M.2.2.2.2.2.2.2 (AG G)) (F0 m pc ls (st.map toV)) q9
