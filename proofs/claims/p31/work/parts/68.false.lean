/-! ===== on every start whose script begins so, the law does not answer 1 ===== -/
theorem arrT_of {s : State} {cA comp : ClassId} {kA : Class} {ty : FieldType} (h2 : s.vm.classes[cA]? = some kA) (h3 : kA.kind = .array comp ty) : ArrOfT s cA ty := fun n z => ⟨fun k h => (by cases h), kA, h2, comp, h3⟩
/-- what the tables say at the law's entry -/
theorem G0_make {l : Launch} {s : State} {b : Nat} {P : Nat → Prop} (hflags : l.flags = flags0) (hts : ∀ w ∈ lw_tbl, w.before #[Value.ref b] s = true) (hgv : (Jvm.Cond.and given_1 narrow_1).before #[Value.ref b] s = true) : ∃ (D : va_G) (cy : CY), G0 (l, s, D, cy, b, P) := by
  obtain ⟨c0, i0, h0⟩ := u_known (C := RX0) (T := TX0) (N := 5) (n := 5) hts (fun w h => (gd_0 w h).1) (hts _ oki_0.1)
  obtain ⟨c1, i1, h1⟩ := u_known (C := RX1) (T := TX1) (N := 2) (n := 2) hts (fun w h => (gd_1 w h).1) (hts _ oki_1.1)
  obtain ⟨c2, i2, h2⟩ := u_known (C := RX2) (T := TX2) (N := 4) (n := 4) hts (fun w h => (gd_2 w h).1) (hts _ oki_2.1)
  obtain ⟨c3, i3, h3⟩ := u_known (C := RX3) (T := TX3) (N := 1) (n := 1) hts (fun w h => (gd_3 w h).1) (hts _ oki_3.1)
  obtain ⟨c4, i4, h4⟩ := u_known (C := RX4) (T := TX4) (N := 8) (n := 8) hts (fun w h => (gd_4 w h).1) (hts _ oki_4.1)
  obtain ⟨y0, k0, m0, a0, b0, e0⟩ := Cond.arrayClass_spec (hts _ ok_82.1)
  obtain ⟨m2, y2, k2, f2, -, b2, e2, a2⟩ := Cond.arrayOver_spec (hts _ ao_9)
  refine ⟨(fun k => if k = 0 then c0 else if k = 1 then c1 else if k = 2 then c2 else if k = 3 then c3 else c4, fun k => if k = 0 then i0 else if k = 1 then i1 else if k = 2 then i2 else if k = 3 then i3 else i4), (y0, y0, y2, y0), hflags, hts, ⟨fun k q hq => ?_, fun k q hq => ?_⟩, hgv⟩
  · match k, hq with
    | 0, hq => cases hq; exact h0
    | 1, hq => cases hq; exact h1
    | 2, hq => cases hq; exact h2
    | 3, hq => cases hq; exact h3
    | 4, hq => cases hq; exact h4
    | k + 5, hq => cases hq
  · match k, hq with
    | 0, hq => cases hq; exact ⟨arrT_of b0 e0, a0⟩
    | 1, hq => cases hq; exact ⟨arrT_of b0 e0, a0⟩
    | 2, hq => cases hq; exact ⟨arrT_of b2 e2, k2, m2, b2, e2, f2, a2⟩
    | 3, hq => cases hq; exact ⟨arrT_of b0 e0, a0⟩
    | k + 4, hq => cases hq
def lw_P (b : Addr) (ys : List Int32) (args : Array Value) (s : State) : Prop := args = #[.ref b] ∧ s.IntsAt b (scr ++ ys) ∧ (Jvm.Cond.and given_1 narrow_1).before args s = true
def lw_Q (_ : Array Value) (_ : State) (o : Outcome) (_ : State) : Prop := ¬ o = .returned (some (.int 1))
def lw_R : RS → SS → Prop := fun r _ => ¬ r = .inl (some (vi 1))
theorem toV_1 {v : Option VV} (h : v.map toV = some (.int 1)) : v = some (vi 1) := by
  cases v with
  | none => cases h
  | some w =>
    have h : toV w = .int 1 := Option.some.inj h
    rcases w with x | o | x
    · have h : Value.int x = .int 1 := h
      cases h
      rfl
    · cases o <;> cases h
    · cases h
theorem lw_fin {G : GC} {a : Array Value} {s t : State} {o : Outcome} {mc ms : Nat} (h : vx_Q (QC G lw_R) (XC G lw_R) mc ms (AG G) a s o t) : lw_Q a s o t := by
  rcases h with ⟨⟨v, S', e1, hq, -, -⟩, -⟩ | ⟨q, e1, -⟩
  · intro h9
    rw [e1] at h9
    have h9 : v.map toV = some (.int 1) := Outcome.returned.inj h9
    exact hq (congrArg Sum.inl (toV_1 h9))
  · intro h9
    rw [e1] at h9
    cases h9
theorem lw_walk (l : Launch) (hflags : l.flags = flags0) (b : Addr) (ys : List Int32) : MetFree l x (headSpec (Jvm.Cond.code x code maxLocals ret :: tables_1) room_1) (lw_P b ys) (fun _ _ _ _ _ => True) lw_Q := by
  refine MetFree.of_bodyS (code := code) (maxLocals := maxLocals) (ret := ret) (by decide) ?_ ?_
  · intro args s m h hn
    obtain ⟨meth, c, h1, h2, h3, h4, h5, h6, -, -⟩ := Cond.code_spec hn (atoms_spec (ws := Jvm.Cond.code x code maxLocals ret :: tables_1) h _ List.mem_cons_self)
    exact ⟨meth, c, h1, h2, h3, h4, h5, h6⟩
  · intro p e s m args below meth c s₁ B hml0 hP _
    obtain ⟨rfl, hx, hgv⟩ := hP
    obtain ⟨arr, harrAt, hlist, hof, hsmall⟩ := hx
    obtain ⟨hcb, hkn, -, -⟩ := State.arrayAt?_spec harrAt
    have hown : s.vm.findClass RL = some m.cls := findClass_of_methodNamed B.named
    have hts0 : ∀ c ∈ (Jvm.Cond.code x code maxLocals ret :: tables_1), c.before #[Value.ref b] s = true := atoms_spec (ws := Jvm.Cond.code x code maxLocals ret :: tables_1) B.pre
    have hts : ∀ w ∈ lw_tbl, w.before #[Value.ref b] s = true := k2_hts_sels lw_privs (fun w hw => hts0 w (List.mem_cons_of_mem _ hw)) lw_privs_ok
    have hml : c.maxLocals = 7 := B.maxLocals_eq (hts0 _ List.mem_cons_self)
    have hnm : meth.name = yL_law.name := (name_of_methodNamed B.named B.method).1
    have htb : c.exceptionTable.toList = tableOf [] := by
      obtain ⟨meth9, c9, h1, h2, -, -, -, -, h7, -⟩ := Cond.code_spec B.named (hts0 _ List.mem_cons_self)
      cases Option.some.inj (h1.symm.trans B.method)
      cases Option.some.inj (h2.symm.trans (Stand.of_body B).code)
      rw [Array.isEmpty_iff.mp h7]
      rfl
    have hh0 : s₁.heap = s.heap := by rw [B.state]; rfl
    have hsz : arr.slots.size = (scr ++ ys).length := by rw [← Array.length_toList, hlist, List.length_map]
    have hval : ∀ j : Nat, j < (scr ++ ys).length → arr.slots[j]? = some (.int ((scr ++ ys).getD j 0)) := fun j hj => by
      rw [← Array.getElem?_toList, hlist, List.getElem?_map, List.getD_eq_getElem?_getD, List.getElem?_eq_getElem hj]
      rfl
    have hbl : b < s.heap.size := (Array.getElem?_eq_some_iff.mp hcb).1
    have hX : va_X b (scr ++ ys).length (fun j => (scr ++ ys).getD j 0) s s.heap := ⟨arr, hcb, hof, hkn, hsz, hval⟩
    have hl21 : 21 ≤ (scr ++ ys).length := by
      rw [List.length_append, show scr.length = 21 from rfl]
      omega
    obtain ⟨D, cy, hG⟩ := G0_make (l := l) (P := fun _ => False) hflags hts hgv
    have hl := lv_entry ([Value.ref b]) (n := 7) (Nat.le_of_ble_eq_true rfl)
    have K : W p l e room_1 s m #[Value.ref b] below meth c s.heap [] 0 0 (vx_MQ below (QC (l, s, D, cy, b, fun _ => False) lw_R) (XC (l, s, D, cy, b, fun _ => False) lw_R) #[Value.ref b] s 639879 7181832 (AG (l, s, D, cy, b, fun _ => False))) (entryFrame m ([Value.ref b] : List Value).toArray 7) := by
      rw [lg_entry_eq]
      generalize (lg_sl ([Value.ref b]) ++ List.replicate (7 - (lg_sl ([Value.ref b])).length) Slot.unset).toArray = ls at hl ⊢
      exact law_all (G := (l, s, D, cy, b, fun _ => False)) (Q := lw_R) (Ln := (scr ++ ys).length) (xs := fun j => (scr ++ ys).getD j 0) ⟨hX, hbl⟩ hsmall hl21 (fun j hj => by
        show (scr ++ ys).getD j 0 = scr.getD j 0
        rw [List.getD_eq_getElem?_getD, List.getD_eq_getElem?_getD, List.getElem?_append_left (show j < scr.length from hj)]) (fun X S' h => by cases h) (fun S' h => absurd (Sum.inl.inj (Option.some.inj (Sum.inl.inj h))) (by decide))
        (K := fun _ => 0) (AN := fun _ => 0) (R0 := fun _ _ => none) (Rc := fun _ _ => none) (Ic := fun _ _ => 0) (AIc := fun _ _ => 0) (AR := fun _ _ => none) (Im := fun _ _ => 0) (AIm := fun _ _ => 0) (AL := fun _ _ => 0)
        p e s m #[Value.ref b] below meth c s.heap [] ls ⟨B.exec, B.bytes, B.returns, B.notSynchronized, hml, hown, hnm, htb, hG, State.WarmedH.refl s, Nat.le_refl _, fun _ _ => rfl, fun _ h => h.elim⟩ ⟨fun k q h => (by cases h), fun i j p q h => (by cases h), fun k q h => (by cases h)⟩ va_S.rf hl
    obtain ⟨t, a1, o, b1, b2, b3⟩ := K s₁ hh0 (Stand.of_body B)
    exact ⟨t, o, a1, b1, b2, lw_fin b3⟩
/-- a start of the law over a script that begins with scr -/
def starts_so (l : Launch) : Prop := ∃ (p : Program) (e : Env) (s : State) (m : MethodId) (below : List Frame) (b : Addr) (ys : List Int32),
  AtStart classFile x code maxLocals ret World_1 tables_1 room_1 Calls_1 rest_1 Pre_1 l p e s m #[.ref b] below ∧ s.IntsAt b (scr ++ ys)
/-- where there is such a start, the claim falls there -/
theorem falls_of {l : Launch} (hflags : l.flags = flags0) (hst : starts_so l) : RefutedClaimed_1_2 := by
  obtain ⟨p, e, s, m, below, b, ys, hA, hx⟩ := hst
  obtain ⟨hL, hW, had, hle, hcas, hclk, hf, hfit, hheap, happ, hcalls, hrest, hpre⟩ := id hA
  obtain ⟨n2, o2, b1, b2, b3, b4⟩ := lw_walk l hflags b ys p e had hcas hclk s m #[.ref b] below hf ((Spec.applies_iff_loose hf).mp happ).1 ⟨rfl, hx, hpre⟩ trivial
  exact ⟨l, p, e, s, m, #[.ref b], below, hflags, hA, n2, o2, b1, b2, b3, fun a4 => b4 (Cond.result_is (t := .int 1) (v := .int 1) a4.1 rfl)⟩
/-- .. and so it is false -/
theorem not_of_falls (h : RefutedClaimed_1_2) : ¬ (Claimed_1_1 ∧ Claimed_1_2) := by
  rintro ⟨-, hC⟩
  obtain ⟨l, p, e, s, m, args, below, hflags, ⟨hL, hW, had, -, hcas, hclk, hf, hfit, hheap, happ, hcalls, hrest, hpre⟩, n2, o2, b1, b2, b3, b4⟩ := h
  obtain ⟨n1, o1, a1, a2, a3, a4⟩ := hC l hflags hL hW p e had hcas hclk s m args below hf hfit hheap happ ⟨hcalls, hrest, hpre⟩
  rcases Nat.lt_trichotomy n1 n2 with h | h | h
  · exact a3.not_within (b1 n1 h)
  · subst h
    rw [b3.outcome_unique a3] at b4
    exact b4 a4
  · exact b3.not_within (a1 n2 h)
