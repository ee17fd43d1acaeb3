/-! ===== a start whose script is scr: the witness's, with another script in its array ===== -/
def st_cells : Array Value := (scr.map Value.int).toArray
def st_about : State := start1.aboutOf st_cells
theorem st_vm : start1.about.vm = st_about.vm := rfl
theorem cd_vm {s t : State} (hvm : s.vm = t.vm) {a : Array Value} {y : MethodName} {b : ByteArray} {m : Nat} {r : Option FieldType} (h : (Cond.code y b m r).before a s = true) : (Cond.code y b m r).before a t = true := by
  simp only [Cond.before, Cond.holds, Cond.value, State.methodNamed?] at h ⊢
  rw [← hvm]
  exact h
theorem cd_mv {c : Cond} (hc : su_isCode c = true) {s t : State} (hvm : s.vm = t.vm) {a : Array Value} (h : c.before a s = true) : c.before a t = true := by
  cases c with
  | code y b m r => exact cd_vm hvm h
  | _ => exact absurd hc Bool.false_ne_true
theorem st_split {α : Type} (p : α → Bool) (n : Nat) (l : List α) (h1 : (l.take n).all p = true) (h2 : (l.drop n).all p = true) : l.all p = true := by
  rw [← List.take_append_drop n l, List.all_append, h1, h2]
  rfl
set_option maxRecDepth 16384 in
theorem st_o1_0 : (tables_1_1.take 40).all (fun c => su_isCode c || c.before start1.args0 st_about) = true := by decide +kernel
set_option maxRecDepth 16384 in
theorem st_o1_1 : ((tables_1_1.drop 40).take 40).all (fun c => su_isCode c || c.before start1.args0 st_about) = true := by decide +kernel
set_option maxRecDepth 16384 in
theorem st_o1_2 : (((tables_1_1.drop 40).drop 40).take 40).all (fun c => su_isCode c || c.before start1.args0 st_about) = true := by decide +kernel
set_option maxRecDepth 16384 in
theorem st_o1_3 : ((((tables_1_1.drop 40).drop 40).drop 40).take 40).all (fun c => su_isCode c || c.before start1.args0 st_about) = true := by decide +kernel
set_option maxRecDepth 16384 in
theorem st_o1_4 : (((((tables_1_1.drop 40).drop 40).drop 40).drop 40).take 40).all (fun c => su_isCode c || c.before start1.args0 st_about) = true := by decide +kernel
set_option maxRecDepth 16384 in
theorem st_o1_5 : (((((tables_1_1.drop 40).drop 40).drop 40).drop 40).drop 40).all (fun c => su_isCode c || c.before start1.args0 st_about) = true := by decide +kernel
theorem st_w1 : ∀ c ∈ tables_1_1, c.before start1.args0 st_about = true := fun c h => su_words (st_split _ 40 tables_1_1 st_o1_0 (st_split _ 40 (tables_1_1.drop 40) st_o1_1 (st_split _ 40 ((tables_1_1.drop 40).drop 40) st_o1_2 (st_split _ 40 (((tables_1_1.drop 40).drop 40).drop 40) st_o1_3 (st_split _ 40 ((((tables_1_1.drop 40).drop 40).drop 40).drop 40) st_o1_4 st_o1_5))))) (fun c hc => cd_mv (List.mem_filter.mp hc).2 st_vm (start1.codes_hold_1 c hc)) c h
set_option maxRecDepth 16384 in
theorem st_o2_0 : (tables_1_2.take 40).all (fun c => su_isCode c || c.before start1.args0 st_about) = true := by decide +kernel
set_option maxRecDepth 16384 in
theorem st_o2_1 : ((tables_1_2.drop 40).take 40).all (fun c => su_isCode c || c.before start1.args0 st_about) = true := by decide +kernel
set_option maxRecDepth 16384 in
theorem st_o2_2 : (((tables_1_2.drop 40).drop 40).take 40).all (fun c => su_isCode c || c.before start1.args0 st_about) = true := by decide +kernel
set_option maxRecDepth 16384 in
theorem st_o2_3 : ((((tables_1_2.drop 40).drop 40).drop 40).take 40).all (fun c => su_isCode c || c.before start1.args0 st_about) = true := by decide +kernel
set_option maxRecDepth 16384 in
theorem st_o2_4 : (((((tables_1_2.drop 40).drop 40).drop 40).drop 40).take 40).all (fun c => su_isCode c || c.before start1.args0 st_about) = true := by decide +kernel
set_option maxRecDepth 16384 in
theorem st_o2_5 : (((((tables_1_2.drop 40).drop 40).drop 40).drop 40).drop 40).all (fun c => su_isCode c || c.before start1.args0 st_about) = true := by decide +kernel
theorem st_w2 : ∀ c ∈ tables_1_2, c.before start1.args0 st_about = true := fun c h => su_words (st_split _ 40 tables_1_2 st_o2_0 (st_split _ 40 (tables_1_2.drop 40) st_o2_1 (st_split _ 40 ((tables_1_2.drop 40).drop 40) st_o2_2 (st_split _ 40 (((tables_1_2.drop 40).drop 40).drop 40) st_o2_3 (st_split _ 40 ((((tables_1_2.drop 40).drop 40).drop 40).drop 40) st_o2_4 st_o2_5))))) (fun c hc => cd_mv (List.mem_filter.mp hc).2 st_vm (start1.codes_hold_2 c hc)) c h
set_option maxRecDepth 16384 in
theorem st_o3_0 : (tables_1_3.take 40).all (fun c => su_isCode c || c.before start1.args0 st_about) = true := by decide +kernel
set_option maxRecDepth 16384 in
theorem st_o3_1 : ((tables_1_3.drop 40).take 40).all (fun c => su_isCode c || c.before start1.args0 st_about) = true := by decide +kernel
set_option maxRecDepth 16384 in
theorem st_o3_2 : (((tables_1_3.drop 40).drop 40).take 40).all (fun c => su_isCode c || c.before start1.args0 st_about) = true := by decide +kernel
set_option maxRecDepth 16384 in
theorem st_o3_3 : (((tables_1_3.drop 40).drop 40).drop 40).all (fun c => su_isCode c || c.before start1.args0 st_about) = true := by decide +kernel
theorem st_w3 : ∀ c ∈ tables_1_3, c.before start1.args0 st_about = true := fun c h => su_words (st_split _ 40 tables_1_3 st_o3_0 (st_split _ 40 (tables_1_3.drop 40) st_o3_1 (st_split _ 40 ((tables_1_3.drop 40).drop 40) st_o3_2 st_o3_3))) (fun c hc => cd_mv (List.mem_filter.mp hc).2 st_vm (start1.codes_hold_3 c hc)) c h
theorem st_words : ∀ c ∈ (Cond.code x code maxLocals ret :: tables_1), c.before start1.args0 st_about = true := by
  intro c hc
  rcases List.mem_cons.mp hc with h | h
  · rw [h]
    exact cd_vm st_vm start1.word_code
  · have h1 : c ∈ tables_1_1 ++ (tables_1_2 ++ tables_1_3) := h
    rcases List.mem_append.mp h1 with h2 | h2
    · exact st_w1 c h2
    · rcases List.mem_append.mp h2 with h3 | h3
      · exact st_w2 c h3
      · exact st_w3 c h3
set_option maxRecDepth 16384 in
theorem st_atStart : AtStart classFile x code maxLocals ret World_1 tables_1 room_1 Calls_1 rest_1 Pre_1 launch0 start1.p0 start1.e0 st_about ⟨0, 0⟩ start1.args0 Lib.HandBits.below0 :=
  ⟨lists_1, trivial, launch0.admits_env _ _ _, launch0.least_env, fairChoices_fair.cas, fairChoices_fair.clock, rfl, by decide +kernel, by decide +kernel,
    (Spec.applies_iff rfl).mpr ⟨rfl, rfl, rfl, by decide +kernel, by decide +kernel, by decide +kernel, launch0.hasRoom_least _ room_1 (by decide +kernel) (by decide +kernel) (by decide +kernel) (by decide +kernel) (by decide +kernel) (by decide +kernel), atoms_intro st_words⟩,
    trivial, (show rest_1_c.before start1.args0 st_about = true by decide +kernel), (show (Cond.and given_1 narrow_1).before start1.args0 st_about = true by decide +kernel)⟩
theorem st_ints : st_about.IntsAt 0 (scr ++ []) := ⟨{ cls := 17, slots := st_cells, vm := .none }, rfl, by rw [List.append_nil]; rfl, ⟨fun k h => (by cases h), _, rfl, 16, rfl⟩, by decide⟩
/-- the property of its own, as it is printed, falls at this start: the run of the law comes to an end there, and doesn't answer 1 -/
theorem refuted_1_2 : RefutedClaimed_1_2 := falls_of (l := launch0) rfl ⟨start1.p0, start1.e0, st_about, ⟨0, 0⟩, Lib.HandBits.below0, 0, [], st_atStart, st_ints⟩
/-- what is owed is false -/
theorem not_owed : ¬ (Claimed_1_1 ∧ Claimed_1_2) := not_of_falls refuted_1_2
