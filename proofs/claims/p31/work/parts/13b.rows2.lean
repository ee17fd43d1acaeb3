/-! ===== a few more rows ===== -/
theorem lkp_set (lv : List (Nat × VV)) (i : Nat) (v : VV) : lkp (lset lv i v) i = some v := if_pos rfl
theorem lkp_keep {lv : List (Nat × VV)} {i j : Nat} {v w : VV} (h : lkp lv j = some w) (hj : j ≠ i) (hw : isL w = false) (hv : isL v = false) : lkp (lset lv i v) j = some w := by
  unfold lset
  show (if i = j then some v else lkp (lv.filter _) j) = some w
  rw [if_neg (Ne.symm hj)]
  induction lv with
  | nil => cases h
  | cons q t ih =>
    obtain ⟨c, u⟩ := q
    unfold lkp at h
    by_cases hc : c = j
    · rw [if_pos hc] at h
      cases h
      subst hc
      rw [List.filter_cons_of_pos (by simp [hj, hw, hv])]
      exact if_pos rfl
    · rw [if_neg hc] at h
      by_cases hf : (!(c == i) && (!(c + 1 == i && isL u) && !(isL v && c == i + 1))) = true
      · rw [List.filter_cons_of_pos (by exact hf)]
        show (if c = j then some u else _) = some w
        rw [if_neg hc]
        exact ih h
      · rw [List.filter_cons_of_neg (by exact hf)]
        exact ih h
section RW2
variable {G : GC} {M : MD} {Q : RS → SS → Prop} {k n pc : Nat} {lv : List (Nat × VV)} {st : List VV} {S : SS}
theorem WP_ishr {x y : Int32} (v : Int32) (dg : decode M.2.1 pc = .ok (.ishr, 1)) (hv : x >>> (y &&& 31) = v) (kk : WP G M Q k n (pc + 1) lv (vi v :: st) S) : WP G M Q k n pc lv (vi y :: vi x :: st) S := by
  subst hv
  exact fun p e s m args below meth c H locs ls C hh hS hl => lv_ishr C.1 C.2.1 dg (kk p e s m args below meth c H locs ls C hh hS hl)
theorem WP_ishl {x y : Int32} (v : Int32) (dg : decode M.2.1 pc = .ok (.ishl, 1)) (hv : x <<< (y &&& 31) = v) (kk : WP G M Q k n (pc + 1) lv (vi v :: st) S) : WP G M Q k n pc lv (vi y :: vi x :: st) S := by
  subst hv
  exact fun p e s m args below meth c H locs ls C hh hS hl => lv_ishl C.1 C.2.1 dg (kk p e s m args below meth c H locs ls C hh hS hl)
theorem WP_lcmp {x y : Int64} (dg : decode M.2.1 pc = .ok (.lcmp, 1)) (kk : WP G M Q k n (pc + 1) lv (vi (lg_cmp x y) :: st) S) : WP G M Q k n pc lv (vl y :: vl x :: st) S :=
  fun p e s m args below meth c H locs ls C hh hS hl => W.lcmp C.1 C.2.1 dg (kk p e s m args below meth c H locs ls C hh hS hl)
end RW2
