/-! ===== a few more rows ===== -/
section RW2
variable {G : GC} {M : MD} {Q : RS → SS → Prop} {k n pc : Nat} {lv : List (Nat × VV)} {st : List VV} {S : SS}
theorem WP_ishr {x y : Int32} (v : Int32) (dg : decode M.2.1 pc = .ok (.ishr, 1)) (hv : x >>> (y &&& 31) = v) (kk : WP G M Q k n (pc + 1) lv (vi v :: st) S) : WP G M Q k n pc lv (vi y :: vi x :: st) S := by
  subst hv
  exact fun p e s m args below meth c H locs ls C hh hS hl => lv_ishr C.1 C.2.1 dg (kk p e s m args below meth c H locs ls C hh hS hl)
theorem WP_ishl {x y : Int32} (v : Int32) (dg : decode M.2.1 pc = .ok (.ishl, 1)) (hv : x <<< (y &&& 31) = v) (kk : WP G M Q k n (pc + 1) lv (vi v :: st) S) : WP G M Q k n pc lv (vi y :: vi x :: st) S := by
  subst hv
  exact fun p e s m args below meth c H locs ls C hh hS hl => lv_ishl C.1 C.2.1 dg (kk p e s m args below meth c H locs ls C hh hS hl)
theorem WP_lcmp {x y : Int64} (dg : decode M.2.1 pc = .ok (.lcmp, 1)) (kk : WP G M Q k n (pc + 1) lv (vi (lg_cmp x y) :: st) S) : WP G M Q k n pc lv (vl y :: vl x :: st) S :=
  fun p e s m args below meth c H locs ls C hh hS hl => W.lcmp C.1 C.2.1 dg (kk p e s m args below meth c H locs ls C hh hS hl)
end RW2
