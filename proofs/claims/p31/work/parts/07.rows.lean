/-! ===== rows for WP ===== -/
section WPR
variable {G : GC} {M : MD} {Q : RS → SS → Prop} {k n pc : Nat} {lv : List (Nat × VV)} {st : List VV} {S : SS}
theorem cx_w {p : Program} {s : State} {m : MethodId} {meth : Method} {c : Code} {args : Array Value} (C : Cx G p M s m meth c) {w : Cond} (h1 : w ∈ lw_tbl) (h2 : goodWord w = true) : w.before args s = true := word_at C.2.2.2.2.2.2.2.2.2.1 (good_of_word h2) (C.2.2.2.2.2.2.2.2.1.2.1 w h1)
theorem WP_iconst {c0 : Int} (v : Int32) (dg : decode M.2.1 pc = .ok (.iconst c0, 1)) (hv : Int32.ofInt c0 = v) (kk : WP G M Q k n (pc + 1) lv (vi v :: st) S) : WP G M Q k n pc lv st S := fun p e s m args below meth c H locs ls C hh hS hl => lv_iconst C.1 C.2.1 dg hv (kk p e s m args below meth c H locs ls C hh hS hl)
theorem WP_bipush {c0 : Int} (v : Int32) (dg : decode M.2.1 pc = .ok (.bipush c0, 2)) (hv : (Int8.ofInt c0).toInt32 = v) (kk : WP G M Q k n (pc + 2) lv (vi v :: st) S) : WP G M Q k n pc lv st S := fun p e s m args below meth c H locs ls C hh hS hl => lv_bipush C.1 C.2.1 dg hv (kk p e s m args below meth c H locs ls C hh hS hl)
theorem WP_sipush {c0 : Int} (v : Int32) (dg : decode M.2.1 pc = .ok (.sipush c0, 3)) (hv : (Int16.ofInt c0).toInt32 = v) (kk : WP G M Q k n (pc + 3) lv (vi v :: st) S) : WP G M Q k n pc lv st S := fun p e s m args below meth c H locs ls C hh hS hl => lv_sipush C.1 C.2.1 dg hv (kk p e s m args below meth c H locs ls C hh hS hl)
theorem WP_lconst {c0 : Fin 2} (v : Int64) (dg : decode M.2.1 pc = .ok (.lconst c0, 1)) (hv : Int64.ofNat (c0 : Nat) = v) (kk : WP G M Q k n (pc + 1) lv (vl v :: st) S) : WP G M Q k n pc lv st S := fun p e s m args below meth c H locs ls C hh hS hl => lv_lconst C.1 C.2.1 dg hv (kk p e s m args below meth c H locs ls C hh hS hl)
theorem WP_null (dg : decode M.2.1 pc = .ok (.aconst_null, 1)) (kk : WP G M Q k n (pc + 1) lv (vr none :: st) S) : WP G M Q k n pc lv st S := fun p e s m args below meth c H locs ls C hh hS hl => lv_null C.1 C.2.1 dg (kk p e s m args below meth c H locs ls C hh hS hl)
theorem WP_iload_n {i : Fin 4} {x : Int32} (dg : decode M.2.1 pc = .ok (.iload_n i, 1)) (h : lkp lv (i : Nat) = some (vi x)) (kk : WP G M Q k n (pc + 1) lv (vi x :: st) S) : WP G M Q k n pc lv st S := fun p e s m args below meth c H locs ls C hh hS hl => lv_iload_n C.1 C.2.1 dg rfl (lkp_at hl h) (kk p e s m args below meth c H locs ls C hh hS hl)
theorem WP_iload {i : Nat} {x : Int32} (dg : decode M.2.1 pc = .ok (.iload i, 2)) (h : lkp lv i = some (vi x)) (kk : WP G M Q k n (pc + 2) lv (vi x :: st) S) : WP G M Q k n pc lv st S := fun p e s m args below meth c H locs ls C hh hS hl => lv_iload C.1 C.2.1 dg (lkp_at hl h) (kk p e s m args below meth c H locs ls C hh hS hl)
theorem WP_lload_n {i : Fin 4} {x : Int64} (dg : decode M.2.1 pc = .ok (.lload_n i, 1)) (h : lkp lv (i : Nat) = some (vl x)) (kk : WP G M Q k n (pc + 1) lv (vl x :: st) S) : WP G M Q k n pc lv st S := fun p e s m args below meth c H locs ls C hh hS hl => lv_lload_n C.1 C.2.1 dg rfl (lkp_at hl h) (kk p e s m args below meth c H locs ls C hh hS hl)
theorem WP_lload {i : Nat} {x : Int64} (dg : decode M.2.1 pc = .ok (.lload i, 2)) (h : lkp lv i = some (vl x)) (kk : WP G M Q k n (pc + 2) lv (vl x :: st) S) : WP G M Q k n pc lv st S := fun p e s m args below meth c H locs ls C hh hS hl => lv_lload C.1 C.2.1 dg (lkp_at hl h) (kk p e s m args below meth c H locs ls C hh hS hl)
theorem WP_aload_n {i : Fin 4} {o : Option Nat} (dg : decode M.2.1 pc = .ok (.aload_n i, 1)) (h : lkp lv (i : Nat) = some (vr o)) (kk : WP G M Q k n (pc + 1) lv (vr o :: st) S) : WP G M Q k n pc lv st S := by
  intro p e s m args below meth c H locs ls C hh hS hl
  have h9 := lkp_at hl h
  have k9 := kk p e s m args below meth c H locs ls C hh hS hl
  cases o with
  | none => exact lv_aload_nN C.1 C.2.1 dg rfl h9 k9
  | some a => exact lv_aload_n C.1 C.2.1 dg rfl h9 k9
theorem WP_aload {i : Nat} {o : Option Nat} (dg : decode M.2.1 pc = .ok (.aload i, 2)) (h : lkp lv i = some (vr o)) (kk : WP G M Q k n (pc + 2) lv (vr o :: st) S) : WP G M Q k n pc lv st S := by
  intro p e s m args below meth c H locs ls C hh hS hl
  have h9 := lkp_at hl h
  have k9 := kk p e s m args below meth c H locs ls C hh hS hl
  cases o with
  | none => exact lv_aloadN C.1 C.2.1 dg h9 k9
  | some a => exact lv_aload C.1 C.2.1 dg h9 k9
theorem WP_istore_n {i : Fin 4} {x : Int32} {lv' : List (Nat × VV)} (dg : decode M.2.1 pc = .ok (.istore_n i, 1)) (hn : ((i : Nat) < M.2.2.1)) (hlv : lset lv (i : Nat) (vi x) = lv') (kk : WP G M Q k n (pc + 1) lv' (st) S) : WP G M Q k n pc lv (vi x :: st) S := by
  subst hlv
  exact fun p e s m args below meth c H locs ls C hh hS hl => lv_istore_n C.1 C.2.1 dg rfl hl hn rfl (fun ls1 hl1 => kk p e s m args below meth c H locs ls1 C hh hS (lset_1 rfl hl1))
theorem WP_istore {i : Nat} {x : Int32} {lv' : List (Nat × VV)} (dg : decode M.2.1 pc = .ok (.istore i, 2)) (hn : (i < M.2.2.1)) (hlv : lset lv i (vi x) = lv') (kk : WP G M Q k n (pc + 2) lv' (st) S) : WP G M Q k n pc lv (vi x :: st) S := by
  subst hlv
  exact fun p e s m args below meth c H locs ls C hh hS hl => lv_istore C.1 C.2.1 dg hl hn rfl (fun ls1 hl1 => kk p e s m args below meth c H locs ls1 C hh hS (lset_1 rfl hl1))
theorem WP_lstore_n {i : Fin 4} {x : Int64} {lv' : List (Nat × VV)} (dg : decode M.2.1 pc = .ok (.lstore_n i, 1)) (hn : ((i : Nat) + 1 < M.2.2.1)) (hlv : lset lv (i : Nat) (vl x) = lv') (kk : WP G M Q k n (pc + 1) lv' (st) S) : WP G M Q k n pc lv (vl x :: st) S := by
  subst hlv
  exact fun p e s m args below meth c H locs ls C hh hS hl => lv_lstore_n C.1 C.2.1 dg rfl hl hn rfl (fun ls1 hl1 => kk p e s m args below meth c H locs ls1 C hh hS (lset_2 rfl hl1))
theorem WP_lstore {i : Nat} {x : Int64} {lv' : List (Nat × VV)} (dg : decode M.2.1 pc = .ok (.lstore i, 2)) (hn : (i + 1 < M.2.2.1)) (hlv : lset lv i (vl x) = lv') (kk : WP G M Q k n (pc + 2) lv' (st) S) : WP G M Q k n pc lv (vl x :: st) S := by
  subst hlv
  exact fun p e s m args below meth c H locs ls C hh hS hl => lv_lstore C.1 C.2.1 dg hl hn rfl (fun ls1 hl1 => kk p e s m args below meth c H locs ls1 C hh hS (lset_2 rfl hl1))
theorem WP_astore_n {i : Fin 4} {o : Option Nat} {lv' : List (Nat × VV)} (dg : decode M.2.1 pc = .ok (.astore_n i, 1)) (hn : (i : Nat) < M.2.2.1) (hlv : lset lv (i : Nat) (vr o) = lv') (kk : WP G M Q k n (pc + 1) lv' (st) S) : WP G M Q k n pc lv (vr o :: st) S := by
  subst hlv
  intro p e s m args below meth c H locs ls C hh hS hl
  cases o with
  | none => exact lv_astore_nN C.1 C.2.1 dg rfl hl hn rfl (fun ls1 hl1 => kk p e s m args below meth c H locs ls1 C hh hS (lset_1 rfl hl1))
  | some a => exact lv_astore_n C.1 C.2.1 dg rfl hl hn rfl (fun ls1 hl1 => kk p e s m args below meth c H locs ls1 C hh hS (lset_1 rfl hl1))
theorem WP_astore {i : Nat} {o : Option Nat} {lv' : List (Nat × VV)} (dg : decode M.2.1 pc = .ok (.astore i, 2)) (hn : i < M.2.2.1) (hlv : lset lv i (vr o) = lv') (kk : WP G M Q k n (pc + 2) lv' (st) S) : WP G M Q k n pc lv (vr o :: st) S := by
  subst hlv
  intro p e s m args below meth c H locs ls C hh hS hl
  cases o with
  | none => exact lv_astoreN C.1 C.2.1 dg hl hn rfl (fun ls1 hl1 => kk p e s m args below meth c H locs ls1 C hh hS (lset_1 rfl hl1))
  | some a => exact lv_astore C.1 C.2.1 dg hl hn rfl (fun ls1 hl1 => kk p e s m args below meth c H locs ls1 C hh hS (lset_1 rfl hl1))
theorem WP_iinc {i : Nat} {c0 : Int} {x : Int32} {lv' : List (Nat × VV)} (v : Int32) (dg : decode M.2.1 pc = .ok (.iinc i c0, 3)) (h : lkp lv i = some (vi x)) (hv : x + Int32.ofInt c0 = v) (hn : i < M.2.2.1) (hlv : lset lv i (vi v) = lv') (kk : WP G M Q k n (pc + 3) lv' st S) : WP G M Q k n pc lv st S := by
  subst hlv
  intro p e s m args below meth c H locs ls C hh hS hl
  obtain ⟨j, hj⟩ := List.getElem?_of_mem (show (i, toV (vi x)) ∈ tvl lv from List.mem_map.mpr ⟨(i, vi x), lkp_mem h, rfl⟩)
  exact lv_iinc C.1 C.2.1 dg hl hj hv hn rfl (fun ls1 hl1 => kk p e s m args below meth c H locs ls1 C hh hS (lset_1 (v := vi v) rfl hl1))
theorem WP_iadd {x y : Int32} (dg : decode M.2.1 pc = .ok (.iadd, 1)) (kk : WP G M Q k n (pc + 1) lv (vi (x + y) :: st) S) : WP G M Q k n pc lv (vi y :: vi x :: st) S := fun p e s m args below meth c H locs ls C hh hS hl => lv_iadd C.1 C.2.1 dg (kk p e s m args below meth c H locs ls C hh hS hl)
theorem WP_isub {x y : Int32} (dg : decode M.2.1 pc = .ok (.isub, 1)) (kk : WP G M Q k n (pc + 1) lv (vi (x - y) :: st) S) : WP G M Q k n pc lv (vi y :: vi x :: st) S := fun p e s m args below meth c H locs ls C hh hS hl => lv_isub C.1 C.2.1 dg (kk p e s m args below meth c H locs ls C hh hS hl)
theorem WP_imul {x y : Int32} (dg : decode M.2.1 pc = .ok (.imul, 1)) (kk : WP G M Q k n (pc + 1) lv (vi (x * y) :: st) S) : WP G M Q k n pc lv (vi y :: vi x :: st) S := fun p e s m args below meth c H locs ls C hh hS hl => lv_imul C.1 C.2.1 dg (kk p e s m args below meth c H locs ls C hh hS hl)
theorem WP_iand {x y : Int32} (dg : decode M.2.1 pc = .ok (.iand, 1)) (kk : WP G M Q k n (pc + 1) lv (vi (x &&& y) :: st) S) : WP G M Q k n pc lv (vi y :: vi x :: st) S := fun p e s m args below meth c H locs ls C hh hS hl => lv_iand C.1 C.2.1 dg (kk p e s m args below meth c H locs ls C hh hS hl)
theorem WP_ineg {x : Int32} (dg : decode M.2.1 pc = .ok (.ineg, 1)) (kk : WP G M Q k n (pc + 1) lv (vi (-x) :: st) S) : WP G M Q k n pc lv (vi x :: st) S := fun p e s m args below meth c H locs ls C hh hS hl => lv_ineg C.1 C.2.1 dg (kk p e s m args below meth c H locs ls C hh hS hl)
theorem WP_ladd {x y : Int64} (dg : decode M.2.1 pc = .ok (.ladd, 1)) (kk : WP G M Q k n (pc + 1) lv (vl (x + y) :: st) S) : WP G M Q k n pc lv (vl y :: vl x :: st) S := fun p e s m args below meth c H locs ls C hh hS hl => lv_ladd C.1 C.2.1 dg (kk p e s m args below meth c H locs ls C hh hS hl)
theorem WP_i2l {x : Int32} (dg : decode M.2.1 pc = .ok (.i2l, 1)) (kk : WP G M Q k n (pc + 1) lv (vl x.toInt64 :: st) S) : WP G M Q k n pc lv (vi x :: st) S := fun p e s m args below meth c H locs ls C hh hS hl => lv_i2l C.1 C.2.1 dg rfl (kk p e s m args below meth c H locs ls C hh hS hl)
theorem WP_l2i {x : Int64} (dg : decode M.2.1 pc = .ok (.l2i, 1)) (kk : WP G M Q k n (pc + 1) lv (vi x.toInt32 :: st) S) : WP G M Q k n pc lv (vl x :: st) S := fun p e s m args below meth c H locs ls C hh hS hl => lv_l2i C.1 C.2.1 dg rfl (kk p e s m args below meth c H locs ls C hh hS hl)
theorem cat1 {v : VV} (h : isL v = false) : (toV v).category = 1 := by rw [cat_toV, h]; rfl
theorem WP_dup {v : VV} (dg : decode M.2.1 pc = .ok (.dup, 1)) (hv : isL v = false) (kk : WP G M Q k n (pc + 1) lv (v :: v :: st) S) : WP G M Q k n pc lv (v :: st) S := fun p e s m args below meth c H locs ls C hh hS hl => lv_dup C.1 C.2.1 dg (cat1 hv) (kk p e s m args below meth c H locs ls C hh hS hl)
theorem WP_pop {v : VV} (dg : decode M.2.1 pc = .ok (.pop, 1)) (hv : isL v = false) (kk : WP G M Q k n (pc + 1) lv (st) S) : WP G M Q k n pc lv (v :: st) S := fun p e s m args below meth c H locs ls C hh hS hl => lv_pop C.1 C.2.1 dg (cat1 hv) (kk p e s m args below meth c H locs ls C hh hS hl)
theorem WP_dup2 {v w : VV} (dg : decode M.2.1 pc = .ok (.dup2, 1)) (hv : isL v = false) (hw : isL w = false) (kk : WP G M Q k n (pc + 1) lv (v :: w :: v :: w :: st) S) : WP G M Q k n pc lv (v :: w :: st) S := fun p e s m args below meth c H locs ls C hh hS hl => lv_dup2_11 C.1 C.2.1 dg (cat1 hv) (cat1 hw) (kk p e s m args below meth c H locs ls C hh hS hl)
theorem WP_if_eq {x : Int32} {off : Int} (tgt : Nat) (dg : decode M.2.1 pc = .ok (.ifCond .eq off, 3)) (ht : (pc : Int) + off = (tgt : Int)) (kt : x = 0 → WP G M Q k n tgt lv st S) (kf : ¬ x = 0 → WP G M Q k n (pc + 3) lv st S) : WP G M Q k n pc lv (vi x :: st) S := fun p e s m args below meth c H locs ls C hh hS hl => lv_if_eq C.1 C.2.1 dg ht (fun h9 => kt h9 p e s m args below meth c H locs ls C hh hS hl) (fun h9 => kf h9 p e s m args below meth c H locs ls C hh hS hl)
theorem WP_icmp_eq {x y : Int32} {off : Int} (tgt : Nat) (dg : decode M.2.1 pc = .ok (.if_icmp .eq off, 3)) (ht : (pc : Int) + off = (tgt : Int)) (kt : x = y → WP G M Q k n tgt lv st S) (kf : ¬ x = y → WP G M Q k n (pc + 3) lv st S) : WP G M Q k n pc lv (vi y :: vi x :: st) S := fun p e s m args below meth c H locs ls C hh hS hl => lv_icmp_eq C.1 C.2.1 dg ht (fun h9 => kt h9 p e s m args below meth c H locs ls C hh hS hl) (fun h9 => kf h9 p e s m args below meth c H locs ls C hh hS hl)
theorem WP_if_ne {x : Int32} {off : Int} (tgt : Nat) (dg : decode M.2.1 pc = .ok (.ifCond .ne off, 3)) (ht : (pc : Int) + off = (tgt : Int)) (kt : ¬ x = 0 → WP G M Q k n tgt lv st S) (kf : x = 0 → WP G M Q k n (pc + 3) lv st S) : WP G M Q k n pc lv (vi x :: st) S := fun p e s m args below meth c H locs ls C hh hS hl => lv_if_ne C.1 C.2.1 dg ht (fun h9 => kt h9 p e s m args below meth c H locs ls C hh hS hl) (fun h9 => kf h9 p e s m args below meth c H locs ls C hh hS hl)
theorem WP_icmp_ne {x y : Int32} {off : Int} (tgt : Nat) (dg : decode M.2.1 pc = .ok (.if_icmp .ne off, 3)) (ht : (pc : Int) + off = (tgt : Int)) (kt : ¬ x = y → WP G M Q k n tgt lv st S) (kf : x = y → WP G M Q k n (pc + 3) lv st S) : WP G M Q k n pc lv (vi y :: vi x :: st) S := fun p e s m args below meth c H locs ls C hh hS hl => lv_icmp_ne C.1 C.2.1 dg ht (fun h9 => kt h9 p e s m args below meth c H locs ls C hh hS hl) (fun h9 => kf h9 p e s m args below meth c H locs ls C hh hS hl)
theorem WP_if_lt {x : Int32} {off : Int} (tgt : Nat) (dg : decode M.2.1 pc = .ok (.ifCond .lt off, 3)) (ht : (pc : Int) + off = (tgt : Int)) (kt : x < 0 → WP G M Q k n tgt lv st S) (kf : ¬ x < 0 → WP G M Q k n (pc + 3) lv st S) : WP G M Q k n pc lv (vi x :: st) S := fun p e s m args below meth c H locs ls C hh hS hl => lv_if_lt C.1 C.2.1 dg ht (fun h9 => kt h9 p e s m args below meth c H locs ls C hh hS hl) (fun h9 => kf h9 p e s m args below meth c H locs ls C hh hS hl)
theorem WP_icmp_lt {x y : Int32} {off : Int} (tgt : Nat) (dg : decode M.2.1 pc = .ok (.if_icmp .lt off, 3)) (ht : (pc : Int) + off = (tgt : Int)) (kt : x < y → WP G M Q k n tgt lv st S) (kf : ¬ x < y → WP G M Q k n (pc + 3) lv st S) : WP G M Q k n pc lv (vi y :: vi x :: st) S := fun p e s m args below meth c H locs ls C hh hS hl => lv_icmp_lt C.1 C.2.1 dg ht (fun h9 => kt h9 p e s m args below meth c H locs ls C hh hS hl) (fun h9 => kf h9 p e s m args below meth c H locs ls C hh hS hl)
theorem WP_if_ge {x : Int32} {off : Int} (tgt : Nat) (dg : decode M.2.1 pc = .ok (.ifCond .ge off, 3)) (ht : (pc : Int) + off = (tgt : Int)) (kt : 0 ≤ x → WP G M Q k n tgt lv st S) (kf : ¬ 0 ≤ x → WP G M Q k n (pc + 3) lv st S) : WP G M Q k n pc lv (vi x :: st) S := fun p e s m args below meth c H locs ls C hh hS hl => lv_if_ge C.1 C.2.1 dg ht (fun h9 => kt h9 p e s m args below meth c H locs ls C hh hS hl) (fun h9 => kf h9 p e s m args below meth c H locs ls C hh hS hl)
theorem WP_icmp_ge {x y : Int32} {off : Int} (tgt : Nat) (dg : decode M.2.1 pc = .ok (.if_icmp .ge off, 3)) (ht : (pc : Int) + off = (tgt : Int)) (kt : y ≤ x → WP G M Q k n tgt lv st S) (kf : ¬ y ≤ x → WP G M Q k n (pc + 3) lv st S) : WP G M Q k n pc lv (vi y :: vi x :: st) S := fun p e s m args below meth c H locs ls C hh hS hl => lv_icmp_ge C.1 C.2.1 dg ht (fun h9 => kt h9 p e s m args below meth c H locs ls C hh hS hl) (fun h9 => kf h9 p e s m args below meth c H locs ls C hh hS hl)
theorem WP_if_gt {x : Int32} {off : Int} (tgt : Nat) (dg : decode M.2.1 pc = .ok (.ifCond .gt off, 3)) (ht : (pc : Int) + off = (tgt : Int)) (kt : 0 < x → WP G M Q k n tgt lv st S) (kf : ¬ 0 < x → WP G M Q k n (pc + 3) lv st S) : WP G M Q k n pc lv (vi x :: st) S := fun p e s m args below meth c H locs ls C hh hS hl => lv_if_gt C.1 C.2.1 dg ht (fun h9 => kt h9 p e s m args below meth c H locs ls C hh hS hl) (fun h9 => kf h9 p e s m args below meth c H locs ls C hh hS hl)
theorem WP_icmp_gt {x y : Int32} {off : Int} (tgt : Nat) (dg : decode M.2.1 pc = .ok (.if_icmp .gt off, 3)) (ht : (pc : Int) + off = (tgt : Int)) (kt : y < x → WP G M Q k n tgt lv st S) (kf : ¬ y < x → WP G M Q k n (pc + 3) lv st S) : WP G M Q k n pc lv (vi y :: vi x :: st) S := fun p e s m args below meth c H locs ls C hh hS hl => lv_icmp_gt C.1 C.2.1 dg ht (fun h9 => kt h9 p e s m args below meth c H locs ls C hh hS hl) (fun h9 => kf h9 p e s m args below meth c H locs ls C hh hS hl)
theorem WP_if_le {x : Int32} {off : Int} (tgt : Nat) (dg : decode M.2.1 pc = .ok (.ifCond .le off, 3)) (ht : (pc : Int) + off = (tgt : Int)) (kt : x ≤ 0 → WP G M Q k n tgt lv st S) (kf : ¬ x ≤ 0 → WP G M Q k n (pc + 3) lv st S) : WP G M Q k n pc lv (vi x :: st) S := fun p e s m args below meth c H locs ls C hh hS hl => lv_if_le C.1 C.2.1 dg ht (fun h9 => kt h9 p e s m args below meth c H locs ls C hh hS hl) (fun h9 => kf h9 p e s m args below meth c H locs ls C hh hS hl)
theorem WP_icmp_le {x y : Int32} {off : Int} (tgt : Nat) (dg : decode M.2.1 pc = .ok (.if_icmp .le off, 3)) (ht : (pc : Int) + off = (tgt : Int)) (kt : x ≤ y → WP G M Q k n tgt lv st S) (kf : ¬ x ≤ y → WP G M Q k n (pc + 3) lv st S) : WP G M Q k n pc lv (vi y :: vi x :: st) S := fun p e s m args below meth c H locs ls C hh hS hl => lv_icmp_le C.1 C.2.1 dg ht (fun h9 => kt h9 p e s m args below meth c H locs ls C hh hS hl) (fun h9 => kf h9 p e s m args below meth c H locs ls C hh hS hl)
theorem WP_acmp_eq {rx ry : Option Nat} {off : Int} (tgt : Nat) (dg : decode M.2.1 pc = .ok (.if_acmp .eq off, 3)) (ht : (pc : Int) + off = (tgt : Int)) (kt : rx = ry → WP G M Q k n tgt lv st S) (kf : ¬ rx = ry → WP G M Q k n (pc + 3) lv st S) : WP G M Q k n pc lv (vr ry :: vr rx :: st) S := fun p e s m args below meth c H locs ls C hh hS hl => lv_acmp_eq C.1 C.2.1 dg ht (fun h9 => kt h9 p e s m args below meth c H locs ls C hh hS hl) (fun h9 => kf h9 p e s m args below meth c H locs ls C hh hS hl)
theorem WP_acmp_ne {rx ry : Option Nat} {off : Int} (tgt : Nat) (dg : decode M.2.1 pc = .ok (.if_acmp .ne off, 3)) (ht : (pc : Int) + off = (tgt : Int)) (kt : ¬ rx = ry → WP G M Q k n tgt lv st S) (kf : rx = ry → WP G M Q k n (pc + 3) lv st S) : WP G M Q k n pc lv (vr ry :: vr rx :: st) S := fun p e s m args below meth c H locs ls C hh hS hl => lv_acmp_ne C.1 C.2.1 dg ht (fun h9 => kt h9 p e s m args below meth c H locs ls C hh hS hl) (fun h9 => kf h9 p e s m args below meth c H locs ls C hh hS hl)
theorem WP_goto {off : Int} (tgt : Nat) (dg : decode M.2.1 pc = .ok (.goto off, 3)) (ht : (pc : Int) + off = (tgt : Int)) (kk : WP G M Q k n tgt lv st S) : WP G M Q k n pc lv st S := fun p e s m args below meth c H locs ls C hh hS hl => lv_goto C.1 C.2.1 dg ht (kk p e s m args below meth c H locs ls C hh hS hl)
theorem WP_ifnull {o : Option Nat} {off : Int} (tgt : Nat) (dg : decode M.2.1 pc = .ok (.ifnull off, 3)) (ht : (pc : Int) + off = (tgt : Int)) (kt : o = none → WP G M Q k n tgt lv st S) (kf : ∀ a : Nat, o = some a → WP G M Q k n (pc + 3) lv st S) : WP G M Q k n pc lv (vr o :: st) S := by
  intro p e s m args below meth c H locs ls C hh hS hl
  cases o with
  | none => exact lv_ifnullN C.1 C.2.1 dg ht (kt rfl p e s m args below meth c H locs ls C hh hS hl)
  | some a => exact lv_ifnull C.1 C.2.1 dg (kf a rfl p e s m args below meth c H locs ls C hh hS hl)
theorem WP_ifnonnull {o : Option Nat} {off : Int} (tgt : Nat) (dg : decode M.2.1 pc = .ok (.ifnonnull off, 3)) (ht : (pc : Int) + off = (tgt : Int)) (kt : ∀ a : Nat, o = some a → WP G M Q k n tgt lv st S) (kf : o = none → WP G M Q k n (pc + 3) lv st S) : WP G M Q k n pc lv (vr o :: st) S := by
  intro p e s m args below meth c H locs ls C hh hS hl
  cases o with
  | none => exact lv_ifnonnullN C.1 C.2.1 dg (kf rfl p e s m args below meth c H locs ls C hh hS hl)
  | some a => exact lv_ifnonnull C.1 C.2.1 dg ht (kt a rfl p e s m args below meth c H locs ls C hh hS hl)
theorem WP_widen {k' n' : Nat} (h1 : k ≤ k') (h2 : n ≤ n') (kk : WP G M Q k' n' pc lv st S) : WP G M Q k n pc lv st S := fun p e s m args below meth c H locs ls C hh hS hl => W.widen h1 h2 (kk p e s m args below meth c H locs ls C hh hS hl)
theorem WP_ireturn {x : Int32} {ty : FieldType} (dg : decode M.2.1 pc = .ok (.ireturn, 1)) (hty : M.2.2.2.1 = some ty) (hn : narrow ty (.int x) = .int x) (h1 : k ≤ M.2.2.2.2.2.2.1) (h2 : n ≤ M.2.2.2.2.2.2.2) (hq : Q (.inl (some (vi x))) S) : WP G M Q k n pc lv [vi x] S := fun p e s m args below meth c H locs ls C hh hS hl =>
  W.widen h1 h2 (vx_ret (W.zret C.1 C.2.1 (C.2.2.1.trans hty) hn (fun t ht hW => ⟨some (vi x), S, rfl, hq, by rw [ht]; exact hh, hS.F ht⟩) hS.2.2 dg C.2.2.2.1))
theorem WP_return (dg : decode M.2.1 pc = .ok (.return_, 1)) (hty : M.2.2.2.1 = none) (h1 : k ≤ M.2.2.2.2.2.2.1) (h2 : n ≤ M.2.2.2.2.2.2.2) (hq : Q (.inl none) S) : WP G M Q k n pc lv [] S := fun p e s m args below meth c H locs ls C hh hS hl =>
  W.widen h1 h2 (vx_ret (W.vret C.1 C.2.1 (C.2.2.1.trans hty) (fun t ht hW => ⟨none, S, rfl, hq, by rw [ht]; exact hh, hS.F ht⟩) hS.2.2 dg C.2.2.2.1))
theorem WP_areturn {o : Option Nat} {cn : String} (dg : decode M.2.1 pc = .ok (.areturn, 1)) (hty : M.2.2.2.1 = some (.object cn)) (h1 : k ≤ M.2.2.2.2.2.2.1) (h2 : n ≤ M.2.2.2.2.2.2.2) (hq : Q (.inl (some (vr o))) S) : WP G M Q k n pc lv [vr o] S := fun p e s m args below meth c H locs ls C hh hS hl =>
  W.widen h1 h2 (vx_ret (W.aret C.1 C.2.1 (C.2.2.1.trans hty) (Or.inl ⟨cn, rfl⟩) (va_rf_or o) (fun t ht hW => ⟨some (vr o), S, rfl, hq, by rw [ht]; exact hh, hS.F ht⟩) hS.2.2 dg C.2.2.2.1))
/-- a method without a table: from its entry -/
theorem MT_of {av : List VV} (hy : plainName M.1.cls = true) (htb : M.2.2.2.2.1 = []) (hsz : argsSz av ≤ M.2.2.1) (kk : WP G M Q 0 0 0 (argsLv 0 av) [] S) : MT G M av S Q := by
  obtain ⟨y, cc, maxL, ret, tb, d, mc, ms⟩ := M
  have htb : tb = [] := htb
  subst htb
  refine vx_ofW (cc := cc) (maxL := maxL) (ret := ret) (ws' := []) hy rfl ?_
  intro p e s m args below meth c s₁ B hml ht hv
  obtain ⟨rfl, hG, hW, hE, hh⟩ := hv
  have hl := lv_entry (av.map toV) (n := maxL) (by rw [argsSz_eq]; exact hsz)
  rw [argsLv_eq] at hl
  rw [lg_entry_eq]
  generalize (lg_sl (av.map toV) ++ List.replicate (maxL - (lg_sl (av.map toV)).length) Slot.unset).toArray = ls at hl ⊢
  refine kk p e s m _ below meth c s.heap [] ls ⟨B.exec, B.bytes, B.returns, B.notSynchronized, hml, findClass_of_methodNamed B.named, (name_of_methodNamed B.named B.method).1, ?_, hG, hW, hE⟩ hh va_S.rf hl
  rw [List.eq_nil_iff_forall_not_mem.mpr (fun x hx => ht x hx)]
  rfl
/-- .. and one with a table -/
theorem MT_ofH {av : List VV} {z : Nat × Nat × Nat × Nat} {tb' : List (Nat × Nat × Nat × Nat)} (hy : plainName M.1.cls = true) (htb : M.2.2.2.2.1 = z :: tb') (hsz : argsSz av ≤ M.2.2.1) (kk : WP G M Q 0 0 0 (argsLv 0 av) [] S) : MT G M av S Q := by
  obtain ⟨y, cc, maxL, ret, tb, d, mc, ms⟩ := M
  have htb : tb = z :: tb' := htb
  subst htb
  refine vx_ofWH (cc := cc) (maxL := maxL) (ret := ret) (hh := z :: tb') (ws' := []) hy rfl ?_
  intro p e s m args below meth c s₁ B hml hv
  obtain ⟨rfl, hG, hW, hE, hh⟩ := hv
  have hl := lv_entry (av.map toV) (n := maxL) (by rw [argsSz_eq]; exact hsz)
  rw [argsLv_eq] at hl
  rw [lg_entry_eq]
  generalize (lg_sl (av.map toV) ++ List.replicate (maxL - (lg_sl (av.map toV)).length) Slot.unset).toArray = ls at hl ⊢
  exact kk p e s m _ below meth c s.heap [] ls ⟨B.exec, B.bytes, B.returns, B.notSynchronized, hml, findClass_of_methodNamed B.named, (name_of_methodNamed B.named B.method).1, vx_table (x := y) B (atoms_spec B.pre _ List.mem_cons_self), hG, hW, hE⟩ hh va_S.rf hl
theorem MT.imp {av : List VV} {Q' : RS → SS → Prop} (h : MT G M av S Q) (hi : ∀ r S', Q r S' → Q' r S') : MT G M av S Q' := by
  intro p e ha hc hk s m args below hf happ hP hK
  obtain ⟨n1, o, h1, h2, h3, h4⟩ := h p e ha hc hk s m args below hf happ hP hK
  refine ⟨n1, o, h1, h2, h3, ?_⟩
  rcases h4 with ⟨⟨v, S', e1, hq, e2⟩, e3⟩ | ⟨q, e1, E, ce, L, ⟨S', hq, e2⟩, e3⟩
  · exact Or.inl ⟨⟨v, S', e1, hi _ _ hq, e2⟩, e3⟩
  · exact Or.inr ⟨q, e1, E, ce, L, ⟨S', hi _ _ hq, e2⟩, e3⟩
end WPR
