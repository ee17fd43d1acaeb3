/-! ===== the script ===== -/
section LAW
variable {G : GC} {M : MD} {Q : RS → SS → Prop} {k n pc : Nat} {lv : List (Nat × VV)} {st : List VV} {S : SS}
def scX (G : GC) (Ln : Nat) (xs : Nat → Int32) : Prop := va_X G.2.2.2.2.1 Ln xs G.2.1 G.2.1.heap ∧ G.2.2.2.2.1 < G.2.1.heap.size
theorem scX_at {Ln : Nat} {xs : Nat → Int32} {p : Program} {s : State} {m : MethodId} {meth : Method} {c : Code} (hX : scX G Ln xs) (C : Cx G p M s m meth c) : va_X G.2.2.2.2.1 Ln xs s s.heap ∧ G.2.2.2.2.1 < s.heap.size := by
  obtain ⟨e1, e2, -⟩ := C.2.2.2.2.2.2.2.2.2.2
  exact ⟨va_X.moved C.2.2.2.2.2.2.2.2.2.1.alike (va_X.kept hX.1 (e2 _ hX.2)), Nat.lt_of_lt_of_le hX.2 e1⟩
theorem WP_sld {Ln j : Nat} {xs : Nat → Int32} {i : Int32} (hX : scX G Ln xs) (dg : decode M.2.1 pc = .ok (.iaload, 1)) (hi : i = nI j) (hj : j < Ln) (hL : Ln < 2 ^ 31) (kk : WP G M Q k n (pc + 1) lv (vi (xs j) :: st) S) : WP G M Q k n pc lv (vi i :: vr (some G.2.2.2.2.1) :: st) S := by
  intro p e s m args below meth c H locs ls C hh hS hl
  subst hi
  obtain ⟨h1, h2⟩ := scX_at hX C
  have h3 := kk p e s m args below meth c H locs ls C hh hS hl
  refine va_sld C.1 C.2.1 h1 h2 (fun h => Nat.not_le.mpr hX.2 h.1) hS (vp_in_nI hj hL) dg ?_
  rw [nI_clamp (by omega)]
  exact h3
theorem WP_slen {Ln : Nat} {xs : Nat → Int32} (hX : scX G Ln xs) (dg : decode M.2.1 pc = .ok (.arraylength, 1)) (kk : WP G M Q k n (pc + 1) lv (vi (nI Ln) :: st) S) : WP G M Q k n pc lv (vr (some G.2.2.2.2.1) :: st) S := by
  intro p e s m args below meth c H locs ls C hh hS hl
  obtain ⟨h1, h2⟩ := scX_at hX C
  exact va_slen C.1 C.2.1 h1 h2 (fun h => Nat.not_le.mpr hX.2 h.1) hS dg (kk p e s m args below meth c H locs ls C hh hS hl)
theorem WP_tabIn {dflt lo hi : Int} {offs : Array Int} {len : Nat} {x : Int32} {off : Int} (tgt : Nat) (dg : decode M.2.1 pc = .ok (.tableswitch dflt lo hi offs, len)) (h1 : ¬ x.toInt < lo) (h2 : ¬ hi < x.toInt) (ho : offs[(x.toInt - lo).toNat]? = some off) (ht : (pc : Int) + off = (tgt : Int)) (kk : WP G M Q k n tgt lv st S) : WP G M Q k n pc lv (vi x :: st) S := by
  intro p e s m args below meth c H locs ls C hh hS hl
  exact lv_tableIn C.1 C.2.1 dg h1 h2 ho ht (kk p e s m args below meth c H locs ls C hh hS hl)
theorem WP_tabOut {dflt lo hi : Int} {offs : Array Int} {len : Nat} {x : Int32} (tgt : Nat) (dg : decode M.2.1 pc = .ok (.tableswitch dflt lo hi offs, len)) (h : x.toInt < lo ∨ hi < x.toInt) (ht : (pc : Int) + dflt = (tgt : Int)) (kk : WP G M Q k n tgt lv st S) : WP G M Q k n pc lv (vi x :: st) S := by
  intro p e s m args below meth c H locs ls C hh hS hl
  exact lv_tableOut C.1 C.2.1 dg h ht (kk p e s m args below meth c H locs ls C hh hS hl)
/-! ===== low, cell ===== -/
theorem l_low (v y : Int32) (hy : ¬ y = 0) : MT G mL_low [vi v, vi y] S (rI (fun x S' => x = lwR v y ∧ S' = S)) := by
  refine MT_of (by decide) rfl (Nat.le_of_ble_eq_true rfl) ?_
  refine WP_iload_n dL_low_0 rfl ?_
  refine WP_ldc dL_low_1 ck_7 ?_
  refine WP_iand dL_low_3 ?_
  refine WP_iload_n dL_low_4 rfl ?_
  refine WP_irem _ dL_low_5 hy rfl ?_
  refine WP_ireturn dL_low_6 rfl rfl (Nat.le_of_ble_eq_true rfl) (Nat.le_of_ble_eq_true rfl) ?_
  exact ⟨_, rfl, rfl, rfl⟩
theorem l_cell {Ln j : Nat} {xs : Nat → Int32} (hX : scX G Ln xs) (hj : j < Ln) (hL : Ln < 2 ^ 31) : MT G mL_cell [vr (some G.2.2.2.2.1), vi (nI j)] S (rI (fun x S' => x = xs j ∧ S' = S)) := by
  refine MT_of (by decide) rfl (Nat.le_of_ble_eq_true rfl) ?_
  refine WP_iload_n dL_cell_0 rfl ?_
  refine WP_aload_n dL_cell_1 rfl ?_
  refine WP_slen hX dL_cell_2 ?_
  refine WP_icmp_ge 12 dL_cell_3 (by decide) (fun hb => absurd hb (nI_ge hj hL)) (fun _ => ?_)
  refine WP_aload_n dL_cell_6 rfl ?_
  refine WP_iload_n dL_cell_7 rfl ?_
  refine WP_sld (j := j) hX dL_cell_8 rfl hj hL ?_
  refine WP_goto 26 dL_cell_9 (by decide) ?_
  refine WP_ireturn dL_cell_26 rfl rfl (Nat.le_of_ble_eq_true rfl) (Nat.le_of_ble_eq_true rfl) ?_
  exact ⟨_, rfl, rfl, rfl⟩
end LAW
/-! ===== insert, raise, sum, as the law calls them ===== -/
section WRP
variable {G : GC} {E : Nat → Nat} {A : AB} {S : SS} {V : List Int32}
theorem w_insert {k : Nat} {w : Int32} (hS : oS E A S) (hA : sA A V) (hk : k ≤ V.length) (hV : V.length < 60) (hw : okv w) : MT G mL_insert [vr (some (E 0)), vi (nI k), vi w] S (rI (fun x S' => x = nI (V.length + 1) ∧ ∃ A', oS E A' S' ∧ sA A' (V.take k ++ w :: V.drop k))) := by
  obtain ⟨L, K, AN, R0, Rc, Ic, AIc, AR, Im, AIm, AL, rfl, hI⟩ := hS
  have h0 := hI.1.1
  refine MT_ofH (by decide) rfl (Nat.le_of_ble_eq_true rfl) ?_
  refine WP_aload_n dL_insert_0 rfl ?_
  refine WP_iload_n dL_insert_1 rfl ?_
  refine WP_iload_n dL_insert_2 rfl ?_
  refine WP_callV mX4_insert (As := [_, _]) dL_insert_3 okc_X4_insert ok_502 ⟨by decide, by decide⟩ rfl rfl h0 rfl (Nat.le_of_ble_eq_true rfl) (Nat.le_of_ble_eq_true rfl) (Nat.le_of_ble_eq_true rfl) (k_insert (t := A.1) (c := A.2.1) (fg := A.2.2.1) (n := A.2.2.2) 0 (nI k) w hI) (fun v9 S9 hq => ?_) (fun E9 S9 hq => ?_)
  · obtain ⟨q, -, hJ, ⟨-, h2⟩ | ⟨ex, -, -, h2⟩⟩ := hq
    · cases h2
      obtain ⟨s1, s2, s3⟩ := s_ins (q, 0) hA hk hV hw
      refine WP_ireturn dL_insert_6 rfl rfl (Nat.le_of_ble_eq_true rfl) (Nat.le_of_ble_eq_true rfl) ?_
      exact ⟨_, rfl, s2, _, oS_J hJ, s3⟩
    · cases h2
  · obtain ⟨q, -, hJ, ⟨-, h2⟩ | ⟨ex, -, h1, -⟩⟩ := hq
    · cases h2
    · exact absurd (s_ins (q, 0) hA hk hV hw).1 h1
theorem w_raise {d : Int32} (hS : oS E A S) (hA : sA A V) (hV0 : 0 < V.length) (hV : V.length ≤ 60) (hd : okv d) : MT G mL_raise [vr (some (E 0)), vi (nI 0), vi (nI V.length), vi d] S (rI (fun x S' => x = nI V.length ∧ ∃ A', oS E A' S' ∧ sA A' (V.map (· + d)))) := by
  obtain ⟨L, K, AN, R0, Rc, Ic, AIc, AR, Im, AIm, AL, rfl, hI⟩ := hS
  have h0 := hI.1.1
  obtain ⟨s1, s2, s3⟩ := s_rai hA hV0 hV hd
  refine MT_ofH (by decide) rfl (Nat.le_of_ble_eq_true rfl) ?_
  refine WP_aload_n dL_raise_0 rfl ?_
  refine WP_iload_n dL_raise_1 rfl ?_
  refine WP_iload_n dL_raise_2 rfl ?_
  refine WP_iload_n dL_raise_3 rfl ?_
  refine WP_callV mX4_raise (As := [_, _, _]) dL_raise_4 okc_X4_raise ok_377 ⟨by decide, by decide⟩ rfl rfl h0 rfl (Nat.le_of_ble_eq_true rfl) (Nat.le_of_ble_eq_true rfl) (Nat.le_of_ble_eq_true rfl) (k_raise (t := A.1) (c := A.2.1) (fg := A.2.2.1) (n := A.2.2.2) (nI 0) (nI V.length) d hI) (fun v9 S9 hq => ?_) (fun E9 S9 hq => ?_)
  · obtain ⟨hJ, ⟨-, h2⟩ | ⟨ex, -, -, h2⟩⟩ := hq
    · cases h2
      refine WP_ireturn dL_raise_7 rfl rfl (Nat.le_of_ble_eq_true rfl) (Nat.le_of_ble_eq_true rfl) ?_
      exact ⟨_, rfl, s2, _, oS_J hJ, s3⟩
    · cases h2
  · obtain ⟨hJ, ⟨-, h2⟩ | ⟨ex, -, h1, -⟩⟩ := hq
    · cases h2
    · exact absurd s1 h1
theorem w_sum {u : Nat} (hS : oS E A S) (hA : sA A V) (hu0 : 0 < u) (hu : u < V.length) (hV : V.length ≤ 60) : MT G mL_sum [vr (some (E 0)), vi (nI 0), vi (nI u)] S (rI (fun x S' => x = sumL (V.take u) ∧ ∃ A', oS E A' S' ∧ A'.2.2.2.2.2.2 = A.2.2.2.2.2.2 + 2)) := by
  obtain ⟨L, K, AN, R0, Rc, Ic, AIc, AR, Im, AIm, AL, rfl, hI⟩ := hS
  have h0 := hI.1.1
  obtain ⟨s1, s2, s3⟩ := s_sum hA hu0 hu hV
  refine MT_ofH (by decide) rfl (Nat.le_of_ble_eq_true rfl) ?_
  refine WP_aload_n dL_sum_0 rfl ?_
  refine WP_iload_n dL_sum_1 rfl ?_
  refine WP_iload_n dL_sum_2 rfl ?_
  refine WP_callV mX4_sum (As := [_, _]) dL_sum_3 okc_X4_sum ok_392 ⟨by decide, by decide⟩ rfl rfl h0 rfl (Nat.le_of_ble_eq_true rfl) (Nat.le_of_ble_eq_true rfl) (Nat.le_of_ble_eq_true rfl) (k_sum (t := A.1) (c := A.2.1) (fg := A.2.2.1) (n := A.2.2.2) (nI 0) (nI u) hI) (fun v9 S9 hq => ?_) (fun E9 S9 hq => ?_)
  · obtain ⟨hJ, ⟨-, h2⟩ | ⟨ex, -, -, h2⟩⟩ := hq
    · cases h2
      refine WP_ireturn dL_sum_6 rfl rfl (Nat.le_of_ble_eq_true rfl) (Nat.le_of_ble_eq_true rfl) ?_
      exact ⟨_, rfl, s2, _, oS_J hJ, s3⟩
    · cases h2
  · obtain ⟨hJ, ⟨-, h2⟩ | ⟨ex, -, h1, -⟩⟩ := hq
    · cases h2
    · exact absurd s1 h1
theorem r_raise {d : Int32} (hS : oS E A S) (hA : sA A V) (hV0 : 0 < V.length) (hV : V.length ≤ 60) (hd : okv d) : MT G mL_range [vr (some (E 0)), vi 1, vi (nI 0), vi (nI V.length), vi d] S (rI (fun x S' => x = nI V.length ∧ ∃ A', oS E A' S' ∧ sA A' (V.map (· + d)))) := by
  refine MT_of (by decide) rfl (Nat.le_of_ble_eq_true rfl) ?_
  refine WP_iload_n dL_range_0 rfl ?_
  refine WP_tabIn 39 dL_range_1 (by decide) (by decide) rfl (by decide) ?_
  refine WP_aload_n dL_range_39 rfl ?_
  refine WP_iload_n dL_range_40 rfl ?_
  refine WP_iload_n dL_range_41 rfl ?_
  refine WP_iload dL_range_42 rfl ?_
  refine callSXi mL_raise [_, _, _, _] dL_range_44 okc_L_raise rfl ok_374 ⟨by decide, by decide⟩ rfl rfl (Nat.le_of_ble_eq_true rfl) (Nat.le_of_ble_eq_true rfl) (Nat.le_of_ble_eq_true rfl) (w_raise hS hA hV0 hV hd) (fun x9 S9 hq => ?_)
  refine WP_ireturn dL_range_47 rfl rfl (Nat.le_of_ble_eq_true rfl) (Nat.le_of_ble_eq_true rfl) ?_
  exact ⟨_, rfl, hq⟩
theorem r_sum {u : Nat} {d : Int32} (hS : oS E A S) (hA : sA A V) (hu0 : 0 < u) (hu : u < V.length) (hV : V.length ≤ 60) : MT G mL_range [vr (some (E 0)), vi 2, vi (nI 0), vi (nI u), vi d] S (rI (fun x S' => x = sumL (V.take u) ∧ ∃ A', oS E A' S' ∧ A'.2.2.2.2.2.2 = A.2.2.2.2.2.2 + 2)) := by
  refine MT_of (by decide) rfl (Nat.le_of_ble_eq_true rfl) ?_
  refine WP_iload_n dL_range_0 rfl ?_
  refine WP_tabIn 48 dL_range_1 (by decide) (by decide) rfl (by decide) ?_
  refine WP_aload_n dL_range_48 rfl ?_
  refine WP_iload_n dL_range_49 rfl ?_
  refine WP_iload_n dL_range_50 rfl ?_
  refine callSXi mL_sum [_, _, _] dL_range_51 okc_L_sum rfl ok_389 ⟨by decide, by decide⟩ rfl rfl (Nat.le_of_ble_eq_true rfl) (Nat.le_of_ble_eq_true rfl) (Nat.le_of_ble_eq_true rfl) (w_sum hS hA hu0 hu hV) (fun x9 S9 hq => ?_)
  refine WP_ireturn dL_range_54 rfl rfl (Nat.le_of_ble_eq_true rfl) (Nat.le_of_ble_eq_true rfl) ?_
  exact ⟨_, rfl, hq⟩
/-! ===== act ===== -/
def actP (v : Int32) (n k : Nat) (w : Int32) : Prop := ¬ lwR (v >>> 23) 8 = 0 ∧ ((n = 0 ∧ k = 0) ∨ (0 < n ∧ k < n ∧ lwR (v >>> 5) (nI n) = nI k)) ∧ lwR (v >>> 8) 2001 - 1000 = w
theorem act_pre {Q : RS → SS → Prop} {v : Int32} {k : Nat} {w : Int32} (hS : oS E A S) (hA : sA A V) (hV : V.length ≤ 60) (hP : actP v V.length k w)
    (kk : ∀ S', oS E A S' → WP G mL_act Q 0 0 142 [(0, vr (some (E 0))), (1, vi v), (4, vi (nI k)), (5, vi w), (6, vi (nI k + lwR (v >>> 11) (nI (V.length - k + 1)))), (7, vi (lwR (v >>> 14) 4))] [vi (lwR v 16)] S') :
    WP G mL_act Q 0 0 0 [(0, vr (some (E 0))), (1, vi v)] [] S := by
  obtain ⟨h1, h2, h3⟩ := hP
  have hz := sA_sz hA
  have hkV : k ≤ V.length := by omega
  have J58 : ∀ S', oS E A S' → WP G mL_act Q 0 0 58 [(0, vr (some (E 0))), (1, vi v), (2, vi 0), (3, vi (nI V.length))] [vi (nI k)] S' := by
    intro S' hS'
    refine WP_istore dL_act_58 (by decide) rfl ?_
    refine WP_iload_n dL_act_60 rfl ?_
    refine WP_bipush (8) dL_act_61 (by decide) ?_
    refine WP_ishr _ dL_act_63 (shr_c _ _ (by decide)) ?_
    refine WP_iload_n dL_act_64 rfl ?_
    refine WP_if_eq 74 dL_act_65 (by decide) (fun _ => ?_) (fun hb => absurd hb (by decide))
    refine WP_sipush (2001) dL_act_74 (by decide) ?_
    refine callSi mL_low [_, _] dL_act_77 okc_L_low ok_126 ⟨by decide, by decide⟩ rfl rfl (Nat.le_of_ble_eq_true rfl) (Nat.le_of_ble_eq_true rfl) (Nat.le_of_ble_eq_true rfl) (l_low _ 2001 (by decide)) rfl (fun x1 S1 h9 => ?_)
    obtain ⟨rfl, rfl⟩ := h9
    refine WP_sipush (1000) dL_act_80 (by decide) ?_
    refine WP_isub dL_act_83 ?_
    rw [h3]
    refine WP_istore dL_act_84 (by decide) rfl ?_
    refine WP_iload dL_act_86 rfl ?_
    refine WP_iload_n dL_act_88 rfl ?_
    refine WP_bipush (11) dL_act_89 (by decide) ?_
    refine WP_ishr _ dL_act_91 (shr_c _ _ (by decide)) ?_
    refine WP_iload_n dL_act_92 rfl ?_
    refine WP_iload dL_act_93 rfl ?_
    refine WP_isub dL_act_95 ?_
    refine WP_iconst (1) dL_act_96 (by decide) ?_
    refine WP_iadd dL_act_97 ?_
    refine WP_iconst (1) dL_act_98 (by decide) ?_
    rw [nI_sub hkV, nI_1]
    refine WP_icmp_ge 106 dL_act_99 (by decide) (fun _ => ?_) (fun hb => absurd hb ?_)
    · refine WP_iload_n dL_act_106 rfl ?_
      refine WP_iload dL_act_107 rfl ?_
      refine WP_isub dL_act_109 ?_
      refine WP_iconst (1) dL_act_110 (by decide) ?_
      refine WP_iadd dL_act_111 ?_
      rw [nI_sub hkV, nI_1]
      refine callSi mL_low [_, _] dL_act_112 okc_L_low ok_126 ⟨by decide, by decide⟩ rfl rfl (Nat.le_of_ble_eq_true rfl) (Nat.le_of_ble_eq_true rfl) (Nat.le_of_ble_eq_true rfl) (l_low _ _ (nI_ne0 (by omega) (by omega))) rfl (fun x1 S1 h9 => ?_)
      obtain ⟨rfl, rfl⟩ := h9
      refine WP_iadd dL_act_115 ?_
      refine WP_istore dL_act_116 (by decide) rfl ?_
      refine WP_iload_n dL_act_118 rfl ?_
      refine WP_bipush (14) dL_act_119 (by decide) ?_
      refine WP_ishr _ dL_act_121 (shr_c _ _ (by decide)) ?_
      refine WP_iload_n dL_act_122 rfl ?_
      refine WP_if_eq 130 dL_act_123 (by decide) (fun _ => ?_) (fun hb => absurd hb (by decide))
      refine WP_iconst (4) dL_act_130 (by decide) ?_
      refine callSi mL_low [_, _] dL_act_131 okc_L_low ok_126 ⟨by decide, by decide⟩ rfl rfl (Nat.le_of_ble_eq_true rfl) (Nat.le_of_ble_eq_true rfl) (Nat.le_of_ble_eq_true rfl) (l_low _ 4 (by decide)) rfl (fun x1 S1 h9 => ?_)
      obtain ⟨rfl, rfl⟩ := h9
      refine WP_istore dL_act_134 (by decide) rfl ?_
      refine WP_iload_n dL_act_136 rfl ?_
      refine WP_bipush (16) dL_act_137 (by decide) ?_
      refine callSi mL_low [_, _] dL_act_139 okc_L_low ok_126 ⟨by decide, by decide⟩ rfl rfl (Nat.le_of_ble_eq_true rfl) (Nat.le_of_ble_eq_true rfl) (Nat.le_of_ble_eq_true rfl) (l_low _ 16 (by decide)) rfl (fun x1 S1 h9 => ?_)
      obtain ⟨rfl, rfl⟩ := h9
      refine WP_widen (k' := 0) (n' := 0) (Nat.le_of_ble_eq_true rfl) (Nat.le_of_ble_eq_true rfl) ?_
      refine WP_lv [(0, vr (some (E 0))), (1, vi v), (4, vi (nI k)), (5, vi w), (6, vi (nI k + lwR (v >>> 11) (nI (V.length - k + 1)))), (7, vi (lwR (v >>> 14) 4))] (List.forall_mem_cons.mpr ⟨rfl, List.forall_mem_cons.mpr ⟨rfl, List.forall_mem_cons.mpr ⟨rfl, List.forall_mem_cons.mpr ⟨rfl, List.forall_mem_cons.mpr ⟨rfl, List.forall_mem_cons.mpr ⟨rfl, fun _ h9 => absurd h9 List.not_mem_nil⟩⟩⟩⟩⟩⟩) ?_
      exact kk _ hS'
    · intro hb
      exact hb (nI_le (a := 1) (by omega) (by omega))
  refine WP_iload_n dL_act_0 rfl ?_
  refine WP_bipush (23) dL_act_1 (by decide) ?_
  refine WP_ishr _ dL_act_3 (shr_c _ _ (by decide)) ?_
  refine WP_bipush (8) dL_act_4 (by decide) ?_
  refine callSi mL_low [_, _] dL_act_6 okc_L_low ok_126 ⟨by decide, by decide⟩ rfl rfl (Nat.le_of_ble_eq_true rfl) (Nat.le_of_ble_eq_true rfl) (Nat.le_of_ble_eq_true rfl) (l_low _ 8 (by decide)) rfl (fun x1 S1 h9 => ?_)
  obtain ⟨rfl, rfl⟩ := h9
  refine WP_if_ne 16 dL_act_9 (by decide) (fun _ => ?_) (fun hb => absurd hb h1)
  refine WP_iconst (0) dL_act_16 (by decide) ?_
  refine WP_istore_n dL_act_17 (by decide) rfl ?_
  refine WP_aload_n dL_act_18 rfl ?_
  refine callVi mX4_size [] dL_act_19 okc_X4_size ok_130 ⟨by decide, by decide⟩ rfl rfl (oS_K hS) rfl (Nat.le_of_ble_eq_true rfl) (Nat.le_of_ble_eq_true rfl) (Nat.le_of_ble_eq_true rfl) (x_size hS) (fun x2 S2 h9 => ?_)
  obtain ⟨rfl, hS2⟩ := h9
  refine WP_iload_n dL_act_22 rfl ?_
  refine WP_if_eq 30 dL_act_23 (by decide) (fun _ => ?_) (fun hb => absurd hb (by decide))
  refine WP_iconst (0) dL_act_30 (by decide) ?_
  refine WP_iadd dL_act_31 ?_
  refine WP_istore_n dL_act_32 (by decide) rfl ?_
  rw [Int32.add_zero, hz]
  refine WP_iload_n dL_act_33 rfl ?_
  rcases h2 with ⟨n0, rfl⟩ | ⟨n0, k0, h2⟩
  · refine WP_if_ne 41 dL_act_34 (by decide) (fun hb => absurd (show nI V.length = 0 by rw [n0]; rfl) hb) (fun _ => ?_)
    refine WP_iconst (0) dL_act_37 (by decide) ?_
    refine WP_goto 58 dL_act_38 (by decide) ?_
    refine WP_widen (k' := 0) (n' := 0) (Nat.le_of_ble_eq_true rfl) (Nat.le_of_ble_eq_true rfl) ?_
    refine WP_lv [(0, vr (some (E 0))), (1, vi v), (2, vi 0), (3, vi (nI V.length))] (List.forall_mem_cons.mpr ⟨rfl, List.forall_mem_cons.mpr ⟨rfl, List.forall_mem_cons.mpr ⟨rfl, List.forall_mem_cons.mpr ⟨rfl, fun _ h9 => absurd h9 List.not_mem_nil⟩⟩⟩⟩) ?_
    exact J58 _ hS2
  · refine WP_if_ne 41 dL_act_34 (by decide) (fun _ => ?_) (fun hb => absurd hb (nI_ne0 n0 (by omega)))
    refine WP_iload_n dL_act_41 rfl ?_
    refine WP_iconst (5) dL_act_42 (by decide) ?_
    refine WP_ishr _ dL_act_43 (shr_c _ _ (by decide)) ?_
    refine WP_iload_n dL_act_44 rfl ?_
    refine callSi mL_low [_, _] dL_act_45 okc_L_low ok_126 ⟨by decide, by decide⟩ rfl rfl (Nat.le_of_ble_eq_true rfl) (Nat.le_of_ble_eq_true rfl) (Nat.le_of_ble_eq_true rfl) (l_low _ _ (nI_ne0 n0 (by omega))) rfl (fun x1 S1 h9 => ?_)
    obtain ⟨rfl, rfl⟩ := h9
    rw [h2]
    refine WP_iload_n dL_act_48 rfl ?_
    refine WP_if_eq 56 dL_act_49 (by decide) (fun _ => ?_) (fun hb => absurd hb (by decide))
    refine WP_iconst (0) dL_act_56 (by decide) ?_
    refine WP_isub dL_act_57 ?_
    rw [Int32.sub_zero]
    refine WP_widen (k' := 0) (n' := 0) (Nat.le_of_ble_eq_true rfl) (Nat.le_of_ble_eq_true rfl) ?_
    refine WP_lv [(0, vr (some (E 0))), (1, vi v), (2, vi 0), (3, vi (nI V.length))] (List.forall_mem_cons.mpr ⟨rfl, List.forall_mem_cons.mpr ⟨rfl, List.forall_mem_cons.mpr ⟨rfl, List.forall_mem_cons.mpr ⟨rfl, fun _ h9 => absurd h9 List.not_mem_nil⟩⟩⟩⟩) ?_
    exact J58 _ hS2
theorem act_ins {v : Int32} {k : Nat} {w : Int32} (hS : oS E A S) (hA : sA A V) (hV : V.length < 60) (hP : actP v V.length k w) (hw : okv w) (hs : 10 < (lwR v 16).toInt) :
    MT G mL_act [vr (some (E 0)), vi v] S (rI (fun x S' => x = nI (V.length + 1) ∧ ∃ A', oS E A' S' ∧ sA A' (V.take k ++ w :: V.drop k))) := by
  have hkV : k ≤ V.length := by
    obtain ⟨-, h2, -⟩ := hP
    omega
  refine MT_of (by decide) rfl (Nat.le_of_ble_eq_true rfl) ?_
  refine act_pre hS hA (by omega) hP (fun S2 hS2 => ?_)
  refine WP_tabOut 283 dL_act_142 (Or.inr hs) (by decide) ?_
  refine WP_aload_n dL_act_283 rfl ?_
  refine WP_iload dL_act_284 rfl ?_
  refine WP_iload dL_act_286 rfl ?_
  refine callSXi mL_insert [_, _, _] dL_act_288 okc_L_insert rfl ok_499 ⟨by decide, by decide⟩ rfl rfl (Nat.le_of_ble_eq_true rfl) (Nat.le_of_ble_eq_true rfl) (Nat.le_of_ble_eq_true rfl) (w_insert hS2 hA hkV hV hw) (fun x9 S9 hq => ?_)
  refine WP_ireturn dL_act_291 rfl rfl (Nat.le_of_ble_eq_true rfl) (Nat.le_of_ble_eq_true rfl) ?_
  exact ⟨_, rfl, hq⟩
theorem act_rng {Q : RS → SS → Prop} {v : Int32} {k : Nat} {w r : Int32} {p : Int32 → SS → Prop} (hS : oS E A S) (hA : sA A V) (hV : V.length ≤ 60) (hP : actP v V.length k w) (hs : lwR v 16 = 3 ∨ lwR v 16 = 4 ∨ lwR v 16 = 5 ∨ lwR v 16 = 6) (hr : lwR (v >>> 17) 5 = r)
    (hM : ∀ S2, oS E A S2 → MT G mL_range [vr (some (E 0)), vi r, vi (nI k), vi (nI k + lwR (v >>> 11) (nI (V.length - k + 1))), vi w] S2 (rI p)) :
    MT G mL_act [vr (some (E 0)), vi v] S (rI p) := by
  refine MT_of (by decide) rfl (Nat.le_of_ble_eq_true rfl) ?_
  refine act_pre hS hA hV hP (fun S2 hS2 => ?_)
  have J : WP G mL_act (rI p) 0 0 223 [(0, vr (some (E 0))), (1, vi v), (4, vi (nI k)), (5, vi w), (6, vi (nI k + lwR (v >>> 11) (nI (V.length - k + 1)))), (7, vi (lwR (v >>> 14) 4))] [] S2 := by
    refine WP_aload_n dL_act_223 rfl ?_
    refine WP_iload_n dL_act_224 rfl ?_
    refine WP_bipush (17) dL_act_225 (by decide) ?_
    refine WP_ishr _ dL_act_227 (shr_c _ _ (by decide)) ?_
    refine WP_iconst (5) dL_act_228 (by decide) ?_
    refine callSi mL_low [_, _] dL_act_229 okc_L_low ok_126 ⟨by decide, by decide⟩ rfl rfl (Nat.le_of_ble_eq_true rfl) (Nat.le_of_ble_eq_true rfl) (Nat.le_of_ble_eq_true rfl) (l_low _ 5 (by decide)) rfl (fun x1 S1 h9 => ?_)
    obtain ⟨rfl, rfl⟩ := h9
    rw [hr]
    refine WP_iload dL_act_232 rfl ?_
    refine WP_iload dL_act_234 rfl ?_
    refine WP_iload dL_act_236 rfl ?_
    refine callSi mL_range [_, _, _, _, _] dL_act_238 okc_L_range ok_323 ⟨by decide, by decide⟩ rfl rfl (Nat.le_of_ble_eq_true rfl) (Nat.le_of_ble_eq_true rfl) (Nat.le_of_ble_eq_true rfl) (hM _ hS2) rfl (fun x9 S9 hq => ?_)
    refine WP_ireturn dL_act_241 rfl rfl (Nat.le_of_ble_eq_true rfl) (Nat.le_of_ble_eq_true rfl) ?_
    exact ⟨_, rfl, hq⟩
  rcases hs with h | h | h | h
  · rw [h]
    exact WP_tabIn 223 dL_act_142 (by decide) (by decide) rfl (by decide) J
  · rw [h]
    exact WP_tabIn 223 dL_act_142 (by decide) (by decide) rfl (by decide) J
  · rw [h]
    exact WP_tabIn 223 dL_act_142 (by decide) (by decide) rfl (by decide) J
  · rw [h]
    exact WP_tabIn 223 dL_act_142 (by decide) (by decide) rfl (by decide) J
theorem act_rai {v : Int32} {w : Int32} (hS : oS E A S) (hA : sA A V) (hV0 : 0 < V.length) (hV : V.length ≤ 60) (hP : actP v V.length 0 w) (hw : okv w) (hs : lwR v 16 = 3 ∨ lwR v 16 = 4 ∨ lwR v 16 = 5 ∨ lwR v 16 = 6) (hr : lwR (v >>> 17) 5 = 1) (ht : lwR (v >>> 11) (nI (V.length + 1)) = nI V.length) :
    MT G mL_act [vr (some (E 0)), vi v] S (rI (fun x S' => x = nI V.length ∧ ∃ A', oS E A' S' ∧ sA A' (V.map (· + w)))) := by
  refine act_rng (Q := fun _ _ => True) hS hA hV hP hs hr (fun S2 hS2 => ?_)
  have e : nI 0 + lwR (v >>> 11) (nI (V.length - 0 + 1)) = nI V.length := by
    rw [Nat.sub_zero, ht, nI_0, Int32.zero_add]
  rw [e]
  exact r_raise hS2 hA hV0 hV hw
theorem act_sum {v : Int32} {u : Nat} {w : Int32} (hS : oS E A S) (hA : sA A V) (hu0 : 0 < u) (hu : u < V.length) (hV : V.length ≤ 60) (hP : actP v V.length 0 w) (hs : lwR v 16 = 3 ∨ lwR v 16 = 4 ∨ lwR v 16 = 5 ∨ lwR v 16 = 6) (hr : lwR (v >>> 17) 5 = 2) (ht : lwR (v >>> 11) (nI (V.length + 1)) = nI u) :
    MT G mL_act [vr (some (E 0)), vi v] S (rI (fun x S' => x = sumL (V.take u) ∧ ∃ A', oS E A' S' ∧ A'.2.2.2.2.2.2 = A.2.2.2.2.2.2 + 2)) := by
  refine act_rng (Q := fun _ _ => True) hS hA hV hP hs hr (fun S2 hS2 => ?_)
  have e : nI 0 + lwR (v >>> 11) (nI (V.length - 0 + 1)) = nI u := by
    rw [Nat.sub_zero, ht, nI_0, Int32.zero_add]
  rw [e]
  exact r_sum hS2 hA hu0 hu hV
end WRP
