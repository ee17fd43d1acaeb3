/-! ===== the law's cases ===== -/
abbrev lwl (G : GC) (E W : Nat → Nat) (O q : Nat) : List (Nat × VV) := [(0, vr (some G.2.2.2.2)), (1, vr (some (E 0))), (2, vr (some (W 0))), (3, vr (some O)), (4, vi (nI q))]
theorem lwl_of {G : GC} {E W : Nat → Nat} {O q : Nat} {lv : List (Nat × VV)} (h0 : lkp lv 0 = some (vr (some G.2.2.2.2))) (h1 : lkp lv 1 = some (vr (some (E 0)))) (h2 : lkp lv 2 = some (vr (some (W 0)))) (h3 : lkp lv 3 = some (vr (some O))) (h4 : lkp lv 4 = some (vi (nI q))) : ∀ z ∈ lwl G E W O q, lkp lv z.1 = some z.2 :=
  List.forall_mem_cons.mpr ⟨h0, List.forall_mem_cons.mpr ⟨h1, List.forall_mem_cons.mpr ⟨h2, List.forall_mem_cons.mpr ⟨h3, List.forall_mem_cons.mpr ⟨h4, fun _ h => absurd h List.not_mem_nil⟩⟩⟩⟩⟩
theorem rmC {k a b C : Nat} (h : k + b ≤ C) (h2 : a ≤ b) : k + a ≤ C := Nat.le_trans (Nat.add_le_add_left h2 k) h
theorem rmC2 {k a z b C : Nat} (h : k + b ≤ C) (h2 : a ≤ b) (hz : z = 0) : k + a + z ≤ C := by
  subst hz
  show k + a ≤ C
  exact rmC h h2
theorem rmC3 {k a z z' b C : Nat} (h : k + b ≤ C) (h2 : a ≤ b) (hz : z = 0) (hz' : z' = 0) : k + a + z + z' ≤ C := by
  subst hz'
  show k + a + z ≤ C
  exact rmC2 h h2 hz
theorem all_in : ∀ (m : Nat) (l : List Nat), (∀ j, j < m → j ∈ l) → m ≤ l.length := by
  intro m
  induction m with
  | zero => intro l _; exact Nat.zero_le _
  | succ m ih =>
    intro l h
    have h1 := h m (Nat.lt_succ_self m)
    have h2 := ih (l.erase m) (fun j hj => (List.mem_erase_of_ne (by omega)).mpr (h j (by omega)))
    rw [List.length_erase_of_mem h1] at h2
    have h3 := List.length_pos_of_mem h1
    omega
theorem first_out (l : List Nat) : ∀ m, (∃ i, i < m ∧ i ∉ l ∧ ∀ j, j < i → j ∈ l) ∨ ∀ j, j < m → j ∈ l := by
  intro m
  induction m with
  | zero => exact Or.inr (fun j hj => absurd hj (Nat.not_lt_zero _))
  | succ m ih =>
    rcases ih with ⟨i, h1, h2, h3⟩ | h
    · exact Or.inl ⟨i, by omega, h2, h3⟩
    · by_cases hm : m ∈ l
      · refine Or.inr (fun j hj => ?_)
        by_cases e : j = m
        · rw [e]
          exact hm
        · exact h j (by omega)
      · exact Or.inl ⟨m, Nat.lt_succ_self m, hm, h⟩
theorem free_ex {W : Nat → Nat} {L : List Nat} {K AN : Nat → Nat} {R0 : Nat → Nat → Option Nat} {Im AIm : Nat → Nat → Int32} {t c : Tr} {fg : Nat → Option (Nat × Nat)} {n : Cn} (hI : mI W L K AN R0 Im AIm (t, c, fg, n)) : ∃ i, tsz t + tsz c < 60 → i < 60 ∧ AIm (W 5) i = 0 ∧ ∀ j, j < i → AIm (W 5) j = 1 := by
  obtain ⟨-, -, -, -, -, ⟨h1, h0⟩, -⟩ := hI
  rcases first_out (kl kI t ++ kl kI c) 60 with ⟨i, hi, h2, h3⟩ | h
  · refine ⟨i, fun _ => ⟨hi, h0 i hi (fun x hx e => h2 ?_), fun j hj => ?_⟩⟩
    · rcases hx with hx | hx
      · exact List.mem_append_left _ (List.mem_map.mpr ⟨x, hx, e⟩)
      · exact List.mem_append_right _ (List.mem_map.mpr ⟨x, hx, e⟩)
    · rcases List.mem_append.mp (h3 j hj) with h | h
      · obtain ⟨x, hx, e⟩ := List.mem_map.mp h
        rw [← e]
        exact h1 x (Or.inl hx)
      · obtain ⟨x, hx, e⟩ := List.mem_map.mp h
        rw [← e]
        exact h1 x (Or.inr hx)
  · refine ⟨0, fun hlt => ?_⟩
    have := all_in 60 _ h
    rw [List.length_append, kl_len, kl_len] at this
    omega
section CAS
variable {G : GC} {Q : RS → SS → Prop} {E W : Nat → Nat} {O q Ln : Nat} {xs : Nat → Int32} {A : AB} {k n : Nat} {S : SS}
theorem cs_insert (hX : scX G Ln xs) (hq : q + 4 ≤ Ln) (hL : Ln ≤ 2048) (hJ : jI E W O A S) (hk : k + 30 ≤ 640158) (hn : n + 100 ≤ 7175630)
    (kk : ∀ A' S' k' n', jI E W O A' S' → k' ≤ k + 30 → n' ≤ n + 100 → WP G mL_law Q k' n' 1505 (lwl G E W O q) [] S') : WP G mL_law Q k n 164 (lwl G E W O q) [] S := by
  obtain ⟨L, K, AN, R0, Rc, Ic, AIc, AR, Im, AIm, AL, rfl, hC, hI, hO, nO⟩ := hJ
  obtain ⟨t, c, fg, n0⟩ := A
  have hA : AI (t, c, fg, n0) := hC.2.2.2.2.2.2
  obtain ⟨i, hi⟩ := free_ex hI
  refine WP_aload_n dL_law_164 rfl ?_
  refine WP_aload_n dL_law_165 rfl ?_
  refine WP_iload dL_law_166 rfl ?_
  refine WP_iconst (1) dL_law_168 (by decide) ?_
  refine WP_iadd dL_law_169 ?_
  refine WP_sld (j := q + 1) hX dL_law_170 (nI_1 q) (by omega) (by omega) ?_
  refine WP_aload_n dL_law_171 rfl ?_
  refine WP_iload dL_law_172 rfl ?_
  refine WP_iconst (2) dL_law_174 (by decide) ?_
  refine WP_iadd dL_law_175 ?_
  refine WP_sld (j := q + 2) hX dL_law_176 (nI_add q 2) (by omega) (by omega) ?_
  refine WP_aload_n dL_law_177 rfl ?_
  refine WP_callSX mL_insert (As := [_, _, _, _]) dL_law_178 okc_L_insert rfl ok_213 ⟨by decide, by decide⟩ rfl rfl (Nat.le_of_ble_eq_true rfl) (Nat.le_trans (Nat.add_le_add_left (show mL_insert.2.2.2.2.2.2.1 ≤ 30 by decide) k) hk) (Nat.le_trans (Nat.add_le_add_left (show mL_insert.2.2.2.2.2.2.2 ≤ 100 by decide) n) hn)
    (wr_insert (xs (q + 1)) (xs (q + 2)) O (fun z => ∃ q0, q0 ∉ L ∧ z = aIns (q0, i) (t, c, fg, n0) (xs (q + 1)) (xs (q + 2))) hC.1.1 hO nO ((k_insert i (xs (q + 1)) (xs (q + 2)) hC).imp (fun r S' h => by obtain ⟨q0, h1, h2⟩ := h; exact ⟨_, ⟨q0, h1, rfl⟩, h2⟩))) (fun v9 S9 hq9 => ?_) (fun E9 S9 hq9 => absurd hq9 (rI_no E9 S9))
  obtain ⟨x9, e9, z, hz, hx9, AL', hJ9, ho⟩ := hq9
  cases e9
  obtain ⟨L', K', Rc', Ic', AIc', AR', rfl, hg, hC'⟩ := hJ9
  have hI' := mI_grow hg hI
  have hO' := gk hg hO
  subst hx9
  obtain ⟨q0, hq0, rfl⟩ := hz
  refine WP_istore dL_law_181 (by decide) rfl ?_
  refine WP_aload_n dL_law_183 rfl ?_
  refine WP_aload_n dL_law_184 rfl ?_
  refine WP_iload dL_law_185 rfl ?_
  refine WP_iconst (1) dL_law_187 (by decide) ?_
  refine WP_iadd dL_law_188 ?_
  refine WP_sld (j := q + 1) hX dL_law_189 (nI_1 q) (by omega) (by omega) ?_
  refine WP_aload_n dL_law_190 rfl ?_
  refine WP_iload dL_law_191 rfl ?_
  refine WP_iconst (2) dL_law_193 (by decide) ?_
  refine WP_iadd dL_law_194 ?_
  refine WP_sld (j := q + 2) hX dL_law_195 (nI_add q 2) (by omega) (by omega) ?_
  refine WP_callV mX5_insert (As := [_, _]) dL_law_196 okc_X5_insert ok_722 ⟨by decide, by decide⟩ rfl rfl hI'.1.1 rfl (Nat.le_of_ble_eq_true rfl) (rmC2 hk (show mL_insert.2.2.2.2.2.2.1 ≤ 30 by decide) rfl) (rmC2 hn (show mL_insert.2.2.2.2.2.2.2 ≤ 100 by decide) rfl) (p_insert q0 i (xs (q + 1)) (xs (q + 2)) hA hI' hi) (fun v9 S9 hq9 => ?_) (fun E9 S9 hq9 => by obtain ⟨_, _, _, h, _⟩ := hq9; cases h)
  obtain ⟨y, I9, A9, e9, hy, rfl, hI9, ht9⟩ := hq9
  cases e9
  refine WP_istore dL_law_199 (by decide) rfl ?_
  refine WP_aload_n dL_law_201 rfl ?_
  refine callVi mX5_thrown [] dL_law_202 okc_X5_thrown ok_718 ⟨by decide, by decide⟩ rfl rfl hI9.1.1 rfl (Nat.le_of_ble_eq_true rfl) (rmC3 hk (show mL_insert.2.2.2.2.2.2.1 ≤ 30 by decide) rfl rfl) (rmC3 hn (show mL_insert.2.2.2.2.2.2.2 ≤ 100 by decide) rfl rfl) (m_thrown hI9.1.1) (fun x1 S1 h1 => ?_)
  obtain ⟨rfl, rfl⟩ := h1
  rw [ht9]
  have fin : WP G mL_law Q (k + mL_insert.2.2.2.2.2.2.1 + 0 + 0) (n + mL_insert.2.2.2.2.2.2.2 + 0 + 0) 229 (lwl G E W O q) [] (mkS L' K' AN R0 Rc' Ic' AIc' AR' I9 A9 AL') := by
    refine WP_goto 1505 dL_law_229 (by decide) ?_
    refine kk _ _ _ _ ⟨L', K', AN, R0, Rc', Ic', AIc', AR', I9, A9, AL', rfl, hC', hI9, hO', nO⟩ (Nat.add_le_add_left (show mL_insert.2.2.2.2.2.2.1 ≤ 30 by decide) k) (Nat.add_le_add_left (show mL_insert.2.2.2.2.2.2.2 ≤ 100 by decide) n)
  have hz3 : (aIns (q0, i) (t, c, fg, n0) (xs (q + 1)) (xs (q + 2))).1 ≤ 3 := by
    unfold aIns
    repeat' split
    all_goals exact Nat.le_of_ble_eq_true rfl
  refine WP_iload dL_law_205 rfl ?_
  refine WP_icmp_eq 212 dL_law_207 (by decide) (fun _ => ?_) (fun hb => absurd rfl hb)
  refine WP_iload dL_law_212 rfl ?_
  refine WP_if_ne 229 dL_law_214 (by decide) (fun hb => ?_) (fun hb => ?_)
  · refine WP_lv (lwl G E W O q) (lwl_of rfl rfl rfl rfl rfl) ?_
    exact fin
  · have hz0 : (aIns (q0, i) (t, c, fg, n0) (xs (q + 1)) (xs (q + 2))).1 = 0 := (nI_eq (by omega) (by decide)).mp (hb : nI _ = nI 0)
    refine WP_aload_n dL_law_217 rfl ?_
    refine WP_iconst (0) dL_law_218 (by decide) ?_
    refine ald_10 0 1 dL_law_219 rfl hO' nO rfl (by decide) (by decide) ?_
    rw [ho hz0]
    refine WP_iload dL_law_220 rfl ?_
    refine WP_i2l dL_law_222 ?_
    rw [hy hz0]
    refine WP_lcmp dL_law_223 ?_
    refine WP_if_eq 229 dL_law_224 (by decide) (fun _ => ?_) (fun hb => absurd ((lg_cmp_eq _ _).mpr rfl) hb)
    refine WP_lv (lwl G E W O q) (lwl_of rfl rfl rfl rfl rfl) ?_
    exact fin
theorem cs_remove (hX : scX G Ln xs) (hq : q + 4 ≤ Ln) (hL : Ln ≤ 2048) (hJ : jI E W O A S) (hk : k + 30 ≤ 640158) (hn : n + 100 ≤ 7175630)
    (kk : ∀ A' S' k' n', jI E W O A' S' → k' ≤ k + 30 → n' ≤ n + 100 → WP G mL_law Q k' n' 1505 (lwl G E W O q) [] S') : WP G mL_law Q k n 232 (lwl G E W O q) [] S := by
  obtain ⟨L, K, AN, R0, Rc, Ic, AIc, AR, Im, AIm, AL, rfl, hC, hI, hO, nO⟩ := hJ
  obtain ⟨t, c, fg, n0⟩ := A
  have hA : AI (t, c, fg, n0) := hC.2.2.2.2.2.2
  refine WP_aload_n dL_law_232 rfl ?_
  refine WP_aload_n dL_law_233 rfl ?_
  refine WP_iload dL_law_234 rfl ?_
  refine WP_iconst (1) dL_law_236 (by decide) ?_
  refine WP_iadd dL_law_237 ?_
  refine WP_sld (j := q + 1) hX dL_law_238 (nI_1 q) (by omega) (by omega) ?_
  refine WP_aload_n dL_law_239 rfl ?_
  refine WP_callSX mL_remove (As := [_, _, _]) dL_law_240 okc_L_remove rfl ok_410 ⟨by decide, by decide⟩ rfl rfl (Nat.le_of_ble_eq_true rfl) (Nat.le_trans (Nat.add_le_add_left (show mL_remove.2.2.2.2.2.2.1 ≤ 30 by decide) k) hk) (Nat.le_trans (Nat.add_le_add_left (show mL_remove.2.2.2.2.2.2.2 ≤ 100 by decide) n) hn)
    (wr_remove (xs (q + 1)) O (fun z => z = aRem (t, c, fg, n0) (xs (q + 1))) hC.1.1 hO nO ((k_remove (xs (q + 1)) hC).imp (fun r S' h => ⟨_, rfl, h⟩))) (fun v9 S9 hq9 => ?_) (fun E9 S9 hq9 => absurd hq9 (rI_no E9 S9))
  obtain ⟨x9, e9, z, hz, hx9, AL', hJ9, ho⟩ := hq9
  cases e9
  obtain ⟨L', K', Rc', Ic', AIc', AR', rfl, hg, hC'⟩ := hJ9
  have hI' := mI_grow hg hI
  have hO' := gk hg hO
  subst hx9
  subst hz
  refine WP_istore dL_law_243 (by decide) rfl ?_
  refine WP_aload_n dL_law_245 rfl ?_
  refine WP_aload_n dL_law_246 rfl ?_
  refine WP_iload dL_law_247 rfl ?_
  refine WP_iconst (1) dL_law_249 (by decide) ?_
  refine WP_iadd dL_law_250 ?_
  refine WP_sld (j := q + 1) hX dL_law_251 (nI_1 q) (by omega) (by omega) ?_
  refine WP_callV mX5_remove (As := [_]) dL_law_252 okc_X5_remove ok_777 ⟨by decide, by decide⟩ rfl rfl hI'.1.1 rfl (Nat.le_of_ble_eq_true rfl) (rmC2 hk (show mL_remove.2.2.2.2.2.2.1 ≤ 30 by decide) rfl) (rmC2 hn (show mL_remove.2.2.2.2.2.2.2 ≤ 100 by decide) rfl) (p_remove (xs (q + 1)) hA hI') (fun v9 S9 hq9 => ?_) (fun E9 S9 hq9 => by obtain ⟨_, _, _, h, _⟩ := hq9; cases h)
  obtain ⟨y, I9, A9, e9, hy, rfl, hI9, ht9⟩ := hq9
  cases e9
  refine WP_istore dL_law_255 (by decide) rfl ?_
  refine WP_aload_n dL_law_257 rfl ?_
  refine callVi mX5_thrown [] dL_law_258 okc_X5_thrown ok_718 ⟨by decide, by decide⟩ rfl rfl hI9.1.1 rfl (Nat.le_of_ble_eq_true rfl) (rmC3 hk (show mL_remove.2.2.2.2.2.2.1 ≤ 30 by decide) rfl rfl) (rmC3 hn (show mL_remove.2.2.2.2.2.2.2 ≤ 100 by decide) rfl rfl) (m_thrown hI9.1.1) (fun x1 S1 h1 => ?_)
  obtain ⟨rfl, rfl⟩ := h1
  rw [ht9]
  have fin : WP G mL_law Q (k + mL_remove.2.2.2.2.2.2.1 + 0 + 0) (n + mL_remove.2.2.2.2.2.2.2 + 0 + 0) 285 (lwl G E W O q) [] (mkS L' K' AN R0 Rc' Ic' AIc' AR' I9 A9 AL') := by
    refine WP_goto 1505 dL_law_285 (by decide) ?_
    refine kk _ _ _ _ ⟨L', K', AN, R0, Rc', Ic', AIc', AR', I9, A9, AL', rfl, hC', hI9, hO', nO⟩ (Nat.add_le_add_left (show mL_remove.2.2.2.2.2.2.1 ≤ 30 by decide) k) (Nat.add_le_add_left (show mL_remove.2.2.2.2.2.2.2 ≤ 100 by decide) n)
  have hz3 : (aRem (t, c, fg, n0) (xs (q + 1))).1 ≤ 3 := by
    unfold aRem
    repeat' split
    all_goals exact Nat.le_of_ble_eq_true rfl
  refine WP_iload dL_law_261 rfl ?_
  refine WP_icmp_eq 268 dL_law_263 (by decide) (fun _ => ?_) (fun hb => absurd rfl hb)
  refine WP_iload dL_law_268 rfl ?_
  refine WP_if_ne 285 dL_law_270 (by decide) (fun hb => ?_) (fun hb => ?_)
  · refine WP_lv (lwl G E W O q) (lwl_of rfl rfl rfl rfl rfl) ?_
    exact fin
  · have hz0 : (aRem (t, c, fg, n0) (xs (q + 1))).1 = 0 := (nI_eq (by omega) (by decide)).mp (hb : nI _ = nI 0)
    refine WP_aload_n dL_law_273 rfl ?_
    refine WP_iconst (0) dL_law_274 (by decide) ?_
    refine ald_10 0 1 dL_law_275 rfl hO' nO rfl (by decide) (by decide) ?_
    rw [ho hz0]
    refine WP_iload dL_law_276 rfl ?_
    refine WP_i2l dL_law_278 ?_
    rw [hy hz0]
    refine WP_lcmp dL_law_279 ?_
    refine WP_if_eq 285 dL_law_280 (by decide) (fun _ => ?_) (fun hb => absurd ((lg_cmp_eq _ _).mpr rfl) hb)
    refine WP_lv (lwl G E W O q) (lwl_of rfl rfl rfl rfl rfl) ?_
    exact fin
theorem cs_get (hX : scX G Ln xs) (hq : q + 4 ≤ Ln) (hL : Ln ≤ 2048) (hJ : jI E W O A S) (hk : k + 30 ≤ 640158) (hn : n + 100 ≤ 7175630)
    (kk : ∀ A' S' k' n', jI E W O A' S' → k' ≤ k + 30 → n' ≤ n + 100 → WP G mL_law Q k' n' 1505 (lwl G E W O q) [] S') : WP G mL_law Q k n 288 (lwl G E W O q) [] S := by
  obtain ⟨L, K, AN, R0, Rc, Ic, AIc, AR, Im, AIm, AL, rfl, hC, hI, hO, nO⟩ := hJ
  obtain ⟨t, c, fg, n0⟩ := A
  have hA : AI (t, c, fg, n0) := hC.2.2.2.2.2.2
  refine WP_aload_n dL_law_288 rfl ?_
  refine WP_aload_n dL_law_289 rfl ?_
  refine WP_iload dL_law_290 rfl ?_
  refine WP_iconst (1) dL_law_292 (by decide) ?_
  refine WP_iadd dL_law_293 ?_
  refine WP_sld (j := q + 1) hX dL_law_294 (nI_1 q) (by omega) (by omega) ?_
  refine WP_aload_n dL_law_295 rfl ?_
  refine WP_callSX mL_get (As := [_, _, _]) dL_law_296 okc_L_get rfl ok_445 ⟨by decide, by decide⟩ rfl rfl (Nat.le_of_ble_eq_true rfl) (Nat.le_trans (Nat.add_le_add_left (show mL_get.2.2.2.2.2.2.1 ≤ 30 by decide) k) hk) (Nat.le_trans (Nat.add_le_add_left (show mL_get.2.2.2.2.2.2.2 ≤ 100 by decide) n) hn)
    (wr_get (xs (q + 1)) O (fun z => z = aGet (t, c, fg, n0) (xs (q + 1))) hC.1.1 hO nO ((k_get (xs (q + 1)) hC).imp (fun r S' h => ⟨_, rfl, h⟩))) (fun v9 S9 hq9 => ?_) (fun E9 S9 hq9 => absurd hq9 (rI_no E9 S9))
  obtain ⟨x9, e9, z, hz, hx9, AL', hJ9, ho⟩ := hq9
  cases e9
  obtain ⟨L', K', Rc', Ic', AIc', AR', rfl, hg, hC'⟩ := hJ9
  have hI' := mI_grow hg hI
  have hO' := gk hg hO
  subst hx9
  subst hz
  refine WP_istore dL_law_299 (by decide) rfl ?_
  refine WP_aload_n dL_law_301 rfl ?_
  refine WP_aload_n dL_law_302 rfl ?_
  refine WP_iload dL_law_303 rfl ?_
  refine WP_iconst (1) dL_law_305 (by decide) ?_
  refine WP_iadd dL_law_306 ?_
  refine WP_sld (j := q + 1) hX dL_law_307 (nI_1 q) (by omega) (by omega) ?_
  refine WP_callV mX5_get (As := [_]) dL_law_308 okc_X5_get ok_793 ⟨by decide, by decide⟩ rfl rfl hI'.1.1 rfl (Nat.le_of_ble_eq_true rfl) (rmC2 hk (show mL_get.2.2.2.2.2.2.1 ≤ 30 by decide) rfl) (rmC2 hn (show mL_get.2.2.2.2.2.2.2 ≤ 100 by decide) rfl) (p_get (xs (q + 1)) hA hI') (fun v9 S9 hq9 => ?_) (fun E9 S9 hq9 => by obtain ⟨_, _, _, h, _⟩ := hq9; cases h)
  obtain ⟨y, I9, A9, e9, hy, rfl, hI9, ht9⟩ := hq9
  cases e9
  refine WP_istore dL_law_311 (by decide) rfl ?_
  refine WP_aload_n dL_law_313 rfl ?_
  refine callVi mX5_thrown [] dL_law_314 okc_X5_thrown ok_718 ⟨by decide, by decide⟩ rfl rfl hI9.1.1 rfl (Nat.le_of_ble_eq_true rfl) (rmC3 hk (show mL_get.2.2.2.2.2.2.1 ≤ 30 by decide) rfl rfl) (rmC3 hn (show mL_get.2.2.2.2.2.2.2 ≤ 100 by decide) rfl rfl) (m_thrown hI9.1.1) (fun x1 S1 h1 => ?_)
  obtain ⟨rfl, rfl⟩ := h1
  rw [ht9]
  have fin : WP G mL_law Q (k + mL_get.2.2.2.2.2.2.1 + 0 + 0) (n + mL_get.2.2.2.2.2.2.2 + 0 + 0) 341 (lwl G E W O q) [] (mkS L' K' AN R0 Rc' Ic' AIc' AR' I9 A9 AL') := by
    refine WP_goto 1505 dL_law_341 (by decide) ?_
    refine kk _ _ _ _ ⟨L', K', AN, R0, Rc', Ic', AIc', AR', I9, A9, AL', rfl, hC', hI9, hO', nO⟩ (Nat.add_le_add_left (show mL_get.2.2.2.2.2.2.1 ≤ 30 by decide) k) (Nat.add_le_add_left (show mL_get.2.2.2.2.2.2.2 ≤ 100 by decide) n)
  have hz3 : (aGet (t, c, fg, n0) (xs (q + 1))).1 ≤ 3 := by
    unfold aGet
    repeat' split
    all_goals exact Nat.le_of_ble_eq_true rfl
  refine WP_iload dL_law_317 rfl ?_
  refine WP_icmp_eq 324 dL_law_319 (by decide) (fun _ => ?_) (fun hb => absurd rfl hb)
  refine WP_iload dL_law_324 rfl ?_
  refine WP_if_ne 341 dL_law_326 (by decide) (fun hb => ?_) (fun hb => ?_)
  · refine WP_lv (lwl G E W O q) (lwl_of rfl rfl rfl rfl rfl) ?_
    exact fin
  · have hz0 : (aGet (t, c, fg, n0) (xs (q + 1))).1 = 0 := (nI_eq (by omega) (by decide)).mp (hb : nI _ = nI 0)
    refine WP_aload_n dL_law_329 rfl ?_
    refine WP_iconst (0) dL_law_330 (by decide) ?_
    refine ald_10 0 1 dL_law_331 rfl hO' nO rfl (by decide) (by decide) ?_
    rw [ho hz0]
    refine WP_iload dL_law_332 rfl ?_
    refine WP_i2l dL_law_334 ?_
    rw [hy hz0]
    refine WP_lcmp dL_law_335 ?_
    refine WP_if_eq 341 dL_law_336 (by decide) (fun _ => ?_) (fun hb => absurd ((lg_cmp_eq _ _).mpr rfl) hb)
    refine WP_lv (lwl G E W O q) (lwl_of rfl rfl rfl rfl rfl) ?_
    exact fin
theorem cs_set (hX : scX G Ln xs) (hq : q + 4 ≤ Ln) (hL : Ln ≤ 2048) (hJ : jI E W O A S) (hk : k + 30 ≤ 640158) (hn : n + 100 ≤ 7175630)
    (kk : ∀ A' S' k' n', jI E W O A' S' → k' ≤ k + 30 → n' ≤ n + 100 → WP G mL_law Q k' n' 1505 (lwl G E W O q) [] S') : WP G mL_law Q k n 344 (lwl G E W O q) [] S := by
  obtain ⟨L, K, AN, R0, Rc, Ic, AIc, AR, Im, AIm, AL, rfl, hC, hI, hO, nO⟩ := hJ
  obtain ⟨t, c, fg, n0⟩ := A
  have hA : AI (t, c, fg, n0) := hC.2.2.2.2.2.2
  refine WP_aload_n dL_law_344 rfl ?_
  refine WP_aload_n dL_law_345 rfl ?_
  refine WP_iload dL_law_346 rfl ?_
  refine WP_iconst (1) dL_law_348 (by decide) ?_
  refine WP_iadd dL_law_349 ?_
  refine WP_sld (j := q + 1) hX dL_law_350 (nI_1 q) (by omega) (by omega) ?_
  refine WP_aload_n dL_law_351 rfl ?_
  refine WP_iload dL_law_352 rfl ?_
  refine WP_iconst (2) dL_law_354 (by decide) ?_
  refine WP_iadd dL_law_355 ?_
  refine WP_sld (j := q + 2) hX dL_law_356 (nI_add q 2) (by omega) (by omega) ?_
  refine WP_aload_n dL_law_357 rfl ?_
  refine WP_callSX mL_set (As := [_, _, _, _]) dL_law_358 okc_L_set rfl ok_452 ⟨by decide, by decide⟩ rfl rfl (Nat.le_of_ble_eq_true rfl) (Nat.le_trans (Nat.add_le_add_left (show mL_set.2.2.2.2.2.2.1 ≤ 30 by decide) k) hk) (Nat.le_trans (Nat.add_le_add_left (show mL_set.2.2.2.2.2.2.2 ≤ 100 by decide) n) hn)
    (wr_set (xs (q + 1)) (xs (q + 2)) O (fun z => z = aSet (t, c, fg, n0) (xs (q + 1)) (xs (q + 2))) hC.1.1 hO nO ((k_set (xs (q + 1)) (xs (q + 2)) hC).imp (fun r S' h => ⟨_, rfl, h⟩))) (fun v9 S9 hq9 => ?_) (fun E9 S9 hq9 => absurd hq9 (rI_no E9 S9))
  obtain ⟨x9, e9, z, hz, hx9, AL', hJ9, ho⟩ := hq9
  cases e9
  obtain ⟨L', K', Rc', Ic', AIc', AR', rfl, hg, hC'⟩ := hJ9
  have hI' := mI_grow hg hI
  have hO' := gk hg hO
  subst hx9
  subst hz
  refine WP_istore dL_law_361 (by decide) rfl ?_
  refine WP_aload_n dL_law_363 rfl ?_
  refine WP_aload_n dL_law_364 rfl ?_
  refine WP_iload dL_law_365 rfl ?_
  refine WP_iconst (1) dL_law_367 (by decide) ?_
  refine WP_iadd dL_law_368 ?_
  refine WP_sld (j := q + 1) hX dL_law_369 (nI_1 q) (by omega) (by omega) ?_
  refine WP_aload_n dL_law_370 rfl ?_
  refine WP_iload dL_law_371 rfl ?_
  refine WP_iconst (2) dL_law_373 (by decide) ?_
  refine WP_iadd dL_law_374 ?_
  refine WP_sld (j := q + 2) hX dL_law_375 (nI_add q 2) (by omega) (by omega) ?_
  refine WP_callV mX5_set (As := [_, _]) dL_law_376 okc_X5_set ok_801 ⟨by decide, by decide⟩ rfl rfl hI'.1.1 rfl (Nat.le_of_ble_eq_true rfl) (rmC2 hk (show mL_set.2.2.2.2.2.2.1 ≤ 30 by decide) rfl) (rmC2 hn (show mL_set.2.2.2.2.2.2.2 ≤ 100 by decide) rfl) (p_set (xs (q + 1)) (xs (q + 2)) hA hI') (fun v9 S9 hq9 => ?_) (fun E9 S9 hq9 => by obtain ⟨_, _, _, h, _⟩ := hq9; cases h)
  obtain ⟨y, I9, A9, e9, hy, rfl, hI9, ht9⟩ := hq9
  cases e9
  refine WP_istore dL_law_379 (by decide) rfl ?_
  refine WP_aload_n dL_law_381 rfl ?_
  refine callVi mX5_thrown [] dL_law_382 okc_X5_thrown ok_718 ⟨by decide, by decide⟩ rfl rfl hI9.1.1 rfl (Nat.le_of_ble_eq_true rfl) (rmC3 hk (show mL_set.2.2.2.2.2.2.1 ≤ 30 by decide) rfl rfl) (rmC3 hn (show mL_set.2.2.2.2.2.2.2 ≤ 100 by decide) rfl rfl) (m_thrown hI9.1.1) (fun x1 S1 h1 => ?_)
  obtain ⟨rfl, rfl⟩ := h1
  rw [ht9]
  have fin : WP G mL_law Q (k + mL_set.2.2.2.2.2.2.1 + 0 + 0) (n + mL_set.2.2.2.2.2.2.2 + 0 + 0) 409 (lwl G E W O q) [] (mkS L' K' AN R0 Rc' Ic' AIc' AR' I9 A9 AL') := by
    refine WP_goto 1505 dL_law_409 (by decide) ?_
    refine kk _ _ _ _ ⟨L', K', AN, R0, Rc', Ic', AIc', AR', I9, A9, AL', rfl, hC', hI9, hO', nO⟩ (Nat.add_le_add_left (show mL_set.2.2.2.2.2.2.1 ≤ 30 by decide) k) (Nat.add_le_add_left (show mL_set.2.2.2.2.2.2.2 ≤ 100 by decide) n)
  have hz3 : (aSet (t, c, fg, n0) (xs (q + 1)) (xs (q + 2))).1 ≤ 3 := by
    unfold aSet
    repeat' split
    all_goals exact Nat.le_of_ble_eq_true rfl
  refine WP_iload dL_law_385 rfl ?_
  refine WP_icmp_eq 392 dL_law_387 (by decide) (fun _ => ?_) (fun hb => absurd rfl hb)
  refine WP_iload dL_law_392 rfl ?_
  refine WP_if_ne 409 dL_law_394 (by decide) (fun hb => ?_) (fun hb => ?_)
  · refine WP_lv (lwl G E W O q) (lwl_of rfl rfl rfl rfl rfl) ?_
    exact fin
  · have hz0 : (aSet (t, c, fg, n0) (xs (q + 1)) (xs (q + 2))).1 = 0 := (nI_eq (by omega) (by decide)).mp (hb : nI _ = nI 0)
    refine WP_aload_n dL_law_397 rfl ?_
    refine WP_iconst (0) dL_law_398 (by decide) ?_
    refine ald_10 0 1 dL_law_399 rfl hO' nO rfl (by decide) (by decide) ?_
    rw [ho hz0]
    refine WP_iload dL_law_400 rfl ?_
    refine WP_i2l dL_law_402 ?_
    rw [hy hz0]
    refine WP_lcmp dL_law_403 ?_
    refine WP_if_eq 409 dL_law_404 (by decide) (fun _ => ?_) (fun hb => absurd ((lg_cmp_eq _ _).mpr rfl) hb)
    refine WP_lv (lwl G E W O q) (lwl_of rfl rfl rfl rfl rfl) ?_
    exact fin
theorem cs_reverse (hX : scX G Ln xs) (hq : q + 4 ≤ Ln) (hL : Ln ≤ 2048) (hJ : jI E W O A S) (hk : k + 30 ≤ 640158) (hn : n + 100 ≤ 7175630)
    (kk : ∀ A' S' k' n', jI E W O A' S' → k' ≤ k + 30 → n' ≤ n + 100 → WP G mL_law Q k' n' 1505 (lwl G E W O q) [] S') : WP G mL_law Q k n 412 (lwl G E W O q) [] S := by
  obtain ⟨L, K, AN, R0, Rc, Ic, AIc, AR, Im, AIm, AL, rfl, hC, hI, hO, nO⟩ := hJ
  obtain ⟨t, c, fg, n0⟩ := A
  have hA : AI (t, c, fg, n0) := hC.2.2.2.2.2.2
  refine WP_aload_n dL_law_412 rfl ?_
  refine WP_aload_n dL_law_413 rfl ?_
  refine WP_iload dL_law_414 rfl ?_
  refine WP_iconst (1) dL_law_416 (by decide) ?_
  refine WP_iadd dL_law_417 ?_
  refine WP_sld (j := q + 1) hX dL_law_418 (nI_1 q) (by omega) (by omega) ?_
  refine WP_aload_n dL_law_419 rfl ?_
  refine WP_iload dL_law_420 rfl ?_
  refine WP_iconst (2) dL_law_422 (by decide) ?_
  refine WP_iadd dL_law_423 ?_
  refine WP_sld (j := q + 2) hX dL_law_424 (nI_add q 2) (by omega) (by omega) ?_
  refine WP_aload_n dL_law_425 rfl ?_
  refine WP_callSX mL_reverse (As := [_, _, _, _]) dL_law_426 okc_L_reverse rfl ok_463 ⟨by decide, by decide⟩ rfl rfl (Nat.le_of_ble_eq_true rfl) (Nat.le_trans (Nat.add_le_add_left (show mL_reverse.2.2.2.2.2.2.1 ≤ 30 by decide) k) hk) (Nat.le_trans (Nat.add_le_add_left (show mL_reverse.2.2.2.2.2.2.2 ≤ 100 by decide) n) hn)
    (wr_reverse (xs (q + 1)) (xs (q + 2)) O (fun z => z = aRev (t, c, fg, n0) (xs (q + 1)) (xs (q + 2))) hC.1.1 hO nO ((k_reverse (xs (q + 1)) (xs (q + 2)) hC).imp (fun r S' h => ⟨_, rfl, h⟩))) (fun v9 S9 hq9 => ?_) (fun E9 S9 hq9 => absurd hq9 (rI_no E9 S9))
  obtain ⟨x9, e9, z, hz, hx9, AL', hJ9, ho⟩ := hq9
  cases e9
  obtain ⟨L', K', Rc', Ic', AIc', AR', rfl, hg, hC'⟩ := hJ9
  have hI' := mI_grow hg hI
  have hO' := gk hg hO
  subst hx9
  subst hz
  refine WP_istore dL_law_429 (by decide) rfl ?_
  refine WP_aload_n dL_law_431 rfl ?_
  refine WP_aload_n dL_law_432 rfl ?_
  refine WP_iload dL_law_433 rfl ?_
  refine WP_iconst (1) dL_law_435 (by decide) ?_
  refine WP_iadd dL_law_436 ?_
  refine WP_sld (j := q + 1) hX dL_law_437 (nI_1 q) (by omega) (by omega) ?_
  refine WP_aload_n dL_law_438 rfl ?_
  refine WP_iload dL_law_439 rfl ?_
  refine WP_iconst (2) dL_law_441 (by decide) ?_
  refine WP_iadd dL_law_442 ?_
  refine WP_sld (j := q + 2) hX dL_law_443 (nI_add q 2) (by omega) (by omega) ?_
  refine WP_callV mX5_reverse (As := [_, _]) dL_law_444 okc_X5_reverse ok_805 ⟨by decide, by decide⟩ rfl rfl hI'.1.1 rfl (Nat.le_of_ble_eq_true rfl) (rmC2 hk (show mL_reverse.2.2.2.2.2.2.1 ≤ 30 by decide) rfl) (rmC2 hn (show mL_reverse.2.2.2.2.2.2.2 ≤ 100 by decide) rfl) (p_reverse (xs (q + 1)) (xs (q + 2)) hA hI') (fun v9 S9 hq9 => ?_) (fun E9 S9 hq9 => by obtain ⟨_, _, _, h, _⟩ := hq9; cases h)
  obtain ⟨y, I9, A9, e9, hy, rfl, hI9, ht9⟩ := hq9
  cases e9
  refine WP_istore dL_law_447 (by decide) rfl ?_
  refine WP_aload_n dL_law_449 rfl ?_
  refine callVi mX5_thrown [] dL_law_450 okc_X5_thrown ok_718 ⟨by decide, by decide⟩ rfl rfl hI9.1.1 rfl (Nat.le_of_ble_eq_true rfl) (rmC3 hk (show mL_reverse.2.2.2.2.2.2.1 ≤ 30 by decide) rfl rfl) (rmC3 hn (show mL_reverse.2.2.2.2.2.2.2 ≤ 100 by decide) rfl rfl) (m_thrown hI9.1.1) (fun x1 S1 h1 => ?_)
  obtain ⟨rfl, rfl⟩ := h1
  rw [ht9]
  have fin : WP G mL_law Q (k + mL_reverse.2.2.2.2.2.2.1 + 0 + 0) (n + mL_reverse.2.2.2.2.2.2.2 + 0 + 0) 477 (lwl G E W O q) [] (mkS L' K' AN R0 Rc' Ic' AIc' AR' I9 A9 AL') := by
    refine WP_goto 1505 dL_law_477 (by decide) ?_
    refine kk _ _ _ _ ⟨L', K', AN, R0, Rc', Ic', AIc', AR', I9, A9, AL', rfl, hC', hI9, hO', nO⟩ (Nat.add_le_add_left (show mL_reverse.2.2.2.2.2.2.1 ≤ 30 by decide) k) (Nat.add_le_add_left (show mL_reverse.2.2.2.2.2.2.2 ≤ 100 by decide) n)
  have hz3 : (aRev (t, c, fg, n0) (xs (q + 1)) (xs (q + 2))).1 ≤ 3 := by
    unfold aRev
    repeat' split
    all_goals exact Nat.le_of_ble_eq_true rfl
  refine WP_iload dL_law_453 rfl ?_
  refine WP_icmp_eq 460 dL_law_455 (by decide) (fun _ => ?_) (fun hb => absurd rfl hb)
  refine WP_iload dL_law_460 rfl ?_
  refine WP_if_ne 477 dL_law_462 (by decide) (fun hb => ?_) (fun hb => ?_)
  · refine WP_lv (lwl G E W O q) (lwl_of rfl rfl rfl rfl rfl) ?_
    exact fin
  · have hz0 : (aRev (t, c, fg, n0) (xs (q + 1)) (xs (q + 2))).1 = 0 := (nI_eq (by omega) (by decide)).mp (hb : nI _ = nI 0)
    refine WP_aload_n dL_law_465 rfl ?_
    refine WP_iconst (0) dL_law_466 (by decide) ?_
    refine ald_10 0 1 dL_law_467 rfl hO' nO rfl (by decide) (by decide) ?_
    rw [ho hz0]
    refine WP_iload dL_law_468 rfl ?_
    refine WP_i2l dL_law_470 ?_
    rw [hy hz0]
    refine WP_lcmp dL_law_471 ?_
    refine WP_if_eq 477 dL_law_472 (by decide) (fun _ => ?_) (fun hb => absurd ((lg_cmp_eq _ _).mpr rfl) hb)
    refine WP_lv (lwl G E W O q) (lwl_of rfl rfl rfl rfl rfl) ?_
    exact fin
theorem cs_raise (hX : scX G Ln xs) (hq : q + 4 ≤ Ln) (hL : Ln ≤ 2048) (hJ : jI E W O A S) (hk : k + 30 ≤ 640158) (hn : n + 100 ≤ 7175630)
    (kk : ∀ A' S' k' n', jI E W O A' S' → k' ≤ k + 30 → n' ≤ n + 100 → WP G mL_law Q k' n' 1505 (lwl G E W O q) [] S') : WP G mL_law Q k n 480 (lwl G E W O q) [] S := by
  obtain ⟨L, K, AN, R0, Rc, Ic, AIc, AR, Im, AIm, AL, rfl, hC, hI, hO, nO⟩ := hJ
  obtain ⟨t, c, fg, n0⟩ := A
  have hA : AI (t, c, fg, n0) := hC.2.2.2.2.2.2
  refine WP_aload_n dL_law_480 rfl ?_
  refine WP_aload_n dL_law_481 rfl ?_
  refine WP_iload dL_law_482 rfl ?_
  refine WP_iconst (1) dL_law_484 (by decide) ?_
  refine WP_iadd dL_law_485 ?_
  refine WP_sld (j := q + 1) hX dL_law_486 (nI_1 q) (by omega) (by omega) ?_
  refine WP_aload_n dL_law_487 rfl ?_
  refine WP_iload dL_law_488 rfl ?_
  refine WP_iconst (2) dL_law_490 (by decide) ?_
  refine WP_iadd dL_law_491 ?_
  refine WP_sld (j := q + 2) hX dL_law_492 (nI_add q 2) (by omega) (by omega) ?_
  refine WP_aload_n dL_law_493 rfl ?_
  refine WP_iload dL_law_494 rfl ?_
  refine WP_iconst (3) dL_law_496 (by decide) ?_
  refine WP_iadd dL_law_497 ?_
  refine WP_sld (j := q + 3) hX dL_law_498 (nI_add q 3) (by omega) (by omega) ?_
  refine WP_aload_n dL_law_499 rfl ?_
  refine WP_callSX mL_raise (As := [_, _, _, _, _]) dL_law_500 okc_L_raise rfl ok_499 ⟨by decide, by decide⟩ rfl rfl (Nat.le_of_ble_eq_true rfl) (Nat.le_trans (Nat.add_le_add_left (show mL_raise.2.2.2.2.2.2.1 ≤ 30 by decide) k) hk) (Nat.le_trans (Nat.add_le_add_left (show mL_raise.2.2.2.2.2.2.2 ≤ 100 by decide) n) hn)
    (wr_raise (xs (q + 1)) (xs (q + 2)) (xs (q + 3)) O (fun z => z = aRai (t, c, fg, n0) (xs (q + 1)) (xs (q + 2)) (xs (q + 3))) hC.1.1 hO nO ((k_raise (xs (q + 1)) (xs (q + 2)) (xs (q + 3)) hC).imp (fun r S' h => ⟨_, rfl, h⟩))) (fun v9 S9 hq9 => ?_) (fun E9 S9 hq9 => absurd hq9 (rI_no E9 S9))
  obtain ⟨x9, e9, z, hz, hx9, AL', hJ9, ho⟩ := hq9
  cases e9
  obtain ⟨L', K', Rc', Ic', AIc', AR', rfl, hg, hC'⟩ := hJ9
  have hI' := mI_grow hg hI
  have hO' := gk hg hO
  subst hx9
  subst hz
  refine WP_istore dL_law_503 (by decide) rfl ?_
  refine WP_aload_n dL_law_505 rfl ?_
  refine WP_aload_n dL_law_506 rfl ?_
  refine WP_iload dL_law_507 rfl ?_
  refine WP_iconst (1) dL_law_509 (by decide) ?_
  refine WP_iadd dL_law_510 ?_
  refine WP_sld (j := q + 1) hX dL_law_511 (nI_1 q) (by omega) (by omega) ?_
  refine WP_aload_n dL_law_512 rfl ?_
  refine WP_iload dL_law_513 rfl ?_
  refine WP_iconst (2) dL_law_515 (by decide) ?_
  refine WP_iadd dL_law_516 ?_
  refine WP_sld (j := q + 2) hX dL_law_517 (nI_add q 2) (by omega) (by omega) ?_
  refine WP_aload_n dL_law_518 rfl ?_
  refine WP_iload dL_law_519 rfl ?_
  refine WP_iconst (3) dL_law_521 (by decide) ?_
  refine WP_iadd dL_law_522 ?_
  refine WP_sld (j := q + 3) hX dL_law_523 (nI_add q 3) (by omega) (by omega) ?_
  refine WP_callV mX5_raise (As := [_, _, _]) dL_law_524 okc_X5_raise ok_825 ⟨by decide, by decide⟩ rfl rfl hI'.1.1 rfl (Nat.le_of_ble_eq_true rfl) (rmC2 hk (show mL_raise.2.2.2.2.2.2.1 ≤ 30 by decide) rfl) (rmC2 hn (show mL_raise.2.2.2.2.2.2.2 ≤ 100 by decide) rfl) (p_raise (xs (q + 1)) (xs (q + 2)) (xs (q + 3)) hA hI') (fun v9 S9 hq9 => ?_) (fun E9 S9 hq9 => by obtain ⟨_, _, _, h, _⟩ := hq9; cases h)
  obtain ⟨y, I9, A9, e9, hy, rfl, hI9, ht9⟩ := hq9
  cases e9
  refine WP_istore dL_law_527 (by decide) rfl ?_
  refine WP_aload_n dL_law_529 rfl ?_
  refine callVi mX5_thrown [] dL_law_530 okc_X5_thrown ok_718 ⟨by decide, by decide⟩ rfl rfl hI9.1.1 rfl (Nat.le_of_ble_eq_true rfl) (rmC3 hk (show mL_raise.2.2.2.2.2.2.1 ≤ 30 by decide) rfl rfl) (rmC3 hn (show mL_raise.2.2.2.2.2.2.2 ≤ 100 by decide) rfl rfl) (m_thrown hI9.1.1) (fun x1 S1 h1 => ?_)
  obtain ⟨rfl, rfl⟩ := h1
  rw [ht9]
  have fin : WP G mL_law Q (k + mL_raise.2.2.2.2.2.2.1 + 0 + 0) (n + mL_raise.2.2.2.2.2.2.2 + 0 + 0) 557 (lwl G E W O q) [] (mkS L' K' AN R0 Rc' Ic' AIc' AR' I9 A9 AL') := by
    refine WP_goto 1505 dL_law_557 (by decide) ?_
    refine kk _ _ _ _ ⟨L', K', AN, R0, Rc', Ic', AIc', AR', I9, A9, AL', rfl, hC', hI9, hO', nO⟩ (Nat.add_le_add_left (show mL_raise.2.2.2.2.2.2.1 ≤ 30 by decide) k) (Nat.add_le_add_left (show mL_raise.2.2.2.2.2.2.2 ≤ 100 by decide) n)
  have hz3 : (aRai (t, c, fg, n0) (xs (q + 1)) (xs (q + 2)) (xs (q + 3))).1 ≤ 3 := by
    unfold aRai
    repeat' split
    all_goals exact Nat.le_of_ble_eq_true rfl
  refine WP_iload dL_law_533 rfl ?_
  refine WP_icmp_eq 540 dL_law_535 (by decide) (fun _ => ?_) (fun hb => absurd rfl hb)
  refine WP_iload dL_law_540 rfl ?_
  refine WP_if_ne 557 dL_law_542 (by decide) (fun hb => ?_) (fun hb => ?_)
  · refine WP_lv (lwl G E W O q) (lwl_of rfl rfl rfl rfl rfl) ?_
    exact fin
  · have hz0 : (aRai (t, c, fg, n0) (xs (q + 1)) (xs (q + 2)) (xs (q + 3))).1 = 0 := (nI_eq (by omega) (by decide)).mp (hb : nI _ = nI 0)
    refine WP_aload_n dL_law_545 rfl ?_
    refine WP_iconst (0) dL_law_546 (by decide) ?_
    refine ald_10 0 1 dL_law_547 rfl hO' nO rfl (by decide) (by decide) ?_
    rw [ho hz0]
    refine WP_iload dL_law_548 rfl ?_
    refine WP_i2l dL_law_550 ?_
    rw [hy hz0]
    refine WP_lcmp dL_law_551 ?_
    refine WP_if_eq 557 dL_law_552 (by decide) (fun _ => ?_) (fun hb => absurd ((lg_cmp_eq _ _).mpr rfl) hb)
    refine WP_lv (lwl G E W O q) (lwl_of rfl rfl rfl rfl rfl) ?_
    exact fin
theorem cs_sum (hX : scX G Ln xs) (hq : q + 4 ≤ Ln) (hL : Ln ≤ 2048) (hJ : jI E W O A S) (hk : k + 30 ≤ 640158) (hn : n + 100 ≤ 7175630)
    (kk : ∀ A' S' k' n', jI E W O A' S' → k' ≤ k + 30 → n' ≤ n + 100 → WP G mL_law Q k' n' 1505 (lwl G E W O q) [] S') : WP G mL_law Q k n 560 (lwl G E W O q) [] S := by
  obtain ⟨L, K, AN, R0, Rc, Ic, AIc, AR, Im, AIm, AL, rfl, hC, hI, hO, nO⟩ := hJ
  obtain ⟨t, c, fg, n0⟩ := A
  have hA : AI (t, c, fg, n0) := hC.2.2.2.2.2.2
  refine WP_aload_n dL_law_560 rfl ?_
  refine WP_aload_n dL_law_561 rfl ?_
  refine WP_iload dL_law_562 rfl ?_
  refine WP_iconst (1) dL_law_564 (by decide) ?_
  refine WP_iadd dL_law_565 ?_
  refine WP_sld (j := q + 1) hX dL_law_566 (nI_1 q) (by omega) (by omega) ?_
  refine WP_aload_n dL_law_567 rfl ?_
  refine WP_iload dL_law_568 rfl ?_
  refine WP_iconst (2) dL_law_570 (by decide) ?_
  refine WP_iadd dL_law_571 ?_
  refine WP_sld (j := q + 2) hX dL_law_572 (nI_add q 2) (by omega) (by omega) ?_
  refine WP_aload_n dL_law_573 rfl ?_
  refine WP_callSX mL_sum (As := [_, _, _, _]) dL_law_574 okc_L_sum rfl ok_514 ⟨by decide, by decide⟩ rfl rfl (Nat.le_of_ble_eq_true rfl) (Nat.le_trans (Nat.add_le_add_left (show mL_sum.2.2.2.2.2.2.1 ≤ 30 by decide) k) hk) (Nat.le_trans (Nat.add_le_add_left (show mL_sum.2.2.2.2.2.2.2 ≤ 100 by decide) n) hn)
    (wr_sum (xs (q + 1)) (xs (q + 2)) O (fun z => z = aSum (t, c, fg, n0) (xs (q + 1)) (xs (q + 2))) hC.1.1 hO nO ((k_sum (xs (q + 1)) (xs (q + 2)) hC).imp (fun r S' h => ⟨_, rfl, h⟩))) (fun v9 S9 hq9 => ?_) (fun E9 S9 hq9 => absurd hq9 (rI_no E9 S9))
  obtain ⟨x9, e9, z, hz, hx9, AL', hJ9, ho⟩ := hq9
  cases e9
  obtain ⟨L', K', Rc', Ic', AIc', AR', rfl, hg, hC'⟩ := hJ9
  have hI' := mI_grow hg hI
  have hO' := gk hg hO
  subst hx9
  subst hz
  refine WP_istore dL_law_577 (by decide) rfl ?_
  refine WP_aload_n dL_law_579 rfl ?_
  refine WP_aload_n dL_law_580 rfl ?_
  refine WP_iload dL_law_581 rfl ?_
  refine WP_iconst (1) dL_law_583 (by decide) ?_
  refine WP_iadd dL_law_584 ?_
  refine WP_sld (j := q + 1) hX dL_law_585 (nI_1 q) (by omega) (by omega) ?_
  refine WP_aload_n dL_law_586 rfl ?_
  refine WP_iload dL_law_587 rfl ?_
  refine WP_iconst (2) dL_law_589 (by decide) ?_
  refine WP_iadd dL_law_590 ?_
  refine WP_sld (j := q + 2) hX dL_law_591 (nI_add q 2) (by omega) (by omega) ?_
  refine WP_callV mX5_sum (As := [_, _]) dL_law_592 okc_X5_sum ok_829 ⟨by decide, by decide⟩ rfl rfl hI'.1.1 rfl (Nat.le_of_ble_eq_true rfl) (rmC2 hk (show mL_sum.2.2.2.2.2.2.1 ≤ 30 by decide) rfl) (rmC2 hn (show mL_sum.2.2.2.2.2.2.2 ≤ 100 by decide) rfl) (p_sum (xs (q + 1)) (xs (q + 2)) hA hI') (fun v9 S9 hq9 => ?_) (fun E9 S9 hq9 => by obtain ⟨_, _, _, h, _⟩ := hq9; cases h)
  obtain ⟨y, I9, A9, e9, hy, rfl, hI9, ht9⟩ := hq9
  cases e9
  refine WP_istore dL_law_595 (by decide) rfl ?_
  refine WP_aload_n dL_law_597 rfl ?_
  refine callVi mX5_thrown [] dL_law_598 okc_X5_thrown ok_718 ⟨by decide, by decide⟩ rfl rfl hI9.1.1 rfl (Nat.le_of_ble_eq_true rfl) (rmC3 hk (show mL_sum.2.2.2.2.2.2.1 ≤ 30 by decide) rfl rfl) (rmC3 hn (show mL_sum.2.2.2.2.2.2.2 ≤ 100 by decide) rfl rfl) (m_thrown hI9.1.1) (fun x1 S1 h1 => ?_)
  obtain ⟨rfl, rfl⟩ := h1
  rw [ht9]
  have fin : WP G mL_law Q (k + mL_sum.2.2.2.2.2.2.1 + 0 + 0) (n + mL_sum.2.2.2.2.2.2.2 + 0 + 0) 625 (lwl G E W O q) [] (mkS L' K' AN R0 Rc' Ic' AIc' AR' I9 A9 AL') := by
    refine WP_goto 1505 dL_law_625 (by decide) ?_
    refine kk _ _ _ _ ⟨L', K', AN, R0, Rc', Ic', AIc', AR', I9, A9, AL', rfl, hC', hI9, hO', nO⟩ (Nat.add_le_add_left (show mL_sum.2.2.2.2.2.2.1 ≤ 30 by decide) k) (Nat.add_le_add_left (show mL_sum.2.2.2.2.2.2.2 ≤ 100 by decide) n)
  have hz3 : (aSum (t, c, fg, n0) (xs (q + 1)) (xs (q + 2))).1 ≤ 3 := by
    unfold aSum
    repeat' split
    all_goals exact Nat.le_of_ble_eq_true rfl
  refine WP_iload dL_law_601 rfl ?_
  refine WP_icmp_eq 608 dL_law_603 (by decide) (fun _ => ?_) (fun hb => absurd rfl hb)
  refine WP_iload dL_law_608 rfl ?_
  refine WP_if_ne 625 dL_law_610 (by decide) (fun hb => ?_) (fun hb => ?_)
  · refine WP_lv (lwl G E W O q) (lwl_of rfl rfl rfl rfl rfl) ?_
    exact fin
  · have hz0 : (aSum (t, c, fg, n0) (xs (q + 1)) (xs (q + 2))).1 = 0 := (nI_eq (by omega) (by decide)).mp (hb : nI _ = nI 0)
    refine WP_aload_n dL_law_613 rfl ?_
    refine WP_iconst (0) dL_law_614 (by decide) ?_
    refine ald_10 0 1 dL_law_615 rfl hO' nO rfl (by decide) (by decide) ?_
    rw [ho hz0]
    refine WP_iload dL_law_616 rfl ?_
    refine WP_i2l dL_law_618 ?_
    rw [hy hz0]
    refine WP_lcmp dL_law_619 ?_
    refine WP_if_eq 625 dL_law_620 (by decide) (fun _ => ?_) (fun hb => absurd ((lg_cmp_eq _ _).mpr rfl) hb)
    refine WP_lv (lwl G E W O q) (lwl_of rfl rfl rfl rfl rfl) ?_
    exact fin
theorem cs_least (hX : scX G Ln xs) (hq : q + 4 ≤ Ln) (hL : Ln ≤ 2048) (hJ : jI E W O A S) (hk : k + 30 ≤ 640158) (hn : n + 100 ≤ 7175630)
    (kk : ∀ A' S' k' n', jI E W O A' S' → k' ≤ k + 30 → n' ≤ n + 100 → WP G mL_law Q k' n' 1505 (lwl G E W O q) [] S') : WP G mL_law Q k n 628 (lwl G E W O q) [] S := by
  obtain ⟨L, K, AN, R0, Rc, Ic, AIc, AR, Im, AIm, AL, rfl, hC, hI, hO, nO⟩ := hJ
  obtain ⟨t, c, fg, n0⟩ := A
  have hA : AI (t, c, fg, n0) := hC.2.2.2.2.2.2
  refine WP_aload_n dL_law_628 rfl ?_
  refine WP_aload_n dL_law_629 rfl ?_
  refine WP_iload dL_law_630 rfl ?_
  refine WP_iconst (1) dL_law_632 (by decide) ?_
  refine WP_iadd dL_law_633 ?_
  refine WP_sld (j := q + 1) hX dL_law_634 (nI_1 q) (by omega) (by omega) ?_
  refine WP_aload_n dL_law_635 rfl ?_
  refine WP_iload dL_law_636 rfl ?_
  refine WP_iconst (2) dL_law_638 (by decide) ?_
  refine WP_iadd dL_law_639 ?_
  refine WP_sld (j := q + 2) hX dL_law_640 (nI_add q 2) (by omega) (by omega) ?_
  refine WP_aload_n dL_law_641 rfl ?_
  refine WP_callSX mL_least (As := [_, _, _, _]) dL_law_642 okc_L_least rfl ok_525 ⟨by decide, by decide⟩ rfl rfl (Nat.le_of_ble_eq_true rfl) (Nat.le_trans (Nat.add_le_add_left (show mL_least.2.2.2.2.2.2.1 ≤ 30 by decide) k) hk) (Nat.le_trans (Nat.add_le_add_left (show mL_least.2.2.2.2.2.2.2 ≤ 100 by decide) n) hn)
    (wr_least (xs (q + 1)) (xs (q + 2)) O (fun z => z = aLow (t, c, fg, n0) (xs (q + 1)) (xs (q + 2))) hC.1.1 hO nO ((k_least (xs (q + 1)) (xs (q + 2)) hC).imp (fun r S' h => ⟨_, rfl, h⟩))) (fun v9 S9 hq9 => ?_) (fun E9 S9 hq9 => absurd hq9 (rI_no E9 S9))
  obtain ⟨x9, e9, z, hz, hx9, AL', hJ9, ho⟩ := hq9
  cases e9
  obtain ⟨L', K', Rc', Ic', AIc', AR', rfl, hg, hC'⟩ := hJ9
  have hI' := mI_grow hg hI
  have hO' := gk hg hO
  subst hx9
  subst hz
  refine WP_istore dL_law_645 (by decide) rfl ?_
  refine WP_aload_n dL_law_647 rfl ?_
  refine WP_aload_n dL_law_648 rfl ?_
  refine WP_iload dL_law_649 rfl ?_
  refine WP_iconst (1) dL_law_651 (by decide) ?_
  refine WP_iadd dL_law_652 ?_
  refine WP_sld (j := q + 1) hX dL_law_653 (nI_1 q) (by omega) (by omega) ?_
  refine WP_aload_n dL_law_654 rfl ?_
  refine WP_iload dL_law_655 rfl ?_
  refine WP_iconst (2) dL_law_657 (by decide) ?_
  refine WP_iadd dL_law_658 ?_
  refine WP_sld (j := q + 2) hX dL_law_659 (nI_add q 2) (by omega) (by omega) ?_
  refine WP_callV mX5_least (As := [_, _]) dL_law_660 okc_X5_least ok_833 ⟨by decide, by decide⟩ rfl rfl hI'.1.1 rfl (Nat.le_of_ble_eq_true rfl) (rmC2 hk (show mL_least.2.2.2.2.2.2.1 ≤ 30 by decide) rfl) (rmC2 hn (show mL_least.2.2.2.2.2.2.2 ≤ 100 by decide) rfl) (p_least (xs (q + 1)) (xs (q + 2)) hA hI') (fun v9 S9 hq9 => ?_) (fun E9 S9 hq9 => by obtain ⟨_, _, _, h, _⟩ := hq9; cases h)
  obtain ⟨y, I9, A9, e9, hy, rfl, hI9, ht9⟩ := hq9
  cases e9
  refine WP_istore dL_law_663 (by decide) rfl ?_
  refine WP_aload_n dL_law_665 rfl ?_
  refine callVi mX5_thrown [] dL_law_666 okc_X5_thrown ok_718 ⟨by decide, by decide⟩ rfl rfl hI9.1.1 rfl (Nat.le_of_ble_eq_true rfl) (rmC3 hk (show mL_least.2.2.2.2.2.2.1 ≤ 30 by decide) rfl rfl) (rmC3 hn (show mL_least.2.2.2.2.2.2.2 ≤ 100 by decide) rfl rfl) (m_thrown hI9.1.1) (fun x1 S1 h1 => ?_)
  obtain ⟨rfl, rfl⟩ := h1
  rw [ht9]
  have fin : WP G mL_law Q (k + mL_least.2.2.2.2.2.2.1 + 0 + 0) (n + mL_least.2.2.2.2.2.2.2 + 0 + 0) 693 (lwl G E W O q) [] (mkS L' K' AN R0 Rc' Ic' AIc' AR' I9 A9 AL') := by
    refine WP_goto 1505 dL_law_693 (by decide) ?_
    refine kk _ _ _ _ ⟨L', K', AN, R0, Rc', Ic', AIc', AR', I9, A9, AL', rfl, hC', hI9, hO', nO⟩ (Nat.add_le_add_left (show mL_least.2.2.2.2.2.2.1 ≤ 30 by decide) k) (Nat.add_le_add_left (show mL_least.2.2.2.2.2.2.2 ≤ 100 by decide) n)
  have hz3 : (aLow (t, c, fg, n0) (xs (q + 1)) (xs (q + 2))).1 ≤ 3 := by
    unfold aLow
    repeat' split
    all_goals exact Nat.le_of_ble_eq_true rfl
  refine WP_iload dL_law_669 rfl ?_
  refine WP_icmp_eq 676 dL_law_671 (by decide) (fun _ => ?_) (fun hb => absurd rfl hb)
  refine WP_iload dL_law_676 rfl ?_
  refine WP_if_ne 693 dL_law_678 (by decide) (fun hb => ?_) (fun hb => ?_)
  · refine WP_lv (lwl G E W O q) (lwl_of rfl rfl rfl rfl rfl) ?_
    exact fin
  · have hz0 : (aLow (t, c, fg, n0) (xs (q + 1)) (xs (q + 2))).1 = 0 := (nI_eq (by omega) (by decide)).mp (hb : nI _ = nI 0)
    refine WP_aload_n dL_law_681 rfl ?_
    refine WP_iconst (0) dL_law_682 (by decide) ?_
    refine ald_10 0 1 dL_law_683 rfl hO' nO rfl (by decide) (by decide) ?_
    rw [ho hz0]
    refine WP_iload dL_law_684 rfl ?_
    refine WP_i2l dL_law_686 ?_
    rw [hy hz0]
    refine WP_lcmp dL_law_687 ?_
    refine WP_if_eq 693 dL_law_688 (by decide) (fun _ => ?_) (fun hb => absurd ((lg_cmp_eq _ _).mpr rfl) hb)
    refine WP_lv (lwl G E W O q) (lwl_of rfl rfl rfl rfl rfl) ?_
    exact fin
theorem cs_cut (hX : scX G Ln xs) (hq : q + 4 ≤ Ln) (hL : Ln ≤ 2048) (hJ : jI E W O A S) (hk : k + 30 ≤ 640158) (hn : n + 100 ≤ 7175630)
    (kk : ∀ A' S' k' n', jI E W O A' S' → k' ≤ k + 30 → n' ≤ n + 100 → WP G mL_law Q k' n' 1505 (lwl G E W O q) [] S') : WP G mL_law Q k n 696 (lwl G E W O q) [] S := by
  obtain ⟨L, K, AN, R0, Rc, Ic, AIc, AR, Im, AIm, AL, rfl, hC, hI, hO, nO⟩ := hJ
  obtain ⟨t, c, fg, n0⟩ := A
  have hA : AI (t, c, fg, n0) := hC.2.2.2.2.2.2
  refine WP_aload_n dL_law_696 rfl ?_
  refine WP_aload_n dL_law_697 rfl ?_
  refine WP_iload dL_law_698 rfl ?_
  refine WP_iconst (1) dL_law_700 (by decide) ?_
  refine WP_iadd dL_law_701 ?_
  refine WP_sld (j := q + 1) hX dL_law_702 (nI_1 q) (by omega) (by omega) ?_
  refine WP_aload_n dL_law_703 rfl ?_
  refine WP_iload dL_law_704 rfl ?_
  refine WP_iconst (2) dL_law_706 (by decide) ?_
  refine WP_iadd dL_law_707 ?_
  refine WP_sld (j := q + 2) hX dL_law_708 (nI_add q 2) (by omega) (by omega) ?_
  refine WP_aload_n dL_law_709 rfl ?_
  refine WP_callSX mL_cut (As := [_, _, _, _]) dL_law_710 okc_L_cut rfl ok_540 ⟨by decide, by decide⟩ rfl rfl (Nat.le_of_ble_eq_true rfl) (Nat.le_trans (Nat.add_le_add_left (show mL_cut.2.2.2.2.2.2.1 ≤ 30 by decide) k) hk) (Nat.le_trans (Nat.add_le_add_left (show mL_cut.2.2.2.2.2.2.2 ≤ 100 by decide) n) hn)
    (wr_cut (xs (q + 1)) (xs (q + 2)) O (fun z => z = aCut (t, c, fg, n0) (xs (q + 1)) (xs (q + 2))) hC.1.1 hO nO ((k_cut (xs (q + 1)) (xs (q + 2)) hC).imp (fun r S' h => ⟨_, rfl, h⟩))) (fun v9 S9 hq9 => ?_) (fun E9 S9 hq9 => absurd hq9 (rI_no E9 S9))
  obtain ⟨x9, e9, z, hz, hx9, AL', hJ9, ho⟩ := hq9
  cases e9
  obtain ⟨L', K', Rc', Ic', AIc', AR', rfl, hg, hC'⟩ := hJ9
  have hI' := mI_grow hg hI
  have hO' := gk hg hO
  subst hx9
  subst hz
  refine WP_istore dL_law_713 (by decide) rfl ?_
  refine WP_aload_n dL_law_715 rfl ?_
  refine WP_aload_n dL_law_716 rfl ?_
  refine WP_iload dL_law_717 rfl ?_
  refine WP_iconst (1) dL_law_719 (by decide) ?_
  refine WP_iadd dL_law_720 ?_
  refine WP_sld (j := q + 1) hX dL_law_721 (nI_1 q) (by omega) (by omega) ?_
  refine WP_aload_n dL_law_722 rfl ?_
  refine WP_iload dL_law_723 rfl ?_
  refine WP_iconst (2) dL_law_725 (by decide) ?_
  refine WP_iadd dL_law_726 ?_
  refine WP_sld (j := q + 2) hX dL_law_727 (nI_add q 2) (by omega) (by omega) ?_
  refine WP_callV mX5_cut (As := [_, _]) dL_law_728 okc_X5_cut ok_837 ⟨by decide, by decide⟩ rfl rfl hI'.1.1 rfl (Nat.le_of_ble_eq_true rfl) (rmC2 hk (show mL_cut.2.2.2.2.2.2.1 ≤ 30 by decide) rfl) (rmC2 hn (show mL_cut.2.2.2.2.2.2.2 ≤ 100 by decide) rfl) (p_cut (xs (q + 1)) (xs (q + 2)) hA hI') (fun v9 S9 hq9 => ?_) (fun E9 S9 hq9 => by obtain ⟨_, _, _, h, _⟩ := hq9; cases h)
  obtain ⟨y, I9, A9, e9, hy, rfl, hI9, ht9⟩ := hq9
  cases e9
  refine WP_istore dL_law_731 (by decide) rfl ?_
  refine WP_aload_n dL_law_733 rfl ?_
  refine callVi mX5_thrown [] dL_law_734 okc_X5_thrown ok_718 ⟨by decide, by decide⟩ rfl rfl hI9.1.1 rfl (Nat.le_of_ble_eq_true rfl) (rmC3 hk (show mL_cut.2.2.2.2.2.2.1 ≤ 30 by decide) rfl rfl) (rmC3 hn (show mL_cut.2.2.2.2.2.2.2 ≤ 100 by decide) rfl rfl) (m_thrown hI9.1.1) (fun x1 S1 h1 => ?_)
  obtain ⟨rfl, rfl⟩ := h1
  rw [ht9]
  have fin : WP G mL_law Q (k + mL_cut.2.2.2.2.2.2.1 + 0 + 0) (n + mL_cut.2.2.2.2.2.2.2 + 0 + 0) 761 (lwl G E W O q) [] (mkS L' K' AN R0 Rc' Ic' AIc' AR' I9 A9 AL') := by
    refine WP_goto 1505 dL_law_761 (by decide) ?_
    refine kk _ _ _ _ ⟨L', K', AN, R0, Rc', Ic', AIc', AR', I9, A9, AL', rfl, hC', hI9, hO', nO⟩ (Nat.add_le_add_left (show mL_cut.2.2.2.2.2.2.1 ≤ 30 by decide) k) (Nat.add_le_add_left (show mL_cut.2.2.2.2.2.2.2 ≤ 100 by decide) n)
  have hz3 : (aCut (t, c, fg, n0) (xs (q + 1)) (xs (q + 2))).1 ≤ 3 := by
    unfold aCut
    repeat' split
    all_goals exact Nat.le_of_ble_eq_true rfl
  refine WP_iload dL_law_737 rfl ?_
  refine WP_icmp_eq 744 dL_law_739 (by decide) (fun _ => ?_) (fun hb => absurd rfl hb)
  refine WP_iload dL_law_744 rfl ?_
  refine WP_if_ne 761 dL_law_746 (by decide) (fun hb => ?_) (fun hb => ?_)
  · refine WP_lv (lwl G E W O q) (lwl_of rfl rfl rfl rfl rfl) ?_
    exact fin
  · have hz0 : (aCut (t, c, fg, n0) (xs (q + 1)) (xs (q + 2))).1 = 0 := (nI_eq (by omega) (by decide)).mp (hb : nI _ = nI 0)
    refine WP_aload_n dL_law_749 rfl ?_
    refine WP_iconst (0) dL_law_750 (by decide) ?_
    refine ald_10 0 1 dL_law_751 rfl hO' nO rfl (by decide) (by decide) ?_
    rw [ho hz0]
    refine WP_iload dL_law_752 rfl ?_
    refine WP_i2l dL_law_754 ?_
    rw [hy hz0]
    refine WP_lcmp dL_law_755 ?_
    refine WP_if_eq 761 dL_law_756 (by decide) (fun _ => ?_) (fun hb => absurd ((lg_cmp_eq _ _).mpr rfl) hb)
    refine WP_lv (lwl G E W O q) (lwl_of rfl rfl rfl rfl rfl) ?_
    exact fin
theorem cs_paste (hX : scX G Ln xs) (hq : q + 4 ≤ Ln) (hL : Ln ≤ 2048) (hJ : jI E W O A S) (hk : k + 30 ≤ 640158) (hn : n + 100 ≤ 7175630)
    (kk : ∀ A' S' k' n', jI E W O A' S' → k' ≤ k + 30 → n' ≤ n + 100 → WP G mL_law Q k' n' 1505 (lwl G E W O q) [] S') : WP G mL_law Q k n 764 (lwl G E W O q) [] S := by
  obtain ⟨L, K, AN, R0, Rc, Ic, AIc, AR, Im, AIm, AL, rfl, hC, hI, hO, nO⟩ := hJ
  obtain ⟨t, c, fg, n0⟩ := A
  have hA : AI (t, c, fg, n0) := hC.2.2.2.2.2.2
  refine WP_aload_n dL_law_764 rfl ?_
  refine WP_aload_n dL_law_765 rfl ?_
  refine WP_iload dL_law_766 rfl ?_
  refine WP_iconst (1) dL_law_768 (by decide) ?_
  refine WP_iadd dL_law_769 ?_
  refine WP_sld (j := q + 1) hX dL_law_770 (nI_1 q) (by omega) (by omega) ?_
  refine WP_aload_n dL_law_771 rfl ?_
  refine WP_callSX mL_paste (As := [_, _, _]) dL_law_772 okc_L_paste rfl ok_552 ⟨by decide, by decide⟩ rfl rfl (Nat.le_of_ble_eq_true rfl) (Nat.le_trans (Nat.add_le_add_left (show mL_paste.2.2.2.2.2.2.1 ≤ 30 by decide) k) hk) (Nat.le_trans (Nat.add_le_add_left (show mL_paste.2.2.2.2.2.2.2 ≤ 100 by decide) n) hn)
    (wr_paste (xs (q + 1)) O (fun z => z = aPas (t, c, fg, n0) (xs (q + 1))) hC.1.1 hO nO ((k_paste (xs (q + 1)) hC).imp (fun r S' h => ⟨_, rfl, h⟩))) (fun v9 S9 hq9 => ?_) (fun E9 S9 hq9 => absurd hq9 (rI_no E9 S9))
  obtain ⟨x9, e9, z, hz, hx9, AL', hJ9, ho⟩ := hq9
  cases e9
  obtain ⟨L', K', Rc', Ic', AIc', AR', rfl, hg, hC'⟩ := hJ9
  have hI' := mI_grow hg hI
  have hO' := gk hg hO
  subst hx9
  subst hz
  refine WP_istore dL_law_775 (by decide) rfl ?_
  refine WP_aload_n dL_law_777 rfl ?_
  refine WP_aload_n dL_law_778 rfl ?_
  refine WP_iload dL_law_779 rfl ?_
  refine WP_iconst (1) dL_law_781 (by decide) ?_
  refine WP_iadd dL_law_782 ?_
  refine WP_sld (j := q + 1) hX dL_law_783 (nI_1 q) (by omega) (by omega) ?_
  refine WP_callV mX5_paste (As := [_]) dL_law_784 okc_X5_paste ok_841 ⟨by decide, by decide⟩ rfl rfl hI'.1.1 rfl (Nat.le_of_ble_eq_true rfl) (rmC2 hk (show mL_paste.2.2.2.2.2.2.1 ≤ 30 by decide) rfl) (rmC2 hn (show mL_paste.2.2.2.2.2.2.2 ≤ 100 by decide) rfl) (p_paste (xs (q + 1)) hA hI') (fun v9 S9 hq9 => ?_) (fun E9 S9 hq9 => by obtain ⟨_, _, _, h, _⟩ := hq9; cases h)
  obtain ⟨y, I9, A9, e9, hy, rfl, hI9, ht9⟩ := hq9
  cases e9
  refine WP_istore dL_law_787 (by decide) rfl ?_
  refine WP_aload_n dL_law_789 rfl ?_
  refine callVi mX5_thrown [] dL_law_790 okc_X5_thrown ok_718 ⟨by decide, by decide⟩ rfl rfl hI9.1.1 rfl (Nat.le_of_ble_eq_true rfl) (rmC3 hk (show mL_paste.2.2.2.2.2.2.1 ≤ 30 by decide) rfl rfl) (rmC3 hn (show mL_paste.2.2.2.2.2.2.2 ≤ 100 by decide) rfl rfl) (m_thrown hI9.1.1) (fun x1 S1 h1 => ?_)
  obtain ⟨rfl, rfl⟩ := h1
  rw [ht9]
  have fin : WP G mL_law Q (k + mL_paste.2.2.2.2.2.2.1 + 0 + 0) (n + mL_paste.2.2.2.2.2.2.2 + 0 + 0) 817 (lwl G E W O q) [] (mkS L' K' AN R0 Rc' Ic' AIc' AR' I9 A9 AL') := by
    refine WP_goto 1505 dL_law_817 (by decide) ?_
    refine kk _ _ _ _ ⟨L', K', AN, R0, Rc', Ic', AIc', AR', I9, A9, AL', rfl, hC', hI9, hO', nO⟩ (Nat.add_le_add_left (show mL_paste.2.2.2.2.2.2.1 ≤ 30 by decide) k) (Nat.add_le_add_left (show mL_paste.2.2.2.2.2.2.2 ≤ 100 by decide) n)
  have hz3 : (aPas (t, c, fg, n0) (xs (q + 1))).1 ≤ 3 := by
    unfold aPas
    repeat' split
    all_goals exact Nat.le_of_ble_eq_true rfl
  refine WP_iload dL_law_793 rfl ?_
  refine WP_icmp_eq 800 dL_law_795 (by decide) (fun _ => ?_) (fun hb => absurd rfl hb)
  refine WP_iload dL_law_800 rfl ?_
  refine WP_if_ne 817 dL_law_802 (by decide) (fun hb => ?_) (fun hb => ?_)
  · refine WP_lv (lwl G E W O q) (lwl_of rfl rfl rfl rfl rfl) ?_
    exact fin
  · have hz0 : (aPas (t, c, fg, n0) (xs (q + 1))).1 = 0 := (nI_eq (by omega) (by decide)).mp (hb : nI _ = nI 0)
    refine WP_aload_n dL_law_805 rfl ?_
    refine WP_iconst (0) dL_law_806 (by decide) ?_
    refine ald_10 0 1 dL_law_807 rfl hO' nO rfl (by decide) (by decide) ?_
    rw [ho hz0]
    refine WP_iload dL_law_808 rfl ?_
    refine WP_i2l dL_law_810 ?_
    rw [hy hz0]
    refine WP_lcmp dL_law_811 ?_
    refine WP_if_eq 817 dL_law_812 (by decide) (fun _ => ?_) (fun hb => absurd ((lg_cmp_eq _ _).mpr rfl) hb)
    refine WP_lv (lwl G E W O q) (lwl_of rfl rfl rfl rfl rfl) ?_
    exact fin
theorem cs_point (hX : scX G Ln xs) (hq : q + 4 ≤ Ln) (hL : Ln ≤ 2048) (hJ : jI E W O A S) (hk : k + 30 ≤ 640158) (hn : n + 100 ≤ 7175630)
    (kk : ∀ A' S' k' n', jI E W O A' S' → k' ≤ k + 30 → n' ≤ n + 100 → WP G mL_law Q k' n' 1505 (lwl G E W O q) [] S') : WP G mL_law Q k n 820 (lwl G E W O q) [] S := by
  obtain ⟨L, K, AN, R0, Rc, Ic, AIc, AR, Im, AIm, AL, rfl, hC, hI, hO, nO⟩ := hJ
  obtain ⟨t, c, fg, n0⟩ := A
  have hA : AI (t, c, fg, n0) := hC.2.2.2.2.2.2
  refine WP_aload_n dL_law_820 rfl ?_
  refine WP_aload_n dL_law_821 rfl ?_
  refine WP_iload dL_law_822 rfl ?_
  refine WP_iconst (1) dL_law_824 (by decide) ?_
  refine WP_iadd dL_law_825 ?_
  refine WP_sld (j := q + 1) hX dL_law_826 (nI_1 q) (by omega) (by omega) ?_
  refine WP_aload_n dL_law_827 rfl ?_
  refine WP_iload dL_law_828 rfl ?_
  refine WP_iconst (2) dL_law_830 (by decide) ?_
  refine WP_iadd dL_law_831 ?_
  refine WP_sld (j := q + 2) hX dL_law_832 (nI_add q 2) (by omega) (by omega) ?_
  refine WP_aload_n dL_law_833 rfl ?_
  refine WP_callSX mL_point (As := [_, _, _, _]) dL_law_834 okc_L_point rfl ok_563 ⟨by decide, by decide⟩ rfl rfl (Nat.le_of_ble_eq_true rfl) (Nat.le_trans (Nat.add_le_add_left (show mL_point.2.2.2.2.2.2.1 ≤ 30 by decide) k) hk) (Nat.le_trans (Nat.add_le_add_left (show mL_point.2.2.2.2.2.2.2 ≤ 100 by decide) n) hn)
    (wr_point (xs (q + 1)) (xs (q + 2)) O (fun z => z = aPoi (t, c, fg, n0) (xs (q + 1)) (xs (q + 2))) hC.1.1 hO nO ((k_point (xs (q + 1)) (xs (q + 2)) hC).imp (fun r S' h => ⟨_, rfl, h⟩))) (fun v9 S9 hq9 => ?_) (fun E9 S9 hq9 => absurd hq9 (rI_no E9 S9))
  obtain ⟨x9, e9, z, hz, hx9, AL', hJ9, ho⟩ := hq9
  cases e9
  obtain ⟨L', K', Rc', Ic', AIc', AR', rfl, hg, hC'⟩ := hJ9
  have hI' := mI_grow hg hI
  have hO' := gk hg hO
  subst hx9
  subst hz
  refine WP_istore dL_law_837 (by decide) rfl ?_
  refine WP_aload_n dL_law_839 rfl ?_
  refine WP_aload_n dL_law_840 rfl ?_
  refine WP_iload dL_law_841 rfl ?_
  refine WP_iconst (1) dL_law_843 (by decide) ?_
  refine WP_iadd dL_law_844 ?_
  refine WP_sld (j := q + 1) hX dL_law_845 (nI_1 q) (by omega) (by omega) ?_
  refine WP_aload_n dL_law_846 rfl ?_
  refine WP_iload dL_law_847 rfl ?_
  refine WP_iconst (2) dL_law_849 (by decide) ?_
  refine WP_iadd dL_law_850 ?_
  refine WP_sld (j := q + 2) hX dL_law_851 (nI_add q 2) (by omega) (by omega) ?_
  refine WP_callV mX5_point (As := [_, _]) dL_law_852 okc_X5_point ok_845 ⟨by decide, by decide⟩ rfl rfl hI'.1.1 rfl (Nat.le_of_ble_eq_true rfl) (rmC2 hk (show mL_point.2.2.2.2.2.2.1 ≤ 30 by decide) rfl) (rmC2 hn (show mL_point.2.2.2.2.2.2.2 ≤ 100 by decide) rfl) (p_point (xs (q + 1)) (xs (q + 2)) hA hI') (fun v9 S9 hq9 => ?_) (fun E9 S9 hq9 => by obtain ⟨_, _, _, h, _⟩ := hq9; cases h)
  obtain ⟨y, I9, A9, e9, hy, rfl, hI9, ht9⟩ := hq9
  cases e9
  refine WP_istore dL_law_855 (by decide) rfl ?_
  refine WP_aload_n dL_law_857 rfl ?_
  refine callVi mX5_thrown [] dL_law_858 okc_X5_thrown ok_718 ⟨by decide, by decide⟩ rfl rfl hI9.1.1 rfl (Nat.le_of_ble_eq_true rfl) (rmC3 hk (show mL_point.2.2.2.2.2.2.1 ≤ 30 by decide) rfl rfl) (rmC3 hn (show mL_point.2.2.2.2.2.2.2 ≤ 100 by decide) rfl rfl) (m_thrown hI9.1.1) (fun x1 S1 h1 => ?_)
  obtain ⟨rfl, rfl⟩ := h1
  rw [ht9]
  have fin : WP G mL_law Q (k + mL_point.2.2.2.2.2.2.1 + 0 + 0) (n + mL_point.2.2.2.2.2.2.2 + 0 + 0) 885 (lwl G E W O q) [] (mkS L' K' AN R0 Rc' Ic' AIc' AR' I9 A9 AL') := by
    refine WP_goto 1505 dL_law_885 (by decide) ?_
    refine kk _ _ _ _ ⟨L', K', AN, R0, Rc', Ic', AIc', AR', I9, A9, AL', rfl, hC', hI9, hO', nO⟩ (Nat.add_le_add_left (show mL_point.2.2.2.2.2.2.1 ≤ 30 by decide) k) (Nat.add_le_add_left (show mL_point.2.2.2.2.2.2.2 ≤ 100 by decide) n)
  have hz3 : (aPoi (t, c, fg, n0) (xs (q + 1)) (xs (q + 2))).1 ≤ 3 := by
    unfold aPoi
    repeat' split
    all_goals exact Nat.le_of_ble_eq_true rfl
  refine WP_iload dL_law_861 rfl ?_
  refine WP_icmp_eq 868 dL_law_863 (by decide) (fun _ => ?_) (fun hb => absurd rfl hb)
  refine WP_iload dL_law_868 rfl ?_
  refine WP_if_ne 885 dL_law_870 (by decide) (fun hb => ?_) (fun hb => ?_)
  · refine WP_lv (lwl G E W O q) (lwl_of rfl rfl rfl rfl rfl) ?_
    exact fin
  · have hz0 : (aPoi (t, c, fg, n0) (xs (q + 1)) (xs (q + 2))).1 = 0 := (nI_eq (by omega) (by decide)).mp (hb : nI _ = nI 0)
    refine WP_aload_n dL_law_873 rfl ?_
    refine WP_iconst (0) dL_law_874 (by decide) ?_
    refine ald_10 0 1 dL_law_875 rfl hO' nO rfl (by decide) (by decide) ?_
    rw [ho hz0]
    refine WP_iload dL_law_876 rfl ?_
    refine WP_i2l dL_law_878 ?_
    rw [hy hz0]
    refine WP_lcmp dL_law_879 ?_
    refine WP_if_eq 885 dL_law_880 (by decide) (fun _ => ?_) (fun hb => absurd ((lg_cmp_eq _ _).mpr rfl) hb)
    refine WP_lv (lwl G E W O q) (lwl_of rfl rfl rfl rfl rfl) ?_
    exact fin
theorem cs_follow (hX : scX G Ln xs) (hq : q + 4 ≤ Ln) (hL : Ln ≤ 2048) (hJ : jI E W O A S) (hk : k + 30 ≤ 640158) (hn : n + 100 ≤ 7175630)
    (kk : ∀ A' S' k' n', jI E W O A' S' → k' ≤ k + 30 → n' ≤ n + 100 → WP G mL_law Q k' n' 1505 (lwl G E W O q) [] S') : WP G mL_law Q k n 888 (lwl G E W O q) [] S := by
  obtain ⟨L, K, AN, R0, Rc, Ic, AIc, AR, Im, AIm, AL, rfl, hC, hI, hO, nO⟩ := hJ
  obtain ⟨t, c, fg, n0⟩ := A
  have hA : AI (t, c, fg, n0) := hC.2.2.2.2.2.2
  refine WP_aload_n dL_law_888 rfl ?_
  refine WP_aload_n dL_law_889 rfl ?_
  refine WP_iload dL_law_890 rfl ?_
  refine WP_iconst (1) dL_law_892 (by decide) ?_
  refine WP_iadd dL_law_893 ?_
  refine WP_sld (j := q + 1) hX dL_law_894 (nI_1 q) (by omega) (by omega) ?_
  refine WP_aload_n dL_law_895 rfl ?_
  refine WP_callSX mL_follow (As := [_, _, _]) dL_law_896 okc_L_follow rfl ok_575 ⟨by decide, by decide⟩ rfl rfl (Nat.le_of_ble_eq_true rfl) (Nat.le_trans (Nat.add_le_add_left (show mL_follow.2.2.2.2.2.2.1 ≤ 30 by decide) k) hk) (Nat.le_trans (Nat.add_le_add_left (show mL_follow.2.2.2.2.2.2.2 ≤ 100 by decide) n) hn)
    (wr_follow (xs (q + 1)) O (fun z => z = aFol (t, c, fg, n0) (xs (q + 1))) hC.1.1 hO nO ((k_follow (xs (q + 1)) hC).imp (fun r S' h => ⟨_, rfl, h⟩))) (fun v9 S9 hq9 => ?_) (fun E9 S9 hq9 => absurd hq9 (rI_no E9 S9))
  obtain ⟨x9, e9, z, hz, hx9, AL', hJ9, ho⟩ := hq9
  cases e9
  obtain ⟨L', K', Rc', Ic', AIc', AR', rfl, hg, hC'⟩ := hJ9
  have hI' := mI_grow hg hI
  have hO' := gk hg hO
  subst hx9
  subst hz
  refine WP_istore dL_law_899 (by decide) rfl ?_
  refine WP_aload_n dL_law_901 rfl ?_
  refine WP_aload_n dL_law_902 rfl ?_
  refine WP_iload dL_law_903 rfl ?_
  refine WP_iconst (1) dL_law_905 (by decide) ?_
  refine WP_iadd dL_law_906 ?_
  refine WP_sld (j := q + 1) hX dL_law_907 (nI_1 q) (by omega) (by omega) ?_
  refine WP_callV mX5_follow (As := [_]) dL_law_908 okc_X5_follow ok_852 ⟨by decide, by decide⟩ rfl rfl hI'.1.1 rfl (Nat.le_of_ble_eq_true rfl) (rmC2 hk (show mL_follow.2.2.2.2.2.2.1 ≤ 30 by decide) rfl) (rmC2 hn (show mL_follow.2.2.2.2.2.2.2 ≤ 100 by decide) rfl) (p_follow (xs (q + 1)) hA hI') (fun v9 S9 hq9 => ?_) (fun E9 S9 hq9 => by obtain ⟨_, _, _, h, _⟩ := hq9; cases h)
  obtain ⟨y, I9, A9, e9, hy, rfl, hI9, ht9⟩ := hq9
  cases e9
  refine WP_istore dL_law_911 (by decide) rfl ?_
  refine WP_aload_n dL_law_913 rfl ?_
  refine callVi mX5_thrown [] dL_law_914 okc_X5_thrown ok_718 ⟨by decide, by decide⟩ rfl rfl hI9.1.1 rfl (Nat.le_of_ble_eq_true rfl) (rmC3 hk (show mL_follow.2.2.2.2.2.2.1 ≤ 30 by decide) rfl rfl) (rmC3 hn (show mL_follow.2.2.2.2.2.2.2 ≤ 100 by decide) rfl rfl) (m_thrown hI9.1.1) (fun x1 S1 h1 => ?_)
  obtain ⟨rfl, rfl⟩ := h1
  rw [ht9]
  have fin : WP G mL_law Q (k + mL_follow.2.2.2.2.2.2.1 + 0 + 0) (n + mL_follow.2.2.2.2.2.2.2 + 0 + 0) 941 (lwl G E W O q) [] (mkS L' K' AN R0 Rc' Ic' AIc' AR' I9 A9 AL') := by
    refine WP_goto 1505 dL_law_941 (by decide) ?_
    refine kk _ _ _ _ ⟨L', K', AN, R0, Rc', Ic', AIc', AR', I9, A9, AL', rfl, hC', hI9, hO', nO⟩ (Nat.add_le_add_left (show mL_follow.2.2.2.2.2.2.1 ≤ 30 by decide) k) (Nat.add_le_add_left (show mL_follow.2.2.2.2.2.2.2 ≤ 100 by decide) n)
  have hz3 : (aFol (t, c, fg, n0) (xs (q + 1))).1 ≤ 3 := by
    unfold aFol
    repeat' split
    all_goals exact Nat.le_of_ble_eq_true rfl
  refine WP_iload dL_law_917 rfl ?_
  refine WP_icmp_eq 924 dL_law_919 (by decide) (fun _ => ?_) (fun hb => absurd rfl hb)
  refine WP_iload dL_law_924 rfl ?_
  refine WP_if_ne 941 dL_law_926 (by decide) (fun hb => ?_) (fun hb => ?_)
  · refine WP_lv (lwl G E W O q) (lwl_of rfl rfl rfl rfl rfl) ?_
    exact fin
  · have hz0 : (aFol (t, c, fg, n0) (xs (q + 1))).1 = 0 := (nI_eq (by omega) (by decide)).mp (hb : nI _ = nI 0)
    refine WP_aload_n dL_law_929 rfl ?_
    refine WP_iconst (0) dL_law_930 (by decide) ?_
    refine ald_10 0 1 dL_law_931 rfl hO' nO rfl (by decide) (by decide) ?_
    rw [ho hz0]
    refine WP_iload dL_law_932 rfl ?_
    refine WP_i2l dL_law_934 ?_
    rw [hy hz0]
    refine WP_lcmp dL_law_935 ?_
    refine WP_if_eq 941 dL_law_936 (by decide) (fun _ => ?_) (fun hb => absurd ((lg_cmp_eq _ _).mpr rfl) hb)
    refine WP_lv (lwl G E W O q) (lwl_of rfl rfl rfl rfl rfl) ?_
    exact fin
theorem cs_move (hX : scX G Ln xs) (hq : q + 4 ≤ Ln) (hL : Ln ≤ 2048) (hJ : jI E W O A S) (hk : k + 30 ≤ 640158) (hn : n + 100 ≤ 7175630)
    (kk : ∀ A' S' k' n', jI E W O A' S' → k' ≤ k + 30 → n' ≤ n + 100 → WP G mL_law Q k' n' 1505 (lwl G E W O q) [] S') : WP G mL_law Q k n 944 (lwl G E W O q) [] S := by
  obtain ⟨L, K, AN, R0, Rc, Ic, AIc, AR, Im, AIm, AL, rfl, hC, hI, hO, nO⟩ := hJ
  obtain ⟨t, c, fg, n0⟩ := A
  have hA : AI (t, c, fg, n0) := hC.2.2.2.2.2.2
  refine WP_aload_n dL_law_944 rfl ?_
  refine WP_aload_n dL_law_945 rfl ?_
  refine WP_iload dL_law_946 rfl ?_
  refine WP_iconst (1) dL_law_948 (by decide) ?_
  refine WP_iadd dL_law_949 ?_
  refine WP_sld (j := q + 1) hX dL_law_950 (nI_1 q) (by omega) (by omega) ?_
  refine WP_aload_n dL_law_951 rfl ?_
  refine WP_iload dL_law_952 rfl ?_
  refine WP_iconst (2) dL_law_954 (by decide) ?_
  refine WP_iadd dL_law_955 ?_
  refine WP_sld (j := q + 2) hX dL_law_956 (nI_add q 2) (by omega) (by omega) ?_
  refine WP_aload_n dL_law_957 rfl ?_
  refine WP_callSX mL_move (As := [_, _, _, _]) dL_law_958 okc_L_move rfl ok_590 ⟨by decide, by decide⟩ rfl rfl (Nat.le_of_ble_eq_true rfl) (Nat.le_trans (Nat.add_le_add_left (show mL_move.2.2.2.2.2.2.1 ≤ 30 by decide) k) hk) (Nat.le_trans (Nat.add_le_add_left (show mL_move.2.2.2.2.2.2.2 ≤ 100 by decide) n) hn)
    (wr_move (xs (q + 1)) (xs (q + 2)) O (fun z => z = aMov (t, c, fg, n0) (xs (q + 1)) (xs (q + 2))) hC.1.1 hO nO ((k_move (xs (q + 1)) (xs (q + 2)) hC).imp (fun r S' h => ⟨_, rfl, h⟩))) (fun v9 S9 hq9 => ?_) (fun E9 S9 hq9 => absurd hq9 (rI_no E9 S9))
  obtain ⟨x9, e9, z, hz, hx9, AL', hJ9, ho⟩ := hq9
  cases e9
  obtain ⟨L', K', Rc', Ic', AIc', AR', rfl, hg, hC'⟩ := hJ9
  have hI' := mI_grow hg hI
  have hO' := gk hg hO
  subst hx9
  subst hz
  refine WP_istore dL_law_961 (by decide) rfl ?_
  refine WP_aload_n dL_law_963 rfl ?_
  refine WP_aload_n dL_law_964 rfl ?_
  refine WP_iload dL_law_965 rfl ?_
  refine WP_iconst (1) dL_law_967 (by decide) ?_
  refine WP_iadd dL_law_968 ?_
  refine WP_sld (j := q + 1) hX dL_law_969 (nI_1 q) (by omega) (by omega) ?_
  refine WP_aload_n dL_law_970 rfl ?_
  refine WP_iload dL_law_971 rfl ?_
  refine WP_iconst (2) dL_law_973 (by decide) ?_
  refine WP_iadd dL_law_974 ?_
  refine WP_sld (j := q + 2) hX dL_law_975 (nI_add q 2) (by omega) (by omega) ?_
  refine WP_callV mX5_move (As := [_, _]) dL_law_976 okc_X5_move ok_868 ⟨by decide, by decide⟩ rfl rfl hI'.1.1 rfl (Nat.le_of_ble_eq_true rfl) (rmC2 hk (show mL_move.2.2.2.2.2.2.1 ≤ 30 by decide) rfl) (rmC2 hn (show mL_move.2.2.2.2.2.2.2 ≤ 100 by decide) rfl) (p_move (xs (q + 1)) (xs (q + 2)) hA hI') (fun v9 S9 hq9 => ?_) (fun E9 S9 hq9 => by obtain ⟨_, _, _, h, _⟩ := hq9; cases h)
  obtain ⟨y, I9, A9, e9, hy, rfl, hI9, ht9⟩ := hq9
  cases e9
  refine WP_istore dL_law_979 (by decide) rfl ?_
  refine WP_aload_n dL_law_981 rfl ?_
  refine callVi mX5_thrown [] dL_law_982 okc_X5_thrown ok_718 ⟨by decide, by decide⟩ rfl rfl hI9.1.1 rfl (Nat.le_of_ble_eq_true rfl) (rmC3 hk (show mL_move.2.2.2.2.2.2.1 ≤ 30 by decide) rfl rfl) (rmC3 hn (show mL_move.2.2.2.2.2.2.2 ≤ 100 by decide) rfl rfl) (m_thrown hI9.1.1) (fun x1 S1 h1 => ?_)
  obtain ⟨rfl, rfl⟩ := h1
  rw [ht9]
  have fin : WP G mL_law Q (k + mL_move.2.2.2.2.2.2.1 + 0 + 0) (n + mL_move.2.2.2.2.2.2.2 + 0 + 0) 1009 (lwl G E W O q) [] (mkS L' K' AN R0 Rc' Ic' AIc' AR' I9 A9 AL') := by
    refine WP_goto 1505 dL_law_1009 (by decide) ?_
    refine kk _ _ _ _ ⟨L', K', AN, R0, Rc', Ic', AIc', AR', I9, A9, AL', rfl, hC', hI9, hO', nO⟩ (Nat.add_le_add_left (show mL_move.2.2.2.2.2.2.1 ≤ 30 by decide) k) (Nat.add_le_add_left (show mL_move.2.2.2.2.2.2.2 ≤ 100 by decide) n)
  have hz3 : (aMov (t, c, fg, n0) (xs (q + 1)) (xs (q + 2))).1 ≤ 3 := by
    unfold aMov
    repeat' split
    all_goals exact Nat.le_of_ble_eq_true rfl
  refine WP_iload dL_law_985 rfl ?_
  refine WP_icmp_eq 992 dL_law_987 (by decide) (fun _ => ?_) (fun hb => absurd rfl hb)
  refine WP_iload dL_law_992 rfl ?_
  refine WP_if_ne 1009 dL_law_994 (by decide) (fun hb => ?_) (fun hb => ?_)
  · refine WP_lv (lwl G E W O q) (lwl_of rfl rfl rfl rfl rfl) ?_
    exact fin
  · have hz0 : (aMov (t, c, fg, n0) (xs (q + 1)) (xs (q + 2))).1 = 0 := (nI_eq (by omega) (by decide)).mp (hb : nI _ = nI 0)
    refine WP_aload_n dL_law_997 rfl ?_
    refine WP_iconst (0) dL_law_998 (by decide) ?_
    refine ald_10 0 1 dL_law_999 rfl hO' nO rfl (by decide) (by decide) ?_
    rw [ho hz0]
    refine WP_iload dL_law_1000 rfl ?_
    refine WP_i2l dL_law_1002 ?_
    rw [hy hz0]
    refine WP_lcmp dL_law_1003 ?_
    refine WP_if_eq 1009 dL_law_1004 (by decide) (fun _ => ?_) (fun hb => absurd ((lg_cmp_eq _ _).mpr rfl) hb)
    refine WP_lv (lwl G E W O q) (lwl_of rfl rfl rfl rfl rfl) ?_
    exact fin
theorem cs_depth (hX : scX G Ln xs) (hq : q + 4 ≤ Ln) (hL : Ln ≤ 2048) (hJ : jI E W O A S) (hk : k + 30 ≤ 640158) (hn : n + 100 ≤ 7175630)
    (kk : ∀ A' S' k' n', jI E W O A' S' → k' ≤ k + 30 → n' ≤ n + 100 → WP G mL_law Q k' n' 1505 (lwl G E W O q) [] S') : WP G mL_law Q k n 1129 (lwl G E W O q) [] S := by
  obtain ⟨L, K, AN, R0, Rc, Ic, AIc, AR, Im, AIm, AL, rfl, hC, hI, hO, nO⟩ := hJ
  obtain ⟨t, c, fg, n0⟩ := A
  have hA : AI (t, c, fg, n0) := hC.2.2.2.2.2.2
  refine WP_aload_n dL_law_1129 rfl ?_
  refine WP_aload_n dL_law_1130 rfl ?_
  refine WP_iload dL_law_1131 rfl ?_
  refine WP_iconst (1) dL_law_1133 (by decide) ?_
  refine WP_iadd dL_law_1134 ?_
  refine WP_sld (j := q + 1) hX dL_law_1135 (nI_1 q) (by omega) (by omega) ?_
  refine WP_aload_n dL_law_1136 rfl ?_
  refine WP_callSX mL_depth (As := [_, _, _]) dL_law_1137 okc_L_depth rfl ok_599 ⟨by decide, by decide⟩ rfl rfl (Nat.le_of_ble_eq_true rfl) (Nat.le_trans (Nat.add_le_add_left (show mL_depth.2.2.2.2.2.2.1 ≤ 30 by decide) k) hk) (Nat.le_trans (Nat.add_le_add_left (show mL_depth.2.2.2.2.2.2.2 ≤ 100 by decide) n) hn)
    (wr_depth (xs (q + 1)) O (fun z => z = aDep (t, c, fg, n0) (xs (q + 1))) hC.1.1 hO nO ((k_depth (xs (q + 1)) hC).imp (fun r S' h => ⟨_, rfl, h⟩))) (fun v9 S9 hq9 => ?_) (fun E9 S9 hq9 => absurd hq9 (rI_no E9 S9))
  obtain ⟨x9, e9, z, hz, hx9, AL', hJ9, ho⟩ := hq9
  cases e9
  obtain ⟨L', K', Rc', Ic', AIc', AR', rfl, hg, hC'⟩ := hJ9
  have hI' := mI_grow hg hI
  have hO' := gk hg hO
  subst hx9
  subst hz
  refine WP_istore dL_law_1140 (by decide) rfl ?_
  refine WP_aload_n dL_law_1142 rfl ?_
  refine WP_aload_n dL_law_1143 rfl ?_
  refine WP_iload dL_law_1144 rfl ?_
  refine WP_iconst (1) dL_law_1146 (by decide) ?_
  refine WP_iadd dL_law_1147 ?_
  refine WP_sld (j := q + 1) hX dL_law_1148 (nI_1 q) (by omega) (by omega) ?_
  refine WP_callV mX5_depth (As := [_]) dL_law_1149 okc_X5_depth ok_924 ⟨by decide, by decide⟩ rfl rfl hI'.1.1 rfl (Nat.le_of_ble_eq_true rfl) (rmC2 hk (show mL_depth.2.2.2.2.2.2.1 ≤ 30 by decide) rfl) (rmC2 hn (show mL_depth.2.2.2.2.2.2.2 ≤ 100 by decide) rfl) (p_depth (xs (q + 1)) hA hI') (fun v9 S9 hq9 => ?_) (fun E9 S9 hq9 => by obtain ⟨_, _, _, h, _⟩ := hq9; cases h)
  obtain ⟨y, I9, A9, e9, hy, rfl, hI9, ht9⟩ := hq9
  cases e9
  refine WP_istore dL_law_1152 (by decide) rfl ?_
  refine WP_aload_n dL_law_1154 rfl ?_
  refine callVi mX5_thrown [] dL_law_1155 okc_X5_thrown ok_718 ⟨by decide, by decide⟩ rfl rfl hI9.1.1 rfl (Nat.le_of_ble_eq_true rfl) (rmC3 hk (show mL_depth.2.2.2.2.2.2.1 ≤ 30 by decide) rfl rfl) (rmC3 hn (show mL_depth.2.2.2.2.2.2.2 ≤ 100 by decide) rfl rfl) (m_thrown hI9.1.1) (fun x1 S1 h1 => ?_)
  obtain ⟨rfl, rfl⟩ := h1
  rw [ht9]
  have fin : WP G mL_law Q (k + mL_depth.2.2.2.2.2.2.1 + 0 + 0) (n + mL_depth.2.2.2.2.2.2.2 + 0 + 0) 1182 (lwl G E W O q) [] (mkS L' K' AN R0 Rc' Ic' AIc' AR' I9 A9 AL') := by
    refine WP_goto 1505 dL_law_1182 (by decide) ?_
    refine kk _ _ _ _ ⟨L', K', AN, R0, Rc', Ic', AIc', AR', I9, A9, AL', rfl, hC', hI9, hO', nO⟩ (Nat.add_le_add_left (show mL_depth.2.2.2.2.2.2.1 ≤ 30 by decide) k) (Nat.add_le_add_left (show mL_depth.2.2.2.2.2.2.2 ≤ 100 by decide) n)
  have hz3 : (aDep (t, c, fg, n0) (xs (q + 1))).1 ≤ 3 := by
    unfold aDep
    repeat' split
    all_goals exact Nat.le_of_ble_eq_true rfl
  refine WP_iload dL_law_1158 rfl ?_
  refine WP_icmp_eq 1165 dL_law_1160 (by decide) (fun _ => ?_) (fun hb => absurd rfl hb)
  refine WP_iload dL_law_1165 rfl ?_
  refine WP_if_ne 1182 dL_law_1167 (by decide) (fun hb => ?_) (fun hb => ?_)
  · refine WP_lv (lwl G E W O q) (lwl_of rfl rfl rfl rfl rfl) ?_
    exact fin
  · have hz0 : (aDep (t, c, fg, n0) (xs (q + 1))).1 = 0 := (nI_eq (by omega) (by decide)).mp (hb : nI _ = nI 0)
    refine WP_aload_n dL_law_1170 rfl ?_
    refine WP_iconst (0) dL_law_1171 (by decide) ?_
    refine ald_10 0 1 dL_law_1172 rfl hO' nO rfl (by decide) (by decide) ?_
    rw [ho hz0]
    refine WP_iload dL_law_1173 rfl ?_
    refine WP_i2l dL_law_1175 ?_
    rw [hy hz0]
    refine WP_lcmp dL_law_1176 ?_
    refine WP_if_eq 1182 dL_law_1177 (by decide) (fun _ => ?_) (fun hb => absurd ((lg_cmp_eq _ _).mpr rfl) hb)
    refine WP_lv (lwl G E W O q) (lwl_of rfl rfl rfl rfl rfl) ?_
    exact fin
theorem cs_subtree (hX : scX G Ln xs) (hq : q + 4 ≤ Ln) (hL : Ln ≤ 2048) (hJ : jI E W O A S) (hk : k + 30 ≤ 640158) (hn : n + 100 ≤ 7175630)
    (kk : ∀ A' S' k' n', jI E W O A' S' → k' ≤ k + 30 → n' ≤ n + 100 → WP G mL_law Q k' n' 1505 (lwl G E W O q) [] S') : WP G mL_law Q k n 1185 (lwl G E W O q) [] S := by
  obtain ⟨L, K, AN, R0, Rc, Ic, AIc, AR, Im, AIm, AL, rfl, hC, hI, hO, nO⟩ := hJ
  obtain ⟨t, c, fg, n0⟩ := A
  have hA : AI (t, c, fg, n0) := hC.2.2.2.2.2.2
  refine WP_aload_n dL_law_1185 rfl ?_
  refine WP_aload_n dL_law_1186 rfl ?_
  refine WP_iload dL_law_1187 rfl ?_
  refine WP_iconst (1) dL_law_1189 (by decide) ?_
  refine WP_iadd dL_law_1190 ?_
  refine WP_sld (j := q + 1) hX dL_law_1191 (nI_1 q) (by omega) (by omega) ?_
  refine WP_aload_n dL_law_1192 rfl ?_
  refine WP_callSX mL_subtree (As := [_, _, _]) dL_law_1193 okc_L_subtree rfl ok_607 ⟨by decide, by decide⟩ rfl rfl (Nat.le_of_ble_eq_true rfl) (Nat.le_trans (Nat.add_le_add_left (show mL_subtree.2.2.2.2.2.2.1 ≤ 30 by decide) k) hk) (Nat.le_trans (Nat.add_le_add_left (show mL_subtree.2.2.2.2.2.2.2 ≤ 100 by decide) n) hn)
    (wr_subtree (xs (q + 1)) O (fun z => z = aSub (t, c, fg, n0) (xs (q + 1))) hC.1.1 hO nO ((k_subtree (xs (q + 1)) hC).imp (fun r S' h => ⟨_, rfl, h⟩))) (fun v9 S9 hq9 => ?_) (fun E9 S9 hq9 => absurd hq9 (rI_no E9 S9))
  obtain ⟨x9, e9, z, hz, hx9, AL', hJ9, ho⟩ := hq9
  cases e9
  obtain ⟨L', K', Rc', Ic', AIc', AR', rfl, hg, hC'⟩ := hJ9
  have hI' := mI_grow hg hI
  have hO' := gk hg hO
  subst hx9
  subst hz
  refine WP_istore dL_law_1196 (by decide) rfl ?_
  refine WP_aload_n dL_law_1198 rfl ?_
  refine WP_aload_n dL_law_1199 rfl ?_
  refine WP_iload dL_law_1200 rfl ?_
  refine WP_iconst (1) dL_law_1202 (by decide) ?_
  refine WP_iadd dL_law_1203 ?_
  refine WP_sld (j := q + 1) hX dL_law_1204 (nI_1 q) (by omega) (by omega) ?_
  refine WP_callV mX5_subtree (As := [_]) dL_law_1205 okc_X5_subtree ok_928 ⟨by decide, by decide⟩ rfl rfl hI'.1.1 rfl (Nat.le_of_ble_eq_true rfl) (rmC2 hk (show mL_subtree.2.2.2.2.2.2.1 ≤ 30 by decide) rfl) (rmC2 hn (show mL_subtree.2.2.2.2.2.2.2 ≤ 100 by decide) rfl) (p_subtree (xs (q + 1)) hA hI') (fun v9 S9 hq9 => ?_) (fun E9 S9 hq9 => by obtain ⟨_, _, _, h, _⟩ := hq9; cases h)
  obtain ⟨y, I9, A9, e9, hy, rfl, hI9, ht9⟩ := hq9
  cases e9
  refine WP_istore dL_law_1208 (by decide) rfl ?_
  refine WP_aload_n dL_law_1210 rfl ?_
  refine callVi mX5_thrown [] dL_law_1211 okc_X5_thrown ok_718 ⟨by decide, by decide⟩ rfl rfl hI9.1.1 rfl (Nat.le_of_ble_eq_true rfl) (rmC3 hk (show mL_subtree.2.2.2.2.2.2.1 ≤ 30 by decide) rfl rfl) (rmC3 hn (show mL_subtree.2.2.2.2.2.2.2 ≤ 100 by decide) rfl rfl) (m_thrown hI9.1.1) (fun x1 S1 h1 => ?_)
  obtain ⟨rfl, rfl⟩ := h1
  rw [ht9]
  have fin : WP G mL_law Q (k + mL_subtree.2.2.2.2.2.2.1 + 0 + 0) (n + mL_subtree.2.2.2.2.2.2.2 + 0 + 0) 1238 (lwl G E W O q) [] (mkS L' K' AN R0 Rc' Ic' AIc' AR' I9 A9 AL') := by
    refine WP_goto 1505 dL_law_1238 (by decide) ?_
    refine kk _ _ _ _ ⟨L', K', AN, R0, Rc', Ic', AIc', AR', I9, A9, AL', rfl, hC', hI9, hO', nO⟩ (Nat.add_le_add_left (show mL_subtree.2.2.2.2.2.2.1 ≤ 30 by decide) k) (Nat.add_le_add_left (show mL_subtree.2.2.2.2.2.2.2 ≤ 100 by decide) n)
  have hz3 : (aSub (t, c, fg, n0) (xs (q + 1))).1 ≤ 3 := by
    unfold aSub
    repeat' split
    all_goals exact Nat.le_of_ble_eq_true rfl
  refine WP_iload dL_law_1214 rfl ?_
  refine WP_icmp_eq 1221 dL_law_1216 (by decide) (fun _ => ?_) (fun hb => absurd rfl hb)
  refine WP_iload dL_law_1221 rfl ?_
  refine WP_if_ne 1238 dL_law_1223 (by decide) (fun hb => ?_) (fun hb => ?_)
  · refine WP_lv (lwl G E W O q) (lwl_of rfl rfl rfl rfl rfl) ?_
    exact fin
  · have hz0 : (aSub (t, c, fg, n0) (xs (q + 1))).1 = 0 := (nI_eq (by omega) (by decide)).mp (hb : nI _ = nI 0)
    refine WP_aload_n dL_law_1226 rfl ?_
    refine WP_iconst (0) dL_law_1227 (by decide) ?_
    refine ald_10 0 1 dL_law_1228 rfl hO' nO rfl (by decide) (by decide) ?_
    rw [ho hz0]
    refine WP_iload dL_law_1229 rfl ?_
    refine WP_i2l dL_law_1231 ?_
    rw [hy hz0]
    refine WP_lcmp dL_law_1232 ?_
    refine WP_if_eq 1238 dL_law_1233 (by decide) (fun _ => ?_) (fun hb => absurd ((lg_cmp_eq _ _).mpr rfl) hb)
    refine WP_lv (lwl G E W O q) (lwl_of rfl rfl rfl rfl rfl) ?_
    exact fin
theorem cs_whereIs (hX : scX G Ln xs) (hq : q + 4 ≤ Ln) (hL : Ln ≤ 2048) (hJ : jI E W O A S) (hk : k + 30 ≤ 640158) (hn : n + 100 ≤ 7175630)
    (kk : ∀ A' S' k' n', jI E W O A' S' → k' ≤ k + 30 → n' ≤ n + 100 → WP G mL_law Q k' n' 1505 (lwl G E W O q) [] S') : WP G mL_law Q k n 1325 (lwl G E W O q) [] S := by
  obtain ⟨L, K, AN, R0, Rc, Ic, AIc, AR, Im, AIm, AL, rfl, hC, hI, hO, nO⟩ := hJ
  obtain ⟨t, c, fg, n0⟩ := A
  have hA : AI (t, c, fg, n0) := hC.2.2.2.2.2.2
  refine WP_aload_n dL_law_1325 rfl ?_
  refine WP_aload_n dL_law_1326 rfl ?_
  refine WP_iload dL_law_1327 rfl ?_
  refine WP_iconst (1) dL_law_1329 (by decide) ?_
  refine WP_iadd dL_law_1330 ?_
  refine WP_sld (j := q + 1) hX dL_law_1331 (nI_1 q) (by omega) (by omega) ?_
  refine WP_aload_n dL_law_1332 rfl ?_
  refine WP_callSX mL_whereIs (As := [_, _, _]) dL_law_1333 okc_L_whereIs rfl ok_621 ⟨by decide, by decide⟩ rfl rfl (Nat.le_of_ble_eq_true rfl) (Nat.le_trans (Nat.add_le_add_left (show mL_whereIs.2.2.2.2.2.2.1 ≤ 30 by decide) k) hk) (Nat.le_trans (Nat.add_le_add_left (show mL_whereIs.2.2.2.2.2.2.2 ≤ 100 by decide) n) hn)
    (wr_whereIs (xs (q + 1)) O (fun z => z = aWhe (t, c, fg, n0) (xs (q + 1))) hC.1.1 hO nO ((k_whereIs (xs (q + 1)) hC).imp (fun r S' h => ⟨_, rfl, h⟩))) (fun v9 S9 hq9 => ?_) (fun E9 S9 hq9 => absurd hq9 (rI_no E9 S9))
  obtain ⟨x9, e9, z, hz, hx9, AL', hJ9, ho⟩ := hq9
  cases e9
  obtain ⟨L', K', Rc', Ic', AIc', AR', rfl, hg, hC'⟩ := hJ9
  have hI' := mI_grow hg hI
  have hO' := gk hg hO
  subst hx9
  subst hz
  refine WP_istore dL_law_1336 (by decide) rfl ?_
  refine WP_aload_n dL_law_1338 rfl ?_
  refine WP_aload_n dL_law_1339 rfl ?_
  refine WP_iload dL_law_1340 rfl ?_
  refine WP_iconst (1) dL_law_1342 (by decide) ?_
  refine WP_iadd dL_law_1343 ?_
  refine WP_sld (j := q + 1) hX dL_law_1344 (nI_1 q) (by omega) (by omega) ?_
  refine WP_callV mX5_whereIs (As := [_]) dL_law_1345 okc_X5_whereIs ok_936 ⟨by decide, by decide⟩ rfl rfl hI'.1.1 rfl (Nat.le_of_ble_eq_true rfl) (rmC2 hk (show mL_whereIs.2.2.2.2.2.2.1 ≤ 30 by decide) rfl) (rmC2 hn (show mL_whereIs.2.2.2.2.2.2.2 ≤ 100 by decide) rfl) (p_whereIs (xs (q + 1)) hA hI') (fun v9 S9 hq9 => ?_) (fun E9 S9 hq9 => by obtain ⟨_, _, _, h, _⟩ := hq9; cases h)
  obtain ⟨y, I9, A9, e9, hy, rfl, hI9, ht9⟩ := hq9
  cases e9
  refine WP_istore dL_law_1348 (by decide) rfl ?_
  refine WP_aload_n dL_law_1350 rfl ?_
  refine callVi mX5_thrown [] dL_law_1351 okc_X5_thrown ok_718 ⟨by decide, by decide⟩ rfl rfl hI9.1.1 rfl (Nat.le_of_ble_eq_true rfl) (rmC3 hk (show mL_whereIs.2.2.2.2.2.2.1 ≤ 30 by decide) rfl rfl) (rmC3 hn (show mL_whereIs.2.2.2.2.2.2.2 ≤ 100 by decide) rfl rfl) (m_thrown hI9.1.1) (fun x1 S1 h1 => ?_)
  obtain ⟨rfl, rfl⟩ := h1
  rw [ht9]
  have fin : WP G mL_law Q (k + mL_whereIs.2.2.2.2.2.2.1 + 0 + 0) (n + mL_whereIs.2.2.2.2.2.2.2 + 0 + 0) 1378 (lwl G E W O q) [] (mkS L' K' AN R0 Rc' Ic' AIc' AR' I9 A9 AL') := by
    refine WP_goto 1505 dL_law_1378 (by decide) ?_
    refine kk _ _ _ _ ⟨L', K', AN, R0, Rc', Ic', AIc', AR', I9, A9, AL', rfl, hC', hI9, hO', nO⟩ (Nat.add_le_add_left (show mL_whereIs.2.2.2.2.2.2.1 ≤ 30 by decide) k) (Nat.add_le_add_left (show mL_whereIs.2.2.2.2.2.2.2 ≤ 100 by decide) n)
  have hz3 : (aWhe (t, c, fg, n0) (xs (q + 1))).1 ≤ 3 := by
    unfold aWhe
    repeat' split
    all_goals exact Nat.le_of_ble_eq_true rfl
  refine WP_iload dL_law_1354 rfl ?_
  refine WP_icmp_eq 1361 dL_law_1356 (by decide) (fun _ => ?_) (fun hb => absurd rfl hb)
  refine WP_iload dL_law_1361 rfl ?_
  refine WP_if_ne 1378 dL_law_1363 (by decide) (fun hb => ?_) (fun hb => ?_)
  · refine WP_lv (lwl G E W O q) (lwl_of rfl rfl rfl rfl rfl) ?_
    exact fin
  · have hz0 : (aWhe (t, c, fg, n0) (xs (q + 1))).1 = 0 := (nI_eq (by omega) (by decide)).mp (hb : nI _ = nI 0)
    refine WP_aload_n dL_law_1366 rfl ?_
    refine WP_iconst (0) dL_law_1367 (by decide) ?_
    refine ald_10 0 1 dL_law_1368 rfl hO' nO rfl (by decide) (by decide) ?_
    rw [ho hz0]
    refine WP_iload dL_law_1369 rfl ?_
    refine WP_i2l dL_law_1371 ?_
    rw [hy hz0]
    refine WP_lcmp dL_law_1372 ?_
    refine WP_if_eq 1378 dL_law_1373 (by decide) (fun _ => ?_) (fun hb => absurd ((lg_cmp_eq _ _).mpr rfl) hb)
    refine WP_lv (lwl G E W O q) (lwl_of rfl rfl rfl rfl rfl) ?_
    exact fin
theorem cs_plain (hX : scX G Ln xs) (hq : q + 4 ≤ Ln) (hL : Ln ≤ 2048) (hJ : jI E W O A S) (hk : k + 30 ≤ 640158) (hn : n + 100 ≤ 7175630)
    (kk : ∀ A' S' k' n', jI E W O A' S' → k' ≤ k + 30 → n' ≤ n + 100 → WP G mL_law Q k' n' 1505 (lwl G E W O q) [] S') : WP G mL_law Q k n 1381 (lwl G E W O q) [] S := by
  obtain ⟨L, K, AN, R0, Rc, Ic, AIc, AR, Im, AIm, AL, rfl, hC, hI, hO, nO⟩ := hJ
  obtain ⟨t, c, fg, n0⟩ := A
  have hA : AI (t, c, fg, n0) := hC.2.2.2.2.2.2
  refine WP_aload_n dL_law_1381 rfl ?_
  refine WP_aload_n dL_law_1382 rfl ?_
  refine WP_iload dL_law_1383 rfl ?_
  refine WP_iconst (1) dL_law_1385 (by decide) ?_
  refine WP_iadd dL_law_1386 ?_
  refine WP_sld (j := q + 1) hX dL_law_1387 (nI_1 q) (by omega) (by omega) ?_
  refine WP_aload_n dL_law_1388 rfl ?_
  refine WP_callSX mL_plain (As := [_, _, _]) dL_law_1389 okc_L_plain rfl ok_628 ⟨by decide, by decide⟩ rfl rfl (Nat.le_of_ble_eq_true rfl) (Nat.le_trans (Nat.add_le_add_left (show mL_plain.2.2.2.2.2.2.1 ≤ 30 by decide) k) hk) (Nat.le_trans (Nat.add_le_add_left (show mL_plain.2.2.2.2.2.2.2 ≤ 100 by decide) n) hn)
    (wr_plain (xs (q + 1)) O (fun z => z = aPla (t, c, fg, n0) (xs (q + 1))) hC.1.1 hO nO ((k_plain (xs (q + 1)) hC).imp (fun r S' h => ⟨_, rfl, h⟩))) (fun v9 S9 hq9 => ?_) (fun E9 S9 hq9 => absurd hq9 (rI_no E9 S9))
  obtain ⟨x9, e9, z, hz, hx9, AL', hJ9, ho⟩ := hq9
  cases e9
  obtain ⟨L', K', Rc', Ic', AIc', AR', rfl, hg, hC'⟩ := hJ9
  have hI' := mI_grow hg hI
  have hO' := gk hg hO
  subst hx9
  subst hz
  refine WP_istore dL_law_1392 (by decide) rfl ?_
  refine WP_aload_n dL_law_1394 rfl ?_
  refine WP_aload_n dL_law_1395 rfl ?_
  refine WP_iload dL_law_1396 rfl ?_
  refine WP_iconst (1) dL_law_1398 (by decide) ?_
  refine WP_iadd dL_law_1399 ?_
  refine WP_sld (j := q + 1) hX dL_law_1400 (nI_1 q) (by omega) (by omega) ?_
  refine WP_callV mX5_plain (As := [_]) dL_law_1401 okc_X5_plain ok_940 ⟨by decide, by decide⟩ rfl rfl hI'.1.1 rfl (Nat.le_of_ble_eq_true rfl) (rmC2 hk (show mL_plain.2.2.2.2.2.2.1 ≤ 30 by decide) rfl) (rmC2 hn (show mL_plain.2.2.2.2.2.2.2 ≤ 100 by decide) rfl) (p_plain (xs (q + 1)) hA hI') (fun v9 S9 hq9 => ?_) (fun E9 S9 hq9 => by obtain ⟨_, _, _, h, _⟩ := hq9; cases h)
  obtain ⟨y, I9, A9, e9, hy, rfl, hI9, ht9⟩ := hq9
  cases e9
  refine WP_istore dL_law_1404 (by decide) rfl ?_
  refine WP_aload_n dL_law_1406 rfl ?_
  refine callVi mX5_thrown [] dL_law_1407 okc_X5_thrown ok_718 ⟨by decide, by decide⟩ rfl rfl hI9.1.1 rfl (Nat.le_of_ble_eq_true rfl) (rmC3 hk (show mL_plain.2.2.2.2.2.2.1 ≤ 30 by decide) rfl rfl) (rmC3 hn (show mL_plain.2.2.2.2.2.2.2 ≤ 100 by decide) rfl rfl) (m_thrown hI9.1.1) (fun x1 S1 h1 => ?_)
  obtain ⟨rfl, rfl⟩ := h1
  rw [ht9]
  have fin : WP G mL_law Q (k + mL_plain.2.2.2.2.2.2.1 + 0 + 0) (n + mL_plain.2.2.2.2.2.2.2 + 0 + 0) 1434 (lwl G E W O q) [] (mkS L' K' AN R0 Rc' Ic' AIc' AR' I9 A9 AL') := by
    refine WP_goto 1505 dL_law_1434 (by decide) ?_
    refine kk _ _ _ _ ⟨L', K', AN, R0, Rc', Ic', AIc', AR', I9, A9, AL', rfl, hC', hI9, hO', nO⟩ (Nat.add_le_add_left (show mL_plain.2.2.2.2.2.2.1 ≤ 30 by decide) k) (Nat.add_le_add_left (show mL_plain.2.2.2.2.2.2.2 ≤ 100 by decide) n)
  have hz3 : (aPla (t, c, fg, n0) (xs (q + 1))).1 ≤ 3 := by
    unfold aPla
    repeat' split
    all_goals exact Nat.le_of_ble_eq_true rfl
  refine WP_iload dL_law_1410 rfl ?_
  refine WP_icmp_eq 1417 dL_law_1412 (by decide) (fun _ => ?_) (fun hb => absurd rfl hb)
  refine WP_iload dL_law_1417 rfl ?_
  refine WP_if_ne 1434 dL_law_1419 (by decide) (fun hb => ?_) (fun hb => ?_)
  · refine WP_lv (lwl G E W O q) (lwl_of rfl rfl rfl rfl rfl) ?_
    exact fin
  · have hz0 : (aPla (t, c, fg, n0) (xs (q + 1))).1 = 0 := (nI_eq (by omega) (by decide)).mp (hb : nI _ = nI 0)
    refine WP_aload_n dL_law_1422 rfl ?_
    refine WP_iconst (0) dL_law_1423 (by decide) ?_
    refine ald_10 0 1 dL_law_1424 rfl hO' nO rfl (by decide) (by decide) ?_
    rw [ho hz0]
    refine WP_iload dL_law_1425 rfl ?_
    refine WP_i2l dL_law_1427 ?_
    rw [hy hz0]
    refine WP_lcmp dL_law_1428 ?_
    refine WP_if_eq 1434 dL_law_1429 (by decide) (fun _ => ?_) (fun hb => absurd ((lg_cmp_eq _ _).mpr rfl) hb)
    refine WP_lv (lwl G E W O q) (lwl_of rfl rfl rfl rfl rfl) ?_
    exact fin
theorem cs_plainSum (hX : scX G Ln xs) (hq : q + 4 ≤ Ln) (hL : Ln ≤ 2048) (hJ : jI E W O A S) (hk : k + 30 ≤ 640158) (hn : n + 100 ≤ 7175630)
    (kk : ∀ A' S' k' n', jI E W O A' S' → k' ≤ k + 30 → n' ≤ n + 100 → WP G mL_law Q k' n' 1505 (lwl G E W O q) [] S') : WP G mL_law Q k n 1437 (lwl G E W O q) [] S := by
  obtain ⟨L, K, AN, R0, Rc, Ic, AIc, AR, Im, AIm, AL, rfl, hC, hI, hO, nO⟩ := hJ
  obtain ⟨t, c, fg, n0⟩ := A
  have hA : AI (t, c, fg, n0) := hC.2.2.2.2.2.2
  refine WP_aload_n dL_law_1437 rfl ?_
  refine WP_aload_n dL_law_1438 rfl ?_
  refine WP_iload dL_law_1439 rfl ?_
  refine WP_iconst (1) dL_law_1441 (by decide) ?_
  refine WP_iadd dL_law_1442 ?_
  refine WP_sld (j := q + 1) hX dL_law_1443 (nI_1 q) (by omega) (by omega) ?_
  refine WP_aload_n dL_law_1444 rfl ?_
  refine WP_iload dL_law_1445 rfl ?_
  refine WP_iconst (2) dL_law_1447 (by decide) ?_
  refine WP_iadd dL_law_1448 ?_
  refine WP_sld (j := q + 2) hX dL_law_1449 (nI_add q 2) (by omega) (by omega) ?_
  refine WP_aload_n dL_law_1450 rfl ?_
  refine WP_callSX mL_plainSum (As := [_, _, _, _]) dL_law_1451 okc_L_plainSum rfl ok_639 ⟨by decide, by decide⟩ rfl rfl (Nat.le_of_ble_eq_true rfl) (Nat.le_trans (Nat.add_le_add_left (show mL_plainSum.2.2.2.2.2.2.1 ≤ 30 by decide) k) hk) (Nat.le_trans (Nat.add_le_add_left (show mL_plainSum.2.2.2.2.2.2.2 ≤ 100 by decide) n) hn)
    (wr_plainSum (xs (q + 1)) (xs (q + 2)) O (fun z => z = aPSu (t, c, fg, n0) (xs (q + 1)) (xs (q + 2))) hC.1.1 hO nO ((k_plainSum (xs (q + 1)) (xs (q + 2)) hC).imp (fun r S' h => ⟨_, rfl, h⟩))) (fun v9 S9 hq9 => ?_) (fun E9 S9 hq9 => absurd hq9 (rI_no E9 S9))
  obtain ⟨x9, e9, z, hz, hx9, AL', hJ9, ho⟩ := hq9
  cases e9
  obtain ⟨L', K', Rc', Ic', AIc', AR', rfl, hg, hC'⟩ := hJ9
  have hI' := mI_grow hg hI
  have hO' := gk hg hO
  subst hx9
  subst hz
  refine WP_istore dL_law_1454 (by decide) rfl ?_
  refine WP_aload_n dL_law_1456 rfl ?_
  refine WP_aload_n dL_law_1457 rfl ?_
  refine WP_iload dL_law_1458 rfl ?_
  refine WP_iconst (1) dL_law_1460 (by decide) ?_
  refine WP_iadd dL_law_1461 ?_
  refine WP_sld (j := q + 1) hX dL_law_1462 (nI_1 q) (by omega) (by omega) ?_
  refine WP_aload_n dL_law_1463 rfl ?_
  refine WP_iload dL_law_1464 rfl ?_
  refine WP_iconst (2) dL_law_1466 (by decide) ?_
  refine WP_iadd dL_law_1467 ?_
  refine WP_sld (j := q + 2) hX dL_law_1468 (nI_add q 2) (by omega) (by omega) ?_
  refine WP_callV mX5_plainSum (As := [_, _]) dL_law_1469 okc_X5_plainSum ok_944 ⟨by decide, by decide⟩ rfl rfl hI'.1.1 rfl (Nat.le_of_ble_eq_true rfl) (rmC2 hk (show mL_plainSum.2.2.2.2.2.2.1 ≤ 30 by decide) rfl) (rmC2 hn (show mL_plainSum.2.2.2.2.2.2.2 ≤ 100 by decide) rfl) (p_plainSum (xs (q + 1)) (xs (q + 2)) hA hI') (fun v9 S9 hq9 => ?_) (fun E9 S9 hq9 => by obtain ⟨_, _, _, h, _⟩ := hq9; cases h)
  obtain ⟨y, I9, A9, e9, hy, rfl, hI9, ht9⟩ := hq9
  cases e9
  refine WP_istore dL_law_1472 (by decide) rfl ?_
  refine WP_aload_n dL_law_1474 rfl ?_
  refine callVi mX5_thrown [] dL_law_1475 okc_X5_thrown ok_718 ⟨by decide, by decide⟩ rfl rfl hI9.1.1 rfl (Nat.le_of_ble_eq_true rfl) (rmC3 hk (show mL_plainSum.2.2.2.2.2.2.1 ≤ 30 by decide) rfl rfl) (rmC3 hn (show mL_plainSum.2.2.2.2.2.2.2 ≤ 100 by decide) rfl rfl) (m_thrown hI9.1.1) (fun x1 S1 h1 => ?_)
  obtain ⟨rfl, rfl⟩ := h1
  rw [ht9]
  have fin : WP G mL_law Q (k + mL_plainSum.2.2.2.2.2.2.1 + 0 + 0) (n + mL_plainSum.2.2.2.2.2.2.2 + 0 + 0) 1502 (lwl G E W O q) [] (mkS L' K' AN R0 Rc' Ic' AIc' AR' I9 A9 AL') := by
    refine WP_goto 1505 dL_law_1502 (by decide) ?_
    refine kk _ _ _ _ ⟨L', K', AN, R0, Rc', Ic', AIc', AR', I9, A9, AL', rfl, hC', hI9, hO', nO⟩ (Nat.add_le_add_left (show mL_plainSum.2.2.2.2.2.2.1 ≤ 30 by decide) k) (Nat.add_le_add_left (show mL_plainSum.2.2.2.2.2.2.2 ≤ 100 by decide) n)
  have hz3 : (aPSu (t, c, fg, n0) (xs (q + 1)) (xs (q + 2))).1 ≤ 3 := by
    unfold aPSu
    repeat' split
    all_goals exact Nat.le_of_ble_eq_true rfl
  refine WP_iload dL_law_1478 rfl ?_
  refine WP_icmp_eq 1485 dL_law_1480 (by decide) (fun _ => ?_) (fun hb => absurd rfl hb)
  refine WP_iload dL_law_1485 rfl ?_
  refine WP_if_ne 1502 dL_law_1487 (by decide) (fun hb => ?_) (fun hb => ?_)
  · refine WP_lv (lwl G E W O q) (lwl_of rfl rfl rfl rfl rfl) ?_
    exact fin
  · have hz0 : (aPSu (t, c, fg, n0) (xs (q + 1)) (xs (q + 2))).1 = 0 := (nI_eq (by omega) (by decide)).mp (hb : nI _ = nI 0)
    refine WP_aload_n dL_law_1490 rfl ?_
    refine WP_iconst (0) dL_law_1491 (by decide) ?_
    refine ald_10 0 1 dL_law_1492 rfl hO' nO rfl (by decide) (by decide) ?_
    rw [ho hz0]
    refine WP_iload dL_law_1493 rfl ?_
    refine WP_i2l dL_law_1495 ?_
    rw [hy hz0]
    refine WP_lcmp dL_law_1496 ?_
    refine WP_if_eq 1502 dL_law_1497 (by decide) (fun _ => ?_) (fun hb => absurd ((lg_cmp_eq _ _).mpr rfl) hb)
    refine WP_lv (lwl G E W O q) (lwl_of rfl rfl rfl rfl rfl) ?_
    exact fin
theorem cs_child0 (hb0 : xs (q + 2) = 0) (hX : scX G Ln xs) (hq : q + 4 ≤ Ln) (hL : Ln ≤ 2048) (hJ : jI E W O A S) (hk : k + 30 ≤ 640158) (hn : n + 100 ≤ 7175630)
    (kk : ∀ A' S' k' n', jI E W O A' S' → k' ≤ k + 30 → n' ≤ n + 100 → WP G mL_law Q k' n' 1505 (lwl G E W O q) [] S') : WP G mL_law Q k n 1241 (lwl G E W O q) [] S := by
  obtain ⟨L, K, AN, R0, Rc, Ic, AIc, AR, Im, AIm, AL, rfl, hC, hI, hO, nO⟩ := hJ
  obtain ⟨t, c, fg, n0⟩ := A
  have hA : AI (t, c, fg, n0) := hC.2.2.2.2.2.2
  refine WP_aload_n dL_law_1241 rfl ?_
  refine WP_aload_n dL_law_1242 rfl ?_
  refine WP_iload dL_law_1243 rfl ?_
  refine WP_iconst (1) dL_law_1245 (by decide) ?_
  refine WP_iadd dL_law_1246 ?_
  refine WP_sld (j := q + 1) hX dL_law_1247 (nI_1 q) (by omega) (by omega) ?_
  refine WP_aload_n dL_law_1248 rfl ?_
  refine WP_iload dL_law_1249 rfl ?_
  refine WP_iconst (2) dL_law_1251 (by decide) ?_
  refine WP_iadd dL_law_1252 ?_
  refine WP_sld (j := q + 2) hX dL_law_1253 (nI_add q 2) (by omega) (by omega) ?_
  refine WP_if_eq 1261 dL_law_1254 (by decide) (fun _ => ?_) (fun hb => absurd hb (fun h => h hb0))
  refine WP_iconst (0) dL_law_1261 (by decide) ?_
  refine WP_aload_n dL_law_1262 rfl ?_
  refine WP_callSX mL_child (As := [_, _, _, _]) dL_law_1263 okc_L_child rfl ok_614 ⟨by decide, by decide⟩ rfl rfl (Nat.le_of_ble_eq_true rfl) (Nat.le_trans (Nat.add_le_add_left (show mL_child.2.2.2.2.2.2.1 ≤ 30 by decide) k) hk) (Nat.le_trans (Nat.add_le_add_left (show mL_child.2.2.2.2.2.2.2 ≤ 100 by decide) n) hn)
    (wr_child (xs (q + 1)) 0 O (fun z => z = aChi (t, c, fg, n0) (xs (q + 1)) (decide (((0 : Int32) ≠ 0)))) hC.1.1 hO nO ((k_child (xs (q + 1)) 0 hC).imp (fun r S' h => ⟨_, rfl, h⟩))) (fun v9 S9 hq9 => ?_) (fun E9 S9 hq9 => absurd hq9 (rI_no E9 S9))
  obtain ⟨x9, e9, z, hz, hx9, AL', hJ9, ho⟩ := hq9
  cases e9
  obtain ⟨L', K', Rc', Ic', AIc', AR', rfl, hg, hC'⟩ := hJ9
  have hI' := mI_grow hg hI
  have hO' := gk hg hO
  subst hx9
  subst hz
  refine WP_istore dL_law_1266 (by decide) rfl ?_
  refine WP_aload_n dL_law_1268 rfl ?_
  refine WP_aload_n dL_law_1269 rfl ?_
  refine WP_iload dL_law_1270 rfl ?_
  refine WP_iconst (1) dL_law_1272 (by decide) ?_
  refine WP_iadd dL_law_1273 ?_
  refine WP_sld (j := q + 1) hX dL_law_1274 (nI_1 q) (by omega) (by omega) ?_
  refine WP_aload_n dL_law_1275 rfl ?_
  refine WP_iload dL_law_1276 rfl ?_
  refine WP_iconst (2) dL_law_1278 (by decide) ?_
  refine WP_iadd dL_law_1279 ?_
  refine WP_sld (j := q + 2) hX dL_law_1280 (nI_add q 2) (by omega) (by omega) ?_
  refine WP_if_eq 1288 dL_law_1281 (by decide) (fun _ => ?_) (fun hb => absurd hb (fun h => h hb0))
  refine WP_iconst (0) dL_law_1288 (by decide) ?_
  refine WP_callV mX5_child (As := [_, _]) dL_law_1289 okc_X5_child ok_932 ⟨by decide, by decide⟩ rfl rfl hI'.1.1 rfl (Nat.le_of_ble_eq_true rfl) (rmC2 hk (show mL_child.2.2.2.2.2.2.1 ≤ 30 by decide) rfl) (rmC2 hn (show mL_child.2.2.2.2.2.2.2 ≤ 100 by decide) rfl) (p_child (xs (q + 1)) 0 hA hI') (fun v9 S9 hq9 => ?_) (fun E9 S9 hq9 => by obtain ⟨_, _, _, h, _⟩ := hq9; cases h)
  obtain ⟨y, I9, A9, e9, hy, rfl, hI9, ht9⟩ := hq9
  cases e9
  refine WP_istore dL_law_1292 (by decide) rfl ?_
  refine WP_aload_n dL_law_1294 rfl ?_
  refine callVi mX5_thrown [] dL_law_1295 okc_X5_thrown ok_718 ⟨by decide, by decide⟩ rfl rfl hI9.1.1 rfl (Nat.le_of_ble_eq_true rfl) (rmC3 hk (show mL_child.2.2.2.2.2.2.1 ≤ 30 by decide) rfl rfl) (rmC3 hn (show mL_child.2.2.2.2.2.2.2 ≤ 100 by decide) rfl rfl) (m_thrown hI9.1.1) (fun x1 S1 h1 => ?_)
  obtain ⟨rfl, rfl⟩ := h1
  rw [ht9]
  have fin : WP G mL_law Q (k + mL_child.2.2.2.2.2.2.1 + 0 + 0) (n + mL_child.2.2.2.2.2.2.2 + 0 + 0) 1322 (lwl G E W O q) [] (mkS L' K' AN R0 Rc' Ic' AIc' AR' I9 A9 AL') := by
    refine WP_goto 1505 dL_law_1322 (by decide) ?_
    refine kk _ _ _ _ ⟨L', K', AN, R0, Rc', Ic', AIc', AR', I9, A9, AL', rfl, hC', hI9, hO', nO⟩ (Nat.add_le_add_left (show mL_child.2.2.2.2.2.2.1 ≤ 30 by decide) k) (Nat.add_le_add_left (show mL_child.2.2.2.2.2.2.2 ≤ 100 by decide) n)
  have hz3 : (aChi (t, c, fg, n0) (xs (q + 1)) (decide ((0 : Int32) ≠ 0))).1 ≤ 3 := by
    unfold aChi
    repeat' split
    all_goals exact Nat.le_of_ble_eq_true rfl
  refine WP_iload dL_law_1298 rfl ?_
  refine WP_icmp_eq 1305 dL_law_1300 (by decide) (fun _ => ?_) (fun hb => absurd rfl hb)
  refine WP_iload dL_law_1305 rfl ?_
  refine WP_if_ne 1322 dL_law_1307 (by decide) (fun hb => ?_) (fun hb => ?_)
  · refine WP_lv (lwl G E W O q) (lwl_of rfl rfl rfl rfl rfl) ?_
    exact fin
  · have hz0 : (aChi (t, c, fg, n0) (xs (q + 1)) (decide ((0 : Int32) ≠ 0))).1 = 0 := (nI_eq (by omega) (by decide)).mp (hb : nI _ = nI 0)
    refine WP_aload_n dL_law_1310 rfl ?_
    refine WP_iconst (0) dL_law_1311 (by decide) ?_
    refine ald_10 0 1 dL_law_1312 rfl hO' nO rfl (by decide) (by decide) ?_
    rw [ho hz0]
    refine WP_iload dL_law_1313 rfl ?_
    refine WP_i2l dL_law_1315 ?_
    rw [hy hz0]
    refine WP_lcmp dL_law_1316 ?_
    refine WP_if_eq 1322 dL_law_1317 (by decide) (fun _ => ?_) (fun hb => absurd ((lg_cmp_eq _ _).mpr rfl) hb)
    refine WP_lv (lwl G E W O q) (lwl_of rfl rfl rfl rfl rfl) ?_
    exact fin
theorem cs_child1 (hb0 : ¬ xs (q + 2) = 0) (hX : scX G Ln xs) (hq : q + 4 ≤ Ln) (hL : Ln ≤ 2048) (hJ : jI E W O A S) (hk : k + 30 ≤ 640158) (hn : n + 100 ≤ 7175630)
    (kk : ∀ A' S' k' n', jI E W O A' S' → k' ≤ k + 30 → n' ≤ n + 100 → WP G mL_law Q k' n' 1505 (lwl G E W O q) [] S') : WP G mL_law Q k n 1241 (lwl G E W O q) [] S := by
  obtain ⟨L, K, AN, R0, Rc, Ic, AIc, AR, Im, AIm, AL, rfl, hC, hI, hO, nO⟩ := hJ
  obtain ⟨t, c, fg, n0⟩ := A
  have hA : AI (t, c, fg, n0) := hC.2.2.2.2.2.2
  refine WP_aload_n dL_law_1241 rfl ?_
  refine WP_aload_n dL_law_1242 rfl ?_
  refine WP_iload dL_law_1243 rfl ?_
  refine WP_iconst (1) dL_law_1245 (by decide) ?_
  refine WP_iadd dL_law_1246 ?_
  refine WP_sld (j := q + 1) hX dL_law_1247 (nI_1 q) (by omega) (by omega) ?_
  refine WP_aload_n dL_law_1248 rfl ?_
  refine WP_iload dL_law_1249 rfl ?_
  refine WP_iconst (2) dL_law_1251 (by decide) ?_
  refine WP_iadd dL_law_1252 ?_
  refine WP_sld (j := q + 2) hX dL_law_1253 (nI_add q 2) (by omega) (by omega) ?_
  refine WP_if_eq 1261 dL_law_1254 (by decide) (fun hb => absurd hb hb0) (fun _ => ?_)
  refine WP_iconst (1) dL_law_1257 (by decide) ?_
  refine WP_goto 1262 dL_law_1258 (by decide) ?_
  refine WP_aload_n dL_law_1262 rfl ?_
  refine WP_callSX mL_child (As := [_, _, _, _]) dL_law_1263 okc_L_child rfl ok_614 ⟨by decide, by decide⟩ rfl rfl (Nat.le_of_ble_eq_true rfl) (Nat.le_trans (Nat.add_le_add_left (show mL_child.2.2.2.2.2.2.1 ≤ 30 by decide) k) hk) (Nat.le_trans (Nat.add_le_add_left (show mL_child.2.2.2.2.2.2.2 ≤ 100 by decide) n) hn)
    (wr_child (xs (q + 1)) 1 O (fun z => z = aChi (t, c, fg, n0) (xs (q + 1)) (decide (((1 : Int32) ≠ 0)))) hC.1.1 hO nO ((k_child (xs (q + 1)) 1 hC).imp (fun r S' h => ⟨_, rfl, h⟩))) (fun v9 S9 hq9 => ?_) (fun E9 S9 hq9 => absurd hq9 (rI_no E9 S9))
  obtain ⟨x9, e9, z, hz, hx9, AL', hJ9, ho⟩ := hq9
  cases e9
  obtain ⟨L', K', Rc', Ic', AIc', AR', rfl, hg, hC'⟩ := hJ9
  have hI' := mI_grow hg hI
  have hO' := gk hg hO
  subst hx9
  subst hz
  refine WP_istore dL_law_1266 (by decide) rfl ?_
  refine WP_aload_n dL_law_1268 rfl ?_
  refine WP_aload_n dL_law_1269 rfl ?_
  refine WP_iload dL_law_1270 rfl ?_
  refine WP_iconst (1) dL_law_1272 (by decide) ?_
  refine WP_iadd dL_law_1273 ?_
  refine WP_sld (j := q + 1) hX dL_law_1274 (nI_1 q) (by omega) (by omega) ?_
  refine WP_aload_n dL_law_1275 rfl ?_
  refine WP_iload dL_law_1276 rfl ?_
  refine WP_iconst (2) dL_law_1278 (by decide) ?_
  refine WP_iadd dL_law_1279 ?_
  refine WP_sld (j := q + 2) hX dL_law_1280 (nI_add q 2) (by omega) (by omega) ?_
  refine WP_if_eq 1288 dL_law_1281 (by decide) (fun hb => absurd hb hb0) (fun _ => ?_)
  refine WP_iconst (1) dL_law_1284 (by decide) ?_
  refine WP_goto 1289 dL_law_1285 (by decide) ?_
  refine WP_callV mX5_child (As := [_, _]) dL_law_1289 okc_X5_child ok_932 ⟨by decide, by decide⟩ rfl rfl hI'.1.1 rfl (Nat.le_of_ble_eq_true rfl) (rmC2 hk (show mL_child.2.2.2.2.2.2.1 ≤ 30 by decide) rfl) (rmC2 hn (show mL_child.2.2.2.2.2.2.2 ≤ 100 by decide) rfl) (p_child (xs (q + 1)) 1 hA hI') (fun v9 S9 hq9 => ?_) (fun E9 S9 hq9 => by obtain ⟨_, _, _, h, _⟩ := hq9; cases h)
  obtain ⟨y, I9, A9, e9, hy, rfl, hI9, ht9⟩ := hq9
  cases e9
  refine WP_istore dL_law_1292 (by decide) rfl ?_
  refine WP_aload_n dL_law_1294 rfl ?_
  refine callVi mX5_thrown [] dL_law_1295 okc_X5_thrown ok_718 ⟨by decide, by decide⟩ rfl rfl hI9.1.1 rfl (Nat.le_of_ble_eq_true rfl) (rmC3 hk (show mL_child.2.2.2.2.2.2.1 ≤ 30 by decide) rfl rfl) (rmC3 hn (show mL_child.2.2.2.2.2.2.2 ≤ 100 by decide) rfl rfl) (m_thrown hI9.1.1) (fun x1 S1 h1 => ?_)
  obtain ⟨rfl, rfl⟩ := h1
  rw [ht9]
  have fin : WP G mL_law Q (k + mL_child.2.2.2.2.2.2.1 + 0 + 0) (n + mL_child.2.2.2.2.2.2.2 + 0 + 0) 1322 (lwl G E W O q) [] (mkS L' K' AN R0 Rc' Ic' AIc' AR' I9 A9 AL') := by
    refine WP_goto 1505 dL_law_1322 (by decide) ?_
    refine kk _ _ _ _ ⟨L', K', AN, R0, Rc', Ic', AIc', AR', I9, A9, AL', rfl, hC', hI9, hO', nO⟩ (Nat.add_le_add_left (show mL_child.2.2.2.2.2.2.1 ≤ 30 by decide) k) (Nat.add_le_add_left (show mL_child.2.2.2.2.2.2.2 ≤ 100 by decide) n)
  have hz3 : (aChi (t, c, fg, n0) (xs (q + 1)) (decide ((1 : Int32) ≠ 0))).1 ≤ 3 := by
    unfold aChi
    repeat' split
    all_goals exact Nat.le_of_ble_eq_true rfl
  refine WP_iload dL_law_1298 rfl ?_
  refine WP_icmp_eq 1305 dL_law_1300 (by decide) (fun _ => ?_) (fun hb => absurd rfl hb)
  refine WP_iload dL_law_1305 rfl ?_
  refine WP_if_ne 1322 dL_law_1307 (by decide) (fun hb => ?_) (fun hb => ?_)
  · refine WP_lv (lwl G E W O q) (lwl_of rfl rfl rfl rfl rfl) ?_
    exact fin
  · have hz0 : (aChi (t, c, fg, n0) (xs (q + 1)) (decide ((1 : Int32) ≠ 0))).1 = 0 := (nI_eq (by omega) (by decide)).mp (hb : nI _ = nI 0)
    refine WP_aload_n dL_law_1310 rfl ?_
    refine WP_iconst (0) dL_law_1311 (by decide) ?_
    refine ald_10 0 1 dL_law_1312 rfl hO' nO rfl (by decide) (by decide) ?_
    rw [ho hz0]
    refine WP_iload dL_law_1313 rfl ?_
    refine WP_i2l dL_law_1315 ?_
    rw [hy hz0]
    refine WP_lcmp dL_law_1316 ?_
    refine WP_if_eq 1322 dL_law_1317 (by decide) (fun _ => ?_) (fun hb => absurd ((lg_cmp_eq _ _).mpr rfl) hb)
    refine WP_lv (lwl G E W O q) (lwl_of rfl rfl rfl rfl rfl) ?_
    exact fin
theorem cs_lastSteps (hX : scX G Ln xs) (hq : q + 4 ≤ Ln) (hL : Ln ≤ 2048) (hJ : jI E W O A S) (hk : k + 30 ≤ 640158) (hn : n + 100 ≤ 7175630)
    (kk : ∀ A' S' k' n', jI E W O A' S' → k' ≤ k + 30 → n' ≤ n + 100 → WP G mL_law Q k' n' 1505 (lwl G E W O q) [] S') : WP G mL_law Q k n 1012 (lwl G E W O q) [] S := by
  obtain ⟨L, K, AN, R0, Rc, Ic, AIc, AR, Im, AIm, AL, rfl, hC, hI, hO, nO⟩ := hJ
  obtain ⟨t, c, fg, n0⟩ := A
  have hA : AI (t, c, fg, n0) := hC.2.2.2.2.2.2
  refine WP_aload_n dL_law_1012 rfl ?_
  refine callVi mX4_lastSteps [] dL_law_1013 okc_X4_lastSteps ok_135 ⟨by decide, by decide⟩ rfl rfl hC.1.1 rfl (Nat.le_of_ble_eq_true rfl) (by show k + 0 ≤ 640158; omega) (by show n + 0 ≤ 7175630; omega) (k_lastSteps hC) (fun x1 S1 h1 => ?_)
  obtain ⟨rfl, rfl⟩ := h1
  refine WP_aload_n dL_law_1016 rfl ?_
  refine WP_callV mX5_lastSteps (As := []) dL_law_1017 okc_X5_lastSteps ok_877 ⟨by decide, by decide⟩ rfl rfl hI.1.1 rfl (Nat.le_of_ble_eq_true rfl) (by show k + 0 + 0 ≤ 640158; omega) (by show n + 0 + 0 ≤ 7175630; omega) (p_lastSteps hA hI) (fun v9 S9 hq9 => ?_) (fun E9 S9 hq9 => by obtain ⟨_, _, h, _⟩ := hq9; cases h)
  obtain ⟨I9, A9, e9, rfl, hI9⟩ := hq9
  cases e9
  refine WP_icmp_eq 1505 dL_law_1020 (by decide) (fun _ => ?_) (fun hb => absurd rfl hb)
  exact kk _ _ _ _ ⟨L, K, AN, R0, Rc, Ic, AIc, AR, I9, A9, AL, rfl, hC, hI9, hO, nO⟩ (Nat.le_add_right k 30) (Nat.le_add_right n 100)
theorem cs_lastRotations (hX : scX G Ln xs) (hq : q + 4 ≤ Ln) (hL : Ln ≤ 2048) (hJ : jI E W O A S) (hk : k + 30 ≤ 640158) (hn : n + 100 ≤ 7175630)
    (kk : ∀ A' S' k' n', jI E W O A' S' → k' ≤ k + 30 → n' ≤ n + 100 → WP G mL_law Q k' n' 1505 (lwl G E W O q) [] S') : WP G mL_law Q k n 1025 (lwl G E W O q) [] S := by
  obtain ⟨L, K, AN, R0, Rc, Ic, AIc, AR, Im, AIm, AL, rfl, hC, hI, hO, nO⟩ := hJ
  obtain ⟨t, c, fg, n0⟩ := A
  have hA : AI (t, c, fg, n0) := hC.2.2.2.2.2.2
  refine WP_aload_n dL_law_1025 rfl ?_
  refine callVi mX4_lastRotations [] dL_law_1026 okc_X4_lastRotations ok_139 ⟨by decide, by decide⟩ rfl rfl hC.1.1 rfl (Nat.le_of_ble_eq_true rfl) (by show k + 0 ≤ 640158; omega) (by show n + 0 ≤ 7175630; omega) (k_lastRotations hC) (fun x1 S1 h1 => ?_)
  obtain ⟨rfl, rfl⟩ := h1
  refine WP_aload_n dL_law_1029 rfl ?_
  refine WP_callV mX5_lastRotations (As := []) dL_law_1030 okc_X5_lastRotations ok_881 ⟨by decide, by decide⟩ rfl rfl hI.1.1 rfl (Nat.le_of_ble_eq_true rfl) (by show k + 0 + 0 ≤ 640158; omega) (by show n + 0 + 0 ≤ 7175630; omega) (p_lastRotations hA hI) (fun v9 S9 hq9 => ?_) (fun E9 S9 hq9 => by obtain ⟨_, _, h, _⟩ := hq9; cases h)
  obtain ⟨I9, A9, e9, rfl, hI9⟩ := hq9
  cases e9
  refine WP_icmp_eq 1505 dL_law_1033 (by decide) (fun _ => ?_) (fun hb => absurd rfl hb)
  exact kk _ _ _ _ ⟨L, K, AN, R0, Rc, Ic, AIc, AR, I9, A9, AL, rfl, hC, hI9, hO, nO⟩ (Nat.le_add_right k 30) (Nat.le_add_right n 100)
theorem cs_steps (hX : scX G Ln xs) (hq : q + 4 ≤ Ln) (hL : Ln ≤ 2048) (hJ : jI E W O A S) (hk : k + 30 ≤ 640158) (hn : n + 100 ≤ 7175630)
    (kk : ∀ A' S' k' n', jI E W O A' S' → k' ≤ k + 30 → n' ≤ n + 100 → WP G mL_law Q k' n' 1505 (lwl G E W O q) [] S') : WP G mL_law Q k n 1038 (lwl G E W O q) [] S := by
  obtain ⟨L, K, AN, R0, Rc, Ic, AIc, AR, Im, AIm, AL, rfl, hC, hI, hO, nO⟩ := hJ
  obtain ⟨t, c, fg, n0⟩ := A
  have hA : AI (t, c, fg, n0) := hC.2.2.2.2.2.2
  refine WP_aload_n dL_law_1038 rfl ?_
  refine callVi mX4_steps [] dL_law_1039 okc_X4_steps ok_143 ⟨by decide, by decide⟩ rfl rfl hC.1.1 rfl (Nat.le_of_ble_eq_true rfl) (by show k + 0 ≤ 640158; omega) (by show n + 0 ≤ 7175630; omega) (k_steps hC) (fun x1 S1 h1 => ?_)
  obtain ⟨rfl, rfl⟩ := h1
  refine WP_aload_n dL_law_1042 rfl ?_
  refine WP_callV mX5_steps (As := []) dL_law_1043 okc_X5_steps ok_885 ⟨by decide, by decide⟩ rfl rfl hI.1.1 rfl (Nat.le_of_ble_eq_true rfl) (by show k + 0 + 0 ≤ 640158; omega) (by show n + 0 + 0 ≤ 7175630; omega) (p_steps hA hI) (fun v9 S9 hq9 => ?_) (fun E9 S9 hq9 => by obtain ⟨_, _, h, _⟩ := hq9; cases h)
  obtain ⟨I9, A9, e9, rfl, hI9⟩ := hq9
  cases e9
  refine WP_icmp_eq 1505 dL_law_1046 (by decide) (fun _ => ?_) (fun hb => absurd rfl hb)
  exact kk _ _ _ _ ⟨L, K, AN, R0, Rc, Ic, AIc, AR, I9, A9, AL, rfl, hC, hI9, hO, nO⟩ (Nat.le_add_right k 30) (Nat.le_add_right n 100)
theorem cs_splays (hX : scX G Ln xs) (hq : q + 4 ≤ Ln) (hL : Ln ≤ 2048) (hJ : jI E W O A S) (hk : k + 30 ≤ 640158) (hn : n + 100 ≤ 7175630)
    (kk : ∀ A' S' k' n', jI E W O A' S' → k' ≤ k + 30 → n' ≤ n + 100 → WP G mL_law Q k' n' 1505 (lwl G E W O q) [] S') : WP G mL_law Q k n 1051 (lwl G E W O q) [] S := by
  obtain ⟨L, K, AN, R0, Rc, Ic, AIc, AR, Im, AIm, AL, rfl, hC, hI, hO, nO⟩ := hJ
  obtain ⟨t, c, fg, n0⟩ := A
  have hA : AI (t, c, fg, n0) := hC.2.2.2.2.2.2
  refine WP_aload_n dL_law_1051 rfl ?_
  refine callVi mX4_splays [] dL_law_1052 okc_X4_splays ok_147 ⟨by decide, by decide⟩ rfl rfl hC.1.1 rfl (Nat.le_of_ble_eq_true rfl) (by show k + 0 ≤ 640158; omega) (by show n + 0 ≤ 7175630; omega) (k_splays hC) (fun x1 S1 h1 => ?_)
  obtain ⟨rfl, rfl⟩ := h1
  refine WP_aload_n dL_law_1055 rfl ?_
  refine WP_callV mX5_splays (As := []) dL_law_1056 okc_X5_splays ok_889 ⟨by decide, by decide⟩ rfl rfl hI.1.1 rfl (Nat.le_of_ble_eq_true rfl) (by show k + 0 + 0 ≤ 640158; omega) (by show n + 0 + 0 ≤ 7175630; omega) (p_splays hA hI) (fun v9 S9 hq9 => ?_) (fun E9 S9 hq9 => by obtain ⟨_, _, h, _⟩ := hq9; cases h)
  obtain ⟨I9, A9, e9, rfl, hI9⟩ := hq9
  cases e9
  refine WP_icmp_eq 1505 dL_law_1059 (by decide) (fun _ => ?_) (fun hb => absurd rfl hb)
  exact kk _ _ _ _ ⟨L, K, AN, R0, Rc, Ic, AIc, AR, I9, A9, AL, rfl, hC, hI9, hO, nO⟩ (Nat.le_add_right k 30) (Nat.le_add_right n 100)
theorem cs_potential (hX : scX G Ln xs) (hq : q + 4 ≤ Ln) (hL : Ln ≤ 2048) (hJ : jI E W O A S) (hk : k + 30 ≤ 640158) (hn : n + 100 ≤ 7175630)
    (kk : ∀ A' S' k' n', jI E W O A' S' → k' ≤ k + 30 → n' ≤ n + 100 → WP G mL_law Q k' n' 1505 (lwl G E W O q) [] S') : WP G mL_law Q k n 1064 (lwl G E W O q) [] S := by
  obtain ⟨L, K, AN, R0, Rc, Ic, AIc, AR, Im, AIm, AL, rfl, hC, hI, hO, nO⟩ := hJ
  obtain ⟨t, c, fg, n0⟩ := A
  have hA : AI (t, c, fg, n0) := hC.2.2.2.2.2.2
  refine WP_aload_n dL_law_1064 rfl ?_
  refine callVi mX4_potential [] dL_law_1065 okc_X4_potential ok_151 ⟨by decide, by decide⟩ rfl rfl hC.1.1 rfl (Nat.le_of_ble_eq_true rfl) (by show k + 0 ≤ 640158; omega) (by show n + 0 ≤ 7175630; omega) (k_potential hC) (fun x1 S1 h1 => ?_)
  obtain ⟨rfl, rfl⟩ := h1
  refine WP_aload_n dL_law_1068 rfl ?_
  refine WP_callV mX5_potential (As := []) dL_law_1069 okc_X5_potential ok_893 ⟨by decide, by decide⟩ rfl rfl hI.1.1 rfl (Nat.le_of_ble_eq_true rfl) (by show k + 0 + 0 ≤ 640158; omega) (by show n + 0 + 0 ≤ 7175630; omega) (p_potential hA hI) (fun v9 S9 hq9 => ?_) (fun E9 S9 hq9 => by obtain ⟨_, _, h, _⟩ := hq9; cases h)
  obtain ⟨I9, A9, e9, rfl, hI9⟩ := hq9
  cases e9
  refine WP_icmp_eq 1505 dL_law_1072 (by decide) (fun _ => ?_) (fun hb => absurd rfl hb)
  exact kk _ _ _ _ ⟨L, K, AN, R0, Rc, Ic, AIc, AR, I9, A9, AL, rfl, hC, hI9, hO, nO⟩ (Nat.le_add_right k 30) (Nat.le_add_right n 100)
theorem cs_size (hX : scX G Ln xs) (hq : q + 4 ≤ Ln) (hL : Ln ≤ 2048) (hJ : jI E W O A S) (hk : k + 30 ≤ 640158) (hn : n + 100 ≤ 7175630)
    (kk : ∀ A' S' k' n', jI E W O A' S' → k' ≤ k + 30 → n' ≤ n + 100 → WP G mL_law Q k' n' 1505 (lwl G E W O q) [] S') : WP G mL_law Q k n 1077 (lwl G E W O q) [] S := by
  obtain ⟨L, K, AN, R0, Rc, Ic, AIc, AR, Im, AIm, AL, rfl, hC, hI, hO, nO⟩ := hJ
  obtain ⟨t, c, fg, n0⟩ := A
  have hA : AI (t, c, fg, n0) := hC.2.2.2.2.2.2
  refine WP_aload_n dL_law_1077 rfl ?_
  refine callVi mX4_size [] dL_law_1078 okc_X4_size ok_177 ⟨by decide, by decide⟩ rfl rfl hC.1.1 rfl (Nat.le_of_ble_eq_true rfl) (by show k + 0 ≤ 640158; omega) (by show n + 0 ≤ 7175630; omega) (k_size hC) (fun x1 S1 h1 => ?_)
  obtain ⟨rfl, rfl⟩ := h1
  refine WP_aload_n dL_law_1081 rfl ?_
  refine WP_callV mX5_size (As := []) dL_law_1082 okc_X5_size ok_904 ⟨by decide, by decide⟩ rfl rfl hI.1.1 rfl (Nat.le_of_ble_eq_true rfl) (by show k + 0 + 0 ≤ 640158; omega) (by show n + 0 + 0 ≤ 7175630; omega) (p_size hA hI) (fun v9 S9 hq9 => ?_) (fun E9 S9 hq9 => by obtain ⟨_, _, h, _⟩ := hq9; cases h)
  obtain ⟨I9, A9, e9, rfl, hI9⟩ := hq9
  cases e9
  refine WP_icmp_eq 1505 dL_law_1085 (by decide) (fun _ => ?_) (fun hb => absurd rfl hb)
  exact kk _ _ _ _ ⟨L, K, AN, R0, Rc, Ic, AIc, AR, I9, A9, AL, rfl, hC, hI9, hO, nO⟩ (Nat.le_add_right k 30) (Nat.le_add_right n 100)
theorem cs_clipped (hX : scX G Ln xs) (hq : q + 4 ≤ Ln) (hL : Ln ≤ 2048) (hJ : jI E W O A S) (hk : k + 30 ≤ 640158) (hn : n + 100 ≤ 7175630)
    (kk : ∀ A' S' k' n', jI E W O A' S' → k' ≤ k + 30 → n' ≤ n + 100 → WP G mL_law Q k' n' 1505 (lwl G E W O q) [] S') : WP G mL_law Q k n 1090 (lwl G E W O q) [] S := by
  obtain ⟨L, K, AN, R0, Rc, Ic, AIc, AR, Im, AIm, AL, rfl, hC, hI, hO, nO⟩ := hJ
  obtain ⟨t, c, fg, n0⟩ := A
  have hA : AI (t, c, fg, n0) := hC.2.2.2.2.2.2
  refine WP_aload_n dL_law_1090 rfl ?_
  refine callVi mX4_clipped [] dL_law_1091 okc_X4_clipped ok_182 ⟨by decide, by decide⟩ rfl rfl hC.1.1 rfl (Nat.le_of_ble_eq_true rfl) (by show k + 0 ≤ 640158; omega) (by show n + 0 ≤ 7175630; omega) (k_clipped hC) (fun x1 S1 h1 => ?_)
  obtain ⟨rfl, rfl⟩ := h1
  refine WP_aload_n dL_law_1094 rfl ?_
  refine WP_callV mX5_clipped (As := []) dL_law_1095 okc_X5_clipped ok_908 ⟨by decide, by decide⟩ rfl rfl hI.1.1 rfl (Nat.le_of_ble_eq_true rfl) (by show k + 0 + 0 ≤ 640158; omega) (by show n + 0 + 0 ≤ 7175630; omega) (p_clipped hA hI) (fun v9 S9 hq9 => ?_) (fun E9 S9 hq9 => by obtain ⟨_, _, h, _⟩ := hq9; cases h)
  obtain ⟨I9, A9, e9, rfl, hI9⟩ := hq9
  cases e9
  refine WP_icmp_eq 1505 dL_law_1098 (by decide) (fun _ => ?_) (fun hb => absurd rfl hb)
  exact kk _ _ _ _ ⟨L, K, AN, R0, Rc, Ic, AIc, AR, I9, A9, AL, rfl, hC, hI9, hO, nO⟩ (Nat.le_add_right k 30) (Nat.le_add_right n 100)
theorem cs_root (hX : scX G Ln xs) (hq : q + 4 ≤ Ln) (hL : Ln ≤ 2048) (hJ : jI E W O A S) (hk : k + 30 ≤ 640158) (hn : n + 100 ≤ 7175630)
    (kk : ∀ A' S' k' n', jI E W O A' S' → k' ≤ k + 30 → n' ≤ n + 100 → WP G mL_law Q k' n' 1505 (lwl G E W O q) [] S') : WP G mL_law Q k n 1103 (lwl G E W O q) [] S := by
  obtain ⟨L, K, AN, R0, Rc, Ic, AIc, AR, Im, AIm, AL, rfl, hC, hI, hO, nO⟩ := hJ
  obtain ⟨t, c, fg, n0⟩ := A
  have hA : AI (t, c, fg, n0) := hC.2.2.2.2.2.2
  refine WP_aload_n dL_law_1103 rfl ?_
  refine callVi mX4_root [] dL_law_1104 okc_X4_root ok_186 ⟨by decide, by decide⟩ rfl rfl hC.1.1 rfl (Nat.le_of_ble_eq_true rfl) (by show k + 0 ≤ 640158; omega) (by show n + 0 ≤ 7175630; omega) (k_root hC) (fun x1 S1 h1 => ?_)
  obtain ⟨rfl, rfl⟩ := h1
  refine WP_aload_n dL_law_1107 rfl ?_
  refine WP_callV mX5_root (As := []) dL_law_1108 okc_X5_root ok_912 ⟨by decide, by decide⟩ rfl rfl hI.1.1 rfl (Nat.le_of_ble_eq_true rfl) (by show k + 0 + 0 ≤ 640158; omega) (by show n + 0 + 0 ≤ 7175630; omega) (p_root hA hI) (fun v9 S9 hq9 => ?_) (fun E9 S9 hq9 => by obtain ⟨_, _, h, _⟩ := hq9; cases h)
  obtain ⟨I9, A9, e9, rfl, hI9⟩ := hq9
  cases e9
  refine WP_icmp_eq 1505 dL_law_1111 (by decide) (fun _ => ?_) (fun hb => absurd rfl hb)
  exact kk _ _ _ _ ⟨L, K, AN, R0, Rc, Ic, AIc, AR, I9, A9, AL, rfl, hC, hI9, hO, nO⟩ (Nat.le_add_right k 30) (Nat.le_add_right n 100)
theorem cs_height (hX : scX G Ln xs) (hq : q + 4 ≤ Ln) (hL : Ln ≤ 2048) (hJ : jI E W O A S) (hk : k + 30 ≤ 640158) (hn : n + 100 ≤ 7175630)
    (kk : ∀ A' S' k' n', jI E W O A' S' → k' ≤ k + 30 → n' ≤ n + 100 → WP G mL_law Q k' n' 1505 (lwl G E W O q) [] S') : WP G mL_law Q k n 1116 (lwl G E W O q) [] S := by
  obtain ⟨L, K, AN, R0, Rc, Ic, AIc, AR, Im, AIm, AL, rfl, hC, hI, hO, nO⟩ := hJ
  obtain ⟨t, c, fg, n0⟩ := A
  have hA : AI (t, c, fg, n0) := hC.2.2.2.2.2.2
  refine WP_aload_n dL_law_1116 rfl ?_
  refine callVi mX4_height [] dL_law_1117 okc_X4_height ok_198 ⟨by decide, by decide⟩ rfl rfl hC.1.1 rfl (Nat.le_of_ble_eq_true rfl) (by show k + 0 ≤ 640158; omega) (by show n + 0 ≤ 7175630; omega) (k_height hC) (fun x1 S1 h1 => ?_)
  obtain ⟨rfl, rfl⟩ := h1
  refine WP_aload_n dL_law_1120 rfl ?_
  refine WP_callV mX5_height (As := []) dL_law_1121 okc_X5_height ok_916 ⟨by decide, by decide⟩ rfl rfl hI.1.1 rfl (Nat.le_of_ble_eq_true rfl) (by show k + 0 + 0 ≤ 640158; omega) (by show n + 0 + 0 ≤ 7175630; omega) (p_height hA hI) (fun v9 S9 hq9 => ?_) (fun E9 S9 hq9 => by obtain ⟨_, _, h, _⟩ := hq9; cases h)
  obtain ⟨I9, A9, e9, rfl, hI9⟩ := hq9
  cases e9
  refine WP_icmp_eq 1505 dL_law_1124 (by decide) (fun _ => ?_) (fun hb => absurd rfl hb)
  exact kk _ _ _ _ ⟨L, K, AN, R0, Rc, Ic, AIc, AR, I9, A9, AL, rfl, hC, hI9, hO, nO⟩ (Nat.le_add_right k 30) (Nat.le_add_right n 100)
end CAS
