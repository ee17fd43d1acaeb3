/-! ===== the law's loop ===== -/
section LLP
variable {G : GC} {Q : RS → SS → Prop} {E W : Nat → Nat} {O Ln : Nat} {xs : Nat → Int32}
theorem sub4 {a Ln : Nat} (ha : a < 2 ^ 20) (hL : Ln ≤ 2048) : nI Ln - 4 < nI a ↔ Ln < a + 4 := by
  have h1 : (nI Ln - 4 : Int32).toInt = (Ln : Int) - 4 := by
    rw [Int32.toInt_sub, nI_toInt (by omega), show (4 : Int32).toInt = 4 from rfl]
    exact Int.bmod_eq_of_le (by omega) (by omega)
  rw [Int32.lt_iff_toInt_lt, h1, nI_toInt (by omega)]
  omega
theorem law_loop (hX : scX G Ln xs) (hL : Ln ≤ 2048) (hQ : ∀ S, Q (.inl (some (vi 1))) S) : ∀ (b q : Nat) (k n : Nat) (A : AB) (S : SS), Ln ≤ q + 4 * b → q ≤ 2048 → jI E W O A S → k + 30 * b ≤ 640158 → n + 100 * b ≤ 7175630 → WP G mL_law Q k n 23 (lwl G E W O q) [] S := by
  intro b
  induction b with
  | zero =>
    intro q k n A S h1 h2 hJ hk hn
    refine WP_iload dL_law_23 rfl ?_
    refine WP_aload_n dL_law_25 rfl ?_
    refine WP_slen hX dL_law_26 ?_
    refine WP_iconst (4) dL_law_27 (by decide) ?_
    refine WP_isub dL_law_28 ?_
    refine WP_icmp_gt 1511 dL_law_29 (by decide) (fun _ => ?_) (fun hb => absurd ((sub4 (by omega) hL).mpr (by omega)) hb)
    refine WP_iconst (1) dL_law_1511 (by decide) ?_
    refine WP_ireturn dL_law_1512 rfl rfl (show k ≤ 640158 by omega) (show n ≤ 7175630 by omega) ?_
    exact hQ _
  | succ b ih =>
    intro q k n A S h1 h2 hJ hk hn
    refine WP_iload dL_law_23 rfl ?_
    refine WP_aload_n dL_law_25 rfl ?_
    refine WP_slen hX dL_law_26 ?_
    refine WP_iconst (4) dL_law_27 (by decide) ?_
    refine WP_isub dL_law_28 ?_
    refine WP_icmp_gt 1511 dL_law_29 (by decide) (fun _ => ?_) (fun hb => ?_)
    · refine WP_iconst (1) dL_law_1511 (by decide) ?_
      refine WP_ireturn dL_law_1512 rfl rfl (show k ≤ 640158 by omega) (show n ≤ 7175630 by omega) ?_
      exact hQ _
    · have hq : q + 4 ≤ Ln := by
        by_cases e : q + 4 ≤ Ln
        · exact e
        · exact absurd ((sub4 (by omega) hL).mpr (by omega)) hb
      have kk : ∀ A' S' k' n', jI E W O A' S' → k' ≤ k + 30 → n' ≤ n + 100 → WP G mL_law Q k' n' 1505 (lwl G E W O q) [] S' := by
        intro A' S' k' n' hJ' hk' hn'
        refine WP_iinc (nI (q + 4)) dL_law_1505 rfl (nI_add q 4) (by decide) rfl ?_
        refine WP_goto 23 dL_law_1508 (by decide) ?_
        refine WP_lv (lwl G E W O (q + 4)) (lwl_of rfl rfl rfl rfl rfl) ?_
        exact ih (q + 4) k' n' A' S' (by omega) (by omega) hJ' (by omega) (by omega)
      have hk9 : k + 30 ≤ 640158 := by omega
      have hn9 : n + 100 ≤ 7175630 := by omega
      refine WP_aload_n dL_law_32 rfl ?_
      refine WP_iload dL_law_33 rfl ?_
      refine WP_sld (j := q + 0) hX dL_law_35 rfl (by omega) (by omega) ?_
      refine WP_bipush (31) dL_law_36 (by decide) ?_
      refine WP_iand dL_law_38 ?_
      obtain ⟨j, hj, ej⟩ := pk_andE (xs (q + 0)) 5 (show (31 : Int32).toBitVec.toNat = 2 ^ 5 - 1 by decide)
      rw [show (xs (q + 0)) &&& 31 = nI j from ej]
      match j, hj with
      | 0, _ => exact WP_tabIn 164 dL_law_39 (by decide) (by decide) rfl (by decide) (cs_insert hX hq hL hJ hk9 hn9 kk)
      | 1, _ => exact WP_tabIn 232 dL_law_39 (by decide) (by decide) rfl (by decide) (cs_remove hX hq hL hJ hk9 hn9 kk)
      | 2, _ => exact WP_tabIn 288 dL_law_39 (by decide) (by decide) rfl (by decide) (cs_get hX hq hL hJ hk9 hn9 kk)
      | 3, _ => exact WP_tabIn 344 dL_law_39 (by decide) (by decide) rfl (by decide) (cs_set hX hq hL hJ hk9 hn9 kk)
      | 4, _ => exact WP_tabIn 412 dL_law_39 (by decide) (by decide) rfl (by decide) (cs_reverse hX hq hL hJ hk9 hn9 kk)
      | 5, _ => exact WP_tabIn 480 dL_law_39 (by decide) (by decide) rfl (by decide) (cs_raise hX hq hL hJ hk9 hn9 kk)
      | 6, _ => exact WP_tabIn 560 dL_law_39 (by decide) (by decide) rfl (by decide) (cs_sum hX hq hL hJ hk9 hn9 kk)
      | 7, _ => exact WP_tabIn 628 dL_law_39 (by decide) (by decide) rfl (by decide) (cs_least hX hq hL hJ hk9 hn9 kk)
      | 8, _ => exact WP_tabIn 696 dL_law_39 (by decide) (by decide) rfl (by decide) (cs_cut hX hq hL hJ hk9 hn9 kk)
      | 9, _ => exact WP_tabIn 764 dL_law_39 (by decide) (by decide) rfl (by decide) (cs_paste hX hq hL hJ hk9 hn9 kk)
      | 10, _ => exact WP_tabIn 820 dL_law_39 (by decide) (by decide) rfl (by decide) (cs_point hX hq hL hJ hk9 hn9 kk)
      | 11, _ => exact WP_tabIn 888 dL_law_39 (by decide) (by decide) rfl (by decide) (cs_follow hX hq hL hJ hk9 hn9 kk)
      | 12, _ => exact WP_tabIn 944 dL_law_39 (by decide) (by decide) rfl (by decide) (cs_move hX hq hL hJ hk9 hn9 kk)
      | 13, _ => exact WP_tabIn 1012 dL_law_39 (by decide) (by decide) rfl (by decide) (cs_lastSteps hX hq hL hJ hk9 hn9 kk)
      | 14, _ => exact WP_tabIn 1025 dL_law_39 (by decide) (by decide) rfl (by decide) (cs_lastRotations hX hq hL hJ hk9 hn9 kk)
      | 15, _ => exact WP_tabIn 1038 dL_law_39 (by decide) (by decide) rfl (by decide) (cs_steps hX hq hL hJ hk9 hn9 kk)
      | 16, _ => exact WP_tabIn 1051 dL_law_39 (by decide) (by decide) rfl (by decide) (cs_splays hX hq hL hJ hk9 hn9 kk)
      | 17, _ => exact WP_tabIn 1064 dL_law_39 (by decide) (by decide) rfl (by decide) (cs_potential hX hq hL hJ hk9 hn9 kk)
      | 18, _ => exact WP_tabIn 1077 dL_law_39 (by decide) (by decide) rfl (by decide) (cs_size hX hq hL hJ hk9 hn9 kk)
      | 19, _ => exact WP_tabIn 1090 dL_law_39 (by decide) (by decide) rfl (by decide) (cs_clipped hX hq hL hJ hk9 hn9 kk)
      | 20, _ => exact WP_tabIn 1103 dL_law_39 (by decide) (by decide) rfl (by decide) (cs_root hX hq hL hJ hk9 hn9 kk)
      | 21, _ => exact WP_tabIn 1116 dL_law_39 (by decide) (by decide) rfl (by decide) (cs_height hX hq hL hJ hk9 hn9 kk)
      | 22, _ => exact WP_tabIn 1129 dL_law_39 (by decide) (by decide) rfl (by decide) (cs_depth hX hq hL hJ hk9 hn9 kk)
      | 23, _ => exact WP_tabIn 1185 dL_law_39 (by decide) (by decide) rfl (by decide) (cs_subtree hX hq hL hJ hk9 hn9 kk)
      | 24, _ =>
        by_cases hb0 : xs (q + 2) = 0
        · exact WP_tabIn 1241 dL_law_39 (by decide) (by decide) rfl (by decide) (cs_child0 hb0 hX hq hL hJ hk9 hn9 kk)
        · exact WP_tabIn 1241 dL_law_39 (by decide) (by decide) rfl (by decide) (cs_child1 hb0 hX hq hL hJ hk9 hn9 kk)
      | 25, _ => exact WP_tabIn 1325 dL_law_39 (by decide) (by decide) rfl (by decide) (cs_whereIs hX hq hL hJ hk9 hn9 kk)
      | 26, _ => exact WP_tabIn 1381 dL_law_39 (by decide) (by decide) rfl (by decide) (cs_plain hX hq hL hJ hk9 hn9 kk)
      | 27, _ => exact WP_tabIn 1437 dL_law_39 (by decide) (by decide) rfl (by decide) (cs_plainSum hX hq hL hJ hk9 hn9 kk)
      | 28, _ => exact WP_tabOut 1505 dL_law_39 (by decide) (by decide) (kk _ _ _ _ hJ (by omega) (by omega))
      | 29, _ => exact WP_tabOut 1505 dL_law_39 (by decide) (by decide) (kk _ _ _ _ hJ (by omega) (by omega))
      | 30, _ => exact WP_tabOut 1505 dL_law_39 (by decide) (by decide) (kk _ _ _ _ hJ (by omega) (by omega))
      | 31, _ => exact WP_tabOut 1505 dL_law_39 (by decide) (by decide) (kk _ _ _ _ hJ (by omega) (by omega))
      | j + 32, h => exact absurd h (by omega)
end LLP
