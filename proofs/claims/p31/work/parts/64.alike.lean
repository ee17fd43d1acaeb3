/-! ===== isTreeSo: it answers something, and nothing is changed ===== -/
section TSO
variable {G : GC} {E : Nat → Nat} {A : AB} {S : SS}
theorem l_isTreeSo (hS : oS E A S) : MT G mL_isTreeSo [vr (some (E 0))] S (qA E A) := by
  have h60 := oS_sz hS
  have hQ : ∀ (X : String) (S' : SS), qA E A (.inr X) S' := fun X S' => Or.inr ⟨X, rfl⟩
  have J214 : ∀ (k n : Nat) (lv : List (Nat × VV)) (y : Int32) (S' : SS), k ≤ 1464 → n ≤ 8784 → (y = 0 ∨ y = 1) → oS E A S' → WP G mL_isTreeSo (qA E A) k n 214 lv [vi y] S' := by
    intro k n lv y S' hk hn hy hS'
    refine WP_ireturn dL_isTreeSo_214 rfl (by rcases hy with rfl | rfl <;> rfl) hk hn ?_
    exact Or.inl ⟨_, rfl, hS'⟩
  have J213 : ∀ (k n : Nat) (lv : List (Nat × VV)) (S' : SS), k ≤ 1464 → n ≤ 8784 → oS E A S' → WP G mL_isTreeSo (qA E A) k n 213 lv [] S' := by
    intro k n lv S' hk hn hS'
    refine WP_iconst (0) dL_isTreeSo_213 (by decide) ?_
    exact J214 _ _ _ _ _ hk hn (Or.inl rfl) hS'
  have J198 : ∀ (k n : Nat) (m ra de su y : Int32) (S' : SS), k ≤ 1464 → n ≤ 8784 → oS E A S' → WP G mL_isTreeSo (qA E A) k n 198 [(0, vr (some (E 0))), (1, vi m), (2, vi ra), (3, vi de), (4, vi su), (5, vi y)] [] S' := by
    intro k n m ra de su y S' hk hn hS'
    refine WP_iload_n dL_isTreeSo_198 rfl ?_
    refine WP_aload_n dL_isTreeSo_199 rfl ?_
    refine callVo mX4_clipped 0 0 [] rfl rfl dL_isTreeSo_200 okc_X4_clipped ok_602 ⟨by decide, by decide⟩ rfl rfl rfl (oS_K hS') rfl (Nat.le_of_ble_eq_true rfl) (show _ + 0 ≤ 1464 by omega) (show _ + 0 ≤ 8784 by omega) (o_clipped hS' ) hQ (fun x1 S1 h1 => ?_)
    refine WP_iadd dL_isTreeSo_203 ?_
    refine WP_bipush (60) dL_isTreeSo_204 (by decide) ?_
    refine WP_icmp_gt 213 dL_isTreeSo_206 (by decide) (fun hb => ?_) (fun hb => ?_)
    · exact J213 _ _ _ _ hk hn h1
    · refine WP_iconst (1) dL_isTreeSo_209 (by decide) ?_
      refine WP_goto 214 dL_isTreeSo_210 (by decide) ?_
      exact J214 _ _ _ _ _ hk hn (Or.inr rfl) h1
  have J167 : ∀ (k n : Nat) (m ra de su y : Int32) (S' : SS), k ≤ 1464 → n ≤ 8784 → oS E A S' → WP G mL_isTreeSo (qA E A) k n 167 [(0, vr (some (E 0))), (1, vi m), (2, vi ra), (3, vi de), (4, vi su), (5, vi y)] [] S' := by
    intro k n m ra de su y S' hk hn hS'
    refine WP_iload dL_isTreeSo_167 rfl ?_
    refine WP_if_eq 213 dL_isTreeSo_169 (by decide) (fun hb => ?_) (fun hb => ?_)
    · exact J213 _ _ _ _ hk hn hS'
    · refine WP_aload_n dL_isTreeSo_172 rfl ?_
      refine callVo mX4_clipped 0 0 [] rfl rfl dL_isTreeSo_173 okc_X4_clipped ok_602 ⟨by decide, by decide⟩ rfl rfl rfl (oS_K hS') rfl (Nat.le_of_ble_eq_true rfl) (show _ + 0 ≤ 1464 by omega) (show _ + 0 ≤ 8784 by omega) (o_clipped hS' ) hQ (fun x1 S1 h1 => ?_)
      refine WP_if_ne 190 dL_isTreeSo_176 (by decide) (fun hb => ?_) (fun hb => ?_)
      · refine WP_aload_n dL_isTreeSo_190 rfl ?_
        refine callVo mX4_potential 0 0 [] rfl rfl dL_isTreeSo_191 okc_X4_potential ok_606 ⟨by decide, by decide⟩ rfl rfl rfl (oS_K h1) rfl (Nat.le_of_ble_eq_true rfl) (show _ + 0 ≤ 1464 by omega) (show _ + 0 ≤ 8784 by omega) (o_potential h1 ) hQ (fun x2 S2 h2 => ?_)
        refine WP_iload_n dL_isTreeSo_194 rfl ?_
        refine WP_icmp_lt 213 dL_isTreeSo_195 (by decide) (fun hb => ?_) (fun hb => ?_)
        · exact J213 _ _ _ _ hk hn h2
        · exact J198 _ _ _ _ _ _ _ _ hk hn h2
      · refine WP_aload_n dL_isTreeSo_179 rfl ?_
        refine callVo mX4_potential 0 0 [] rfl rfl dL_isTreeSo_180 okc_X4_potential ok_606 ⟨by decide, by decide⟩ rfl rfl rfl (oS_K h1) rfl (Nat.le_of_ble_eq_true rfl) (show _ + 0 ≤ 1464 by omega) (show _ + 0 ≤ 8784 by omega) (o_potential h1 ) hQ (fun x2 S2 h2 => ?_)
        refine WP_iload_n dL_isTreeSo_183 rfl ?_
        refine WP_icmp_ne 213 dL_isTreeSo_184 (by decide) (fun hb => ?_) (fun hb => ?_)
        · exact J213 _ _ _ _ hk hn h2
        · refine WP_goto 198 dL_isTreeSo_187 (by decide) ?_
          exact J198 _ _ _ _ _ _ _ _ hk hn h2
  have J165 : ∀ (k n : Nat) (m ra de su y z : Int32) (S' : SS), k ≤ 1464 → n ≤ 8784 → oS E A S' → WP G mL_isTreeSo (qA E A) k n 165 [(0, vr (some (E 0))), (1, vi m), (2, vi ra), (3, vi de), (4, vi su), (5, vi z)] [vi y] S' := by
    intro k n m ra de su y z S' hk hn hS'
    refine WP_istore dL_isTreeSo_165 (by decide) rfl ?_
    refine WP_lv [(0, vr (some (E 0))), (1, vi m), (2, vi ra), (3, vi de), (4, vi su), (5, vi y)] (List.forall_mem_cons.mpr ⟨rfl, List.forall_mem_cons.mpr ⟨rfl, List.forall_mem_cons.mpr ⟨rfl, List.forall_mem_cons.mpr ⟨rfl, List.forall_mem_cons.mpr ⟨rfl, List.forall_mem_cons.mpr ⟨rfl, fun _ h9 => absurd h9 List.not_mem_nil⟩⟩⟩⟩⟩⟩) ?_
    exact J167 _ _ _ _ _ _ _ _ hk hn hS'
  have J164 : ∀ (k n : Nat) (m ra de su z : Int32) (S' : SS), k ≤ 1464 → n ≤ 8784 → oS E A S' → WP G mL_isTreeSo (qA E A) k n 164 [(0, vr (some (E 0))), (1, vi m), (2, vi ra), (3, vi de), (4, vi su), (5, vi z)] [] S' := by
    intro k n m ra de su z S' hk hn hS'
    refine WP_iconst (0) dL_isTreeSo_164 (by decide) ?_
    exact J165 _ _ _ _ _ _ _ _ _ hk hn hS'
  have J160 : ∀ (k n : Nat) (m ra de su z : Int32) (S' : SS), k ≤ 1464 → n ≤ 8784 → oS E A S' → WP G mL_isTreeSo (qA E A) k n 160 [(0, vr (some (E 0))), (1, vi m), (2, vi ra), (3, vi de), (4, vi su), (5, vi z)] [] S' := by
    intro k n m ra de su z S' hk hn hS'
    refine WP_iconst (1) dL_isTreeSo_160 (by decide) ?_
    refine WP_goto 165 dL_isTreeSo_161 (by decide) ?_
    exact J165 _ _ _ _ _ _ _ _ _ hk hn hS'
  have J141 : ∀ (k n : Nat) (m ra de su z y y2 : Int32) (S' : SS), k ≤ 1463 → n ≤ 8778 → oS E A S' → WP G mL_isTreeSo (qA E A) k n 141 [(0, vr (some (E 0))), (1, vi m), (2, vi ra), (3, vi de), (4, vi su), (5, vi z)] [vi y2, vi y] S' := by
    intro k n m ra de su z y y2 S' hk hn hS'
    refine WP_icmp_ne 164 dL_isTreeSo_141 (by decide) (fun hb => ?_) (fun hb => ?_)
    · exact J164 _ _ _ _ _ _ _ _ (by omega) (by omega) hS'
    · refine WP_iload_n dL_isTreeSo_144 rfl ?_
      refine WP_if_eq 160 dL_isTreeSo_145 (by decide) (fun hb => ?_) (fun hb => ?_)
      · exact J160 _ _ _ _ _ _ _ _ (by omega) (by omega) hS'
      · refine WP_aload_n dL_isTreeSo_148 rfl ?_
        refine WP_aload_n dL_isTreeSo_149 rfl ?_
        refine callVo mX4_root 0 0 [] rfl rfl dL_isTreeSo_150 okc_X4_root ok_578 ⟨by decide, by decide⟩ rfl rfl rfl (oS_K hS') rfl (Nat.le_of_ble_eq_true rfl) (show _ + 0 ≤ 1464 by omega) (show _ + 0 ≤ 8784 by omega) (o_root hS' ) hQ (fun x1 S1 h1 => ?_)
        refine callVo mX4_subtree 1 6 [_] rfl rfl dL_isTreeSo_153 okc_X4_subtree ok_548 ⟨by decide, by decide⟩ rfl rfl rfl (oS_K h1) rfl (Nat.le_of_ble_eq_true rfl) (show _ + 1 ≤ 1464 by omega) (show _ + 6 ≤ 8784 by omega) (o_subtree h1 _) hQ (fun x2 S2 h2 => ?_)
        refine WP_iload_n dL_isTreeSo_156 rfl ?_
        refine WP_icmp_ne 164 dL_isTreeSo_157 (by decide) (fun hb => ?_) (fun hb => ?_)
        · exact J164 _ _ _ _ _ _ _ _ (by omega) (by omega) h2
        · exact J160 _ _ _ _ _ _ _ _ (by omega) (by omega) h2
  have J129 : ∀ (k n : Nat) (m ra de su z y : Int32) (S' : SS), k ≤ 1463 → n ≤ 8778 → oS E A S' → WP G mL_isTreeSo (qA E A) k n 129 [(0, vr (some (E 0))), (1, vi m), (2, vi ra), (3, vi de), (4, vi su), (5, vi z)] [vi y] S' := by
    intro k n m ra de su z y S' hk hn hS'
    refine WP_aload_n dL_isTreeSo_129 rfl ?_
    refine callVo mX4_root 0 0 [] rfl rfl dL_isTreeSo_130 okc_X4_root ok_578 ⟨by decide, by decide⟩ rfl rfl rfl (oS_K hS') rfl (Nat.le_of_ble_eq_true rfl) (show _ + 0 ≤ 1464 by omega) (show _ + 0 ≤ 8784 by omega) (o_root hS' ) hQ (fun x1 S1 h1 => ?_)
    refine WP_if_ge 140 dL_isTreeSo_133 (by decide) (fun hb => ?_) (fun hb => ?_)
    · refine WP_iconst (0) dL_isTreeSo_140 (by decide) ?_
      exact J141 _ _ _ _ _ _ _ _ _ _ hk hn h1
    · refine WP_iconst (1) dL_isTreeSo_136 (by decide) ?_
      refine WP_goto 141 dL_isTreeSo_137 (by decide) ?_
      exact J141 _ _ _ _ _ _ _ _ _ _ hk hn h1
  have J101 : ∀ (k n : Nat) (m ra de su z : Int32) (S' : SS), k ≤ 1462 → n ≤ 8772 → oS E A S' → WP G mL_isTreeSo (qA E A) k n 101 [(0, vr (some (E 0))), (1, vi m), (2, vi ra), (3, vi de), (4, vi su), (5, vi z)] [] S' := by
    intro k n m ra de su z S' hk hn hS'
    refine WP_iload_n dL_isTreeSo_101 rfl ?_
    refine WP_aload_n dL_isTreeSo_102 rfl ?_
    refine callVo mX4_height 0 0 [] rfl rfl dL_isTreeSo_103 okc_X4_height ok_582 ⟨by decide, by decide⟩ rfl rfl rfl (oS_K hS') rfl (Nat.le_of_ble_eq_true rfl) (show _ + 0 ≤ 1464 by omega) (show _ + 0 ≤ 8784 by omega) (o_height hS' ) hQ (fun x1 S1 h1 => ?_)
    refine WP_icmp_ne 164 dL_isTreeSo_106 (by decide) (fun hb => ?_) (fun hb => ?_)
    · exact J164 _ _ _ _ _ _ _ _ (by omega) (by omega) h1
    · refine WP_aload_n dL_isTreeSo_109 rfl ?_
      refine WP_iconst (0) dL_isTreeSo_110 (by decide) ?_
      refine WP_iload_n dL_isTreeSo_111 rfl ?_
      refine callVo mX4_plainSum 1 6 [_, _] rfl rfl dL_isTreeSo_112 okc_X4_plainSum ok_594 ⟨by decide, by decide⟩ rfl rfl rfl (oS_K h1) rfl (Nat.le_of_ble_eq_true rfl) (show _ + 1 ≤ 1464 by omega) (show _ + 6 ≤ 8784 by omega) (o_plainSum h1 _ _) hQ (fun x2 S2 h2 => ?_)
      refine WP_iload dL_isTreeSo_115 rfl ?_
      refine WP_icmp_ne 164 dL_isTreeSo_117 (by decide) (fun hb => ?_) (fun hb => ?_)
      · exact J164 _ _ _ _ _ _ _ _ (by omega) (by omega) h2
      · refine WP_iload_n dL_isTreeSo_120 rfl ?_
        refine WP_if_ne 128 dL_isTreeSo_121 (by decide) (fun hb => ?_) (fun hb => ?_)
        · refine WP_iconst (0) dL_isTreeSo_128 (by decide) ?_
          exact J129 _ _ _ _ _ _ _ _ _ (by omega) (by omega) h2
        · refine WP_iconst (1) dL_isTreeSo_124 (by decide) ?_
          refine WP_goto 129 dL_isTreeSo_125 (by decide) ?_
          exact J129 _ _ _ _ _ _ _ _ _ (by omega) (by omega) h2
  have J24 : ∀ (f r : Nat) (k n : Nat) (m ra de su z : Int32) (S' : SS), r + f = 5 → k + f + 1 ≤ 1464 → n + 6 * f + 6 ≤ 8784 → oS E A S' →
      (∀ (r' : Int32) (k' n' : Nat) (S1 : SS), k' ≤ k + f + 1 → n' ≤ n + 6 * f + 6 → oS E A S1 → WP G mL_isTreeSo (qA E A) k' n' 43 [(0, vr (some (E 0))), (1, vi m), (2, vi ra), (3, vi de), (4, vi su), (5, vi z), (6, vi r')] [] S1) →
      WP G mL_isTreeSo (qA E A) k n 24 [(0, vr (some (E 0))), (1, vi m), (2, vi ra), (3, vi de), (4, vi su), (5, vi z), (6, vi (nI r))] [] S' := by
    intro f
    induction f with
    | zero =>
      intro r k n m ra de su z S' hr hk hn hS' kk
      have hr : r = 5 := by omega
      subst hr
      refine WP_iconst (2) dL_isTreeSo_24 (by decide) ?_
      refine WP_iload dL_isTreeSo_25 rfl ?_
      refine WP_ishl _ dL_isTreeSo_27 (shl2 5 (by decide)) ?_
      refine WP_aload_n dL_isTreeSo_28 rfl ?_
      refine WP_iload dL_isTreeSo_29 rfl ?_
      refine callVb mX4_subtree 1 6 [_] rfl rfl dL_isTreeSo_31 okc_X4_subtree ok_548 ⟨by decide, by decide⟩ rfl rfl rfl (oS_K hS') rfl (Nat.le_of_ble_eq_true rfl) (show _ + 1 ≤ 1464 by omega) (show _ + 6 ≤ 8784 by omega) (x_subtree hS' _) hQ (fun z1 S1 hz h1 => ?_)
      refine WP_icmp_gt 43 dL_isTreeSo_34 (by decide) (fun _ => ?_) (fun hb => absurd hb (fun h => h (nI_lt (by omega) (by decide))))
      exact kk _ _ _ _ (by omega) (by omega) h1
    | succ f ih =>
      intro r k n m ra de su z S' hr hk hn hS' kk
      refine WP_iconst (2) dL_isTreeSo_24 (by decide) ?_
      refine WP_iload dL_isTreeSo_25 rfl ?_
      refine WP_ishl _ dL_isTreeSo_27 (shl2 r (by omega)) ?_
      refine WP_aload_n dL_isTreeSo_28 rfl ?_
      refine WP_iload dL_isTreeSo_29 rfl ?_
      refine callVb mX4_subtree 1 6 [_] rfl rfl dL_isTreeSo_31 okc_X4_subtree ok_548 ⟨by decide, by decide⟩ rfl rfl rfl (oS_K hS') rfl (Nat.le_of_ble_eq_true rfl) (show _ + 1 ≤ 1464 by omega) (show _ + 6 ≤ 8784 by omega) (x_subtree hS' _) hQ (fun z1 S1 hz h1 => ?_)
      refine WP_icmp_gt 43 dL_isTreeSo_34 (by decide) (fun hb => ?_) (fun hb => ?_)
      · exact kk _ _ _ _ (by omega) (by omega) h1
      · refine WP_iinc (nI (r + 1)) dL_isTreeSo_37 rfl (nI_1 _) (by decide) rfl ?_
        refine WP_goto 24 dL_isTreeSo_40 (by decide) ?_
        refine WP_lv [(0, vr (some (E 0))), (1, vi m), (2, vi ra), (3, vi de), (4, vi su), (5, vi z), (6, vi (nI (r + 1)))] (List.forall_mem_cons.mpr ⟨rfl, List.forall_mem_cons.mpr ⟨rfl, List.forall_mem_cons.mpr ⟨rfl, List.forall_mem_cons.mpr ⟨rfl, List.forall_mem_cons.mpr ⟨rfl, List.forall_mem_cons.mpr ⟨rfl, List.forall_mem_cons.mpr ⟨rfl, fun _ h9 => absurd h9 List.not_mem_nil⟩⟩⟩⟩⟩⟩⟩) ?_
        exact ih (r + 1) (k + 1) (n + 6) m ra de su z S1 (by omega) (by omega) (by omega) h1 (fun r' k' n' S2 q1 q2 q3 => kk r' k' n' S2 (by omega) (by omega) q3)
  have J15 : ∀ (b j : Nat) (k n : Nat) (ra de su : Int32) (S' : SS), tsz A.1 ≤ j + b → j ≤ 60 → k + 24 * b + 2 ≤ 1464 → n + 144 * b + 12 ≤ 8784 → oS E A S' →
      ∀ lv, (∀ q ∈ [(0, vr (some (E 0))), (1, vi (nI (tsz A.1))), (2, vi ra), (3, vi de), (4, vi su), (5, vi (nI j))], lkp lv q.1 = some q.2) → WP G mL_isTreeSo (qA E A) k n 15 lv [] S' := by
    intro b
    induction b with
    | zero =>
      intro j k n ra de su S' hb hj hk hn hS' lv hlv
      refine WP_lv _ hlv ?_
      refine WP_iload dL_isTreeSo_15 rfl ?_
      refine WP_iload_n dL_isTreeSo_17 rfl ?_
      refine WP_icmp_ge 101 dL_isTreeSo_18 (by decide) (fun _ => ?_) (fun hb => absurd hb (fun h => h (nI_le (by omega) (by omega))))
      exact J101 _ _ _ _ _ _ _ _ (by omega) (by omega) hS'
    | succ b ih =>
      intro j k n ra de su S' hb hj hk hn hS' lv hlv
      refine WP_lv _ hlv ?_
      refine WP_iload dL_isTreeSo_15 rfl ?_
      refine WP_iload_n dL_isTreeSo_17 rfl ?_
      refine WP_icmp_ge 101 dL_isTreeSo_18 (by decide) (fun h9 => ?_) (fun h9 => ?_)
      · exact J101 _ _ _ _ _ _ _ _ (by omega) (by omega) hS'
      · have hjn : j < tsz A.1 := by
          by_cases e : j < tsz A.1
          · exact e
          · exact absurd (nI_le (by omega) (by omega)) h9
        refine WP_iconst (0) dL_isTreeSo_21 (by decide) ?_
        refine WP_istore dL_isTreeSo_22 (by decide) rfl ?_
        refine WP_lv [(0, vr (some (E 0))), (1, vi (nI (tsz A.1))), (2, vi ra), (3, vi de), (4, vi su), (5, vi (nI j)), (6, vi (nI 0))] (List.forall_mem_cons.mpr ⟨rfl, List.forall_mem_cons.mpr ⟨rfl, List.forall_mem_cons.mpr ⟨rfl, List.forall_mem_cons.mpr ⟨rfl, List.forall_mem_cons.mpr ⟨rfl, List.forall_mem_cons.mpr ⟨rfl, List.forall_mem_cons.mpr ⟨rfl, fun _ h9 => absurd h9 List.not_mem_nil⟩⟩⟩⟩⟩⟩⟩) ?_
        refine J24 5 0 k n _ ra de su _ S' rfl (by omega) (by omega) hS' (fun r' k' n' S1 q1 q2 h1 => ?_)
        refine WP_iload_n dL_isTreeSo_43 rfl ?_
        refine WP_iload dL_isTreeSo_44 rfl ?_
        refine WP_iadd dL_isTreeSo_46 ?_
        refine WP_istore_n dL_isTreeSo_47 (by decide) rfl ?_
        refine WP_aload_n dL_isTreeSo_48 rfl ?_
        refine WP_iload dL_isTreeSo_49 rfl ?_
        refine callVo mX4_depth 1 6 [_] rfl rfl dL_isTreeSo_51 okc_X4_depth ok_552 ⟨by decide, by decide⟩ rfl rfl rfl (oS_K h1) rfl (Nat.le_of_ble_eq_true rfl) (show _ + 1 ≤ 1464 by omega) (show _ + 6 ≤ 8784 by omega) (o_depth h1 _) hQ (fun x2 S2 h2 => ?_)
        refine WP_iconst (1) dL_isTreeSo_54 (by decide) ?_
        refine WP_iadd dL_isTreeSo_55 ?_
        refine WP_iload_n dL_isTreeSo_56 rfl ?_
        have J72 : ∀ (k n : Nat) (de' : Int32) (S3 : SS) (lv : List (Nat × VV)), (∀ q ∈ [(0, vr (some (E 0))), (1, vi (nI (tsz A.1))), (2, vi (ra + r')), (4, vi su), (5, vi (nI j))], lkp lv q.1 = some q.2) → k ≤ k' + 2 → n ≤ n' + 12 → oS E A S3 → WP G mL_isTreeSo (qA E A) k n 72 lv [vi de'] S3 := by
          intro k n de' S3 lv hlv hk3 hn3 h3
          refine WP_lv _ hlv ?_
          refine WP_istore_n dL_isTreeSo_72 (by decide) rfl ?_
          refine WP_iload dL_isTreeSo_73 rfl ?_
          refine WP_aload_n dL_isTreeSo_75 rfl ?_
          refine WP_iload dL_isTreeSo_76 rfl ?_
          refine callVo mX4_plain 1 6 [_] rfl rfl dL_isTreeSo_78 okc_X4_plain ok_560 ⟨by decide, by decide⟩ rfl rfl rfl (oS_K h3) rfl (Nat.le_of_ble_eq_true rfl) (show _ + 1 ≤ 1464 by omega) (show _ + 6 ≤ 8784 by omega) (o_plain h3 _) hQ (fun x4 S4 h4 => ?_)
          refine WP_iadd dL_isTreeSo_81 ?_
          refine WP_istore dL_isTreeSo_82 (by decide) rfl ?_
          refine WP_aload_n dL_isTreeSo_84 rfl ?_
          refine WP_iload dL_isTreeSo_85 rfl ?_
          refine callSo mL_isNodeSo 11 66 [_, _] rfl rfl dL_isTreeSo_87 okc_L_isNodeSo rfl ok_568 ⟨by decide, by decide⟩ rfl rfl rfl (Nat.le_of_ble_eq_true rfl) (show _ + 11 ≤ 1464 by omega) (show _ + 66 ≤ 8784 by omega) (l_isNodeSo h4 _) hQ (fun x5 S5 h5 => ?_)
          refine WP_if_ne 95 dL_isTreeSo_90 (by decide) (fun h9 => ?_) (fun h9 => ?_)
          · refine WP_iinc (nI (j + 1)) dL_isTreeSo_95 rfl (nI_1 _) (by decide) rfl ?_
            refine WP_goto 15 dL_isTreeSo_98 (by decide) ?_
            exact ih (j + 1) _ _ _ _ _ _ (by omega) (by omega) (by omega) (by omega) h5 _ (List.forall_mem_cons.mpr ⟨rfl, List.forall_mem_cons.mpr ⟨rfl, List.forall_mem_cons.mpr ⟨rfl, List.forall_mem_cons.mpr ⟨rfl, List.forall_mem_cons.mpr ⟨rfl, List.forall_mem_cons.mpr ⟨rfl, fun _ h => absurd h List.not_mem_nil⟩⟩⟩⟩⟩⟩)
          · refine WP_iconst (0) dL_isTreeSo_93 (by decide) ?_
            refine WP_ireturn dL_isTreeSo_94 rfl rfl (show _ ≤ 1464 by omega) (show _ ≤ 8784 by omega) ?_
            exact Or.inl ⟨_, rfl, h5⟩
        refine WP_icmp_le 71 dL_isTreeSo_57 (by decide) (fun h9 => ?_) (fun h9 => ?_)
        · refine WP_iload_n dL_isTreeSo_71 rfl ?_
          exact J72 _ _ _ _ _ (List.forall_mem_cons.mpr ⟨rfl, List.forall_mem_cons.mpr ⟨rfl, List.forall_mem_cons.mpr ⟨rfl, List.forall_mem_cons.mpr ⟨rfl, List.forall_mem_cons.mpr ⟨rfl, fun _ h => absurd h List.not_mem_nil⟩⟩⟩⟩⟩) (by omega) (by omega) h2
        · refine WP_aload_n dL_isTreeSo_60 rfl ?_
          refine WP_iload dL_isTreeSo_61 rfl ?_
          refine callVo mX4_depth 1 6 [_] rfl rfl dL_isTreeSo_63 okc_X4_depth ok_552 ⟨by decide, by decide⟩ rfl rfl rfl (oS_K h2) rfl (Nat.le_of_ble_eq_true rfl) (show _ + 1 ≤ 1464 by omega) (show _ + 6 ≤ 8784 by omega) (o_depth h2 _) hQ (fun x3 S3 h3 => ?_)
          refine WP_iconst (1) dL_isTreeSo_66 (by decide) ?_
          refine WP_iadd dL_isTreeSo_67 ?_
          refine WP_goto 72 dL_isTreeSo_68 (by decide) ?_
          exact J72 _ _ _ _ _ (List.forall_mem_cons.mpr ⟨rfl, List.forall_mem_cons.mpr ⟨rfl, List.forall_mem_cons.mpr ⟨rfl, List.forall_mem_cons.mpr ⟨rfl, List.forall_mem_cons.mpr ⟨rfl, fun _ h => absurd h List.not_mem_nil⟩⟩⟩⟩⟩) (by omega) (by omega) h3
  refine MT_of (by decide) rfl (Nat.le_of_ble_eq_true rfl) ?_
  refine WP_aload_n dL_isTreeSo_0 rfl ?_
  refine callVe mX4_size 0 0 [] rfl rfl dL_isTreeSo_1 okc_X4_size ok_130 ⟨by decide, by decide⟩ rfl rfl rfl (oS_K hS) rfl (Nat.le_of_ble_eq_true rfl) (show _ + 0 ≤ 1464 by omega) (show _ + 0 ≤ 8784 by omega) (x_size hS ) hQ (fun S1 h1 => ?_)
  refine WP_istore_n dL_isTreeSo_4 (by decide) rfl ?_
  refine WP_iconst (0) dL_isTreeSo_5 (by decide) ?_
  refine WP_istore_n dL_isTreeSo_6 (by decide) rfl ?_
  refine WP_iconst (0) dL_isTreeSo_7 (by decide) ?_
  refine WP_istore_n dL_isTreeSo_8 (by decide) rfl ?_
  refine WP_iconst (0) dL_isTreeSo_9 (by decide) ?_
  refine WP_istore dL_isTreeSo_10 (by decide) rfl ?_
  refine WP_iconst (0) dL_isTreeSo_12 (by decide) ?_
  refine WP_istore dL_isTreeSo_13 (by decide) rfl ?_
  exact J15 60 0 _ _ _ _ _ _ (by omega) (by omega) (by omega) (by omega) h1 _ (List.forall_mem_cons.mpr ⟨rfl, List.forall_mem_cons.mpr ⟨rfl, List.forall_mem_cons.mpr ⟨rfl, List.forall_mem_cons.mpr ⟨rfl, List.forall_mem_cons.mpr ⟨rfl, List.forall_mem_cons.mpr ⟨rfl, fun _ h => absurd h List.not_mem_nil⟩⟩⟩⟩⟩⟩)
end TSO
