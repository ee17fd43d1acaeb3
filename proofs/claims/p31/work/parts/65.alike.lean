/-! ===== areAlike: where it says yes, both have splayed as often ===== -/
abbrev spC (A : AB) : Int32 := A.2.2.2.2.2.2
def qL (E F : Nat → Nat) (A B : AB) : RS → SS → Prop := fun r S' => (∃ (x : Int32) (S1 T1 : SS), r = .inl (some (vi x)) ∧ S' = joinS S1 T1 ∧ oS E A S1 ∧ oS F B T1 ∧ (¬ x = 0 → spC A = spC B)) ∨ ∃ X : String, r = .inr X
section ALK
variable {G : GC} {E F : Nat → Nat} {A B : AB} {S T : SS}
theorem l_areAlike (hS : oS E A S) (hT : oS F B T) : MT G mL_areAlike [vr (some (E 0)), vr (some (F 0))] (joinS S T) (qL E F A B) := by
  have h60 := oS_sz hS
  have hQ : ∀ (X : String) (S' : SS), qL E F A B (.inr X) S' := fun X S' => Or.inr ⟨X, rfl⟩
  have J182 : ∀ (k n : Nat) (y z : Int32) (S' T' : SS), (y = 0 ∨ (y = 1 ∧ spC A = spC B)) → k ≤ 366 → n ≤ 2196 → oS E A S' → oS F B T' → WP G mL_areAlike (qL E F A B) k n 182 [(0, vr (some (E 0))), (1, vr (some (F 0))), (2, vi y), (3, vi z)] [] (joinS S' T') := by
    intro k n y z S' T' hy hk hn hS' hT'
    refine WP_iload_n dL_areAlike_182 rfl ?_
    refine WP_ireturn dL_areAlike_183 rfl (by rcases hy with rfl | ⟨rfl, -⟩ <;> rfl) hk hn ?_
    refine Or.inl ⟨_, _, _, rfl, rfl, hS', hT', fun h => ?_⟩
    rcases hy with rfl | ⟨-, h2⟩
    · exact absurd rfl h
    · exact h2
  have J148 : ∀ (f j : Nat) (k n : Nat) (y : Int32) (S' T' : SS), j + f = 4 → (y = 0 ∨ (y = 1 ∧ spC A = spC B)) → k + 2 * f ≤ 366 → n + 12 * f ≤ 2196 → oS E A S' → oS F B T' → WP G mL_areAlike (qL E F A B) k n 148 [(0, vr (some (E 0))), (1, vr (some (F 0))), (2, vi y), (3, vi (nI j))] [] (joinS S' T') := by
    intro f
    induction f with
    | zero =>
      intro j k n y S' T' hj hy hk hn hS' hT'
      have hj : j = 4 := by omega
      subst hj
      refine WP_iload_n dL_areAlike_148 rfl ?_
      refine WP_iconst (4) dL_areAlike_149 (by decide) ?_
      refine WP_icmp_ge 182 dL_areAlike_150 (by decide) (fun _ => ?_) (fun hb => absurd hb (by decide))
      exact J182 _ _ _ _ _ _ hy (by omega) (by omega) hS' hT'
    | succ f ih =>
      intro j k n y S' T' hj hy hk hn hS' hT'
      have J175 : ∀ (k' n' : Nat) (y' : Int32) (S1 T1 : SS), (y' = 0 ∨ (y' = 1 ∧ spC A = spC B)) → k' ≤ k + 2 → n' ≤ n + 12 → oS E A S1 → oS F B T1 → WP G mL_areAlike (qL E F A B) k' n' 175 [(0, vr (some (E 0))), (1, vr (some (F 0))), (2, vi y), (3, vi (nI j))] [vi y'] (joinS S1 T1) := by
        intro k' n' y' S1 T1 hy' hk' hn' h1 h2
        refine WP_istore_n dL_areAlike_175 (by decide) rfl ?_
        refine WP_iinc (nI (j + 1)) dL_areAlike_176 rfl (nI_1 _) (by decide) rfl ?_
        refine WP_goto 148 dL_areAlike_179 (by decide) ?_
        refine WP_lv [(0, vr (some (E 0))), (1, vr (some (F 0))), (2, vi y'), (3, vi (nI (j + 1)))] (List.forall_mem_cons.mpr ⟨rfl, List.forall_mem_cons.mpr ⟨rfl, List.forall_mem_cons.mpr ⟨rfl, List.forall_mem_cons.mpr ⟨rfl, fun _ h9 => absurd h9 List.not_mem_nil⟩⟩⟩⟩) ?_
        exact ih (j + 1) _ _ _ _ _ (by omega) hy' (by omega) (by omega) h1 h2
      have J174 : ∀ (k' n' : Nat) (S1 T1 : SS), k' ≤ k + 2 → n' ≤ n + 12 → oS E A S1 → oS F B T1 → WP G mL_areAlike (qL E F A B) k' n' 174 [(0, vr (some (E 0))), (1, vr (some (F 0))), (2, vi y), (3, vi (nI j))] [] (joinS S1 T1) := by
        intro k' n' S1 T1 hk' hn' h1 h2
        refine WP_iconst (0) dL_areAlike_174 (by decide) ?_
        exact J175 _ _ _ _ _ (Or.inl rfl) hk' hn' h1 h2
      refine WP_iload_n dL_areAlike_148 rfl ?_
      refine WP_iconst (4) dL_areAlike_149 (by decide) ?_
      refine WP_icmp_ge 182 dL_areAlike_150 (by decide) (fun hb => absurd hb (nI_ge (a := j) (b := 4) (by omega) (by decide))) (fun _ => ?_)
      refine WP_iload_n dL_areAlike_153 rfl ?_
      refine WP_if_eq 174 dL_areAlike_154 (by decide) (fun hb => ?_) (fun hb => ?_)
      · exact J174 _ _ _ _ (by omega) (by omega) hS' hT'
      · have hsp : spC A = spC B := by
          rcases hy with h | ⟨-, h⟩
          · exact absurd h hb
          · exact h
        refine WP_aload_n dL_areAlike_157 rfl ?_
        refine WP_iload_n dL_areAlike_158 rfl ?_
        refine callVLo mX4_whereIs 1 6 [_] rfl rfl dL_areAlike_159 okc_X4_whereIs ok_624 ⟨by decide, by decide⟩ rfl rfl rfl (oS_K hS') rfl (Nat.le_of_ble_eq_true rfl) (show _ + 1 ≤ 366 by omega) (show _ + 6 ≤ 2196 by omega) (o_whereIs hS' _) hQ (fun x1 S1 h1 => ?_)
        refine WP_aload_n dL_areAlike_162 rfl ?_
        refine WP_iload_n dL_areAlike_163 rfl ?_
        refine callVRo mX4_whereIs 1 6 [_] rfl rfl dL_areAlike_164 okc_X4_whereIs ok_624 ⟨by decide, by decide⟩ rfl rfl rfl (oS_K hT') rfl (Nat.le_of_ble_eq_true rfl) (show _ + 1 ≤ 366 by omega) (show _ + 6 ≤ 2196 by omega) (o_whereIs hT' _) hQ (fun x2 T1 h2 => ?_)
        refine WP_icmp_ne 174 dL_areAlike_167 (by decide) (fun hb => ?_) (fun hb => ?_)
        · exact J174 _ _ _ _ (by omega) (by omega) h1 h2
        · refine WP_iconst (1) dL_areAlike_170 (by decide) ?_
          refine WP_goto 175 dL_areAlike_171 (by decide) ?_
          exact J175 _ _ _ _ _ (Or.inr ⟨rfl, hsp⟩) (by omega) (by omega) h1 h2
  have J146 : ∀ (k n : Nat) (y z : Int32) (S' T' : SS), (y = 0 ∨ (y = 1 ∧ spC A = spC B)) → k ≤ 300 → n ≤ 2000 → oS E A S' → oS F B T' → WP G mL_areAlike (qL E F A B) k n 146 [(0, vr (some (E 0))), (1, vr (some (F 0))), (2, vi y), (3, vi z)] [] (joinS S' T') := by
    intro k n y z S' T' hy hk hn hS' hT'
    refine WP_iconst (0) dL_areAlike_146 (by decide) ?_
    refine WP_istore_n dL_areAlike_147 (by decide) rfl ?_
    refine WP_lv [(0, vr (some (E 0))), (1, vr (some (F 0))), (2, vi y), (3, vi (nI 0))] (List.forall_mem_cons.mpr ⟨rfl, List.forall_mem_cons.mpr ⟨rfl, List.forall_mem_cons.mpr ⟨rfl, List.forall_mem_cons.mpr ⟨rfl, fun _ h9 => absurd h9 List.not_mem_nil⟩⟩⟩⟩) ?_
    exact J148 4 0 _ _ _ _ _ rfl hy (by omega) (by omega) hS' hT'
  have J96 : ∀ (b j : Nat) (k n : Nat) (y : Int32) (S' T' : SS), tsz A.1 ≤ j + b → j ≤ 60 → (y = 0 ∨ (y = 1 ∧ spC A = spC B)) → k + 4 * b ≤ 300 → n + 24 * b ≤ 2000 → oS E A S' → oS F B T' → WP G mL_areAlike (qL E F A B) k n 96 [(0, vr (some (E 0))), (1, vr (some (F 0))), (2, vi y), (3, vi (nI j))] [] (joinS S' T') := by
    intro b
    induction b with
    | zero =>
      intro j k n y S' T' hj hj6 hy hk hn hS' hT'
      refine WP_iload_n dL_areAlike_96 rfl ?_
      refine WP_aload_n dL_areAlike_97 rfl ?_
      refine callVLe mX4_size 0 0 [] rfl rfl dL_areAlike_98 okc_X4_size ok_130 ⟨by decide, by decide⟩ rfl rfl rfl (oS_K hS') rfl (Nat.le_of_ble_eq_true rfl) (show _ + 0 ≤ 366 by omega) (show _ + 0 ≤ 2196 by omega) (x_size hS' ) hQ (fun S1 h1 => ?_)
      refine WP_icmp_ge 146 dL_areAlike_101 (by decide) (fun _ => ?_) (fun hb => absurd hb (fun h => h (nI_le (by omega) (by omega))))
      exact J146 _ _ _ _ _ _ hy (by omega) (by omega) h1 hT'
    | succ b ih =>
      intro j k n y S' T' hj hj6 hy hk hn hS' hT'
      refine WP_iload_n dL_areAlike_96 rfl ?_
      refine WP_aload_n dL_areAlike_97 rfl ?_
      refine callVLe mX4_size 0 0 [] rfl rfl dL_areAlike_98 okc_X4_size ok_130 ⟨by decide, by decide⟩ rfl rfl rfl (oS_K hS') rfl (Nat.le_of_ble_eq_true rfl) (show _ + 0 ≤ 366 by omega) (show _ + 0 ≤ 2196 by omega) (x_size hS' ) hQ (fun S1 h1 => ?_)
      refine WP_icmp_ge 146 dL_areAlike_101 (by decide) (fun h9 => ?_) (fun h9 => ?_)
      · exact J146 _ _ _ _ _ _ hy (by omega) (by omega) h1 hT'
      · have hjn : j < tsz A.1 := by
          by_cases e : j < tsz A.1
          · exact e
          · exact absurd (nI_le (by omega) (by omega)) h9
        refine WP_iload_n dL_areAlike_104 rfl ?_
        refine WP_if_eq 146 dL_areAlike_105 (by decide) (fun hb => ?_) (fun hb => ?_)
        · exact J146 _ _ _ _ _ _ hy (by omega) (by omega) h1 hT'
        · have hsp : spC A = spC B := by
            rcases hy with h | ⟨-, h⟩
            · exact absurd h hb
            · exact h
          have J139 : ∀ (k' n' : Nat) (y' : Int32) (S1 T1 : SS), (y' = 0 ∨ (y' = 1 ∧ spC A = spC B)) → k' ≤ k + 4 → n' ≤ n + 24 → oS E A S1 → oS F B T1 → WP G mL_areAlike (qL E F A B) k' n' 139 [(0, vr (some (E 0))), (1, vr (some (F 0))), (2, vi y), (3, vi (nI j))] [vi y'] (joinS S1 T1) := by
            intro k' n' y' S1 T1 hy' hk' hn' h1 h2
            refine WP_istore_n dL_areAlike_139 (by decide) rfl ?_
            refine WP_iinc (nI (j + 1)) dL_areAlike_140 rfl (nI_1 _) (by decide) rfl ?_
            refine WP_goto 96 dL_areAlike_143 (by decide) ?_
            refine WP_lv [(0, vr (some (E 0))), (1, vr (some (F 0))), (2, vi y'), (3, vi (nI (j + 1)))] (List.forall_mem_cons.mpr ⟨rfl, List.forall_mem_cons.mpr ⟨rfl, List.forall_mem_cons.mpr ⟨rfl, List.forall_mem_cons.mpr ⟨rfl, fun _ h9 => absurd h9 List.not_mem_nil⟩⟩⟩⟩) ?_
            exact ih (j + 1) _ _ _ _ _ (by omega) (by omega) hy' (by omega) (by omega) h1 h2
          have J138 : ∀ (k' n' : Nat) (S1 T1 : SS), k' ≤ k + 4 → n' ≤ n + 24 → oS E A S1 → oS F B T1 → WP G mL_areAlike (qL E F A B) k' n' 138 [(0, vr (some (E 0))), (1, vr (some (F 0))), (2, vi y), (3, vi (nI j))] [] (joinS S1 T1) := by
            intro k' n' S1 T1 hk' hn' h1 h2
            refine WP_iconst (0) dL_areAlike_138 (by decide) ?_
            exact J139 _ _ _ _ _ (Or.inl rfl) hk' hn' h1 h2
          refine WP_aload_n dL_areAlike_108 rfl ?_
          refine WP_iload_n dL_areAlike_109 rfl ?_
          refine callVLo mX4_plain 1 6 [_] rfl rfl dL_areAlike_110 okc_X4_plain ok_560 ⟨by decide, by decide⟩ rfl rfl rfl (oS_K h1) rfl (Nat.le_of_ble_eq_true rfl) (show _ + 1 ≤ 366 by omega) (show _ + 6 ≤ 2196 by omega) (o_plain h1 _) hQ (fun x2 S2 h2 => ?_)
          refine WP_aload_n dL_areAlike_113 rfl ?_
          refine WP_iload_n dL_areAlike_114 rfl ?_
          refine callVRo mX4_plain 1 6 [_] rfl rfl dL_areAlike_115 okc_X4_plain ok_560 ⟨by decide, by decide⟩ rfl rfl rfl (oS_K hT') rfl (Nat.le_of_ble_eq_true rfl) (show _ + 1 ≤ 366 by omega) (show _ + 6 ≤ 2196 by omega) (o_plain hT' _) hQ (fun x3 T3 h3 => ?_)
          refine WP_icmp_ne 138 dL_areAlike_118 (by decide) (fun hb => ?_) (fun hb => ?_)
          · exact J138 _ _ _ _ (by omega) (by omega) h2 h3
          · refine WP_aload_n dL_areAlike_121 rfl ?_
            refine WP_iload_n dL_areAlike_122 rfl ?_
            refine callVLo mX4_depth 1 6 [_] rfl rfl dL_areAlike_123 okc_X4_depth ok_552 ⟨by decide, by decide⟩ rfl rfl rfl (oS_K h2) rfl (Nat.le_of_ble_eq_true rfl) (show _ + 1 ≤ 366 by omega) (show _ + 6 ≤ 2196 by omega) (o_depth h2 _) hQ (fun x4 S4 h4 => ?_)
            refine WP_aload_n dL_areAlike_126 rfl ?_
            refine WP_iload_n dL_areAlike_127 rfl ?_
            refine callVRo mX4_depth 1 6 [_] rfl rfl dL_areAlike_128 okc_X4_depth ok_552 ⟨by decide, by decide⟩ rfl rfl rfl (oS_K h3) rfl (Nat.le_of_ble_eq_true rfl) (show _ + 1 ≤ 366 by omega) (show _ + 6 ≤ 2196 by omega) (o_depth h3 _) hQ (fun x5 T5 h5 => ?_)
            refine WP_icmp_ne 138 dL_areAlike_131 (by decide) (fun hb => ?_) (fun hb => ?_)
            · exact J138 _ _ _ _ (by omega) (by omega) h4 h5
            · refine WP_iconst (1) dL_areAlike_134 (by decide) ?_
              refine WP_goto 139 dL_areAlike_135 (by decide) ?_
              exact J139 _ _ _ _ _ (Or.inr ⟨rfl, hsp⟩) (by omega) (by omega) h4 h5
  have J93 : ∀ (k n : Nat) (y : Int32) (S' T' : SS), (y = 0 ∨ (y = 1 ∧ spC A = spC B)) → k = 0 → n = 0 → oS E A S' → oS F B T' → WP G mL_areAlike (qL E F A B) k n 93 [(0, vr (some (E 0))), (1, vr (some (F 0)))] [vi y] (joinS S' T') := by
    intro k n y S' T' hy hk hn hS' hT'
    refine WP_istore_n dL_areAlike_93 (by decide) rfl ?_
    refine WP_iconst (0) dL_areAlike_94 (by decide) ?_
    refine WP_istore_n dL_areAlike_95 (by decide) rfl ?_
    refine WP_lv [(0, vr (some (E 0))), (1, vr (some (F 0))), (2, vi y), (3, vi (nI 0))] (List.forall_mem_cons.mpr ⟨rfl, List.forall_mem_cons.mpr ⟨rfl, List.forall_mem_cons.mpr ⟨rfl, List.forall_mem_cons.mpr ⟨rfl, fun _ h9 => absurd h9 List.not_mem_nil⟩⟩⟩⟩) ?_
    exact J96 60 0 _ _ _ _ _ (by omega) (by omega) hy (by omega) (by omega) hS' hT'
  have J92 : ∀ (k n : Nat) (S' T' : SS), k = 0 → n = 0 → oS E A S' → oS F B T' → WP G mL_areAlike (qL E F A B) k n 92 [(0, vr (some (E 0))), (1, vr (some (F 0)))] [] (joinS S' T') := by
    intro k n S' T' hk hn hS' hT'
    refine WP_iconst (0) dL_areAlike_92 (by decide) ?_
    exact J93 _ _ _ _ _ (Or.inl rfl) hk hn hS' hT'
  refine MT_of (by decide) rfl (Nat.le_of_ble_eq_true rfl) ?_
  refine WP_lv [(0, vr (some (E 0))), (1, vr (some (F 0)))] (List.forall_mem_cons.mpr ⟨rfl, List.forall_mem_cons.mpr ⟨rfl, fun _ h => absurd h List.not_mem_nil⟩⟩) ?_
  refine WP_aload_n dL_areAlike_0 rfl ?_
  refine callVLo mX4_size 0 0 [] rfl rfl dL_areAlike_1 okc_X4_size ok_130 ⟨by decide, by decide⟩ rfl rfl rfl (oS_K hS) rfl (Nat.le_of_ble_eq_true rfl) (show _ + 0 ≤ 366 by omega) (show _ + 0 ≤ 2196 by omega) (o_size hS ) hQ (fun x1 S1 h1 => ?_)
  refine WP_aload_n dL_areAlike_4 rfl ?_
  refine callVRo mX4_size 0 0 [] rfl rfl dL_areAlike_5 okc_X4_size ok_130 ⟨by decide, by decide⟩ rfl rfl rfl (oS_K hT) rfl (Nat.le_of_ble_eq_true rfl) (show _ + 0 ≤ 366 by omega) (show _ + 0 ≤ 2196 by omega) (o_size hT ) hQ (fun y1 T1 g1 => ?_)
  refine WP_icmp_ne 92 dL_areAlike_8 (by decide) (fun hb => ?_) (fun hb => ?_)
  · exact J92 _ _ _ _ rfl rfl h1 g1
  · skip
    refine WP_aload_n dL_areAlike_11 rfl ?_
    refine callVLo mX4_clipped 0 0 [] rfl rfl dL_areAlike_12 okc_X4_clipped ok_602 ⟨by decide, by decide⟩ rfl rfl rfl (oS_K h1) rfl (Nat.le_of_ble_eq_true rfl) (show _ + 0 ≤ 366 by omega) (show _ + 0 ≤ 2196 by omega) (o_clipped h1 ) hQ (fun x2 S2 h2 => ?_)
    refine WP_aload_n dL_areAlike_15 rfl ?_
    refine callVRo mX4_clipped 0 0 [] rfl rfl dL_areAlike_16 okc_X4_clipped ok_602 ⟨by decide, by decide⟩ rfl rfl rfl (oS_K g1) rfl (Nat.le_of_ble_eq_true rfl) (show _ + 0 ≤ 366 by omega) (show _ + 0 ≤ 2196 by omega) (o_clipped g1 ) hQ (fun y2 T2 g2 => ?_)
    refine WP_icmp_ne 92 dL_areAlike_19 (by decide) (fun hb => ?_) (fun hb => ?_)
    · exact J92 _ _ _ _ rfl rfl h2 g2
    · skip
      refine WP_aload_n dL_areAlike_22 rfl ?_
      refine callVLo mX4_root 0 0 [] rfl rfl dL_areAlike_23 okc_X4_root ok_578 ⟨by decide, by decide⟩ rfl rfl rfl (oS_K h2) rfl (Nat.le_of_ble_eq_true rfl) (show _ + 0 ≤ 366 by omega) (show _ + 0 ≤ 2196 by omega) (o_root h2 ) hQ (fun x3 S3 h3 => ?_)
      refine WP_aload_n dL_areAlike_26 rfl ?_
      refine callVRo mX4_root 0 0 [] rfl rfl dL_areAlike_27 okc_X4_root ok_578 ⟨by decide, by decide⟩ rfl rfl rfl (oS_K g2) rfl (Nat.le_of_ble_eq_true rfl) (show _ + 0 ≤ 366 by omega) (show _ + 0 ≤ 2196 by omega) (o_root g2 ) hQ (fun y3 T3 g3 => ?_)
      refine WP_icmp_ne 92 dL_areAlike_30 (by decide) (fun hb => ?_) (fun hb => ?_)
      · exact J92 _ _ _ _ rfl rfl h3 g3
      · skip
        refine WP_aload_n dL_areAlike_33 rfl ?_
        refine callVLo mX4_potential 0 0 [] rfl rfl dL_areAlike_34 okc_X4_potential ok_606 ⟨by decide, by decide⟩ rfl rfl rfl (oS_K h3) rfl (Nat.le_of_ble_eq_true rfl) (show _ + 0 ≤ 366 by omega) (show _ + 0 ≤ 2196 by omega) (o_potential h3 ) hQ (fun x4 S4 h4 => ?_)
        refine WP_aload_n dL_areAlike_37 rfl ?_
        refine callVRo mX4_potential 0 0 [] rfl rfl dL_areAlike_38 okc_X4_potential ok_606 ⟨by decide, by decide⟩ rfl rfl rfl (oS_K g3) rfl (Nat.le_of_ble_eq_true rfl) (show _ + 0 ≤ 366 by omega) (show _ + 0 ≤ 2196 by omega) (o_potential g3 ) hQ (fun y4 T4 g4 => ?_)
        refine WP_icmp_ne 92 dL_areAlike_41 (by decide) (fun hb => ?_) (fun hb => ?_)
        · exact J92 _ _ _ _ rfl rfl h4 g4
        · skip
          refine WP_aload_n dL_areAlike_44 rfl ?_
          refine callVLo mX4_lastSteps 0 0 [] rfl rfl dL_areAlike_45 okc_X4_lastSteps ok_108 ⟨by decide, by decide⟩ rfl rfl rfl (oS_K h4) rfl (Nat.le_of_ble_eq_true rfl) (show _ + 0 ≤ 366 by omega) (show _ + 0 ≤ 2196 by omega) (o_lastSteps h4 ) hQ (fun x5 S5 h5 => ?_)
          refine WP_aload_n dL_areAlike_48 rfl ?_
          refine callVRo mX4_lastSteps 0 0 [] rfl rfl dL_areAlike_49 okc_X4_lastSteps ok_108 ⟨by decide, by decide⟩ rfl rfl rfl (oS_K g4) rfl (Nat.le_of_ble_eq_true rfl) (show _ + 0 ≤ 366 by omega) (show _ + 0 ≤ 2196 by omega) (o_lastSteps g4 ) hQ (fun y5 T5 g5 => ?_)
          refine WP_icmp_ne 92 dL_areAlike_52 (by decide) (fun hb => ?_) (fun hb => ?_)
          · exact J92 _ _ _ _ rfl rfl h5 g5
          · skip
            refine WP_aload_n dL_areAlike_55 rfl ?_
            refine callVLo mX4_lastRotations 0 0 [] rfl rfl dL_areAlike_56 okc_X4_lastRotations ok_112 ⟨by decide, by decide⟩ rfl rfl rfl (oS_K h5) rfl (Nat.le_of_ble_eq_true rfl) (show _ + 0 ≤ 366 by omega) (show _ + 0 ≤ 2196 by omega) (o_lastRotations h5 ) hQ (fun x6 S6 h6 => ?_)
            refine WP_aload_n dL_areAlike_59 rfl ?_
            refine callVRo mX4_lastRotations 0 0 [] rfl rfl dL_areAlike_60 okc_X4_lastRotations ok_112 ⟨by decide, by decide⟩ rfl rfl rfl (oS_K g5) rfl (Nat.le_of_ble_eq_true rfl) (show _ + 0 ≤ 366 by omega) (show _ + 0 ≤ 2196 by omega) (o_lastRotations g5 ) hQ (fun y6 T6 g6 => ?_)
            refine WP_icmp_ne 92 dL_areAlike_63 (by decide) (fun hb => ?_) (fun hb => ?_)
            · exact J92 _ _ _ _ rfl rfl h6 g6
            · skip
              refine WP_aload_n dL_areAlike_66 rfl ?_
              refine callVLo mX4_steps 0 0 [] rfl rfl dL_areAlike_67 okc_X4_steps ok_116 ⟨by decide, by decide⟩ rfl rfl rfl (oS_K h6) rfl (Nat.le_of_ble_eq_true rfl) (show _ + 0 ≤ 366 by omega) (show _ + 0 ≤ 2196 by omega) (o_steps h6 ) hQ (fun x7 S7 h7 => ?_)
              refine WP_aload_n dL_areAlike_70 rfl ?_
              refine callVRo mX4_steps 0 0 [] rfl rfl dL_areAlike_71 okc_X4_steps ok_116 ⟨by decide, by decide⟩ rfl rfl rfl (oS_K g6) rfl (Nat.le_of_ble_eq_true rfl) (show _ + 0 ≤ 366 by omega) (show _ + 0 ≤ 2196 by omega) (o_steps g6 ) hQ (fun y7 T7 g7 => ?_)
              refine WP_icmp_ne 92 dL_areAlike_74 (by decide) (fun hb => ?_) (fun hb => ?_)
              · exact J92 _ _ _ _ rfl rfl h7 g7
              · skip
                refine WP_aload_n dL_areAlike_77 rfl ?_
                refine callVLe mX4_splays 0 0 [] rfl rfl dL_areAlike_78 okc_X4_splays ok_620 ⟨by decide, by decide⟩ rfl rfl rfl (oS_K h7) rfl (Nat.le_of_ble_eq_true rfl) (show _ + 0 ≤ 366 by omega) (show _ + 0 ≤ 2196 by omega) (x_splays h7 ) hQ (fun S8 h8 => ?_)
                refine WP_aload_n dL_areAlike_81 rfl ?_
                refine callVRe mX4_splays 0 0 [] rfl rfl dL_areAlike_82 okc_X4_splays ok_620 ⟨by decide, by decide⟩ rfl rfl rfl (oS_K g7) rfl (Nat.le_of_ble_eq_true rfl) (show _ + 0 ≤ 366 by omega) (show _ + 0 ≤ 2196 by omega) (x_splays g7 ) hQ (fun T8 g8 => ?_)
                refine WP_icmp_ne 92 dL_areAlike_85 (by decide) (fun hb => ?_) (fun hb => ?_)
                · exact J92 _ _ _ _ rfl rfl h8 g8
                · refine WP_iconst (1) dL_areAlike_88 (by decide) ?_
                  refine WP_goto 93 dL_areAlike_89 (by decide) ?_
                  exact J93 _ _ _ _ _ (Or.inr ⟨rfl, hb⟩) rfl rfl h8 g8
end ALK
