/-! ===== the law's loop: what one event does ===== -/
section GRW
variable {G : GC} {L L' : List Nat} {K K' AN AN' : Nat → Nat} {R0 R0' Rc : Nat → Nat → Option Nat} {Ic AIc Im AIm : Nat → Nat → Int32} {AR : Nat → Nat → Option Nat} {AL : Nat → Nat → Int64} {E W : Nat → Nat} {A : AB}
theorem gk {b kd : Nat} (hg : ∀ a ∈ L, a ∈ L' ∧ K' a = K a) (h : b ∈ L ∧ K b = kd) : b ∈ L' ∧ K' b = kd := ⟨(hg b h.1).1, (hg b h.1).2.trans h.2⟩
theorem cT_gr {t : Tr} (hg : ∀ a ∈ L, a ∈ L' ∧ K' a = K a) (h : cT L K Rc Ic t) : cT L' K' Rc Ic t := ⟨h.1, gN_congr t (fun a i v s hm hp => ⟨gk hg hp.1, hp.2⟩) h.2⟩
theorem cI_grow (hg : ∀ a ∈ L, a ∈ L' ∧ K' a = K a) (hN : ∀ a ∈ L, AN' a = AN a) (hR : ∀ a ∈ L, ∀ j, j < 9 → R0' j a = R0 j a) (hI : cI E L K AN R0 Rc Ic AIc AR A) : cI E L' K' AN' R0' Rc Ic AIc AR A := by
  obtain ⟨⟨a0, ⟨r1, r2, r3, r4, r5, r6, r7, r8⟩, ⟨a2, a3, a4, a5⟩, a6, ⟨a7, a8⟩, ⟨b1, b2, b3, b4⟩, ⟨b5, b6, b7, b8⟩, b9⟩, ⟨hF, hw⟩, h⟩ := hI
  refine ⟨⟨gk hg a0, ⟨?_, ?_, ?_, ?_, ?_, ?_, ?_, ?_⟩, ⟨gk hg a2, gk hg a3, gk hg a4, gk hg a5⟩, gk hg a6, ⟨gk hg a7, (hN _ a7.1).trans a8⟩, ⟨gk hg b1, gk hg b2, (hR _ b1.1 0 (by decide)).trans b3, (hN _ b2.1).trans b4⟩, ⟨gk hg b5, gk hg b6, (hR _ b5.1 0 (by decide)).trans b7, (hN _ b6.1).trans b8⟩, b9⟩, ⟨⟨fun t ht => cT_gr hg (hF.1 t ht), hF.2⟩, hw⟩, h⟩
  all_goals (rw [hR _ a0.1 _ (by decide)]; assumption)
/-- one list of cells as two objects' worlds -/
theorem split_HH {L1 L2 : List Nat} {Rc : Nat → Nat → Option Nat} {H : Heap} (h : HH G (mkS (L1 ++ L2) K AN R0 Rc Ic AIc AR Im AIm AL) H) : HH G (joinS (mkS L1 K AN R0 Rc Ic AIc AR Im AIm AL) (mkS L2 K AN R0 Rc Ic AIc AR Im AIm AL)) H := by
  rw [HH_iff] at h ⊢
  obtain ⟨h1, h2, h3⟩ := h
  refine ⟨fun a ha => ?_, h2, h3⟩
  have h9 := h1 a ha
  by_cases hT : a ∈ L2
  · rw [cE_jr (S := mkS L1 K AN R0 Rc Ic AIc AR Im AIm AL) (T := mkS L2 K AN R0 Rc Ic AIc AR Im AIm AL) _ hT]
    exact h9
  · rw [cE_jl (S := mkS L1 K AN R0 Rc Ic AIc AR Im AIm AL) (T := mkS L2 K AN R0 Rc Ic AIc AR Im AIm AL) _ hT]
    exact h9
end GRW
section ROW
variable {G : GC} {M : MD} {Q : RS → SS → Prop} {k n pc : Nat} {lv : List (Nat × VV)} {st rest : List VV} {S T : SS} {E F : Nat → Nat} {A B : AB}
theorem callSLi (Z : MD) (c s : Nat) {na idx : Nat} (As : List VV) {p : Int32 → SS → Prop} (hcz : Z.2.2.2.2.2.2.1 = c) (hsz : Z.2.2.2.2.2.2.2 = s) (dg : decode M.2.1 pc = .ok (.invokestatic idx, 3)) (hz : okS Z na) (htz : Z.2.2.2.2.1 = []) (hl9 : okw (.methodLink M.1.cls idx Z.1)) (hR : okR M Z) (htb : M.2.2.2.2.1 = [])
    (hst : st = As.reverse ++ rest) (hn : As.length = na) (hrest : argsSz rest ≤ 8) (hc : k + c ≤ M.2.2.2.2.2.2.1) (hsl : n + s ≤ M.2.2.2.2.2.2.2)
    (hM : MT (wT G T) Z As S (rI p)) (hq : ∀ X S', Q (.inr X) S')
    (kret : ∀ (x : Int32) (S' : SS), p x S' → WP G M Q (k + c) (n + s) (pc + 3) lv (vi x :: rest) (joinS S' T)) : WP G M Q k n pc lv st (joinS S T) :=
  callSL Z c s hcz hsz dg hz htz hl9 hR htb hst hn hrest hc hsl hM hq (fun v S' h => by obtain ⟨x, h1, h2⟩ := h; cases h1; exact kret x S' h2)
theorem callSRi (Z : MD) (c s : Nat) {na idx : Nat} (As : List VV) {p : Int32 → SS → Prop} (hcz : Z.2.2.2.2.2.2.1 = c) (hsz : Z.2.2.2.2.2.2.2 = s) (dg : decode M.2.1 pc = .ok (.invokestatic idx, 3)) (hz : okS Z na) (htz : Z.2.2.2.2.1 = []) (hl9 : okw (.methodLink M.1.cls idx Z.1)) (hR : okR M Z) (htb : M.2.2.2.2.1 = [])
    (hst : st = As.reverse ++ rest) (hn : As.length = na) (hrest : argsSz rest ≤ 8) (hc : k + c ≤ M.2.2.2.2.2.2.1) (hsl : n + s ≤ M.2.2.2.2.2.2.2)
    (hM : MT (wT G S) Z As T (rI p)) (hq : ∀ X S', Q (.inr X) S')
    (kret : ∀ (x : Int32) (S' : SS), p x S' → WP G M Q (k + c) (n + s) (pc + 3) lv (vi x :: rest) (joinS S S')) : WP G M Q k n pc lv st (joinS S T) :=
  callSR Z c s hcz hsz dg hz htz hl9 hR htb hst hn hrest hc hsl hM hq (fun v S' h => by obtain ⟨x, h1, h2⟩ := h; cases h1; exact kret x S' h2)
end ROW
section EVT
variable {G : GC} {Q : RS → SS → Prop} {Ln : Nat} {xs : Nat → Int32} {E F : Nat → Nat}
abbrev lwl (G : GC) (E F : Nat → Nat) (j : Nat) : List (Nat × VV) := [(0, vr (some G.2.2.2.2.1)), (1, vr (some (E 0))), (2, vr (some (F 0))), (3, vi (nI j))]
/-- what act makes of one object whose picture keeps I: the answer told, and I' -/
def actC (v told : Int32) (I I' : AB → Prop) : Prop := ∀ (G : GC) (E : Nat → Nat) (A : AB) (S : SS), oS E A S → I A → MT G mL_act [vr (some (E 0)), vi v] S (rI (fun x S' => x = told ∧ ∃ A', oS E A' S' ∧ I' A'))
theorem law_125 {lv : List (Nat × VV)} {k n : Nat} {S : SS} (h0 : ∀ S', Q (.inl (some (vi 0))) S') (hk : k ≤ 639879) (hn : n ≤ 7181832) : WP G mL_law Q k n 125 lv [] S := by
  refine WP_iconst (0) dL_law_125 (by decide) ?_
  exact WP_ireturn dL_law_126 rfl rfl hk hn (h0 _)
/-- from the call of areAlike on -/
theorem law_end {j : Nat} {A B : AB} {S T : SS} {k n : Nat} {v x5 told : Int32} (hQ : ∀ X S', Q (.inr X) S') (h0 : ∀ S', Q (.inl (some (vi 0))) S') (hj : j < 60) (hS : oS E A S) (hT : oS F B T) (hk : k + 2000 ≤ 639879) (hn : n + 12000 ≤ 7181832)
    (kk : ∀ (S' T' : SS) (k' n' : Nat), spC A = spC B → oS E A S' → oS F B T' → k' ≤ k + 2000 → n' ≤ n + 12000 → WP G mL_law Q k' n' 18 (lwl G E F (j + 1)) [] (joinS S' T')) :
    WP G mL_law Q k n 79 [(0, vr (some G.2.2.2.2.1)), (1, vr (some (E 0))), (2, vr (some (F 0))), (3, vi (nI j)), (4, vi v), (5, vi x5), (6, vi told)] [] (joinS S T) := by
  have J127 : ∀ (S' T' : SS) (k' n' : Nat), spC A = spC B → oS E A S' → oS F B T' → k' ≤ k + 2000 → n' ≤ n + 12000 → WP G mL_law Q k' n' 127 [(0, vr (some G.2.2.2.2.1)), (1, vr (some (E 0))), (2, vr (some (F 0))), (3, vi (nI j)), (4, vi v), (5, vi x5), (6, vi told)] [] (joinS S' T') := by
    intro S' T' k' n' h1 h2 h3 h4 h5
    refine WP_iinc (nI (j + 1)) dL_law_127 rfl (nI_1 _) (by decide) rfl ?_
    refine WP_goto 18 dL_law_130 (by decide) ?_
    refine WP_lv (lwl G E F (j + 1)) (List.forall_mem_cons.mpr ⟨rfl, List.forall_mem_cons.mpr ⟨rfl, List.forall_mem_cons.mpr ⟨rfl, List.forall_mem_cons.mpr ⟨rfl, fun _ h => absurd h List.not_mem_nil⟩⟩⟩⟩) ?_
    exact kk S' T' k' n' h1 h2 h3 h4 h5
  refine WP_aload_n dL_law_79 rfl ?_
  refine callVLo mX4_lastRotations 0 0 [] rfl rfl dL_law_80 okc_X4_lastRotations ok_112 ⟨by decide, by decide⟩ rfl rfl rfl (oS_K hS) rfl (Nat.le_of_ble_eq_true rfl) (show _ + 0 ≤ 639879 by omega) (show _ + 0 ≤ 7181832 by omega) (o_lastRotations hS ) hQ (fun x1 S1 h1 => ?_)
  refine WP_iconst (2) dL_law_83 (by decide) ?_
  refine WP_aload_n dL_law_84 rfl ?_
  refine callVLo mX4_lastSteps 0 0 [] rfl rfl dL_law_85 okc_X4_lastSteps ok_108 ⟨by decide, by decide⟩ rfl rfl rfl (oS_K h1) rfl (Nat.le_of_ble_eq_true rfl) (show _ + 0 ≤ 639879 by omega) (show _ + 0 ≤ 7181832 by omega) (o_lastSteps h1 ) hQ (fun x2 S2 h2 => ?_)
  refine WP_imul dL_law_88 ?_
  refine WP_icmp_gt 125 dL_law_89 (by decide) (fun hb => ?_) (fun hb => ?_)
  · exact law_125 h0 (by omega) (by omega)
  · refine WP_aload_n dL_law_92 rfl ?_
    refine callVLo mX4_lastRotations 0 0 [] rfl rfl dL_law_93 okc_X4_lastRotations ok_112 ⟨by decide, by decide⟩ rfl rfl rfl (oS_K h2) rfl (Nat.le_of_ble_eq_true rfl) (show _ + 0 ≤ 639879 by omega) (show _ + 0 ≤ 7181832 by omega) (o_lastRotations h2 ) hQ (fun x3 S3 h3 => ?_)
    refine WP_aload_n dL_law_96 rfl ?_
    refine callVLo mX4_lastSteps 0 0 [] rfl rfl dL_law_97 okc_X4_lastSteps ok_108 ⟨by decide, by decide⟩ rfl rfl rfl (oS_K h3) rfl (Nat.le_of_ble_eq_true rfl) (show _ + 0 ≤ 639879 by omega) (show _ + 0 ≤ 7181832 by omega) (o_lastSteps h3 ) hQ (fun x4 S4 h4 => ?_)
    refine WP_icmp_lt 125 dL_law_100 (by decide) (fun hb => ?_) (fun hb => ?_)
    · exact law_125 h0 (by omega) (by omega)
    · refine WP_aload_n dL_law_103 rfl ?_
      refine WP_aload_n dL_law_104 rfl ?_
      refine callSq mL_areAlike 366 2196 rfl rfl dL_law_105 okc_L_areAlike rfl ok_617 ⟨by decide, by decide⟩ rfl (As := [_, _]) rfl rfl (Nat.le_of_ble_eq_true rfl) (show _ + 366 ≤ 639879 by omega) (show _ + 2196 ≤ 7181832 by omega) (l_areAlike h4 hT) hQ (fun v9 S9 hq => ?_)
      rcases hq with ⟨x, S5, T5, e9, rfl, h5, g5, hsp⟩ | ⟨X, e9⟩
      · cases e9
        refine WP_if_eq 125 dL_law_108 (by decide) (fun hb => ?_) (fun hb => ?_)
        · exact law_125 h0 (by omega) (by omega)
        · refine WP_iload_n dL_law_111 rfl ?_
          refine WP_iconst (3) dL_law_112 (by decide) ?_
          refine WP_irem _ dL_law_113 (by decide) rfl ?_
          refine WP_iconst (2) dL_law_114 (by decide) ?_
          refine WP_icmp_ne 127 dL_law_115 (by decide) (fun hb9 => ?_) (fun hb9 => ?_)
          · exact J127 _ _ _ _ (hsp hb) h5 g5 (by omega) (by omega)
          · refine WP_aload_n dL_law_118 rfl ?_
            refine callSLo mL_isTreeSo 1464 8784 [_] (by decide +kernel) (by decide +kernel) dL_law_119 okc_L_isTreeSo rfl ok_545 ⟨by decide, by decide⟩ rfl rfl rfl (Nat.le_of_ble_eq_true rfl) (show _ + 1464 ≤ 639879 by omega) (show _ + 8784 ≤ 7181832 by omega) (l_isTreeSo h5 ) hQ (fun x6 S6 h6 => ?_)
            refine WP_if_ne 127 dL_law_122 (by decide) (fun hb9 => ?_) (fun hb9 => ?_)
            · exact J127 _ _ _ _ (hsp hb) h6 g5 (by omega) (by omega)
            · exact law_125 h0 (by omega) (by omega)
      · cases e9
theorem law_head {j : Nat} {v told : Int32} {I I' : AB → Prop} {A B : AB} {S T : SS} {k n : Nat} (hX : scX G Ln xs) (hLn : Ln < 2 ^ 31) (hQ : ∀ X S', Q (.inr X) S') (hj : j < Ln) (hj60 : j < 60) (hv : xs j = v) (hact : actC v told I I') (hA : I A) (hS : oS E A S) (hT : oS F B T) (hk : k + 24 ≤ 639879) (hn : n + 143 ≤ 7181832)
    (kk : ∀ (A' : AB) (S' T' : SS) (x5 : Int32), I' A' → oS E A' S' → oS F B T' → WP G mL_law Q (k + 24) (n + 143) 45 [(0, vr (some G.2.2.2.2.1)), (1, vr (some (E 0))), (2, vr (some (F 0))), (3, vi (nI j)), (4, vi v), (5, vi x5), (6, vi told)] [] (joinS S' T')) :
    WP G mL_law Q k n 18 (lwl G E F j) [] (joinS S T) := by
  refine WP_iload_n dL_law_18 rfl ?_
  refine WP_bipush (60) dL_law_19 (by decide) ?_
  refine WP_icmp_ge 133 dL_law_21 (by decide) (fun hb => absurd hb (nI_ge (a := j) (b := 60) hj60 (by decide))) (fun _ => ?_)
  refine WP_aload_n dL_law_24 rfl ?_
  refine WP_iload_n dL_law_25 rfl ?_
  refine callSq mL_cell 0 0 rfl rfl dL_law_26 okc_L_cell rfl ok_120 ⟨by decide, by decide⟩ rfl (As := [_, _]) rfl rfl (Nat.le_of_ble_eq_true rfl) (show _ + 0 ≤ 639879 by omega) (show _ + 0 ≤ 7181832 by omega) (l_cell hX hj hLn) hQ (fun v9 S9 hq => ?_)
  obtain ⟨x, e9, rfl, rfl⟩ := hq
  cases e9
  rw [hv]
  refine WP_istore dL_law_29 (by decide) rfl ?_
  refine WP_aload_n dL_law_31 rfl ?_
  refine callVLo mX4_steps 0 0 [] rfl rfl dL_law_32 okc_X4_steps ok_116 ⟨by decide, by decide⟩ rfl rfl rfl (oS_K hS) rfl (Nat.le_of_ble_eq_true rfl) (show _ + 0 ≤ 639879 by omega) (show _ + 0 ≤ 7181832 by omega) (o_steps hS ) hQ (fun x5 S1 h1 => ?_)
  refine WP_istore dL_law_35 (by decide) rfl ?_
  refine WP_aload_n dL_law_37 rfl ?_
  refine WP_iload dL_law_38 rfl ?_
  refine callSLi mL_act 24 143 [_, _] (by decide +kernel) (by decide +kernel) dL_law_40 okc_L_act rfl ok_123 ⟨by decide, by decide⟩ rfl rfl rfl (Nat.le_of_ble_eq_true rfl) (show _ + 24 ≤ 639879 by omega) (show _ + 143 ≤ 7181832 by omega) (hact  _ _ _ _ h1 hA) hQ (fun x6 S2 h2 => ?_)
  obtain ⟨rfl, A', h2, hI'⟩ := h2
  refine WP_istore dL_law_43 (by decide) rfl ?_
  refine WP_lv [(0, vr (some G.2.2.2.2.1)), (1, vr (some (E 0))), (2, vr (some (F 0))), (3, vi (nI j)), (4, vi v), (5, vi x5), (6, vi x6)] (List.forall_mem_cons.mpr ⟨rfl, List.forall_mem_cons.mpr ⟨rfl, List.forall_mem_cons.mpr ⟨rfl, List.forall_mem_cons.mpr ⟨rfl, List.forall_mem_cons.mpr ⟨rfl, List.forall_mem_cons.mpr ⟨rfl, List.forall_mem_cons.mpr ⟨rfl, fun _ h9 => absurd h9 List.not_mem_nil⟩⟩⟩⟩⟩⟩⟩) ?_
  exact kk A' S2 T x5 hI' h2 hT
/-- an event that doesn't answer -99999: either the law says no, or both have come on -/
theorem law_step {j : Nat} {v told : Int32} {I I' : AB → Prop} {A B : AB} {S T : SS} {k n : Nat} (hX : scX G Ln xs) (hLn : Ln < 2 ^ 31) (hQ : ∀ X S', Q (.inr X) S') (h0 : ∀ S', Q (.inl (some (vi 0))) S') (hj : j < Ln) (hj60 : j < 60) (hv : xs j = v) (hact : actC v told I I') (hne : ¬ told = -99999) (hA : I A) (hB : I B) (hS : oS E A S) (hT : oS F B T) (hk : k + 2100 ≤ 639879) (hn : n + 12500 ≤ 7181832)
    (kk : ∀ (A' B' : AB) (S' T' : SS) (k' n' : Nat), I' A' → I' B' → spC A' = spC B' → oS E A' S' → oS F B' T' → k' ≤ k + 2100 → n' ≤ n + 12500 → WP G mL_law Q k' n' 18 (lwl G E F (j + 1)) [] (joinS S' T')) :
    WP G mL_law Q k n 18 (lwl G E F j) [] (joinS S T) := by
  refine law_head hX hLn hQ hj hj60 hv hact hA hS hT (by omega) (by omega) (fun A' S1 T1 x5 hI' h1 g1 => ?_)
  have J77 : ∀ (k' n' : Nat) (lv : List (Nat × VV)) (S' : SS), k' ≤ 639879 → n' ≤ 7181832 → WP G mL_law Q k' n' 77 lv [] S' := by
    intro k' n' lv S' hk' hn'
    refine WP_iconst (0) dL_law_77 (by decide) ?_
    exact WP_ireturn dL_law_78 rfl rfl hk' hn' (h0 _)
  refine WP_iload dL_law_45 rfl ?_
  refine WP_ldc dL_law_47 ck_16 ?_
  refine WP_icmp_eq 79 dL_law_49 (by decide) (fun hb => absurd hb hne) (fun _ => ?_)
  refine WP_aload_n dL_law_52 rfl ?_
  refine callVLo mX4_steps 0 0 [] rfl rfl dL_law_53 okc_X4_steps ok_116 ⟨by decide, by decide⟩ rfl rfl rfl (oS_K h1) rfl (Nat.le_of_ble_eq_true rfl) (show _ + 0 ≤ 639879 by omega) (show _ + 0 ≤ 7181832 by omega) (o_steps h1 ) hQ (fun x1 S2 h2 => ?_)
  refine WP_iload dL_law_56 rfl ?_
  refine WP_aload_n dL_law_58 rfl ?_
  refine callVLo mX4_lastSteps 0 0 [] rfl rfl dL_law_59 okc_X4_lastSteps ok_108 ⟨by decide, by decide⟩ rfl rfl rfl (oS_K h2) rfl (Nat.le_of_ble_eq_true rfl) (show _ + 0 ≤ 639879 by omega) (show _ + 0 ≤ 7181832 by omega) (o_lastSteps h2 ) hQ (fun x2 S3 h3 => ?_)
  refine WP_iadd dL_law_62 ?_
  refine WP_icmp_ne 77 dL_law_63 (by decide) (fun hb => ?_) (fun hb => ?_)
  · exact J77 _ _ _ _ (by omega) (by omega)
  · refine WP_aload_n dL_law_66 rfl ?_
    refine WP_iload dL_law_67 rfl ?_
    refine callSRi mL_act 24 143 [_, _] (by decide +kernel) (by decide +kernel) dL_law_69 okc_L_act rfl ok_123 ⟨by decide, by decide⟩ rfl rfl rfl (Nat.le_of_ble_eq_true rfl) (show _ + 24 ≤ 639879 by omega) (show _ + 143 ≤ 7181832 by omega) (hact  _ _ _ _ g1 hB) hQ (fun x3 T2 h4 => ?_)
    obtain ⟨rfl, B', g2, hJ'⟩ := h4
    refine WP_iload dL_law_72 rfl ?_
    refine WP_icmp_eq 79 dL_law_74 (by decide) (fun _ => ?_) (fun hb => absurd hb (fun h => h rfl))
    exact law_end hQ h0 hj60 h3 g2 (by omega) (by omega) (fun S' T' k' n' hsp q1 q2 q3 q4 => kk A' B' S' T' k' n' hI' hJ' hsp q1 q2 (by omega) (by omega))
/-- the event that answers -99999 -/
theorem law_last {j : Nat} {v : Int32} {I : AB → Prop} {A B : AB} {S T : SS} {k n : Nat} (hX : scX G Ln xs) (hLn : Ln < 2 ^ 31) (hQ : ∀ X S', Q (.inr X) S') (h0 : ∀ S', Q (.inl (some (vi 0))) S') (hj : j < Ln) (hj60 : j < 60) (hv : xs j = v) (hact : actC v (-99999) I (fun A' => spC A' = spC A + 2)) (hA : I A) (hsp : spC A = spC B) (hS : oS E A S) (hT : oS F B T) (hk : k + 2100 ≤ 639879) (hn : n + 12500 ≤ 7181832) :
    WP G mL_law Q k n 18 (lwl G E F j) [] (joinS S T) := by
  refine law_head hX hLn hQ hj hj60 hv hact hA hS hT (by omega) (by omega) (fun A' S1 T1 x5 hI' h1 g1 => ?_)
  refine WP_iload dL_law_45 rfl ?_
  refine WP_ldc dL_law_47 ck_16 ?_
  refine WP_icmp_eq 79 dL_law_49 (by decide) (fun _ => ?_) (fun hb => absurd hb (fun h => h rfl))
  refine law_end hQ h0 hj60 h1 g1 (by omega) (by omega) (fun S' T' k' n' hs9 _ _ _ _ => ?_)
  exfalso
  rw [hI', hsp] at hs9
  have h9 := congrArg (fun z => z - spC B) hs9
  simp only [Int32.sub_self] at h9
  rw [Int32.add_comm, Int32.add_sub_cancel] at h9
  exact absurd h9 (by decide)
end EVT
