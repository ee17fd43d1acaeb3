/-! ===== calls whose answers are left open ===== -/
section OPN
variable {G : GC} {M : MD} {Q : RS → SS → Prop} {k n pc : Nat} {lv : List (Nat × VV)} {st rest : List VV} {S T : SS} {E F : Nat → Nat} {A B : AB}
theorem qA_ret {v : Option VV} {S' : SS} {P : Prop} (h : qA E A (.inl v) S') (hk : ∀ x : Int32, v = some (vi x) → oS E A S' → P) : P := by
  rcases h with ⟨x, h1, h2⟩ | ⟨X, h1⟩
  · exact hk x (Sum.inl.inj h1) h2
  · cases h1
theorem callVo (Z : MD) (c s : Nat) {ci na idx a : Nat} (As : List VV) {o : Option Nat} (hcz : Z.2.2.2.2.2.2.1 = c) (hsz : Z.2.2.2.2.2.2.2 = s) (dg : decode M.2.1 pc = .ok (.invokevirtual idx, 3)) (hz : okV Z ci na) (hl9 : okw (.methodLink M.1.cls idx Z.1)) (hR : okR M Z) (htb : M.2.2.2.2.1 = [])
    (hst : st = As.reverse ++ vr o :: rest) (ho : o = some a) (hk : isK S ci a) (hn : As.length = na) (hrest : argsSz rest ≤ 8) (hc : k + c ≤ M.2.2.2.2.2.2.1) (hsl : n + s ≤ M.2.2.2.2.2.2.2)
    (hM : MT G Z (vr (some a) :: As) S (qA E A)) (hq : ∀ X S', Q (.inr X) S')
    (kret : ∀ (x : Int32) (S' : SS), oS E A S' → WP G M Q (k + c) (n + s) (pc + 3) lv (vi x :: rest) S') : WP G M Q k n pc lv st S :=
  callVq Z c s As hcz hsz dg hz hl9 hR htb hst ho hk hn hrest hc hsl hM hq (fun v S' h => qA_ret h (fun x e h2 => by rw [e]; exact kret x S' h2))
theorem callVLo (Z : MD) (c s : Nat) {ci na idx a : Nat} (As : List VV) {o : Option Nat} (hcz : Z.2.2.2.2.2.2.1 = c) (hsz : Z.2.2.2.2.2.2.2 = s) (dg : decode M.2.1 pc = .ok (.invokevirtual idx, 3)) (hz : okV Z ci na) (hl9 : okw (.methodLink M.1.cls idx Z.1)) (hR : okR M Z) (htb : M.2.2.2.2.1 = [])
    (hst : st = As.reverse ++ vr o :: rest) (ho : o = some a) (hk : isK S ci a) (hn : As.length = na) (hrest : argsSz rest ≤ 8) (hc : k + c ≤ M.2.2.2.2.2.2.1) (hsl : n + s ≤ M.2.2.2.2.2.2.2)
    (hM : MT (wT G T) Z (vr (some a) :: As) S (qA E A)) (hq : ∀ X S', Q (.inr X) S')
    (kret : ∀ (x : Int32) (S' : SS), oS E A S' → WP G M Q (k + c) (n + s) (pc + 3) lv (vi x :: rest) (joinS S' T)) : WP G M Q k n pc lv st (joinS S T) :=
  callVL Z c s As hcz hsz dg hz hl9 hR htb hst ho hk hn hrest hc hsl hM hq (fun v S' h => qA_ret h (fun x e h2 => by rw [e]; exact kret x S' h2))
theorem callVRo (Z : MD) (c s : Nat) {ci na idx a : Nat} (As : List VV) {o : Option Nat} (hcz : Z.2.2.2.2.2.2.1 = c) (hsz : Z.2.2.2.2.2.2.2 = s) (dg : decode M.2.1 pc = .ok (.invokevirtual idx, 3)) (hz : okV Z ci na) (hl9 : okw (.methodLink M.1.cls idx Z.1)) (hR : okR M Z) (htb : M.2.2.2.2.1 = [])
    (hst : st = As.reverse ++ vr o :: rest) (ho : o = some a) (hk : isK T ci a) (hn : As.length = na) (hrest : argsSz rest ≤ 8) (hc : k + c ≤ M.2.2.2.2.2.2.1) (hsl : n + s ≤ M.2.2.2.2.2.2.2)
    (hM : MT (wT G S) Z (vr (some a) :: As) T (qA F B)) (hq : ∀ X S', Q (.inr X) S')
    (kret : ∀ (x : Int32) (S' : SS), oS F B S' → WP G M Q (k + c) (n + s) (pc + 3) lv (vi x :: rest) (joinS S S')) : WP G M Q k n pc lv st (joinS S T) :=
  callVR Z c s As hcz hsz dg hz hl9 hR htb hst ho hk hn hrest hc hsl hM hq (fun v S' h => qA_ret h (fun x e h2 => by rw [e]; exact kret x S' h2))
theorem callSo (Z : MD) (c s : Nat) {na idx : Nat} (As : List VV) (hcz : Z.2.2.2.2.2.2.1 = c) (hsz : Z.2.2.2.2.2.2.2 = s) (dg : decode M.2.1 pc = .ok (.invokestatic idx, 3)) (hz : okS Z na) (htz : Z.2.2.2.2.1 = []) (hl9 : okw (.methodLink M.1.cls idx Z.1)) (hR : okR M Z) (htb : M.2.2.2.2.1 = [])
    (hst : st = As.reverse ++ rest) (hn : As.length = na) (hrest : argsSz rest ≤ 8) (hc : k + c ≤ M.2.2.2.2.2.2.1) (hsl : n + s ≤ M.2.2.2.2.2.2.2)
    (hM : MT G Z As S (qA E A)) (hq : ∀ X S', Q (.inr X) S')
    (kret : ∀ (x : Int32) (S' : SS), oS E A S' → WP G M Q (k + c) (n + s) (pc + 3) lv (vi x :: rest) S') : WP G M Q k n pc lv st S :=
  callSq Z c s hcz hsz dg hz htz hl9 hR htb hst hn hrest hc hsl hM hq (fun v S' h => qA_ret h (fun x e h2 => by rw [e]; exact kret x S' h2))
theorem callSLo (Z : MD) (c s : Nat) {na idx : Nat} (As : List VV) (hcz : Z.2.2.2.2.2.2.1 = c) (hsz : Z.2.2.2.2.2.2.2 = s) (dg : decode M.2.1 pc = .ok (.invokestatic idx, 3)) (hz : okS Z na) (htz : Z.2.2.2.2.1 = []) (hl9 : okw (.methodLink M.1.cls idx Z.1)) (hR : okR M Z) (htb : M.2.2.2.2.1 = [])
    (hst : st = As.reverse ++ rest) (hn : As.length = na) (hrest : argsSz rest ≤ 8) (hc : k + c ≤ M.2.2.2.2.2.2.1) (hsl : n + s ≤ M.2.2.2.2.2.2.2)
    (hM : MT (wT G T) Z As S (qA E A)) (hq : ∀ X S', Q (.inr X) S')
    (kret : ∀ (x : Int32) (S' : SS), oS E A S' → WP G M Q (k + c) (n + s) (pc + 3) lv (vi x :: rest) (joinS S' T)) : WP G M Q k n pc lv st (joinS S T) :=
  callSL Z c s hcz hsz dg hz htz hl9 hR htb hst hn hrest hc hsl hM hq (fun v S' h => qA_ret h (fun x e h2 => by rw [e]; exact kret x S' h2))
/-! .. whose answer is known -/
theorem callVe (Z : MD) (c s : Nat) {ci na idx a : Nat} (As : List VV) {o : Option Nat} {v : Int32} (hcz : Z.2.2.2.2.2.2.1 = c) (hsz : Z.2.2.2.2.2.2.2 = s) (dg : decode M.2.1 pc = .ok (.invokevirtual idx, 3)) (hz : okV Z ci na) (hl9 : okw (.methodLink M.1.cls idx Z.1)) (hR : okR M Z) (htb : M.2.2.2.2.1 = [])
    (hst : st = As.reverse ++ vr o :: rest) (ho : o = some a) (hk : isK S ci a) (hn : As.length = na) (hrest : argsSz rest ≤ 8) (hc : k + c ≤ M.2.2.2.2.2.2.1) (hsl : n + s ≤ M.2.2.2.2.2.2.2)
    (hM : MT G Z (vr (some a) :: As) S (rI (fun x S' => x = v ∧ oS E A S'))) (hq : ∀ X S', Q (.inr X) S')
    (kret : ∀ (S' : SS), oS E A S' → WP G M Q (k + c) (n + s) (pc + 3) lv (vi v :: rest) S') : WP G M Q k n pc lv st S :=
  callVq Z c s As hcz hsz dg hz hl9 hR htb hst ho hk hn hrest hc hsl hM hq (fun v S' h => by obtain ⟨x, h1, rfl, h2⟩ := h; cases h1; exact kret S' h2)
theorem callVLe (Z : MD) (c s : Nat) {ci na idx a : Nat} (As : List VV) {o : Option Nat} {v : Int32} (hcz : Z.2.2.2.2.2.2.1 = c) (hsz : Z.2.2.2.2.2.2.2 = s) (dg : decode M.2.1 pc = .ok (.invokevirtual idx, 3)) (hz : okV Z ci na) (hl9 : okw (.methodLink M.1.cls idx Z.1)) (hR : okR M Z) (htb : M.2.2.2.2.1 = [])
    (hst : st = As.reverse ++ vr o :: rest) (ho : o = some a) (hk : isK S ci a) (hn : As.length = na) (hrest : argsSz rest ≤ 8) (hc : k + c ≤ M.2.2.2.2.2.2.1) (hsl : n + s ≤ M.2.2.2.2.2.2.2)
    (hM : MT (wT G T) Z (vr (some a) :: As) S (rI (fun x S' => x = v ∧ oS E A S'))) (hq : ∀ X S', Q (.inr X) S')
    (kret : ∀ (S' : SS), oS E A S' → WP G M Q (k + c) (n + s) (pc + 3) lv (vi v :: rest) (joinS S' T)) : WP G M Q k n pc lv st (joinS S T) :=
  callVL Z c s As hcz hsz dg hz hl9 hR htb hst ho hk hn hrest hc hsl hM hq (fun v S' h => by obtain ⟨x, h1, rfl, h2⟩ := h; cases h1; exact kret S' h2)
theorem callVRe (Z : MD) (c s : Nat) {ci na idx a : Nat} (As : List VV) {o : Option Nat} {v : Int32} (hcz : Z.2.2.2.2.2.2.1 = c) (hsz : Z.2.2.2.2.2.2.2 = s) (dg : decode M.2.1 pc = .ok (.invokevirtual idx, 3)) (hz : okV Z ci na) (hl9 : okw (.methodLink M.1.cls idx Z.1)) (hR : okR M Z) (htb : M.2.2.2.2.1 = [])
    (hst : st = As.reverse ++ vr o :: rest) (ho : o = some a) (hk : isK T ci a) (hn : As.length = na) (hrest : argsSz rest ≤ 8) (hc : k + c ≤ M.2.2.2.2.2.2.1) (hsl : n + s ≤ M.2.2.2.2.2.2.2)
    (hM : MT (wT G S) Z (vr (some a) :: As) T (rI (fun x S' => x = v ∧ oS F B S'))) (hq : ∀ X S', Q (.inr X) S')
    (kret : ∀ (S' : SS), oS F B S' → WP G M Q (k + c) (n + s) (pc + 3) lv (vi v :: rest) (joinS S S')) : WP G M Q k n pc lv st (joinS S T) :=
  callVR Z c s As hcz hsz dg hz hl9 hR htb hst ho hk hn hrest hc hsl hM hq (fun v S' h => by obtain ⟨x, h1, rfl, h2⟩ := h; cases h1; exact kret S' h2)
/-! a subtree's size is at most 60 -/
def qB (E : Nat → Nat) (A : AB) : RS → SS → Prop := fun r S' => (∃ z : Nat, z ≤ 60 ∧ r = .inl (some (vi (nI z))) ∧ oS E A S') ∨ ∃ X : String, r = .inr X
theorem zat_le {t : Tr} {k : Nat} (hk : k < tsz t) : tsz (zat t k []).1 ≤ tsz t := by
  obtain ⟨fs, a, i, v, l, r, e1, e2, -⟩ := at_zip hk
  rw [e1]
  show tsz (nd a i v l r) ≤ tsz t
  rw [e2, ← io_len, ← io_len, io_plug]
  simp only [List.length_append]
  omega
theorem x_subtree (hS : oS E A S) (x : Int32) : MT G mX4_subtree [vr (some (E 0)), vi x] S (qB E A) := by
  have h60 := oS_sz hS
  obtain ⟨L, K, AN, R0, Rc, Ic, AIc, AR, Im, AIm, AL, rfl, hI⟩ := hS
  refine (k_subtree (t := A.1) (c := A.2.1) (fg := A.2.2.1) (n := A.2.2.2) x hI).imp (fun r S' hr => ?_)
  obtain ⟨h1, ⟨h0, h2⟩ | ⟨ex, -, -, h2⟩⟩ := hr
  · by_cases hx : inP (tsz A.1) x
    · obtain ⟨k, hk, rfl⟩ := inP_of hx (by omega)
      have e : aSub (A.1, A.2.1, A.2.2.1, A.2.2.2) (nI k) = (0, nI (tsz (zat A.1 k []).1), A) := by
        unfold aSub
        rw [if_pos (show inP (tsz A.1) (nI k) from hx), pI_n (by omega)]
      rw [e] at h1 h2
      exact Or.inl ⟨_, Nat.le_trans (zat_le hk) h60, h2, oS_J h1⟩
    · have e : (aSub (A.1, A.2.1, A.2.2.1, A.2.2.2) x).1 = 1 := by
        unfold aSub
        rw [if_neg (show ¬ inP (tsz A.1) x from hx)]
      rw [e] at h0
      cases h0
  · exact Or.inr ⟨ex, h2⟩
theorem callVb (Z : MD) (c s : Nat) {ci na idx a : Nat} (As : List VV) {o : Option Nat} (hcz : Z.2.2.2.2.2.2.1 = c) (hsz : Z.2.2.2.2.2.2.2 = s) (dg : decode M.2.1 pc = .ok (.invokevirtual idx, 3)) (hz : okV Z ci na) (hl9 : okw (.methodLink M.1.cls idx Z.1)) (hR : okR M Z) (htb : M.2.2.2.2.1 = [])
    (hst : st = As.reverse ++ vr o :: rest) (ho : o = some a) (hk : isK S ci a) (hn : As.length = na) (hrest : argsSz rest ≤ 8) (hc : k + c ≤ M.2.2.2.2.2.2.1) (hsl : n + s ≤ M.2.2.2.2.2.2.2)
    (hM : MT G Z (vr (some a) :: As) S (qB E A)) (hq : ∀ X S', Q (.inr X) S')
    (kret : ∀ (z : Nat) (S' : SS), z ≤ 60 → oS E A S' → WP G M Q (k + c) (n + s) (pc + 3) lv (vi (nI z) :: rest) S') : WP G M Q k n pc lv st S :=
  callVq Z c s As hcz hsz dg hz hl9 hR htb hst ho hk hn hrest hc hsl hM hq (fun v S' h => by
    rcases h with ⟨z, hz, h1, h2⟩ | ⟨X, h1⟩
    · cases h1
      exact kret z S' hz h2
    · cases h1)
theorem shl2 : ∀ r, r < 8 → (2 : Int32) <<< (nI r &&& 31) = nI (2 ^ (r + 1)) := by decide
end OPN
/-! ===== isNodeSo: it answers something, and nothing is changed ===== -/
section NOD
variable {G : GC} {E : Nat → Nat} {A : AB} {S : SS}
theorem l_isNodeSo (hS : oS E A S) (x : Int32) : MT G mL_isNodeSo [vr (some (E 0)), vi x] S (qA E A) := by
  have hQ : ∀ (X : String) (S' : SS), qA E A (.inr X) S' := fun X S' => Or.inr ⟨X, rfl⟩
  have J177 : ∀ (k n : Nat) (lv : List (Nat × VV)) (y : Int32) (S' : SS), k ≤ 11 → n ≤ 66 → (y = 0 ∨ y = 1) → oS E A S' → WP G mL_isNodeSo (qA E A) k n 177 lv [vi y] S' := by
    intro k n lv y S' hk hn hy hS'
    refine WP_ireturn dL_isNodeSo_177 rfl (by rcases hy with rfl | rfl <;> rfl) hk hn ?_
    exact Or.inl ⟨_, rfl, hS'⟩
  have J176 : ∀ (k n : Nat) (lv : List (Nat × VV)) (S' : SS), k ≤ 11 → n ≤ 66 → oS E A S' → WP G mL_isNodeSo (qA E A) k n 176 lv [] S' := by
    intro k n lv S' hk hn hS'
    refine WP_iconst (0) dL_isNodeSo_176 (by decide) ?_
    exact J177 _ _ _ _ _ hk hn (Or.inl rfl) hS'
  have J155 : ∀ (k n : Nat) (a b y : Int32) (S' : SS), k ≤ 10 → n ≤ 60 → oS E A S' → WP G mL_isNodeSo (qA E A) k n 155 [(0, vr (some (E 0))), (1, vi x), (2, vi a), (3, vi b), (5, vi y)] [] S' := by
    intro k n a b y S' hk hn hS'
    refine WP_iload dL_isNodeSo_155 rfl ?_
    refine WP_if_eq 176 dL_isNodeSo_157 (by decide) (fun hb => ?_) (fun hb => ?_)
    · exact J176 _ _ _ _ (by omega) (by omega) hS'
    · refine WP_aload_n dL_isNodeSo_160 rfl ?_
      refine WP_iload_n dL_isNodeSo_161 rfl ?_
      refine callVo mX4_depth 1 6 [_] rfl rfl dL_isNodeSo_162 okc_X4_depth ok_552 ⟨by decide, by decide⟩ rfl rfl rfl (oS_K hS') rfl (Nat.le_of_ble_eq_true rfl) (show _ + 1 ≤ 11 by omega) (show _ + 6 ≤ 66 by omega) (o_depth hS' _) hQ (fun x1 S1 h1 => ?_)
      refine WP_aload_n dL_isNodeSo_165 rfl ?_
      refine callVo mX4_height 0 0 [] rfl rfl dL_isNodeSo_166 okc_X4_height ok_582 ⟨by decide, by decide⟩ rfl rfl rfl (oS_K h1) rfl (Nat.le_of_ble_eq_true rfl) (show _ + 0 ≤ 11 by omega) (show _ + 0 ≤ 66 by omega) (o_height h1 ) hQ (fun x2 S2 h2 => ?_)
      refine WP_icmp_ge 176 dL_isNodeSo_169 (by decide) (fun hb => ?_) (fun hb => ?_)
      · exact J176 _ _ _ _ (by omega) (by omega) h2
      · refine WP_iconst (1) dL_isNodeSo_172 (by decide) ?_
        refine WP_goto 177 dL_isNodeSo_173 (by decide) ?_
        exact J177 _ _ _ _ _ (by omega) (by omega) (Or.inr rfl) h2
  have J153 : ∀ (k n : Nat) (a b y0 y : Int32) (S' : SS), k ≤ 10 → n ≤ 60 → oS E A S' → WP G mL_isNodeSo (qA E A) k n 153 [(0, vr (some (E 0))), (1, vi x), (2, vi a), (3, vi b), (5, vi y0)] [vi y] S' := by
    intro k n a b y0 y S' hk hn hS'
    refine WP_istore dL_isNodeSo_153 (by decide) rfl ?_
    refine WP_lv [(0, vr (some (E 0))), (1, vi x), (2, vi a), (3, vi b), (5, vi y)] (List.forall_mem_cons.mpr ⟨rfl, List.forall_mem_cons.mpr ⟨rfl, List.forall_mem_cons.mpr ⟨rfl, List.forall_mem_cons.mpr ⟨rfl, List.forall_mem_cons.mpr ⟨rfl, fun _ h9 => absurd h9 List.not_mem_nil⟩⟩⟩⟩⟩) ?_
    exact J155 _ _ a b y _ hk hn hS'
  have J152 : ∀ (k n : Nat) (a b y : Int32) (S' : SS), k ≤ 10 → n ≤ 60 → oS E A S' → WP G mL_isNodeSo (qA E A) k n 152 [(0, vr (some (E 0))), (1, vi x), (2, vi a), (3, vi b), (5, vi y)] [] S' := by
    intro k n a b y S' hk hn hS'
    refine WP_iconst (0) dL_isNodeSo_152 (by decide) ?_
    exact J153 _ _ a b _ _ _ hk hn hS'
  have J148 : ∀ (k n : Nat) (a b y : Int32) (S' : SS), k ≤ 10 → n ≤ 60 → oS E A S' → WP G mL_isNodeSo (qA E A) k n 148 [(0, vr (some (E 0))), (1, vi x), (2, vi a), (3, vi b), (5, vi y)] [] S' := by
    intro k n a b y S' hk hn hS'
    refine WP_iconst (1) dL_isNodeSo_148 (by decide) ?_
    refine WP_goto 153 dL_isNodeSo_149 (by decide) ?_
    exact J153 _ _ a b _ _ _ hk hn hS'
  have J129 : ∀ (k n : Nat) (a b y : Int32) (S' : SS), k ≤ 8 → n ≤ 48 → oS E A S' → WP G mL_isNodeSo (qA E A) k n 129 [(0, vr (some (E 0))), (1, vi x), (2, vi a), (3, vi b), (5, vi y)] [] S' := by
    intro k n a b y S' hk hn hS'
    refine WP_iload_n dL_isNodeSo_129 rfl ?_
    refine WP_if_lt 148 dL_isNodeSo_130 (by decide) (fun hb => ?_) (fun hb => ?_)
    · exact J148 _ _ _ _ _ _ (by omega) (by omega) hS'
    · refine WP_aload_n dL_isNodeSo_133 rfl ?_
      refine WP_iload_n dL_isNodeSo_134 rfl ?_
      refine callVo mX4_depth 1 6 [_] rfl rfl dL_isNodeSo_135 okc_X4_depth ok_552 ⟨by decide, by decide⟩ rfl rfl rfl (oS_K hS') rfl (Nat.le_of_ble_eq_true rfl) (show _ + 1 ≤ 11 by omega) (show _ + 6 ≤ 66 by omega) (o_depth hS' _) hQ (fun x1 S1 h1 => ?_)
      refine WP_aload_n dL_isNodeSo_138 rfl ?_
      refine WP_iload_n dL_isNodeSo_139 rfl ?_
      refine callVo mX4_depth 1 6 [_] rfl rfl dL_isNodeSo_140 okc_X4_depth ok_552 ⟨by decide, by decide⟩ rfl rfl rfl (oS_K h1) rfl (Nat.le_of_ble_eq_true rfl) (show _ + 1 ≤ 11 by omega) (show _ + 6 ≤ 66 by omega) (o_depth h1 _) hQ (fun x2 S2 h2 => ?_)
      refine WP_iconst (1) dL_isNodeSo_143 (by decide) ?_
      refine WP_iadd dL_isNodeSo_144 ?_
      refine WP_icmp_ne 152 dL_isNodeSo_145 (by decide) (fun hb => ?_) (fun hb => ?_)
      · exact J152 _ _ _ _ _ _ (by omega) (by omega) h2
      · exact J148 _ _ _ _ _ _ (by omega) (by omega) h2
  have J105 : ∀ (k n : Nat) (a b y : Int32) (S' : SS), k ≤ 6 → n ≤ 36 → oS E A S' → WP G mL_isNodeSo (qA E A) k n 105 [(0, vr (some (E 0))), (1, vi x), (2, vi a), (3, vi b), (5, vi y)] [] S' := by
    intro k n a b y S' hk hn hS'
    refine WP_iload dL_isNodeSo_105 rfl ?_
    refine WP_if_eq 152 dL_isNodeSo_107 (by decide) (fun hb => ?_) (fun hb => ?_)
    · exact J152 _ _ _ _ _ _ (by omega) (by omega) hS'
    · refine WP_iload_n dL_isNodeSo_110 rfl ?_
      refine WP_if_lt 129 dL_isNodeSo_111 (by decide) (fun hb => ?_) (fun hb => ?_)
      · exact J129 _ _ _ _ _ _ (by omega) (by omega) hS'
      · refine WP_aload_n dL_isNodeSo_114 rfl ?_
        refine WP_iload_n dL_isNodeSo_115 rfl ?_
        refine callVo mX4_depth 1 6 [_] rfl rfl dL_isNodeSo_116 okc_X4_depth ok_552 ⟨by decide, by decide⟩ rfl rfl rfl (oS_K hS') rfl (Nat.le_of_ble_eq_true rfl) (show _ + 1 ≤ 11 by omega) (show _ + 6 ≤ 66 by omega) (o_depth hS' _) hQ (fun x1 S1 h1 => ?_)
        refine WP_aload_n dL_isNodeSo_119 rfl ?_
        refine WP_iload_n dL_isNodeSo_120 rfl ?_
        refine callVo mX4_depth 1 6 [_] rfl rfl dL_isNodeSo_121 okc_X4_depth ok_552 ⟨by decide, by decide⟩ rfl rfl rfl (oS_K h1) rfl (Nat.le_of_ble_eq_true rfl) (show _ + 1 ≤ 11 by omega) (show _ + 6 ≤ 66 by omega) (o_depth h1 _) hQ (fun x2 S2 h2 => ?_)
        refine WP_iconst (1) dL_isNodeSo_124 (by decide) ?_
        refine WP_iadd dL_isNodeSo_125 ?_
        refine WP_icmp_ne 152 dL_isNodeSo_126 (by decide) (fun hb => ?_) (fun hb => ?_)
        · exact J152 _ _ _ _ _ _ (by omega) (by omega) h2
        · exact J129 _ _ _ _ _ _ (by omega) (by omega) h2
  have J103 : ∀ (k n : Nat) (a b y z : Int32) (S' : SS), k ≤ 6 → n ≤ 36 → oS E A S' → WP G mL_isNodeSo (qA E A) k n 103 [(0, vr (some (E 0))), (1, vi x), (2, vi a), (3, vi b), (4, vi z)] [vi y] S' := by
    intro k n a b y z S' hk hn hS'
    refine WP_istore dL_isNodeSo_103 (by decide) rfl ?_
    refine WP_lv [(0, vr (some (E 0))), (1, vi x), (2, vi a), (3, vi b), (5, vi y)] (List.forall_mem_cons.mpr ⟨rfl, List.forall_mem_cons.mpr ⟨rfl, List.forall_mem_cons.mpr ⟨rfl, List.forall_mem_cons.mpr ⟨rfl, List.forall_mem_cons.mpr ⟨rfl, fun _ h9 => absurd h9 List.not_mem_nil⟩⟩⟩⟩⟩) ?_
    exact J105 _ _ a b y _ hk hn hS'
  have J102 : ∀ (k n : Nat) (a b z : Int32) (S' : SS), k ≤ 6 → n ≤ 36 → oS E A S' → WP G mL_isNodeSo (qA E A) k n 102 [(0, vr (some (E 0))), (1, vi x), (2, vi a), (3, vi b), (4, vi z)] [] S' := by
    intro k n a b z S' hk hn hS'
    refine WP_iconst (0) dL_isNodeSo_102 (by decide) ?_
    exact J103 _ _ a b _ z _ hk hn hS'
  have J95 : ∀ (k n : Nat) (a b z y y2 : Int32) (S' : SS), k ≤ 6 → n ≤ 36 → oS E A S' → WP G mL_isNodeSo (qA E A) k n 95 [(0, vr (some (E 0))), (1, vi x), (2, vi a), (3, vi b), (4, vi z)] [vi y2, vi y] S' := by
    intro k n a b z y y2 S' hk hn hS'
    refine WP_icmp_ne 102 dL_isNodeSo_95 (by decide) (fun hb => ?_) (fun hb => ?_)
    · exact J102 _ _ a b z _ hk hn hS'
    · refine WP_iconst (1) dL_isNodeSo_98 (by decide) ?_
      refine WP_goto 103 dL_isNodeSo_99 (by decide) ?_
      exact J103 _ _ a b _ z _ hk hn hS'
  have J82 : ∀ (k n : Nat) (a b z y : Int32) (S' : SS), k ≤ 6 → n ≤ 36 → oS E A S' → WP G mL_isNodeSo (qA E A) k n 82 [(0, vr (some (E 0))), (1, vi x), (2, vi a), (3, vi b), (4, vi z)] [vi y] S' := by
    intro k n a b z y S' hk hn hS'
    refine WP_aload_n dL_isNodeSo_82 rfl ?_
    refine callVo mX4_root 0 0 [] rfl rfl dL_isNodeSo_83 okc_X4_root ok_578 ⟨by decide, by decide⟩ rfl rfl rfl (oS_K hS') rfl (Nat.le_of_ble_eq_true rfl) (show _ + 0 ≤ 11 by omega) (show _ + 0 ≤ 66 by omega) (o_root hS' ) hQ (fun x1 S1 h1 => ?_)
    refine WP_iload_n dL_isNodeSo_86 rfl ?_
    refine WP_icmp_ne 94 dL_isNodeSo_87 (by decide) (fun hb => ?_) (fun hb => ?_)
    · refine WP_iconst (0) dL_isNodeSo_94 (by decide) ?_
      exact J95 _ _ a b z _ _ _ hk hn h1
    · refine WP_iconst (1) dL_isNodeSo_90 (by decide) ?_
      refine WP_goto 95 dL_isNodeSo_91 (by decide) ?_
      exact J95 _ _ a b z _ _ _ hk hn h1
  have J69 : ∀ (k n : Nat) (a b z : Int32) (S' : SS), k ≤ 5 → n ≤ 30 → oS E A S' → WP G mL_isNodeSo (qA E A) k n 69 [(0, vr (some (E 0))), (1, vi x), (2, vi a), (3, vi b), (4, vi z)] [] S' := by
    intro k n a b z S' hk hn hS'
    refine WP_aload_n dL_isNodeSo_69 rfl ?_
    refine WP_iload_n dL_isNodeSo_70 rfl ?_
    refine callVo mX4_depth 1 6 [_] rfl rfl dL_isNodeSo_71 okc_X4_depth ok_552 ⟨by decide, by decide⟩ rfl rfl rfl (oS_K hS') rfl (Nat.le_of_ble_eq_true rfl) (show _ + 1 ≤ 11 by omega) (show _ + 6 ≤ 66 by omega) (o_depth hS' _) hQ (fun x1 S1 h1 => ?_)
    refine WP_if_ne 81 dL_isNodeSo_74 (by decide) (fun hb => ?_) (fun hb => ?_)
    · refine WP_iconst (0) dL_isNodeSo_81 (by decide) ?_
      exact J82 _ _ a b z _ _ (by omega) (by omega) h1
    · refine WP_iconst (1) dL_isNodeSo_77 (by decide) ?_
      refine WP_goto 82 dL_isNodeSo_78 (by decide) ?_
      exact J82 _ _ a b z _ _ (by omega) (by omega) h1
  have J45 : ∀ (k n : Nat) (a b z : Int32) (S' : SS), k ≤ 4 → n ≤ 24 → oS E A S' → WP G mL_isNodeSo (qA E A) k n 45 [(0, vr (some (E 0))), (1, vi x), (2, vi a), (3, vi b), (4, vi z)] [] S' := by
    intro k n a b z S' hk hn hS'
    refine WP_aload_n dL_isNodeSo_45 rfl ?_
    refine WP_iload_n dL_isNodeSo_46 rfl ?_
    refine callVo mX4_subtree 1 6 [_] rfl rfl dL_isNodeSo_47 okc_X4_subtree ok_548 ⟨by decide, by decide⟩ rfl rfl rfl (oS_K hS') rfl (Nat.le_of_ble_eq_true rfl) (show _ + 1 ≤ 11 by omega) (show _ + 6 ≤ 66 by omega) (o_subtree hS' _) hQ (fun x1 S1 h1 => ?_)
    refine WP_iload dL_isNodeSo_50 rfl ?_
    refine WP_icmp_ne 102 dL_isNodeSo_52 (by decide) (fun hb => ?_) (fun hb => ?_)
    · exact J102 _ _ a b z _ (by omega) (by omega) h1
    · refine WP_iload_n dL_isNodeSo_55 rfl ?_
      refine WP_iload_n dL_isNodeSo_56 rfl ?_
      refine WP_icmp_ge 102 dL_isNodeSo_57 (by decide) (fun hb => ?_) (fun hb => ?_)
      · exact J102 _ _ a b z _ (by omega) (by omega) h1
      · refine WP_iload_n dL_isNodeSo_60 rfl ?_
        refine WP_if_lt 69 dL_isNodeSo_61 (by decide) (fun hb => ?_) (fun hb => ?_)
        · exact J69 _ _ a b z _ (by omega) (by omega) h1
        · refine WP_iload_n dL_isNodeSo_64 rfl ?_
          refine WP_iload_n dL_isNodeSo_65 rfl ?_
          refine WP_icmp_le 102 dL_isNodeSo_66 (by decide) (fun hb => ?_) (fun hb => ?_)
          · exact J102 _ _ a b z _ (by omega) (by omega) h1
          · exact J69 _ _ a b z _ (by omega) (by omega) h1
  have J42 : ∀ (k n : Nat) (a b y z : Int32) (S' : SS), k ≤ 4 → n ≤ 24 → oS E A S' → WP G mL_isNodeSo (qA E A) k n 42 [(0, vr (some (E 0))), (1, vi x), (2, vi a), (3, vi b)] [vi z, vi y] S' := by
    intro k n a b y z S' hk hn hS'
    refine WP_iadd dL_isNodeSo_42 ?_
    refine WP_istore dL_isNodeSo_43 (by decide) rfl ?_
    refine WP_lv [(0, vr (some (E 0))), (1, vi x), (2, vi a), (3, vi b), (4, vi (y + z))] (List.forall_mem_cons.mpr ⟨rfl, List.forall_mem_cons.mpr ⟨rfl, List.forall_mem_cons.mpr ⟨rfl, List.forall_mem_cons.mpr ⟨rfl, List.forall_mem_cons.mpr ⟨rfl, fun _ h9 => absurd h9 List.not_mem_nil⟩⟩⟩⟩⟩) ?_
    exact J45 _ _ a b _ _ hk hn hS'
  have J28 : ∀ (k n : Nat) (a b y z : Int32) (S' : SS), k ≤ 3 → n ≤ 18 → oS E A S' → WP G mL_isNodeSo (qA E A) k n 28 [(0, vr (some (E 0))), (1, vi x), (2, vi a), (3, vi b)] [vi z, vi y] S' := by
    intro k n a b y z S' hk hn hS'
    refine WP_iadd dL_isNodeSo_28 ?_
    refine WP_iload_n dL_isNodeSo_29 rfl ?_
    refine WP_if_ge 37 dL_isNodeSo_30 (by decide) (fun hb => ?_) (fun hb => ?_)
    · refine WP_aload_n dL_isNodeSo_37 rfl ?_
      refine WP_iload_n dL_isNodeSo_38 rfl ?_
      refine callVo mX4_subtree 1 6 [_] rfl rfl dL_isNodeSo_39 okc_X4_subtree ok_548 ⟨by decide, by decide⟩ rfl rfl rfl (oS_K hS') rfl (Nat.le_of_ble_eq_true rfl) (show _ + 1 ≤ 11 by omega) (show _ + 6 ≤ 66 by omega) (o_subtree hS' _) hQ (fun x1 S1 h1 => ?_)
      exact J42 _ _ a b _ _ _ (by omega) (by omega) h1
    · refine WP_iconst (0) dL_isNodeSo_33 (by decide) ?_
      refine WP_goto 42 dL_isNodeSo_34 (by decide) ?_
      exact J42 _ _ a b _ _ _ (by omega) (by omega) hS'
  refine MT_of (by decide) rfl (Nat.le_of_ble_eq_true rfl) ?_
  refine WP_aload_n dL_isNodeSo_0 rfl ?_
  refine WP_iload_n dL_isNodeSo_1 rfl ?_
  refine WP_iconst (0) dL_isNodeSo_2 (by decide) ?_
  refine callVo mX4_child 1 6 [_, _] rfl rfl dL_isNodeSo_3 okc_X4_child ok_571 ⟨by decide, by decide⟩ rfl rfl rfl (oS_K hS) rfl (Nat.le_of_ble_eq_true rfl) (show _ + 1 ≤ 11 by omega) (show _ + 6 ≤ 66 by omega) (o_child hS _ _) hQ (fun a1 S1 h1 => ?_)
  refine WP_istore_n dL_isNodeSo_6 (by decide) rfl ?_
  refine WP_aload_n dL_isNodeSo_7 rfl ?_
  refine WP_iload_n dL_isNodeSo_8 rfl ?_
  refine WP_iconst (1) dL_isNodeSo_9 (by decide) ?_
  refine callVo mX4_child 1 6 [_, _] rfl rfl dL_isNodeSo_10 okc_X4_child ok_571 ⟨by decide, by decide⟩ rfl rfl rfl (oS_K h1) rfl (Nat.le_of_ble_eq_true rfl) (show _ + 1 ≤ 11 by omega) (show _ + 6 ≤ 66 by omega) (o_child h1 _ _) hQ (fun b1 S2 h2 => ?_)
  refine WP_istore_n dL_isNodeSo_13 (by decide) rfl ?_
  refine WP_iconst (1) dL_isNodeSo_14 (by decide) ?_
  refine WP_lv [(0, vr (some (E 0))), (1, vi x), (2, vi a1), (3, vi b1)] (List.forall_mem_cons.mpr ⟨rfl, List.forall_mem_cons.mpr ⟨rfl, List.forall_mem_cons.mpr ⟨rfl, List.forall_mem_cons.mpr ⟨rfl, fun _ h9 => absurd h9 List.not_mem_nil⟩⟩⟩⟩) ?_
  refine WP_iload_n dL_isNodeSo_15 rfl ?_
  refine WP_if_ge 23 dL_isNodeSo_16 (by decide) (fun hb => ?_) (fun hb => ?_)
  · refine WP_aload_n dL_isNodeSo_23 rfl ?_
    refine WP_iload_n dL_isNodeSo_24 rfl ?_
    refine callVo mX4_subtree 1 6 [_] rfl rfl dL_isNodeSo_25 okc_X4_subtree ok_548 ⟨by decide, by decide⟩ rfl rfl rfl (oS_K h2) rfl (Nat.le_of_ble_eq_true rfl) (show _ + 1 ≤ 11 by omega) (show _ + 6 ≤ 66 by omega) (o_subtree h2 _) hQ (fun x3 S3 h3 => ?_)
    exact J28 _ _ a1 b1 _ _ _ (by omega) (by omega) h3
  · refine WP_iconst (0) dL_isNodeSo_19 (by decide) ?_
    refine WP_goto 28 dL_isNodeSo_20 (by decide) ?_
    exact J28 _ _ a1 b1 _ _ _ (by omega) (by omega) h2
end NOD
