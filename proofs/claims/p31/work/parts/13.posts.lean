/-! ===== posts by their kind of answer; calls of methods that never throw ===== -/
def rI (p : Int32 → SS → Prop) : RS → SS → Prop := fun r S' => ∃ x : Int32, r = .inl (some (vi x)) ∧ p x S'
def rV (p : SS → Prop) : RS → SS → Prop := fun r S' => r = .inl none ∧ p S'
def rR (p : Option Nat → SS → Prop) : RS → SS → Prop := fun r S' => ∃ o : Option Nat, r = .inl (some (vr o)) ∧ p o S'
/-- it may throw: the classes, by what holds then -/
def rT (q : RS → SS → Prop) (t : String → SS → Prop) : RS → SS → Prop := fun r S' => q r S' ∨ ∃ E : String, r = .inr E ∧ t E S'
section PST
variable {G : GC} {M : MD} {Q : RS → SS → Prop} {k n pc : Nat} {lv : List (Nat × VV)} {st rest : List VV} {S : SS}
theorem rI_no {p : Int32 → SS → Prop} : ∀ E S', ¬ rI p (.inr E) S' := fun E S' ⟨_, h, _⟩ => by cases h
theorem rV_no {p : SS → Prop} : ∀ E S', ¬ rV p (.inr E) S' := fun E S' ⟨h, _⟩ => by cases h
theorem rR_no {p : Option Nat → SS → Prop} : ∀ E S', ¬ rR p (.inr E) S' := fun E S' ⟨_, h, _⟩ => by cases h
/-- fewer locals -/
theorem WP_lv (lv' : List (Nat × VV)) (h : ∀ q ∈ lv', lkp lv q.1 = some q.2) (kk : WP G M Q k n pc lv' st S) : WP G M Q k n pc lv st S := fun p e s m args below meth c H locs ls C hh hS hl =>
  kk p e s m args below meth c H locs ls C hh hS ⟨hl.1, hl.2.1, fun q hq => by
    obtain ⟨w, hw, rfl⟩ := List.mem_map.mp hq
    exact lkp_at hl (h w hw)⟩
theorem callVi (Z : MD) {ci na idx a : Nat} (As : List VV) {o : Option Nat} {p : Int32 → SS → Prop} (dg : decode M.2.1 pc = .ok (.invokevirtual idx, 3)) (hz : okV Z ci na) (hl9 : okw (.methodLink M.1.cls idx Z.1)) (hR : okR M Z)
    (hst : st = As.reverse ++ vr o :: rest) (ho : o = some a) (hk : isK S ci a) (hn : As.length = na) (hrest : argsSz rest ≤ 8) (hc : k + Z.2.2.2.2.2.2.1 ≤ M.2.2.2.2.2.2.1) (hsl : n + Z.2.2.2.2.2.2.2 ≤ M.2.2.2.2.2.2.2)
    (hM : MT G Z (vr (some a) :: As) S (rI p))
    (kret : ∀ (x : Int32) (S' : SS), p x S' → WP G M Q (k + Z.2.2.2.2.2.2.1) (n + Z.2.2.2.2.2.2.2) (pc + 3) lv (vi x :: rest) S') : WP G M Q k n pc lv st S :=
  WP_callV Z dg hz hl9 hR hst ho hk hn hrest hc hsl hM (fun v S' h => by obtain ⟨x, h1, h2⟩ := h; cases h1; exact kret x S' h2) (fun E S' h => absurd h (rI_no E S'))
theorem callVv (Z : MD) {ci na idx a : Nat} (As : List VV) {o : Option Nat} {p : SS → Prop} (dg : decode M.2.1 pc = .ok (.invokevirtual idx, 3)) (hz : okV Z ci na) (hl9 : okw (.methodLink M.1.cls idx Z.1)) (hR : okR M Z)
    (hst : st = As.reverse ++ vr o :: rest) (ho : o = some a) (hk : isK S ci a) (hn : As.length = na) (hrest : argsSz rest ≤ 8) (hc : k + Z.2.2.2.2.2.2.1 ≤ M.2.2.2.2.2.2.1) (hsl : n + Z.2.2.2.2.2.2.2 ≤ M.2.2.2.2.2.2.2)
    (hM : MT G Z (vr (some a) :: As) S (rV p))
    (kret : ∀ (S' : SS), p S' → WP G M Q (k + Z.2.2.2.2.2.2.1) (n + Z.2.2.2.2.2.2.2) (pc + 3) lv rest S') : WP G M Q k n pc lv st S :=
  WP_callV Z dg hz hl9 hR hst ho hk hn hrest hc hsl hM (fun v S' h => by obtain ⟨h1, h2⟩ := h; cases h1; exact kret S' h2) (fun E S' h => absurd h (rV_no E S'))
theorem callVr (Z : MD) {ci na idx a : Nat} (As : List VV) {o : Option Nat} {p : Option Nat → SS → Prop} (dg : decode M.2.1 pc = .ok (.invokevirtual idx, 3)) (hz : okV Z ci na) (hl9 : okw (.methodLink M.1.cls idx Z.1)) (hR : okR M Z)
    (hst : st = As.reverse ++ vr o :: rest) (ho : o = some a) (hk : isK S ci a) (hn : As.length = na) (hrest : argsSz rest ≤ 8) (hc : k + Z.2.2.2.2.2.2.1 ≤ M.2.2.2.2.2.2.1) (hsl : n + Z.2.2.2.2.2.2.2 ≤ M.2.2.2.2.2.2.2)
    (hM : MT G Z (vr (some a) :: As) S (rR p))
    (kret : ∀ (x : Option Nat) (S' : SS), p x S' → WP G M Q (k + Z.2.2.2.2.2.2.1) (n + Z.2.2.2.2.2.2.2) (pc + 3) lv (vr x :: rest) S') : WP G M Q k n pc lv st S :=
  WP_callV Z dg hz hl9 hR hst ho hk hn hrest hc hsl hM (fun v S' h => by obtain ⟨x, h1, h2⟩ := h; cases h1; exact kret x S' h2) (fun E S' h => absurd h (rR_no E S'))
theorem callSi (Z : MD) {na idx : Nat} (As : List VV) {p : Int32 → SS → Prop} (dg : decode M.2.1 pc = .ok (.invokestatic idx, 3)) (hz : okS Z na) (hl9 : okw (.methodLink M.1.cls idx Z.1)) (hR : okR M Z)
    (hst : st = As.reverse ++ rest) (hn : As.length = na) (hrest : argsSz rest ≤ 8) (hc : k + Z.2.2.2.2.2.2.1 ≤ M.2.2.2.2.2.2.1) (hsl : n + Z.2.2.2.2.2.2.2 ≤ M.2.2.2.2.2.2.2)
    (hM : MT G Z As S (rI p)) (htb : Z.2.2.2.2.1 = [])
    (kret : ∀ (x : Int32) (S' : SS), p x S' → WP G M Q (k + Z.2.2.2.2.2.2.1) (n + Z.2.2.2.2.2.2.2) (pc + 3) lv (vi x :: rest) S') : WP G M Q k n pc lv st S :=
  WP_callS Z dg hz htb hl9 hR hst hn hrest hc hsl hM (fun v S' h => by obtain ⟨x, h1, h2⟩ := h; cases h1; exact kret x S' h2) (fun E S' h => absurd h (rI_no E S'))
/-- a callee that may throw, in a method without a table: what it throws goes on -/
theorem callVt (Z : MD) {ci na idx a : Nat} (As : List VV) {o : Option Nat} {q : RS → SS → Prop} {t : String → SS → Prop} (dg : decode M.2.1 pc = .ok (.invokevirtual idx, 3)) (hz : okV Z ci na) (hl9 : okw (.methodLink M.1.cls idx Z.1)) (hR : okR M Z)
    (hst : st = As.reverse ++ vr o :: rest) (ho : o = some a) (hk : isK S ci a) (hn : As.length = na) (hrest : argsSz rest ≤ 8) (hc : k + Z.2.2.2.2.2.2.1 ≤ M.2.2.2.2.2.2.1) (hsl : n + Z.2.2.2.2.2.2.2 ≤ M.2.2.2.2.2.2.2)
    (hM : MT G Z (vr (some a) :: As) S (rT q t)) (htb : M.2.2.2.2.1 = []) (hq : ∀ E S', ¬ q (.inr E) S')
    (kthr : ∀ (E : String) (S' : SS), t E S' → Q (.inr E) S')
    (kret : ∀ (v : Option VV) (S' : SS), q (.inl v) S' → WP G M Q (k + Z.2.2.2.2.2.2.1) (n + Z.2.2.2.2.2.2.2) (pc + 3) lv (v.toList ++ rest) S') : WP G M Q k n pc lv st S :=
  WP_callV Z dg hz hl9 hR hst ho hk hn hrest hc hsl hM (fun v S' h => by
    rcases h with h | ⟨E, h, _⟩
    · exact kret v S' h
    · cases h) (fun E S' h => WX_out htb hc hsl (by
    rcases h with h | ⟨E', h, h2⟩
    · exact absurd h (hq E S')
    · cases h
      exact kthr E S' h2))
theorem callSt (Z : MD) {na idx : Nat} (As : List VV) {q : RS → SS → Prop} {t : String → SS → Prop} (dg : decode M.2.1 pc = .ok (.invokestatic idx, 3)) (hz : okS Z na) (hl9 : okw (.methodLink M.1.cls idx Z.1)) (hR : okR M Z)
    (hst : st = As.reverse ++ rest) (hn : As.length = na) (hrest : argsSz rest ≤ 8) (hc : k + Z.2.2.2.2.2.2.1 ≤ M.2.2.2.2.2.2.1) (hsl : n + Z.2.2.2.2.2.2.2 ≤ M.2.2.2.2.2.2.2)
    (hM : MT G Z As S (rT q t)) (htb' : Z.2.2.2.2.1 = []) (htb : M.2.2.2.2.1 = []) (hq : ∀ E S', ¬ q (.inr E) S')
    (kthr : ∀ (E : String) (S' : SS), t E S' → Q (.inr E) S')
    (kret : ∀ (v : Option VV) (S' : SS), q (.inl v) S' → WP G M Q (k + Z.2.2.2.2.2.2.1) (n + Z.2.2.2.2.2.2.2) (pc + 3) lv (v.toList ++ rest) S') : WP G M Q k n pc lv st S :=
  WP_callS Z dg hz htb' hl9 hR hst hn hrest hc hsl hM (fun v S' h => by
    rcases h with h | ⟨E, h, _⟩
    · exact kret v S' h
    · cases h) (fun E S' h => WX_out htb hc hsl (by
    rcases h with h | ⟨E', h, h2⟩
    · exact absurd h (hq E S')
    · cases h
      exact kthr E S' h2))
end PST
