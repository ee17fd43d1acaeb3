/-! ===== two objects in one heap: what is set aside during a call on the other one ===== -/
def wT (G : GC) (T : SS) : GC := (G.1, G.2.1, G.2.2.1, G.2.2.2.1, G.2.2.2.2.1, fun q => G.2.2.2.2.2 q ∨ q ∈ T.1.1)
def jn {α : Type} (T : List Nat) (f g : Nat → α) : Nat → α := fun a => if a ∈ T then g a else f a
def jm {α : Type} (T : List Nat) (f g : Nat → Nat → α) : Nat → Nat → α := fun j a => if a ∈ T then g j a else f j a
def joinS (S T : SS) : SS := ((S.1.1 ++ T.1.1, jn T.1.1 S.1.2.1 T.1.2.1, jn T.1.1 S.1.2.2.1 T.1.2.2.1, jm T.1.1 S.1.2.2.2 T.1.2.2.2), (jm T.1.1 S.2.1.1 T.2.1.1, jm T.1.1 S.2.1.2.1 T.2.1.2.1, jn T.1.1 S.2.1.2.2.1 T.2.1.2.2.1, jn T.1.1 S.2.1.2.2.2 T.2.1.2.2.2), (jm T.1.1 S.2.2.1.1 T.2.2.1.1, jn T.1.1 S.2.2.1.2 T.2.2.1.2), jn T.1.1 S.2.2.2 T.2.2.2)
theorem cE_jr (cy : CY) {S T : SS} {a : Nat} (h : a ∈ T.1.1) : cE cy (joinS S T) a = cE cy T a := by
  obtain ⟨⟨L, K, AN, R0⟩, ⟨Rc, Ic, AIc, AR⟩, ⟨Im, AIm⟩, AL⟩ := T
  have h : a ∈ L := h
  simp only [cE, joinS, jn, jm, if_pos h]
theorem cE_jl (cy : CY) {S T : SS} {a : Nat} (h : a ∉ T.1.1) : cE cy (joinS S T) a = cE cy S a := by
  obtain ⟨⟨L, K, AN, R0⟩, ⟨Rc, Ic, AIc, AR⟩, ⟨Im, AIm⟩, AL⟩ := T
  obtain ⟨⟨L1, K1, AN1, R1⟩, ⟨Rc1, Ic1, AIc1, AR1⟩, ⟨Im1, AIm1⟩, AL1⟩ := S
  have h : a ∉ L := h
  simp only [cE, joinS, jn, jm, if_neg h]
theorem pl_at {L : List Nat} {f : Nat → va_E} {k : Nat} {q : Nat × va_E} (h : (va_pl L f)[k]? = some q) : L[k]? = some q.1 ∧ q.2 = f q.1 := by
  unfold va_pl at h
  rw [List.getElem?_map] at h
  cases hk : L[k]? with
  | none => rw [hk] at h; cases h
  | some a =>
    rw [hk] at h
    cases h
    exact ⟨rfl, rfl⟩
theorem HH_iff {G : GC} {S : SS} {H : Heap} : HH G S H ↔ (∀ a ∈ S.1.1, va_at G.2.2.1 vwCl (a, cE G.2.2.2.1 S a) H) ∧ S.1.1.Nodup ∧ ∀ a ∈ S.1.1, AG G a := by
  constructor
  · rintro ⟨h1, h2, h3⟩
    have hg : ∀ (k a : Nat), S.1.1[k]? = some a → (va_pl S.1.1 (cE G.2.2.2.1 S))[k]? = some (a, cE G.2.2.2.1 S a) := by
      intro k a hk
      unfold va_pl
      rw [List.getElem?_map, hk]
      rfl
    refine ⟨fun a ha => ?_, ?_, fun a ha => ?_⟩
    · obtain ⟨k, hk⟩ := List.getElem?_of_mem ha
      exact h1 k _ (hg k a hk)
    · refine List.pairwise_iff_getElem.mpr (fun i j hi hj hij e => ?_)
      have := h2 i j _ _ (hg i _ (List.getElem?_eq_getElem hi)) (hg j _ (List.getElem?_eq_getElem hj)) e
      omega
    · obtain ⟨k, hk⟩ := List.getElem?_of_mem ha
      exact h3 k _ (hg k a hk)
  · rintro ⟨h1, h2, h3⟩
    refine ⟨fun k q hq => ?_, fun i j p q hp hq e => ?_, fun k q hq => ?_⟩
    · obtain ⟨g1, g2⟩ := pl_at hq
      obtain ⟨a, e⟩ := q
      have g2 : e = cE G.2.2.2.1 S a := g2
      subst g2
      exact h1 a (List.mem_of_getElem? g1)
    · obtain ⟨g1, -⟩ := pl_at hp
      obtain ⟨g2, -⟩ := pl_at hq
      rw [e] at g1
      obtain ⟨i1, i2⟩ := List.getElem?_eq_some_iff.mp g1
      obtain ⟨j1, j2⟩ := List.getElem?_eq_some_iff.mp g2
      have hp2 := List.pairwise_iff_getElem.mp h2
      rcases Nat.lt_trichotomy i j with h | h | h
      · exact absurd (i2.trans j2.symm) (hp2 i j i1 j1 h)
      · exact h
      · exact absurd (j2.trans i2.symm) (hp2 j i j1 i1 h)
    · exact h3 _ (List.mem_of_getElem? (pl_at hq).1)
theorem join_HH {G : GC} {S T : SS} {H : Heap} : HH G (joinS S T) H ↔ HH (wT G T) S H ∧ HH G T H := by
  rw [HH_iff, HH_iff, HH_iff]
  constructor
  · rintro ⟨h1, h2, h3⟩
    obtain ⟨n1, n2, n3⟩ := List.nodup_append.mp h2
    have hd : ∀ a ∈ S.1.1, a ∉ T.1.1 := fun a ha hb => n3 a ha a hb rfl
    refine ⟨⟨fun a ha => ?_, n1, fun a ha => ⟨(h3 a (List.mem_append_left _ ha)).1, fun h => h.elim (h3 a (List.mem_append_left _ ha)).2 (hd a ha)⟩⟩, fun a ha => ?_, n2, fun a ha => h3 a (List.mem_append_right _ ha)⟩
    · have := h1 a (List.mem_append_left _ ha)
      rw [cE_jl _ (hd a ha)] at this
      exact this
    · have := h1 a (List.mem_append_right _ ha)
      rw [cE_jr _ ha] at this
      exact this
  · rintro ⟨⟨h1, n1, h3⟩, g1, n2, g3⟩
    have hd : ∀ a ∈ S.1.1, a ∉ T.1.1 := fun a ha hb => (h3 a ha).2 (Or.inr hb)
    refine ⟨fun a ha => ?_, List.nodup_append.mpr ⟨n1, n2, fun a ha b hb e => hd a ha (e ▸ hb)⟩, fun a ha => ?_⟩
    · by_cases hT : a ∈ T.1.1
      · rw [cE_jr _ hT]
        exact g1 a hT
      · rw [cE_jl _ hT]
        exact h1 a ((List.mem_append.mp ha).resolve_right hT)
    · rcases List.mem_append.mp ha with ha | ha
      · exact ⟨(h3 a ha).1, fun h => (h3 a ha).2 (Or.inl h)⟩
      · exact g3 a ha
theorem join_swap {G : GC} {S T : SS} {H : Heap} (h : HH G (joinS S T) H) : HH G (joinS T S) H := by
  rw [HH_iff] at h ⊢
  obtain ⟨h1, h2, h3⟩ := h
  obtain ⟨n1, n2, n3⟩ := List.nodup_append.mp h2
  have hm : ∀ a, a ∈ (joinS T S).1.1 → a ∈ (joinS S T).1.1 := fun a ha => List.mem_append.mpr ((List.mem_append.mp ha).symm)
  refine ⟨fun a ha => ?_, List.nodup_append.mpr ⟨n2, n1, fun a ha b hb e => n3 b hb a ha e.symm⟩, fun a ha => h3 a (hm a ha)⟩
  have := h1 a (hm a ha)
  by_cases hS : a ∈ S.1.1
  · rw [cE_jl _ (fun hb => n3 a hS a hb rfl)] at this
    rw [cE_jr _ hS]
    exact this
  · rw [cE_jr _ ((List.mem_append.mp ha).resolve_right hS)] at this
    rw [cE_jl _ hS]
    exact this
/-- the frame rule: a call on one object, the other one set aside -/
theorem MT_frame {G : GC} {Z : MD} {av : List VV} {S T : SS} {Qz : RS → SS → Prop} (h : MT (wT G T) Z av S Qz) : MT G Z av (joinS S T) (fun r S' => ∃ S1, S' = joinS S1 T ∧ Qz r S1) := by
  intro p e ha hc hk s m args below hf happ hP hK
  obtain ⟨a1, a2, a3, a4, a5⟩ := hP
  obtain ⟨b1, b2⟩ := join_HH.mp a5
  have hlt : ∀ q ∈ T.1.1, q < s.heap.size := by
    intro q hq
    obtain ⟨k, hk⟩ := pool_at G.2.2.2.1 (S := T) hq
    exact (b2.1 k _ hk).lt
  obtain ⟨n1, o, h1, h2, h3, h4⟩ := h p e ha hc hk s m args below hf happ ⟨a1, a2, a3, ⟨a4.1, a4.2.1, fun q hq => hq.elim (a4.2.2 q) (hlt q)⟩, b1⟩ hK
  have key : ∀ (S1 : SS) (t : State), HH (wT G T) S1 t.heap → va_F (AG (wT G T)) s t → HH G (joinS S1 T) t.heap ∧ va_F (AG G) s t := by
    intro S1 t g1 g2
    refine ⟨join_HH.mpr ⟨g1, b2.1.kept (fun j q hj => g2.2 q.1 (b2.1 j q hj).lt (fun h9 => h9.2 (Or.inr (List.mem_of_getElem? (pl_at hj).1)))), b2.2⟩, g2.1, fun q q1 q2 => g2.2 q q1 (fun h9 => q2 ⟨h9.1, fun hp => h9.2 (Or.inl hp)⟩)⟩
  refine ⟨n1, o, h1, h2, h3, ?_⟩
  rcases h4 with ⟨⟨v, S1, e1, hq, hh, hF⟩, L, hfe, hL⟩ | ⟨q, e1, E, ce, L, ⟨S1, hq, hh, hF⟩, c1, c2, c3, c4, c5, c6⟩
  · obtain ⟨k1, k2⟩ := key S1 _ hh hF
    exact Or.inl ⟨⟨v, _, e1, ⟨S1, rfl, hq⟩, k1, k2⟩, L, hfe, fun z hz => ⟨(hL z hz).1, fun hp => (hL z hz).2 (Or.inl hp)⟩⟩
  · obtain ⟨k1, k2⟩ := key S1 _ hh hF
    exact Or.inr ⟨q, e1, E, ce, L, ⟨_, ⟨S1, rfl, hq⟩, k1, k2⟩, c1, c2, c3, c4, c5, fun z hz => ⟨(c6 z hz).1, fun hp => (c6 z hz).2 (Or.inl hp)⟩⟩
section FRW
variable {G : GC} {M : MD} {Q : RS → SS → Prop} {k n pc : Nat} {lv : List (Nat × VV)} {st rest : List VV} {S T : SS}
theorem WP_world {S' : SS} (hw : ∀ H, HH G S H → HH G S' H) (kk : WP G M Q k n pc lv st S') : WP G M Q k n pc lv st S := fun p e s m args below meth c H locs ls C hh hS hl => kk p e s m args below meth c H locs ls C (hw H hh) hS hl
theorem WP_swap (kk : WP G M Q k n pc lv st (joinS T S)) : WP G M Q k n pc lv st (joinS S T) := WP_world (fun _ h => join_swap h) kk
theorem WP_apart (kk : (∀ a ∈ S.1.1, a ∉ T.1.1) → WP G M Q k n pc lv st (joinS S T)) : WP G M Q k n pc lv st (joinS S T) := fun p e s m args below meth c H locs ls C hh hS hl => kk (fun a ha hb => (List.nodup_append.mp (HH_iff.mp hh).2.1).2.2 a ha a hb rfl) p e s m args below meth c H locs ls C hh hS hl
theorem isK_jl {kd a : Nat} (hd : ∀ a ∈ S.1.1, a ∉ T.1.1) (h : isK S kd a) : isK (joinS S T) kd a := ⟨List.mem_append_left _ h.1, by
  show jn T.1.1 S.1.2.1 T.1.2.1 a = kd
  unfold jn
  rw [if_neg (hd a h.1)]
  exact h.2⟩
/-! calls in a method without a table; what they throw goes on, and is as welcome as anything (hq) -/
theorem callVq (Z : MD) (c s : Nat) {ci na idx a : Nat} (As : List VV) {o : Option Nat} {Qz : RS → SS → Prop} (hcz : Z.2.2.2.2.2.2.1 = c) (hsz : Z.2.2.2.2.2.2.2 = s) (dg : decode M.2.1 pc = .ok (.invokevirtual idx, 3)) (hz : okV Z ci na) (hl9 : okw (.methodLink M.1.cls idx Z.1)) (hR : okR M Z) (htb : M.2.2.2.2.1 = [])
    (hst : st = As.reverse ++ vr o :: rest) (ho : o = some a) (hk : isK S ci a) (hn : As.length = na) (hrest : argsSz rest ≤ 8) (hc : k + c ≤ M.2.2.2.2.2.2.1) (hsl : n + s ≤ M.2.2.2.2.2.2.2)
    (hM : MT G Z (vr (some a) :: As) S Qz) (hq : ∀ X S', Q (.inr X) S')
    (kret : ∀ (v : Option VV) (S' : SS), Qz (.inl v) S' → WP G M Q (k + c) (n + s) (pc + 3) lv (v.toList ++ rest) S') : WP G M Q k n pc lv st S := by
  subst hcz
  subst hsz
  exact WP_callV Z dg hz hl9 hR hst ho hk hn hrest hc hsl hM kret (fun E S' _ => WX_out htb hc hsl (hq E S'))
theorem callSq (Z : MD) (c s : Nat) {na idx : Nat} {As : List VV} {Qz : RS → SS → Prop} (hcz : Z.2.2.2.2.2.2.1 = c) (hsz : Z.2.2.2.2.2.2.2 = s) (dg : decode M.2.1 pc = .ok (.invokestatic idx, 3)) (hz : okS Z na) (htz : Z.2.2.2.2.1 = []) (hl9 : okw (.methodLink M.1.cls idx Z.1)) (hR : okR M Z) (htb : M.2.2.2.2.1 = [])
    (hst : st = As.reverse ++ rest) (hn : As.length = na) (hrest : argsSz rest ≤ 8) (hc : k + c ≤ M.2.2.2.2.2.2.1) (hsl : n + s ≤ M.2.2.2.2.2.2.2)
    (hM : MT G Z As S Qz) (hq : ∀ X S', Q (.inr X) S')
    (kret : ∀ (v : Option VV) (S' : SS), Qz (.inl v) S' → WP G M Q (k + c) (n + s) (pc + 3) lv (v.toList ++ rest) S') : WP G M Q k n pc lv st S := by
  subst hcz
  subst hsz
  exact WP_callS Z dg hz htz hl9 hR hst hn hrest hc hsl hM kret (fun E S' _ => WX_out htb hc hsl (hq E S'))
theorem callSXq (Z : MD) (c s : Nat) {na idx : Nat} {As : List VV} {Qz : RS → SS → Prop} {z : Nat × Nat × Nat × Nat} {tb' : List (Nat × Nat × Nat × Nat)} (hcz : Z.2.2.2.2.2.2.1 = c) (hsz : Z.2.2.2.2.2.2.2 = s) (dg : decode M.2.1 pc = .ok (.invokestatic idx, 3)) (hz : okS Z na) (htz : Z.2.2.2.2.1 = z :: tb') (hl9 : okw (.methodLink M.1.cls idx Z.1)) (hR : okR M Z) (htb : M.2.2.2.2.1 = [])
    (hst : st = As.reverse ++ rest) (hn : As.length = na) (hrest : argsSz rest ≤ 8) (hc : k + c ≤ M.2.2.2.2.2.2.1) (hsl : n + s ≤ M.2.2.2.2.2.2.2)
    (hM : MT G Z As S Qz) (hq : ∀ X S', Q (.inr X) S')
    (kret : ∀ (v : Option VV) (S' : SS), Qz (.inl v) S' → WP G M Q (k + c) (n + s) (pc + 3) lv (v.toList ++ rest) S') : WP G M Q k n pc lv st S := by
  subst hcz
  subst hsz
  exact WP_callSX Z dg hz htz hl9 hR hst hn hrest hc hsl hM kret (fun E S' _ => WX_out htb hc hsl (hq E S'))
/-! .. on one of two objects -/
theorem callVL (Z : MD) (c s : Nat) {ci na idx a : Nat} (As : List VV) {o : Option Nat} {Qz : RS → SS → Prop} (hcz : Z.2.2.2.2.2.2.1 = c) (hsz : Z.2.2.2.2.2.2.2 = s) (dg : decode M.2.1 pc = .ok (.invokevirtual idx, 3)) (hz : okV Z ci na) (hl9 : okw (.methodLink M.1.cls idx Z.1)) (hR : okR M Z) (htb : M.2.2.2.2.1 = [])
    (hst : st = As.reverse ++ vr o :: rest) (ho : o = some a) (hk : isK S ci a) (hn : As.length = na) (hrest : argsSz rest ≤ 8) (hc : k + c ≤ M.2.2.2.2.2.2.1) (hsl : n + s ≤ M.2.2.2.2.2.2.2)
    (hM : MT (wT G T) Z (vr (some a) :: As) S Qz) (hq : ∀ X S', Q (.inr X) S')
    (kret : ∀ (v : Option VV) (S' : SS), Qz (.inl v) S' → WP G M Q (k + c) (n + s) (pc + 3) lv (v.toList ++ rest) (joinS S' T)) : WP G M Q k n pc lv st (joinS S T) :=
  WP_apart (fun hd => callVq Z c s As hcz hsz dg hz hl9 hR htb hst ho (isK_jl hd hk) hn hrest hc hsl (MT_frame hM) hq (fun v S' h => by
    obtain ⟨S1, rfl, h⟩ := h
    exact kret v S1 h))
theorem callVR (Z : MD) (c s : Nat) {ci na idx a : Nat} (As : List VV) {o : Option Nat} {Qz : RS → SS → Prop} (hcz : Z.2.2.2.2.2.2.1 = c) (hsz : Z.2.2.2.2.2.2.2 = s) (dg : decode M.2.1 pc = .ok (.invokevirtual idx, 3)) (hz : okV Z ci na) (hl9 : okw (.methodLink M.1.cls idx Z.1)) (hR : okR M Z) (htb : M.2.2.2.2.1 = [])
    (hst : st = As.reverse ++ vr o :: rest) (ho : o = some a) (hk : isK T ci a) (hn : As.length = na) (hrest : argsSz rest ≤ 8) (hc : k + c ≤ M.2.2.2.2.2.2.1) (hsl : n + s ≤ M.2.2.2.2.2.2.2)
    (hM : MT (wT G S) Z (vr (some a) :: As) T Qz) (hq : ∀ X S', Q (.inr X) S')
    (kret : ∀ (v : Option VV) (S' : SS), Qz (.inl v) S' → WP G M Q (k + c) (n + s) (pc + 3) lv (v.toList ++ rest) (joinS S S')) : WP G M Q k n pc lv st (joinS S T) :=
  WP_swap (callVL Z c s As hcz hsz dg hz hl9 hR htb hst ho hk hn hrest hc hsl hM hq (fun v S' h => WP_swap (kret v S' h)))
theorem callSL (Z : MD) (c s : Nat) {na idx : Nat} {As : List VV} {Qz : RS → SS → Prop} (hcz : Z.2.2.2.2.2.2.1 = c) (hsz : Z.2.2.2.2.2.2.2 = s) (dg : decode M.2.1 pc = .ok (.invokestatic idx, 3)) (hz : okS Z na) (htz : Z.2.2.2.2.1 = []) (hl9 : okw (.methodLink M.1.cls idx Z.1)) (hR : okR M Z) (htb : M.2.2.2.2.1 = [])
    (hst : st = As.reverse ++ rest) (hn : As.length = na) (hrest : argsSz rest ≤ 8) (hc : k + c ≤ M.2.2.2.2.2.2.1) (hsl : n + s ≤ M.2.2.2.2.2.2.2)
    (hM : MT (wT G T) Z As S Qz) (hq : ∀ X S', Q (.inr X) S')
    (kret : ∀ (v : Option VV) (S' : SS), Qz (.inl v) S' → WP G M Q (k + c) (n + s) (pc + 3) lv (v.toList ++ rest) (joinS S' T)) : WP G M Q k n pc lv st (joinS S T) :=
  callSq Z c s hcz hsz dg hz htz hl9 hR htb hst hn hrest hc hsl (MT_frame hM) hq (fun v S' h => by
    obtain ⟨S1, rfl, h⟩ := h
    exact kret v S1 h)
theorem callSR (Z : MD) (c s : Nat) {na idx : Nat} {As : List VV} {Qz : RS → SS → Prop} (hcz : Z.2.2.2.2.2.2.1 = c) (hsz : Z.2.2.2.2.2.2.2 = s) (dg : decode M.2.1 pc = .ok (.invokestatic idx, 3)) (hz : okS Z na) (htz : Z.2.2.2.2.1 = []) (hl9 : okw (.methodLink M.1.cls idx Z.1)) (hR : okR M Z) (htb : M.2.2.2.2.1 = [])
    (hst : st = As.reverse ++ rest) (hn : As.length = na) (hrest : argsSz rest ≤ 8) (hc : k + c ≤ M.2.2.2.2.2.2.1) (hsl : n + s ≤ M.2.2.2.2.2.2.2)
    (hM : MT (wT G S) Z As T Qz) (hq : ∀ X S', Q (.inr X) S')
    (kret : ∀ (v : Option VV) (S' : SS), Qz (.inl v) S' → WP G M Q (k + c) (n + s) (pc + 3) lv (v.toList ++ rest) (joinS S S')) : WP G M Q k n pc lv st (joinS S T) :=
  WP_swap (callSL Z c s hcz hsz dg hz htz hl9 hR htb hst hn hrest hc hsl hM hq (fun v S' h => WP_swap (kret v S' h)))
end FRW
