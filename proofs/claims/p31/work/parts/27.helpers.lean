/-! ===== the class's object: what its fields hold; its helpers ===== -/
def rN (p : Nat → SS → Prop) : RS → SS → Prop := fun r S' => ∃ a : Nat, r = .inl (some (vr (some a))) ∧ p a S'
theorem rN_no {p : Nat → SS → Prop} : ∀ E S', ¬ rN p (.inr E) S' := fun E S' ⟨_, h, _⟩ => by cases h
section CTV
variable {G : GC} {M : MD} {Q : RS → SS → Prop} {k n pc : Nat} {lv : List (Nat × VV)} {st rest : List VV} {S : SS}
theorem callVtv (Z : MD) {ci na idx a : Nat} (As : List VV) {o : Option Nat} {p : SS → Prop} {t : String → SS → Prop} (dg : decode M.2.1 pc = .ok (.invokevirtual idx, 3)) (hz : okV Z ci na) (hl9 : okw (.methodLink M.1.cls idx Z.1)) (hR : okR M Z)
    (hst : st = As.reverse ++ vr o :: rest) (ho : o = some a) (hk : isK S ci a) (hn : As.length = na) (hrest : argsSz rest ≤ 8) (hc : k + Z.2.2.2.2.2.2.1 ≤ M.2.2.2.2.2.2.1) (hsl : n + Z.2.2.2.2.2.2.2 ≤ M.2.2.2.2.2.2.2)
    (hM : MT G Z (vr (some a) :: As) S (rT (rV p) t)) (htb : M.2.2.2.2.1 = [])
    (kthr : ∀ (E : String) (S' : SS), t E S' → Q (.inr E) S')
    (kret : ∀ (S' : SS), p S' → WP G M Q (k + Z.2.2.2.2.2.2.1) (n + Z.2.2.2.2.2.2.2) (pc + 3) lv rest S') : WP G M Q k n pc lv st S :=
  callVt Z As dg hz hl9 hR hst ho hk hn hrest hc hsl hM htb rV_no kthr (fun v S' h => by
    obtain ⟨e, h⟩ := h
    cases e
    exact kret S' h)
theorem callVtr (Z : MD) {ci na idx a : Nat} (As : List VV) {o : Option Nat} {p : Nat → SS → Prop} {t : String → SS → Prop} (dg : decode M.2.1 pc = .ok (.invokevirtual idx, 3)) (hz : okV Z ci na) (hl9 : okw (.methodLink M.1.cls idx Z.1)) (hR : okR M Z)
    (hst : st = As.reverse ++ vr o :: rest) (ho : o = some a) (hk : isK S ci a) (hn : As.length = na) (hrest : argsSz rest ≤ 8) (hc : k + Z.2.2.2.2.2.2.1 ≤ M.2.2.2.2.2.2.1) (hsl : n + Z.2.2.2.2.2.2.2 ≤ M.2.2.2.2.2.2.2)
    (hM : MT G Z (vr (some a) :: As) S (rT (rN p) t)) (htb : M.2.2.2.2.1 = [])
    (kthr : ∀ (E : String) (S' : SS), t E S' → Q (.inr E) S')
    (kret : ∀ (b : Nat) (S' : SS), p b S' → WP G M Q (k + Z.2.2.2.2.2.2.1) (n + Z.2.2.2.2.2.2.2) (pc + 3) lv (vr (some b) :: rest) S') : WP G M Q k n pc lv st S :=
  callVt Z As dg hz hl9 hR hst ho hk hn hrest hc hsl hM htb rN_no kthr (fun v S' h => by
    obtain ⟨b, e, h⟩ := h
    cases e
    exact kret b S' h)
theorem callSuv (Z : MD) {na idx : Nat} (As : List VV) {p : SS → Prop} {t : String → SS → Prop} (dg : decode M.2.1 pc = .ok (.invokestatic idx, 3)) (hz : okS Z na) (hl9 : okw (.methodLink M.1.cls idx Z.1)) (hR : okR M Z)
    (hst : st = As.reverse ++ rest) (hn : As.length = na) (hrest : argsSz rest ≤ 8) (hc : k + Z.2.2.2.2.2.2.1 ≤ M.2.2.2.2.2.2.1) (hsl : n + Z.2.2.2.2.2.2.2 ≤ M.2.2.2.2.2.2.2)
    (hM : MT G Z As S (rT (rV p) t)) (htb' : Z.2.2.2.2.1 = []) (htb : M.2.2.2.2.1 = [])
    (kthr : ∀ (E : String) (S' : SS), t E S' → Q (.inr E) S')
    (kret : ∀ (S' : SS), p S' → WP G M Q (k + Z.2.2.2.2.2.2.1) (n + Z.2.2.2.2.2.2.2) (pc + 3) lv rest S') : WP G M Q k n pc lv st S :=
  callSt Z As dg hz hl9 hR hst hn hrest hc hsl hM htb' htb rV_no kthr (fun v S' h => by
    obtain ⟨e, h⟩ := h
    cases e
    exact kret S' h)
end CTV
abbrev xO : String := "java/lang/IndexOutOfBoundsException"
abbrev xA : String := "java/lang/IllegalArgumentException"
abbrev xS : String := "java/lang/IllegalStateException"
abbrev Cn : Type := Int32 × Int32 × Int32 × Int32
def addC (n : Cn) (c : Nat × Nat × Nat) : Cn := (n.1 + nI c.1, n.2.1 + nI c.2.1, n.2.2.1 + nI c.1, n.2.2.2 + nI c.2.2)
def begC (n : Cn) : Cn := (0, 0, n.2.2.1, n.2.2.2)
def cnO (Ic : Nat → Nat → Int32) (P : Nat) : Cn := (Ic 3 P, Ic 4 P, Ic 5 P, Ic 6 P)
theorem cnO_of {I I' : Nat → Nat → Int32} {P s r m : Nat} (h : cnts I I' P s r m) : cnO I' P = addC (cnO I P) (s, r, m) := by
  obtain ⟨a, b, c, d⟩ := h
  simp only [cnO, addC, a, b, c, d]
abbrev T4 : Type := Tr × Tr × Tr × Tr
/-- the object (0), its trees (1 to 4), its splayer (5), its fingers (6), its rows (7, 8) and their arrays (9, 10) -/
def cK (E : Nat → Nat) (L : List Nat) (K AN : Nat → Nat) (R0 : Nat → Nat → Option Nat) : Prop :=
  (E 0 ∈ L ∧ K (E 0) = 4) ∧ (R0 1 (E 0) = some (E 1) ∧ R0 2 (E 0) = some (E 2) ∧ R0 3 (E 0) = some (E 3) ∧ R0 4 (E 0) = some (E 4) ∧ R0 5 (E 0) = some (E 5) ∧ R0 6 (E 0) = some (E 6) ∧ R0 7 (E 0) = some (E 7) ∧ R0 8 (E 0) = some (E 8)) ∧
  ((E 1 ∈ L ∧ K (E 1) = 3) ∧ (E 2 ∈ L ∧ K (E 2) = 3) ∧ (E 3 ∈ L ∧ K (E 3) = 3) ∧ (E 4 ∈ L ∧ K (E 4) = 3)) ∧ (E 5 ∈ L ∧ K (E 5) = 2) ∧ ((E 6 ∈ L ∧ K (E 6) = 9) ∧ AN (E 6) = 4) ∧
  rwS L K AN R0 (E 7) (E 9) ∧ rwS L K AN R0 (E 8) (E 10) ∧ (E 7 ≠ E 8 ∧ E 9 ≠ E 10) ∧ (E 1 ≠ E 2 ∧ E 1 ≠ E 3 ∧ E 1 ≠ E 4 ∧ E 2 ≠ E 3 ∧ E 2 ≠ E 4 ∧ E 3 ≠ E 4)
def cW (E : Nat → Nat) (L : List Nat) (K : Nat → Nat) (Rc : Nat → Nat → Option Nat) (Ic : Nat → Nat → Int32) (x : T4) (n : Cn) : Prop :=
  cF L K Rc Ic [x.1, x.2.1, x.2.2.1, x.2.2.2] ∧ (Rc 3 (E 1) = rk kA x.1 ∧ Rc 3 (E 2) = rk kA x.2.1 ∧ Rc 3 (E 3) = rk kA x.2.2.1 ∧ Rc 3 (E 4) = rk kA x.2.2.2) ∧ cnO Ic (E 5) = n
abbrev inP (n : Nat) (x : Int32) : Prop := 0 ≤ x.toInt ∧ x.toInt < (n : Int)
abbrev inR (n : Nat) (x y : Int32) : Prop := 0 ≤ x.toInt ∧ x.toInt ≤ y.toInt ∧ y.toInt ≤ (n : Int)
abbrev okv (v : Int32) : Prop := -1000 ≤ v ∧ v ≤ 1000
theorem inP_nI {n k : Nat} (h : k < n) (hn : n < 2 ^ 31) : inP n (nI k) := by
  unfold inP
  rw [nI_toInt (by omega)]
  omega
theorem inP_of {n : Nat} {x : Int32} (h : inP n x) (hn : n < 2 ^ 31) : ∃ k, k < n ∧ x = nI k := vp_in_of (vp_in_iff.mpr h) hn
theorem pI_nI {k : Nat} (h : k < 2 ^ 31) : (nI k).toInt.toNat = k := by
  rw [nI_toInt h]
  rfl
theorem inP_not {n : Nat} {x : Int32} (h : ¬ inP n x) (hn : n < 2 ^ 31) : x < 0 ∨ ∃ k, n ≤ k ∧ k < 2 ^ 31 ∧ x = nI k := by
  by_cases hx : x < 0
  · exact Or.inl hx
  · obtain ⟨k, hk, rfl⟩ := nI_of hx
    refine Or.inr ⟨k, ?_, hk, rfl⟩
    by_cases h2 : k < n
    · exact absurd (inP_nI h2 hn) h
    · omega
theorem inR_of {n : Nat} {x y : Int32} (h : inR n x y) (hn : n + 1 < 2 ^ 31) : ∃ f u, f ≤ u ∧ u ≤ n ∧ x = nI f ∧ y = nI u := by
  obtain ⟨h1, h2, h3⟩ := h
  obtain ⟨f, hf, rfl⟩ := inP_of (n := n + 1) (x := x) ⟨h1, by omega⟩ hn
  obtain ⟨u, hu, rfl⟩ := inP_of (n := n + 1) (x := y) ⟨by omega, by omega⟩ hn
  rw [nI_toInt (by omega), nI_toInt (by omega)] at h2
  exact ⟨f, u, by omega, by omega, rfl, rfl⟩
theorem inR_nI {n f u : Nat} (h1 : f ≤ u) (h2 : u ≤ n) (hn : n < 2 ^ 31) : inR n (nI f) (nI u) := by
  unfold inR
  rw [nI_toInt (by omega), nI_toInt (by omega)]
  omega
section HLP
variable {G : GC} {L : List Nat} {K AN : Nat → Nat} {R0 Rc : Nat → Nat → Option Nat} {Ic AIc Im AIm : Nat → Nat → Int32} {AR : Nat → Nat → Option Nat} {AL : Nat → Nat → Int64} {E : Nat → Nat} {t c m r : Tr} {n : Cn}
/-- what a helper of the class makes of the trees and the counts -/
def pW (E : Nat → Nat) (L : List Nat) (K AN : Nat → Nat) (R0 : Nat → Nat → Option Nat) (AIc : Nat → Nat → Int32) (AR : Nat → Nat → Option Nat) (Im AIm : Nat → Nat → Int32) (AL : Nat → Nat → Int64) (I2 : Nat → Int32) (x : T4) (n : Cn) : SS → Prop :=
  fun S' => ∃ Rc' Ic', S' = mkS L K AN R0 Rc' Ic' AIc AR Im AIm AL ∧ cW E L K Rc' Ic' x n ∧ Ic' 2 = I2
theorem w_begin {x : T4} (hK : cK E L K AN R0) (hW : cW E L K Rc Ic x n) :
    MT G mX2_beginCall [vr (some (E 5))] (mkS L K AN R0 Rc Ic AIc AR Im AIm AL) (rV (pW E L K AN R0 AIc AR Im AIm AL (Ic 2) x (begC n))) := by
  obtain ⟨hF, hr, hn⟩ := hW
  refine (c_beginCall (E 5) hK.2.2.2.1).imp (fun r S' h => ?_)
  obtain ⟨h1, rfl⟩ := h
  refine ⟨h1, _, _, rfl, ⟨cF_same hF rfl rfl rfl ?_ ?_, hr, ?_⟩, ?_⟩
  · rw [u2_o _ _ _ (by decide), u2_o _ _ _ (by decide)]
  · rw [u2_o _ _ _ (by decide), u2_o _ _ _ (by decide)]
  · rw [← hn]
    simp [cnO, begC, u2]
  · rw [u2_o _ _ _ (by decide), u2_o _ _ _ (by decide)]
def upC (t : Tr) (k : Nat) : Nat × Nat × Nat := ((upN t k + 1) / 2, upN t k, 1)
theorem w_splay {k a : Nat} (hK : cK E L K AN R0) (hW : cW E L K Rc Ic (t, c, m, r) n) (hk : k < tsz t) (hs : tsz t ≤ 60) (ha : rk kA (zat t k []).1 = some a) :
    MT G mX2_splay [vr (some (E 5)), vr (some (E 1)), vr (some a)] (mkS L K AN R0 Rc Ic AIc AR Im AIm AL) (rV (pW E L K AN R0 AIc AR Im AIm AL (Ic 2) (upT t k, c, m, r) (addC n (upC t k)))) := by
  obtain ⟨-, -, ⟨k1, k2, k3, k4⟩, k5, -, -, -, -, d12, d13, d14, d23, d24, d34⟩ := hK
  obtain ⟨hF, ⟨r1, r2, r3, r4⟩, hn⟩ := hW
  refine (c_splayAt (E 5) (E 1) a t k [c, m, r] k5 k1 hk hs ha hF).imp (fun _ S' h => ?_)
  obtain ⟨h1, R1, I1, rfl, g1, g2, g3, g4⟩ := h
  refine ⟨h1, _, _, rfl, ⟨g1, ⟨?_, ?_, ?_, ?_⟩, ?_⟩, g3⟩
  · rw [g2, va_up_self]
    obtain ⟨fs, a', i, v, l, r, e1, e2, e3, e4, e5, -, -⟩ := at_zip hk
    rw [e1] at ha
    have ha : some a' = some a := ha
    cases ha
    obtain ⟨l', r', e6, -, -⟩ := spl_nd a i v _ fs rfl l r
    rw [e3, e6]
    rfl
  · rw [g2, va_up_ne _ _ (Ne.symm d12)]
    exact r2
  · rw [g2, va_up_ne _ _ (Ne.symm d13)]
    exact r3
  · rw [g2, va_up_ne _ _ (Ne.symm d14)]
    exact r4
  · rw [cnO_of g4, hn]
    rfl
theorem w_split4 {k : Nat} (hK : cK E L K AN R0) (hW : cW E L K Rc Ic (t, c, m, .leaf) n) (hs : tsz t ≤ 60) (hk : k ≤ 60) :
    MT G mX2_split [vr (some (E 5)), vr (some (E 1)), vi (nI k), vr (some (E 4))] (mkS L K AN R0 Rc Ic AIc AR Im AIm AL) (rV (pW E L K AN R0 AIc AR Im AIm AL (Ic 2) ((splT t k).1, c, m, (splT t k).2) (addC n (splC t k)))) := by
  obtain ⟨-, -, ⟨k1, k2, k3, k4⟩, k5, -, -, -, -, d12, d13, d14, d23, d24, d34⟩ := hK
  obtain ⟨hF, ⟨r1, r2, r3, r4⟩, hn⟩ := hW
  have hF' : cF L K Rc Ic [t, c, m] := cF_tail (cF_perm (show List.Perm [t, c, m, .leaf] [.leaf, t, c, m] from (List.perm_append_comm (l₁ := [t, c, m]) (l₂ := [lf0]))) hF)
  refine (c_split (E 5) (E 1) (E 4) t k [c, m] k5 k1 k4 d14 hs hk r1 hF').imp (fun _ S' h => ?_)
  obtain ⟨h1, R1, I1, rfl, g1, ⟨g2, g3, g4⟩, g5, g6⟩ := h
  refine ⟨h1, _, _, rfl, ⟨cF_perm (show List.Perm [(splT t k).1, (splT t k).2, c, m] [(splT t k).1, c, m, (splT t k).2] from List.Perm.cons _ (List.perm_append_comm (l₁ := [(splT t k).2]) (l₂ := [c, m]))) g1, ⟨g2, ?_, ?_, g3⟩, ?_⟩, g5⟩
  · rw [g4 _ (Ne.symm d12) d24]
    exact r2
  · rw [g4 _ (Ne.symm d13) d34]
    exact r3
  · rw [cnO_of g6, hn]
theorem w_split3 {k : Nat} (hK : cK E L K AN R0) (hW : cW E L K Rc Ic (t, c, .leaf, r) n) (hs : tsz t ≤ 60) (hk : k ≤ 60) :
    MT G mX2_split [vr (some (E 5)), vr (some (E 1)), vi (nI k), vr (some (E 3))] (mkS L K AN R0 Rc Ic AIc AR Im AIm AL) (rV (pW E L K AN R0 AIc AR Im AIm AL (Ic 2) ((splT t k).1, c, (splT t k).2, r) (addC n (splC t k)))) := by
  obtain ⟨-, -, ⟨k1, k2, k3, k4⟩, k5, -, -, -, -, d12, d13, d14, d23, d24, d34⟩ := hK
  obtain ⟨hF, ⟨r1, r2, r3, r4⟩, hn⟩ := hW
  have hF' : cF L K Rc Ic [t, c, r] := cF_tail (cF_perm (show List.Perm [t, c, .leaf, r] [.leaf, t, c, r] from (List.perm_append_comm (l₁ := [t, c]) (l₂ := [lf0])).append_right [r]) hF)
  refine (c_split (E 5) (E 1) (E 3) t k [c, r] k5 k1 k3 d13 hs hk r1 hF').imp (fun _ S' h => ?_)
  obtain ⟨h1, R1, I1, rfl, g1, ⟨g2, g3, g4⟩, g5, g6⟩ := h
  refine ⟨h1, _, _, rfl, ⟨cF_perm (show List.Perm [(splT t k).1, (splT t k).2, c, r] [(splT t k).1, c, (splT t k).2, r] from List.Perm.cons _ (List.Perm.swap _ _ _)) g1, ⟨g2, ?_, g3, ?_⟩, ?_⟩, g5⟩
  · rw [g4 _ (Ne.symm d12) d23]
    exact r2
  · rw [g4 _ (Ne.symm d14) (Ne.symm d34)]
    exact r4
  · rw [cnO_of g6, hn]
theorem w_join2 (hK : cK E L K AN R0) (hW : cW E L K Rc Ic (t, c, m, r) n) (hs : tsz t ≤ 60) :
    MT G mX2_join [vr (some (E 5)), vr (some (E 1)), vr (some (E 2))] (mkS L K AN R0 Rc Ic AIc AR Im AIm AL) (rV (pW E L K AN R0 AIc AR Im AIm AL (Ic 2) (joinT t c, .leaf, m, r) (addC n (joinC t c)))) := by
  obtain ⟨-, -, ⟨k1, k2, k3, k4⟩, k5, -, -, -, -, d12, d13, d14, d23, d24, d34⟩ := hK
  obtain ⟨hF, ⟨r1, r2, r3, r4⟩, hn⟩ := hW
  refine (c_join (E 5) (E 1) (E 2) t c [m, r] k5 k1 k2 d12 hs r1 r2 hF).imp (fun _ S' h => ?_)
  obtain ⟨h1, R1, I1, rfl, g1, ⟨g2, g3, g4⟩, g5, g6⟩ := h
  refine ⟨h1, _, _, rfl, ⟨cF_perm (List.Perm.swap _ _ _) (cF_leaf g1), ⟨g2, g3, ?_, ?_⟩, ?_⟩, g5⟩
  · rw [g4 _ (Ne.symm d13) (Ne.symm d23)]
    exact r3
  · rw [g4 _ (Ne.symm d14) (Ne.symm d24)]
    exact r4
  · rw [cnO_of g6, hn]
theorem w_join3 (hK : cK E L K AN R0) (hW : cW E L K Rc Ic (t, c, m, r) n) (hs : tsz t ≤ 60) :
    MT G mX2_join [vr (some (E 5)), vr (some (E 1)), vr (some (E 3))] (mkS L K AN R0 Rc Ic AIc AR Im AIm AL) (rV (pW E L K AN R0 AIc AR Im AIm AL (Ic 2) (joinT t m, c, .leaf, r) (addC n (joinC t m)))) := by
  obtain ⟨-, -, ⟨k1, k2, k3, k4⟩, k5, -, -, -, -, d12, d13, d14, d23, d24, d34⟩ := hK
  obtain ⟨hF, ⟨r1, r2, r3, r4⟩, hn⟩ := hW
  refine (c_join (E 5) (E 1) (E 3) t m [c, r] k5 k1 k3 d13 hs r1 r3 (cF_perm (List.Perm.cons _ (List.Perm.swap _ _ _)) hF)).imp (fun _ S' h => ?_)
  obtain ⟨h1, R1, I1, rfl, g1, ⟨g2, g3, g4⟩, g5, g6⟩ := h
  refine ⟨h1, _, _, rfl, ⟨cF_perm (show List.Perm [.leaf, joinT t m, c, r] [joinT t m, c, .leaf, r] from (List.perm_append_comm (l₁ := [lf0]) (l₂ := [joinT t m, c])).append_right [r]) (cF_leaf g1), ⟨g2, ?_, g3, ?_⟩, ?_⟩, g5⟩
  · rw [g4 _ (Ne.symm d12) d23]
    exact r2
  · rw [g4 _ (Ne.symm d14) (Ne.symm d34)]
    exact r4
  · rw [cnO_of g6, hn]
theorem w_join4 (hK : cK E L K AN R0) (hW : cW E L K Rc Ic (t, c, m, r) n) (hs : tsz t ≤ 60) :
    MT G mX2_join [vr (some (E 5)), vr (some (E 1)), vr (some (E 4))] (mkS L K AN R0 Rc Ic AIc AR Im AIm AL) (rV (pW E L K AN R0 AIc AR Im AIm AL (Ic 2) (joinT t r, c, m, .leaf) (addC n (joinC t r)))) := by
  obtain ⟨-, -, ⟨k1, k2, k3, k4⟩, k5, -, -, -, -, d12, d13, d14, d23, d24, d34⟩ := hK
  obtain ⟨hF, ⟨r1, r2, r3, r4⟩, hn⟩ := hW
  refine (c_join (E 5) (E 1) (E 4) t r [c, m] k5 k1 k4 d14 hs r1 r4 (cF_perm (List.Perm.cons _ (show List.Perm [c, m, r] [r, c, m] from List.perm_append_comm (l₁ := [c, m]) (l₂ := [r]))) hF)).imp (fun _ S' h => ?_)
  obtain ⟨h1, R1, I1, rfl, g1, ⟨g2, g3, g4⟩, g5, g6⟩ := h
  refine ⟨h1, _, _, rfl, ⟨cF_perm (show List.Perm [.leaf, joinT t r, c, m] [joinT t r, c, m, .leaf] from (List.perm_append_comm (l₁ := [lf0]) (l₂ := [joinT t r, c, m]))) (cF_leaf g1), ⟨g2, ?_, ?_, g3⟩, ?_⟩, g5⟩
  · rw [g4 _ (Ne.symm d12) d24]
    exact r2
  · rw [g4 _ (Ne.symm d13) d34]
    exact r3
  · rw [cnO_of g6, hn]
end HLP
