/-! ===== trees (address of the class's node, place of the model's node, value), ways down, and what rows of links hold of them ===== -/
abbrev Tr : Type := Std.DTreeMap.Internal.Impl Nat (fun _ => Int32)
abbrev lf0 : Tr := Std.DTreeMap.Internal.Impl.leaf
abbrev nd (a i : Nat) (v : Int32) (l r : Tr) : Tr := Std.DTreeMap.Internal.Impl.inner a i v l r
abbrev LB : Type := Nat × Nat × Int32
def tsz : Tr → Nat
  | .leaf => 0
  | .inner _ _ _ l r => tsz l + 1 + tsz r
def io : Tr → List LB
  | .leaf => []
  | .inner a i v l r => io l ++ (a, i, v) :: io r
abbrev Fr : Type := Bool × LB × Tr
def plug1 (f : Fr) (t : Tr) : Tr := match f with
  | (true, (a, i, v), c) => nd a i v t c
  | (false, (a, i, v), c) => nd a i v c t
def plug : List Fr → Tr → Tr
  | [], t => t
  | f :: fs, t => plug fs (plug1 f t)
def bef : List Fr → List LB
  | [] => []
  | (true, _, _) :: fs => bef fs
  | (false, x, c) :: fs => bef fs ++ (io c ++ [x])
def aft : List Fr → List LB
  | [] => []
  | (true, x, c) :: fs => x :: (io c ++ aft fs)
  | (false, _, _) :: fs => aft fs
theorem io_len (t : Tr) : (io t).length = tsz t := by
  induction t with
  | leaf => rfl
  | inner a i v l r ihl ihr =>
    simp only [io, tsz, List.length_append, List.length_cons, ihl, ihr]
    omega
theorem io_plug (fs : List Fr) : ∀ t, io (plug fs t) = bef fs ++ (io t ++ aft fs) := by
  induction fs with
  | nil => intro t; simp [plug, bef, aft]
  | cons f fs ih =>
    intro t
    obtain ⟨b, ⟨a, i, v⟩, c⟩ := f
    cases b <;> simp [plug, plug1, ih, bef, aft, io]
section GR
variable {α : Type} (em : Option Nat → α) (ky : Nat → Nat → Nat)
def rk : Tr → Option Nat
  | .leaf => none
  | .inner a i _ _ _ => some (ky a i)
def kl (t : Tr) : List Nat := (io t).map (fun x => ky x.1 x.2.1)
def fk (f : Fr) : Nat := ky f.2.1.1 f.2.1.2.1
def pk : List Fr → Option Nat
  | [] => none
  | f :: _ => some (fk ky f)
def kp : List Fr → List Nat
  | [] => []
  | f :: fs => fk ky f :: (kl ky f.2.2 ++ kp fs)
def gR (lf rt pa : Nat → α) : Tr → Option Nat → Prop
  | .leaf, _ => True
  | .inner a i _ l r, par => lf (ky a i) = em (rk ky l) ∧ rt (ky a i) = em (rk ky r) ∧ pa (ky a i) = em par ∧ gR lf rt pa l (some (ky a i)) ∧ gR lf rt pa r (some (ky a i))
def gP (lf rt pa : Nat → α) : List Fr → Option Nat → Prop
  | [], _ => True
  | f :: fs, o => lf (fk ky f) = em (if f.1 = true then o else rk ky f.2.2) ∧ rt (fk ky f) = em (if f.1 = true then rk ky f.2.2 else o) ∧ pa (fk ky f) = em (pk ky fs) ∧ gR em ky lf rt pa f.2.2 (some (fk ky f)) ∧ gP lf rt pa fs (some (fk ky f))
theorem kl_nd (a i : Nat) (v : Int32) (l r : Tr) : kl ky (nd a i v l r) = kl ky l ++ ky a i :: kl ky r := by simp [kl, io]
theorem rk_plug1 (f : Fr) (t : Tr) : rk ky (plug1 f t) = some (fk ky f) := by
  obtain ⟨b, ⟨a, i, v⟩, c⟩ := f
  cases b <;> rfl
theorem gR_plug {lf rt pa : Nat → α} (fs : List Fr) : ∀ t, gR em ky lf rt pa (plug fs t) none ↔ gR em ky lf rt pa t (pk ky fs) ∧ gP em ky lf rt pa fs (rk ky t) := by
  induction fs with
  | nil => intro t; simp [plug, pk, gP]
  | cons f fs ih =>
    intro t
    show gR em ky lf rt pa (plug fs (plug1 f t)) none ↔ _
    rw [ih, rk_plug1]
    obtain ⟨b, ⟨a, i, v⟩, c⟩ := f
    cases b
    · show (lf (ky a i) = em (rk ky c) ∧ rt (ky a i) = em (rk ky t) ∧ pa (ky a i) = em (pk ky fs) ∧ gR em ky lf rt pa c (some (ky a i)) ∧ gR em ky lf rt pa t (some (ky a i))) ∧ gP em ky lf rt pa fs (some (ky a i)) ↔ gR em ky lf rt pa t (some (ky a i)) ∧ (lf (ky a i) = em (rk ky c) ∧ rt (ky a i) = em (rk ky t) ∧ pa (ky a i) = em (pk ky fs) ∧ gR em ky lf rt pa c (some (ky a i)) ∧ gP em ky lf rt pa fs (some (ky a i)))
      constructor
      · rintro ⟨⟨h1, h2, h3, h4, h5⟩, h6⟩
        exact ⟨h5, h1, h2, h3, h4, h6⟩
      · rintro ⟨h5, h1, h2, h3, h4, h6⟩
        exact ⟨⟨h1, h2, h3, h4, h5⟩, h6⟩
    · show (lf (ky a i) = em (rk ky t) ∧ rt (ky a i) = em (rk ky c) ∧ pa (ky a i) = em (pk ky fs) ∧ gR em ky lf rt pa t (some (ky a i)) ∧ gR em ky lf rt pa c (some (ky a i))) ∧ gP em ky lf rt pa fs (some (ky a i)) ↔ gR em ky lf rt pa t (some (ky a i)) ∧ (lf (ky a i) = em (rk ky t) ∧ rt (ky a i) = em (rk ky c) ∧ pa (ky a i) = em (pk ky fs) ∧ gR em ky lf rt pa c (some (ky a i)) ∧ gP em ky lf rt pa fs (some (ky a i)))
      constructor
      · rintro ⟨⟨h1, h2, h3, h4, h5⟩, h6⟩
        exact ⟨h4, h1, h2, h3, h5, h6⟩
      · rintro ⟨h4, h1, h2, h3, h5, h6⟩
        exact ⟨⟨h1, h2, h3, h4, h5⟩, h6⟩
theorem kl_plug (fs : List Fr) : ∀ t, (kl ky (plug fs t)).Perm (kl ky t ++ kp ky fs) := by
  induction fs with
  | nil => intro t; simp [plug, kp]
  | cons f fs ih =>
    intro t
    refine (ih (plug1 f t)).trans ?_
    obtain ⟨b, ⟨a, i, v⟩, c⟩ := f
    cases b
    · show (kl ky (nd a i v c t) ++ kp ky fs).Perm (kl ky t ++ (ky a i :: (kl ky c ++ kp ky fs)))
      rw [kl_nd]
      have e1 : (kl ky c ++ ky a i :: kl ky t).Perm (kl ky t ++ (ky a i :: kl ky c)) := List.perm_append_comm.trans (by
        show (ky a i :: (kl ky t ++ kl ky c)).Perm _
        exact List.perm_middle.symm)
      refine (e1.append_right _).trans ?_
      rw [List.append_assoc]
      exact List.Perm.refl _
    · show (kl ky (nd a i v t c) ++ kp ky fs).Perm (kl ky t ++ (ky a i :: (kl ky c ++ kp ky fs)))
      rw [kl_nd, List.append_assoc]
      exact List.Perm.refl _
theorem gR_congr {lf rt pa lf' rt' pa' : Nat → α} (t : Tr) : ∀ par, (∀ q ∈ kl ky t, lf' q = lf q ∧ rt' q = rt q ∧ pa' q = pa q) → gR em ky lf rt pa t par → gR em ky lf' rt' pa' t par := by
  induction t with
  | leaf => intro par _ _; trivial
  | inner a i v l r ihl ihr =>
    intro par h hg
    obtain ⟨h1, h2, h3, h4, h5⟩ := hg
    rw [show kl ky (Std.DTreeMap.Internal.Impl.inner a i v l r) = kl ky l ++ ky a i :: kl ky r from kl_nd ky a i v l r] at h
    have h0 := h (ky a i) (by simp)
    exact ⟨h0.1.trans h1, h0.2.1.trans h2, h0.2.2.trans h3, ihl _ (fun q hq => h q (by simp [hq])) h4, ihr _ (fun q hq => h q (by simp [hq])) h5⟩
theorem gP_congr {lf rt pa lf' rt' pa' : Nat → α} (fs : List Fr) : ∀ o, (∀ q ∈ kp ky fs, lf' q = lf q ∧ rt' q = rt q ∧ pa' q = pa q) → gP em ky lf rt pa fs o → gP em ky lf' rt' pa' fs o := by
  induction fs with
  | nil => intro o _ _; trivial
  | cons f fs ih =>
    intro o h hg
    obtain ⟨h1, h2, h3, h4, h5⟩ := hg
    have h0 := h (fk ky f) (by simp [kp])
    exact ⟨h0.1.trans h1, h0.2.1.trans h2, h0.2.2.trans h3, gR_congr em ky _ _ (fun q hq => h q (by simp [kp, hq])) h4, ih _ (fun q hq => h q (by simp [kp, hq])) h5⟩
/-- another parent for a whole tree -/
def upo (f : Nat → α) (o : Option Nat) (v : α) : Nat → α := match o with
  | none => f
  | some q => va_up f q v
theorem upo_ne (f : Nat → α) {o : Option Nat} {q : Nat} (v : α) (h : o ≠ some q) : upo f o v q = f q := by
  cases o with
  | none => rfl
  | some y => exact va_up_ne _ _ (fun e => h (by rw [e]))
theorem rk_mem {t : Tr} {q : Nat} (h : rk ky t = some q) : q ∈ kl ky t := by
  cases t with
  | leaf => cases h
  | inner a i v l r =>
    cases h
    rw [show kl ky (Std.DTreeMap.Internal.Impl.inner a i v l r) = kl ky l ++ ky a i :: kl ky r from kl_nd ky a i v l r]
    simp
theorem gR_up {lf rt pa : Nat → α} {t : Tr} {par : Option Nat} (hn : (kl ky t).Nodup) (h : gR em ky lf rt pa t par) (o : Option Nat) : gR em ky lf rt (upo pa (rk ky t) (em o)) t o := by
  cases t with
  | leaf => trivial
  | inner a i v l r =>
    obtain ⟨h1, h2, h3, h4, h5⟩ := h
    rw [show kl ky (Std.DTreeMap.Internal.Impl.inner a i v l r) = kl ky l ++ ky a i :: kl ky r from kl_nd ky a i v l r] at hn
    obtain ⟨n1, n2, n3⟩ := List.nodup_append.mp hn
    obtain ⟨n4, n5⟩ := List.nodup_cons.mp n2
    refine ⟨h1, h2, va_up_self _ _ _, gR_congr em ky _ _ (fun q hq => ⟨rfl, rfl, va_up_ne _ _ ?_⟩) h4, gR_congr em ky _ _ (fun q hq => ⟨rfl, rfl, va_up_ne _ _ ?_⟩) h5⟩
    · exact n3 q hq _ List.mem_cons_self
    · exact fun e => n4 (e ▸ hq)
/-- the way up holds another subtree at its end -/
theorem gP_up {lf rt pa : Nat → α} {fs : List Fr} {o : Option Nat} (hn : (kp ky fs).Nodup) (h : gP em ky lf rt pa fs o) (o' : Option Nat) :
    gP em ky (if (fs.head?.map (·.1)) = some true then upo lf (pk ky fs) (em o') else lf) (if (fs.head?.map (·.1)) = some true then rt else upo rt (pk ky fs) (em o')) pa fs o' := by
  cases fs with
  | nil => trivial
  | cons f fs =>
    obtain ⟨h1, h2, h3, h4, h5⟩ := h
    obtain ⟨b, x, c⟩ := f
    obtain ⟨n1, n2⟩ := List.nodup_cons.mp (show (fk ky (b, x, c) :: (kl ky c ++ kp ky fs)).Nodup from hn)
    have hc : ∀ q ∈ kl ky c, q ≠ fk ky (b, x, c) := fun q hq e => n1 (by rw [← e]; simp [hq])
    have hp : ∀ q ∈ kp ky fs, q ≠ fk ky (b, x, c) := fun q hq e => n1 (by rw [← e]; simp [hq])
    cases b
    · simp only [List.head?_cons, Option.map_some, Option.some.injEq, Bool.false_eq_true, if_false]
      exact ⟨h1, va_up_self _ _ _, h3, gR_congr em ky _ _ (fun q hq => ⟨rfl, va_up_ne _ _ (hc q hq), rfl⟩) h4, gP_congr em ky _ _ (fun q hq => ⟨rfl, va_up_ne _ _ (hp q hq), rfl⟩) h5⟩
    · simp only [List.head?_cons, Option.map_some, if_true]
      exact ⟨va_up_self _ _ _, h2, h3, gR_congr em ky _ _ (fun q hq => ⟨va_up_ne _ _ (hc q hq), rfl, rfl⟩) h4, gP_congr em ky _ _ (fun q hq => ⟨va_up_ne _ _ (hp q hq), rfl, rfl⟩) h5⟩
def rot1 (t : Tr) (f : Fr) : Tr := match t, f with
  | .inner a i v b c, (true, (pa, pi, pv), d) => nd a i v b (nd pa pi pv c d)
  | .inner a i v b c, (false, (pa, pi, pv), d) => nd a i v (nd pa pi pv d b) c
  | .leaf, _ => .leaf
theorem pk_mem {fs : List Fr} {q : Nat} (h : pk ky fs = some q) : q ∈ kp ky fs := by
  cases fs with
  | nil => cases h
  | cons f fs =>
    cases h
    exact List.mem_cons_self
/-- the links after a rotation of a left child -/
theorem rotT_ok {lf rt pa : Nat → α} {a i : Nat} {v : Int32} {b c d : Tr} {x : LB} {fs : List Fr} (hn : (kl ky (plug ((true, x, d) :: fs) (nd a i v b c))).Nodup) (h : gR em ky lf rt pa (plug ((true, x, d) :: fs) (nd a i v b c)) none)
    {lf' rt' pa' : Nat → α} (hl : lf' = (if (fs.head?.map (·.1)) = some true then upo (va_up lf (ky x.1 x.2.1) (em (rk ky c))) (pk ky fs) (em (some (ky a i))) else va_up lf (ky x.1 x.2.1) (em (rk ky c))))
    (hr : rt' = (if (fs.head?.map (·.1)) = some true then va_up rt (ky a i) (em (some (ky x.1 x.2.1))) else upo (va_up rt (ky a i) (em (some (ky x.1 x.2.1)))) (pk ky fs) (em (some (ky a i)))))
    (hp : pa' = va_up (va_up (upo pa (rk ky c) (em (some (ky x.1 x.2.1)))) (ky x.1 x.2.1) (em (some (ky a i)))) (ky a i) (em (pk ky fs))) :
    gR em ky lf' rt' pa' (plug fs (rot1 (nd a i v b c) (true, x, d))) none := by
  obtain ⟨xa, xi, xv⟩ := x
  have hn2 := (kl_plug ky _ _).nodup_iff.mp hn
  rw [kl_nd] at hn2
  obtain ⟨n1, n2, n3⟩ := List.nodup_append.mp hn2
  obtain ⟨n4, n5, n6⟩ := List.nodup_append.mp n1
  obtain ⟨n7, n8⟩ := List.nodup_cons.mp n5
  obtain ⟨n9, n10⟩ := List.nodup_cons.mp (show (ky xa xi :: (kl ky d ++ kp ky fs)).Nodup from n2)
  obtain ⟨n11, n12, n13⟩ := List.nodup_append.mp n10
  obtain ⟨⟨g1, g2, g3, g4, g5⟩, g6, g7, g8, g9, g10⟩ := (gR_plug em ky _ _).mp h
  have g7 : rt (ky xa xi) = em (rk ky d) := g7
  have g8 : pa (ky xa xi) = em (pk ky fs) := g8
  have g9 : gR em ky lf rt pa d (some (ky xa xi)) := g9
  have g10 : gP em ky lf rt pa fs (some (ky xa xi)) := g10
  -- who is apart from whom
  have pm : ky xa xi ∈ kp ky ((true, (xa, xi, xv), d) :: fs) := List.mem_cons_self
  have dm : ∀ q ∈ kl ky d, q ∈ kp ky ((true, (xa, xi, xv), d) :: fs) := fun q hq => List.mem_cons_of_mem _ (List.mem_append_left _ hq)
  have fm : ∀ q ∈ kp ky fs, q ∈ kp ky ((true, (xa, xi, xv), d) :: fs) := fun q hq => List.mem_cons_of_mem _ (List.mem_append_right _ hq)
  have nm : ky a i ∈ kl ky b ++ ky a i :: kl ky c := List.mem_append_right _ List.mem_cons_self
  have bm : ∀ q ∈ kl ky b, q ∈ kl ky b ++ ky a i :: kl ky c := fun q hq => List.mem_append_left _ hq
  have cm : ∀ q ∈ kl ky c, q ∈ kl ky b ++ ky a i :: kl ky c := fun q hq => List.mem_append_right _ (List.mem_cons_of_mem _ hq)
  have np : ky a i ≠ ky xa xi := n3 _ nm _ pm
  have bp : ∀ q ∈ kl ky b, q ≠ ky xa xi := fun q hq => n3 _ (bm q hq) _ pm
  have cp : ∀ q ∈ kl ky c, q ≠ ky xa xi := fun q hq => n3 _ (cm q hq) _ pm
  have dp : ∀ q ∈ kl ky d, q ≠ ky xa xi := fun q hq e => n9 (by rw [← e]; exact List.mem_append_left _ hq)
  have fp : ∀ q ∈ kp ky fs, q ≠ ky xa xi := fun q hq e => n9 (by rw [← e]; exact List.mem_append_right _ hq)
  have bn : ∀ q ∈ kl ky b, q ≠ ky a i := fun q hq => n6 _ hq _ List.mem_cons_self
  have cn : ∀ q ∈ kl ky c, q ≠ ky a i := fun q hq e => n7 (e ▸ hq)
  have dn : ∀ q ∈ kl ky d, q ≠ ky a i := fun q hq e => n3 _ nm _ (dm q hq) e.symm
  have fn : ∀ q ∈ kp ky fs, q ≠ ky a i := fun q hq e => n3 _ nm _ (fm q hq) e.symm
  have bg : ∀ q ∈ kl ky b, pk ky fs ≠ some q := fun q hq e => n3 _ (bm q hq) _ (fm q (pk_mem ky e)) rfl
  have cg : ∀ q ∈ kl ky c, pk ky fs ≠ some q := fun q hq e => n3 _ (cm q hq) _ (fm q (pk_mem ky e)) rfl
  have dg : ∀ q ∈ kl ky d, pk ky fs ≠ some q := fun q hq e => n13 _ hq _ (pk_mem ky e) rfl
  have pg : pk ky fs ≠ some (ky xa xi) := fun e => fp _ (pk_mem ky e) rfl
  have ng : pk ky fs ≠ some (ky a i) := fun e => fn _ (pk_mem ky e) rfl
  have bc : ∀ q ∈ kl ky b, rk ky c ≠ some q := fun q hq e => n6 _ hq _ (List.mem_cons_of_mem _ (rk_mem ky e)) rfl
  have dc : ∀ q ∈ kl ky d, rk ky c ≠ some q := fun q hq e => n3 _ (cm q (rk_mem ky e)) _ (dm q hq) rfl
  have fc : ∀ q ∈ kp ky fs, rk ky c ≠ some q := fun q hq e => n3 _ (cm q (rk_mem ky e)) _ (fm q hq) rfl
  have nc : rk ky c ≠ some (ky a i) := fun e => cn _ (rk_mem ky e) rfl
  have pc : rk ky c ≠ some (ky xa xi) := fun e => cp _ (rk_mem ky e) rfl
  have L : ∀ q, pk ky fs ≠ some q → q ≠ ky xa xi → lf' q = lf q := by
    intro q h1 h2
    rw [hl]
    by_cases hb : (fs.head?.map (·.1)) = some true
    · rw [if_pos hb, upo_ne _ _ h1, va_up_ne _ _ h2]
    · rw [if_neg hb, va_up_ne _ _ h2]
  have R : ∀ q, pk ky fs ≠ some q → q ≠ ky a i → rt' q = rt q := by
    intro q h1 h2
    rw [hr]
    by_cases hb : (fs.head?.map (·.1)) = some true
    · rw [if_pos hb, va_up_ne _ _ h2]
    · rw [if_neg hb, upo_ne _ _ h1, va_up_ne _ _ h2]
  have P : ∀ q, rk ky c ≠ some q → q ≠ ky xa xi → q ≠ ky a i → pa' q = pa q := by
    intro q h1 h2 h3
    rw [hp, va_up_ne _ _ h3, va_up_ne _ _ h2, upo_ne _ _ h1]
  have Lp : lf' (ky xa xi) = em (rk ky c) := by
    rw [hl]
    by_cases hb : (fs.head?.map (·.1)) = some true
    · rw [if_pos hb, upo_ne _ _ pg, va_up_self]
    · rw [if_neg hb, va_up_self]
  have Rn : rt' (ky a i) = em (some (ky xa xi)) := by
    rw [hr]
    by_cases hb : (fs.head?.map (·.1)) = some true
    · rw [if_pos hb, va_up_self]
    · rw [if_neg hb, upo_ne _ _ ng, va_up_self]
  refine (gR_plug em ky _ _).mpr ⟨⟨(L _ ng np).trans g1, Rn, by rw [hp, va_up_self], ?_, Lp, (R _ pg (Ne.symm np)).trans g7, by rw [hp, va_up_ne _ _ (Ne.symm np), va_up_self], ?_, ?_⟩, ?_⟩
  · exact gR_congr em ky _ _ (fun q hq => ⟨L q (bg q hq) (bp q hq), R q (bg q hq) (bn q hq), P q (bc q hq) (bp q hq) (bn q hq)⟩) g4
  · refine gR_congr em ky _ _ (fun q hq => ⟨L q (cg q hq) (cp q hq), R q (cg q hq) (cn q hq), ?_⟩) (gR_up em ky n8 g5 (some (ky xa xi)))
    rw [hp, va_up_ne _ _ (cn q hq), va_up_ne _ _ (cp q hq)]
  · exact gR_congr em ky _ _ (fun q hq => ⟨L q (dg q hq) (dp q hq), R q (dg q hq) (dn q hq), P q (dc q hq) (dp q hq) (dn q hq)⟩) g9
  · refine gP_congr em ky _ _ (fun q hq => ?_) (gP_up em ky n12 g10 (some (ky a i)))
    rw [hl, hr]
    refine ⟨?_, ?_, P q (fc q hq) (fp q hq) (fn q hq)⟩
    · by_cases hb : (fs.head?.map (·.1)) = some true
      · rw [if_pos hb, if_pos hb]
        cases hk : pk ky fs with
        | none => exact va_up_ne _ _ (fp q hq)
        | some g =>
          by_cases hq2 : q = g
          · subst hq2
            simp [upo, va_up]
          · simp [upo, va_up, hq2, fp q hq]
      · rw [if_neg hb, if_neg hb, va_up_ne _ _ (fp q hq)]
    · by_cases hb : (fs.head?.map (·.1)) = some true
      · rw [if_pos hb, if_pos hb, va_up_ne _ _ (fn q hq)]
      · rw [if_neg hb, if_neg hb]
        cases hk : pk ky fs with
        | none => exact va_up_ne _ _ (fn q hq)
        | some g =>
          by_cases hq2 : q = g
          · subst hq2
            simp [upo, va_up]
          · simp [upo, va_up, hq2, fn q hq]
end GR
