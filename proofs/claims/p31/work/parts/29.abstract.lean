/-! ===== what a call makes of the two trees, the fingers and the counts: its code (0, or the place of what it throws), its answer, and what is left ===== -/
abbrev AB : Type := Tr × Tr × (Nat → Option (Nat × Nat)) × Cn
abbrev Rz : Type := Nat × Int32 × AB
def vls (t : Tr) : List Int32 := (io t).map (fun x => x.2.2)
def ids (t : Tr) : List (Nat × Nat) := (io t).map (fun x => (x.1, x.2.1))
def vAt (t : Tr) (k : Nat) : Int32 := (vls t)[k]?.getD 0
def idAt (t : Tr) (k : Nat) : Nat × Nat := (ids t)[k]?.getD (0, 0)
def lrT (t : Tr) : Tr × Tr := match t with
  | .leaf => (.leaf, .leaf)
  | .inner _ _ _ l r => (l, r)
def setT (t : Tr) (v : Int32) : Tr := match t with
  | .leaf => .leaf
  | .inner a i _ l r => nd a i v l r
def lowT (t : Tr) : Int32 := match t with
  | .leaf => 0
  | .inner a i v l r => mnT (nd a i v l r) v
abbrev pI (x : Int32) : Nat := x.toInt.toNat
/-- the position of a node: a pair of address and place -/
def posA (t : Tr) (p : Nat × Nat) : Nat := (ids t).idxOf p
def aIns (p : Nat × Nat) (A : AB) (x v : Int32) : Rz :=
  if inP (tsz A.1 + 1) x then if okv v then if tsz A.1 + tsz A.2.1 < 60 then (0, nI (tsz A.1 + 1), (nd p.1 p.2 v (splT A.1 (pI x)).1 (splT A.1 (pI x)).2, A.2.1, A.2.2.1, addC (begC A.2.2.2) (splC A.1 (pI x)))) else (3, 0, A) else (2, 0, A) else (1, 0, A)
def aRem (A : AB) (x : Int32) : Rz :=
  if inP (tsz A.1) x then (0, vAt A.1 (pI x), (joinT (lrT (upT A.1 (pI x))).1 (lrT (upT A.1 (pI x))).2, A.2.1, (fun q => if A.2.2.1 q = some (idAt A.1 (pI x)) then none else A.2.2.1 q), addC (addC (begC A.2.2.2) (upC A.1 (pI x))) (joinC (lrT (upT A.1 (pI x))).1 (lrT (upT A.1 (pI x))).2))) else (1, 0, A)
def aGet (A : AB) (x : Int32) : Rz :=
  if inP (tsz A.1) x then (0, vAt A.1 (pI x), (upT A.1 (pI x), A.2.1, A.2.2.1, addC (begC A.2.2.2) (upC A.1 (pI x)))) else (1, 0, A)
def aSet (A : AB) (x v : Int32) : Rz :=
  if inP (tsz A.1) x then if okv v then (0, vAt A.1 (pI x), (setT (upT A.1 (pI x)) v, A.2.1, A.2.2.1, addC (begC A.2.2.2) (upC A.1 (pI x)))) else (2, 0, A) else (1, 0, A)
/-- a range is taken out, something is made of it, and it is put back -/
def rgA (A : AB) (x y : Int32) (g : Tr → Tr) : AB :=
  (jn3 ((rgT A.1 (pI x) (pI y)).1, g (rgT A.1 (pI x) (pI y)).2.1, (rgT A.1 (pI x) (pI y)).2.2), A.2.1, A.2.2.1, jn3N (rgN (begC A.2.2.2) A.1 (pI x) (pI y)) ((rgT A.1 (pI x) (pI y)).1, g (rgT A.1 (pI x) (pI y)).2.1, (rgT A.1 (pI x) (pI y)).2.2))
def aRev (A : AB) (x y : Int32) : Rz := if inR (tsz A.1) x y then (0, y - x, rgA A x y mir) else (1, 0, A)
def aRai (A : AB) (x y d : Int32) : Rz := if inR (tsz A.1) x y then if okv d then (0, y - x, rgA A x y (rai d)) else (2, 0, A) else (1, 0, A)
def aSum (A : AB) (x y : Int32) : Rz := if inR (tsz A.1) x y then (0, smT (rgT A.1 (pI x) (pI y)).2.1, rgA A x y id) else (1, 0, A)
def aLow (A : AB) (x y : Int32) : Rz := if inR (tsz A.1) x y then if x = y then (2, 0, A) else (0, lowT (rgT A.1 (pI x) (pI y)).2.1, rgA A x y id) else (1, 0, A)
def aCut (A : AB) (x y : Int32) : Rz :=
  if inR (tsz A.1) x y then if tsz A.2.1 = 0 then (0, y - x, (joinT (rgT A.1 (pI x) (pI y)).1 (rgT A.1 (pI x) (pI y)).2.2, (rgT A.1 (pI x) (pI y)).2.1, A.2.2.1, addC (rgN (begC A.2.2.2) A.1 (pI x) (pI y)) (joinC (rgT A.1 (pI x) (pI y)).1 (rgT A.1 (pI x) (pI y)).2.2))) else (2, 0, A) else (1, 0, A)
def aPas (A : AB) (x : Int32) : Rz :=
  if inP (tsz A.1 + 1) x then if tsz A.2.1 = 0 then (0, 0, (A.1, A.2.1, A.2.2.1, begC A.2.2.2)) else
    (0, nI (tsz A.2.1), (jn3 ((splT A.1 (pI x)).1, A.2.1, (splT A.1 (pI x)).2), .leaf, A.2.2.1, jn3N (addC (begC A.2.2.2) (splC A.1 (pI x))) ((splT A.1 (pI x)).1, A.2.1, (splT A.1 (pI x)).2))) else (1, 0, A)
def aPoi (A : AB) (f x : Int32) : Rz :=
  if inP 4 f ∧ inP (tsz A.1) x then (0, vAt A.1 (pI x), (upT A.1 (pI x), A.2.1, va_up A.2.2.1 (pI f) (some (idAt A.1 (pI x))), addC (begC A.2.2.2) (upC A.1 (pI x)))) else (1, 0, A)
def aFol (A : AB) (f : Int32) : Rz :=
  if inP 4 f then match A.2.2.1 (pI f) with
    | none => (0, -1, (A.1, A.2.1, A.2.2.1, begC A.2.2.2))
    | some p => if p ∈ ids A.1 then (0, nI (posA A.1 p), (upT A.1 (posA A.1 p), A.2.1, A.2.2.1, addC (begC A.2.2.2) (upC A.1 (posA A.1 p)))) else (0, -1, (A.1, A.2.1, A.2.2.1, begC A.2.2.2))
  else (1, 0, A)
def aMov (A : AB) (f b : Int32) : Rz :=
  if inP 4 f then match A.2.2.1 (pI f) with
    | none => (2, 0, A)
    | some p => if p ∈ ids A.1 ∧ 0 ≤ (posA A.1 p : Int) + b.toInt ∧ (posA A.1 p : Int) + b.toInt < tsz A.1 then
        (0, nI ((posA A.1 p : Int) + b.toInt).toNat, (upT (upT A.1 (posA A.1 p)) ((posA A.1 p : Int) + b.toInt).toNat, A.2.1, va_up A.2.2.1 (pI f) (some (idAt A.1 ((posA A.1 p : Int) + b.toInt).toNat)),
          addC (addC (begC A.2.2.2) (upC A.1 (posA A.1 p))) (upC (upT A.1 (posA A.1 p)) ((posA A.1 p : Int) + b.toInt).toNat))) else (2, 0, A)
  else (1, 0, A)
def aDep (A : AB) (x : Int32) : Rz := if inP (tsz A.1) x then (0, nI (upN A.1 (pI x)), A) else (1, 0, A)
def aSub (A : AB) (x : Int32) : Rz := if inP (tsz A.1) x then (0, nI (tsz (zat A.1 (pI x) []).1), A) else (1, 0, A)
def chP (z : Tr × List Fr) (b : Bool) : Int32 := match z with
  | (.leaf, _) => 0
  | (.inner a i v l r, fs) => if b = true then posP ((false, (a, i, v), l) :: fs) r else posP ((true, (a, i, v), r) :: fs) l
def aChi (A : AB) (x : Int32) (b : Bool) : Rz := if inP (tsz A.1) x then (0, chP (zat A.1 (pI x) []) b, A) else (1, 0, A)
def aWhe (A : AB) (f : Int32) : Rz :=
  if inP 4 f then match A.2.2.1 (pI f) with
    | none => (0, 0, A)
    | some p => (0, if p ∈ ids A.1 then 1 else 2, A)
  else (1, 0, A)
def aPla (A : AB) (x : Int32) : Rz := if inP (tsz A.1) x then (0, vAt A.1 (pI x), A) else (1, 0, A)
def aPSu (A : AB) (x y : Int32) : Rz := if inR (tsz A.1) x y then (0, sumF (vAt A.1) (pI x) (pI y - pI x), A) else (1, 0, A)
def AI (A : AB) : Prop := tsz A.1 + tsz A.2.1 ≤ 60 ∧ ∀ k p, k < 4 → A.2.2.1 k = some p → p ∈ ids A.1 ∨ p ∈ ids A.2.1
/-! lists -/
theorem vls_len (t : Tr) : (vls t).length = tsz t := by
  unfold vls
  rw [List.length_map, io_len]
theorem ids_len (t : Tr) : (ids t).length = tsz t := by
  unfold ids
  rw [List.length_map, io_len]
theorem vls_io {t t' : Tr} (h : io t = io t') : vls t = vls t' := by unfold vls; rw [h]
theorem ids_io {t t' : Tr} (h : io t = io t') : ids t = ids t' := by unfold ids; rw [h]
theorem io_mir (t : Tr) : io (mir t) = (io t).reverse := by
  induction t with
  | leaf => rfl
  | inner a i v l r ihl ihr =>
    show io (mir r) ++ (a, i, v) :: io (mir l) = (io l ++ (a, i, v) :: io r).reverse
    rw [ihl, ihr]
    simp
theorem io_rai (d : Int32) (t : Tr) : io (rai d t) = (io t).map (fun x => (x.1, x.2.1, x.2.2 + d)) := by
  induction t with
  | leaf => rfl
  | inner a i v l r ihl ihr =>
    show io (rai d l) ++ (a, i, v + d) :: io (rai d r) = (io l ++ (a, i, v) :: io r).map _
    rw [ihl, ihr]
    simp
theorem upT_io (t : Tr) (k : Nat) (h : k < tsz t) : io (upT t k) = io t := by
  obtain ⟨a, i, v, l, r, e1, e2, -⟩ := upT_nd t k h
  rw [e1]
  exact e2
/-- the node at a position, as the root -/
theorem upT_at {t : Tr} {k a : Nat} (hk : k < tsz t) (ha : rk kA (zat t k []).1 = some a) : ∃ i v l r, upT t k = nd a i v l r ∧ io l ++ (a, i, v) :: io r = io t ∧ (io l).length = k ∧ vAt t k = v ∧ idAt t k = (a, i) := by
  obtain ⟨a', i, v, l, r, e1, e2, e3, e4⟩ := upT_nd t k hk
  obtain ⟨fs, a2, i2, v2, l2, r2, z1, -, -, -, -, -, z2⟩ := at_zip hk
  rw [z1] at ha
  have ha : some a2 = some a := ha
  cases ha
  cases Option.some.inj (e4.symm.trans z2)
  refine ⟨i, v, l, r, e1, e2, by rw [io_len, e3], ?_, ?_⟩
  · unfold vAt vls
    rw [List.getElem?_map, e4]
    rfl
  · unfold idAt ids
    rw [List.getElem?_map, e4]
    rfl
/-- a row of values -/
def rowV (f : Nat → Int32) (vs : List Int32) : Prop := ∀ j (h : j < vs.length), f j = vs[j]
theorem rowV_set {f : Nat → Int32} {A B : List Int32} {w v : Int32} (h : rowV f (A ++ w :: B)) : rowV (upd f A.length v) (A ++ v :: B) := by
  intro j hj
  have h2 := h j (by simpa using hj)
  unfold upd
  by_cases e : j = A.length
  · subst e
    simp
  · rw [if_neg e, h2]
    by_cases e2 : j < A.length
    · rw [List.getElem_append_left e2, List.getElem_append_left e2]
    · rw [List.getElem_append_right (by omega), List.getElem_append_right (by omega)]
      obtain ⟨q, hq⟩ : ∃ q, j - A.length = q + 1 := ⟨j - A.length - 1, by omega⟩
      simp [hq]
theorem rowV_g {f : Nat → Int32} {vs : List Int32} : rowV f vs ↔ ∀ j, j < vs.length → some (f j) = vs[j]? := by
  constructor
  · intro h j hj
    rw [List.getElem?_eq_getElem hj, h j hj]
  · intro h j hj
    have := h j hj
    rw [List.getElem?_eq_getElem hj] at this
    exact Option.some.inj this
theorem rowV_ins {f : Nat → Int32} {A B : List Int32} {v : Int32} {n : Nat} (h : rowV f (A ++ B)) (hn : n = A.length + B.length) : rowV (upd (va_cpy f f A.length (A.length + 1) (n - A.length)) A.length v) (A ++ v :: B) := by
  rw [rowV_g] at h ⊢
  intro j hj
  simp only [List.length_append, List.length_cons] at hj h
  unfold upd va_cpy
  by_cases e : j = A.length
  · rw [if_pos e, e]
    simp
  · rw [if_neg e]
    by_cases e2 : j < A.length
    · rw [if_neg (by omega), h j (by omega), List.getElem?_append_left e2, List.getElem?_append_left e2]
    · rw [if_pos (by omega), h _ (by omega), List.getElem?_append_right (by omega), List.getElem?_append_right (by omega)]
      obtain ⟨q, hq⟩ : ∃ q, j - A.length = q + 1 := ⟨j - A.length - 1, by omega⟩
      rw [hq, List.getElem?_cons_succ]
      congr 1
      omega
theorem rowV_del {f : Nat → Int32} {A B : List Int32} {w : Int32} {n : Nat} (h : rowV f (A ++ w :: B)) (hn : n = A.length + 1 + B.length) : rowV (va_cpy f f (A.length + 1) A.length (n - A.length - 1)) (A ++ B) := by
  rw [rowV_g] at h ⊢
  intro j hj
  simp only [List.length_append, List.length_cons] at hj h
  unfold va_cpy
  by_cases e2 : j < A.length
  · rw [if_neg (by omega), h j (by omega), List.getElem?_append_left e2, List.getElem?_append_left e2]
  · rw [if_pos (by omega), h _ (by omega), List.getElem?_append_right (by omega), List.getElem?_append_right (by omega)]
    rw [show A.length + 1 + (j - A.length) - A.length = (j - A.length) + 1 by omega, List.getElem?_cons_succ]
theorem rowV_rev {f : Nat → Int32} {A M B : List Int32} (h : rowV f (A ++ M ++ B)) : rowV (revF A.length (A.length + M.length) f) (A ++ M.reverse ++ B) := by
  rw [rowV_g] at h ⊢
  intro j hj
  simp only [List.length_append, List.length_reverse] at hj h
  unfold revF
  by_cases e : A.length ≤ j ∧ j < A.length + M.length
  · rw [if_pos e, h _ (by omega), List.getElem?_append_left (by simp; omega), List.getElem?_append_right (by omega), List.getElem?_append_left (by simp; omega), List.getElem?_append_right (by omega), List.getElem?_reverse (by omega)]
    congr 1
    omega
  · rw [if_neg e, h j (by omega)]
    by_cases e2 : j < A.length
    · rw [List.getElem?_append_left (by simp; omega), List.getElem?_append_left e2, List.getElem?_append_left (by simp; omega), List.getElem?_append_left e2]
    · rw [List.getElem?_append_right (by simp; omega), List.getElem?_append_right (by simp; omega)]
      simp
theorem rowV_add {f : Nat → Int32} {A M B : List Int32} (d : Int32) (h : rowV f (A ++ M ++ B)) : rowV (addF A.length (A.length + M.length) d f) (A ++ M.map (· + d) ++ B) := by
  rw [rowV_g] at h ⊢
  intro j hj
  simp only [List.length_append, List.length_map] at hj h
  unfold addF
  by_cases e : A.length ≤ j ∧ j < A.length + M.length
  · have h2 := h j (by omega)
    rw [List.getElem?_append_left (by simp; omega), List.getElem?_append_right (by omega)] at h2
    rw [if_pos e, List.getElem?_append_left (by simp; omega), List.getElem?_append_right (by omega), List.getElem?_map, ← h2]
    rfl
  · rw [if_neg e, h j (by omega)]
    by_cases e2 : j < A.length
    · rw [List.getElem?_append_left (by simp; omega), List.getElem?_append_left e2, List.getElem?_append_left (by simp; omega), List.getElem?_append_left e2]
    · rw [List.getElem?_append_right (by simp; omega), List.getElem?_append_right (by simp; omega)]
      simp
theorem rowV_out {f g : Nat → Int32} {A M B : List Int32} {n : Nat} (h : rowV f (A ++ M ++ B)) (hn : n = A.length + M.length + B.length) : rowV (va_cpy f f (A.length + M.length) A.length (n - (A.length + M.length))) (A ++ B) ∧ rowV (va_cpy f g A.length 0 M.length) M := by
  rw [rowV_g, rowV_g] at *
  simp only [List.length_append] at h
  refine ⟨fun j hj => ?_, fun j hj => ?_⟩
  · simp only [List.length_append] at hj
    unfold va_cpy
    by_cases e2 : j < A.length
    · rw [if_neg (by omega), h j (by omega), List.getElem?_append_left (by simp; omega), List.getElem?_append_left e2, List.getElem?_append_left e2]
    · rw [if_pos (by omega), h _ (by omega), List.getElem?_append_right (by simp only [List.length_append]; omega), List.getElem?_append_right (by omega)]
      congr 1
      simp only [List.length_append]
      omega
  · unfold va_cpy
    rw [if_pos (by omega), h _ (by omega), List.getElem?_append_left (by simp; omega), List.getElem?_append_right (by omega)]
    congr 1
    omega
theorem rowV_in {f g : Nat → Int32} {A M B : List Int32} {n : Nat} (h : rowV f (A ++ B)) (h2 : rowV g M) (hn : n = A.length + B.length) : rowV (va_cpy g (va_cpy f f A.length (A.length + M.length) (n - A.length)) 0 A.length M.length) (A ++ M ++ B) := by
  rw [rowV_g] at *
  simp only [List.length_append] at h
  intro j hj
  simp only [List.length_append] at hj
  unfold va_cpy
  by_cases e : A.length ≤ j ∧ j < A.length + M.length
  · rw [if_pos e, h2 _ (by omega), List.getElem?_append_left (by simp; omega), List.getElem?_append_right (by omega)]
    congr 1
    omega
  · rw [if_neg e]
    by_cases e2 : j < A.length
    · rw [if_neg (by omega), h j (by omega), List.getElem?_append_left e2, List.getElem?_append_left (by simp only [List.length_append]; omega), List.getElem?_append_left e2]
    · rw [if_pos (by omega), h _ (by omega), List.getElem?_append_right (by omega), List.getElem?_append_right (by simp; omega)]
      congr 1
      simp only [List.length_append]
      omega
theorem sumF_congr {f g : Nat → Int32} (a n : Nat) (h : ∀ j, a ≤ j → j < a + n → f j = g j) : sumF f a n = sumF g a n := by
  induction n with
  | zero => rfl
  | succ n ih =>
    unfold sumF
    rw [ih (fun j h1 h2 => h j h1 (by omega)), h (a + n) (by omega) (by omega)]
theorem vAt_row {f : Nat → Int32} {t : Tr} {k : Nat} (h : rowV f (vls t)) (hk : k < tsz t) : f k = vAt t k := by
  have h2 := h k (by rw [vls_len]; exact hk)
  unfold vAt
  rw [List.getElem?_eq_getElem (by rw [vls_len]; exact hk), h2]
  rfl
