/-! ===== the class's nodes: trees that are held, apart from one another ===== -/
abbrev kA : Nat → Nat → Nat := fun a _ => a
def Pn (L : List Nat) (K : Nat → Nat) (Ic : Nat → Nat → Int32) : Nat → Nat → Int32 → Nat → Prop := fun a _ v s => (a ∈ L ∧ K a = 0) ∧ Ic 0 a = nI s ∧ Ic 1 a = v
def cT (L : List Nat) (K : Nat → Nat) (Rc : Nat → Nat → Option Nat) (Ic : Nat → Nat → Int32) (t : Tr) : Prop := gR id kA (Rc 0) (Rc 1) (Rc 2) t none ∧ gN (Pn L K Ic) t
def cF (L : List Nat) (K : Nat → Nat) (Rc : Nat → Nat → Option Nat) (Ic : Nat → Nat → Int32) (F : List Tr) : Prop := (∀ t ∈ F, cT L K Rc Ic t) ∧ (F.flatMap (kl kA)).Nodup
theorem u2_s {α : Type} (f : Nat → Nat → α) (k a : Nat) (v : α) : u2 f k a v k = va_up (f k) a v := by
  funext b
  by_cases h : b = a <;> simp [u2, va_up, h]
theorem u2_o {α : Type} (f : Nat → Nat → α) {k j : Nat} (a : Nat) (v : α) (h : j ≠ k) : u2 f k a v j = f j := by
  funext b
  simp [u2, h]
section FOR
variable {L : List Nat} {K : Nat → Nat} {Rc Rc' : Nat → Nat → Option Nat} {Ic Ic' : Nat → Nat → Int32}
theorem kl_mem {t : Tr} {a i : Nat} {v : Int32} (h : (a, i, v) ∈ io t) : a ∈ kl kA t := List.mem_map.mpr ⟨(a, i, v), h, rfl⟩
theorem cT_frame {t : Tr} (hf : ∀ q ∈ kl kA t, (Rc' 0 q = Rc 0 q ∧ Rc' 1 q = Rc 1 q ∧ Rc' 2 q = Rc 2 q) ∧ Ic' 0 q = Ic 0 q ∧ Ic' 1 q = Ic 1 q) (h : cT L K Rc Ic t) : cT L K Rc' Ic' t :=
  ⟨gR_congr id kA t _ (fun q hq => (hf q hq).1) h.1, gN_congr t (fun a i v s hm hp => ⟨hp.1, (hf a (kl_mem hm)).2.1.trans hp.2.1, (hf a (kl_mem hm)).2.2.trans hp.2.2⟩) h.2⟩
theorem cF_step {t t' : Tr} {F : List Tr} (h : cF L K Rc Ic (t :: F)) (hk : (kl kA t').Perm (kl kA t)) (ht : cT L K Rc' Ic' t') (hf : ∀ q, q ∉ kl kA t → (Rc' 0 q = Rc 0 q ∧ Rc' 1 q = Rc 1 q ∧ Rc' 2 q = Rc 2 q) ∧ Ic' 0 q = Ic 0 q ∧ Ic' 1 q = Ic 1 q) : cF L K Rc' Ic' (t' :: F) := by
  obtain ⟨h1, h2⟩ := h
  have h2 : (kl kA t ++ F.flatMap (kl kA)).Nodup := h2
  refine ⟨fun u hu => ?_, (List.Perm.append_right (F.flatMap (kl kA)) hk).nodup_iff.mpr h2⟩
  rcases List.mem_cons.mp hu with rfl | hu
  · exact ht
  · refine cT_frame (fun q hq => hf q (fun hq2 => ?_)) (h1 u (List.mem_cons_of_mem _ hu))
    exact (List.nodup_append.mp h2).2.2 q hq2 q (List.mem_flatMap.mpr ⟨u, hu, hq⟩) rfl
theorem cF_perm {F F' : List Tr} (h : F.Perm F') (hF : cF L K Rc Ic F) : cF L K Rc Ic F' := ⟨fun t ht => hF.1 t (h.mem_iff.mpr ht), (h.flatMap_right (kl kA)).nodup_iff.mp hF.2⟩
theorem cF_tail {t : Tr} {F : List Tr} (h : cF L K Rc Ic (t :: F)) : cF L K Rc Ic F := ⟨fun u hu => h.1 u (List.mem_cons_of_mem _ hu), (List.nodup_append.mp (show (kl kA t ++ F.flatMap (kl kA)).Nodup from h.2)).2.1⟩
theorem cF_nil : cF L K Rc Ic [] := ⟨fun t h => absurd h List.not_mem_nil, List.nodup_nil⟩
theorem cF_leaf {F : List Tr} (h : cF L K Rc Ic F) : cF L K Rc Ic (.leaf :: F) := by
  refine ⟨fun t ht => ?_, h.2⟩
  rcases List.mem_cons.mp ht with rfl | ht
  · exact ⟨trivial, trivial⟩
  · exact h.1 t ht
/-- what a node of a held tree holds -/
theorem cz {a i : Nat} {v : Int32} {l r : Tr} {fs : List Fr} (h : cT L K Rc Ic (plug fs (nd a i v l r))) : (a ∈ L ∧ K a = 0) ∧ Rc 0 a = rk kA l ∧ Rc 1 a = rk kA r ∧ Rc 2 a = pk kA fs ∧ Ic 0 a = nI (tsz l + 1 + tsz r) ∧ Ic 1 a = v := by
  obtain ⟨h1, h2⟩ := h
  obtain ⟨⟨g1, g2, g3, -, -⟩, -⟩ := (gR_plug id kA fs _).mp h1
  obtain ⟨⟨⟨p1, p2, p3⟩, -, -⟩, -⟩ := (gN_plug _ fs _).mp h2
  exact ⟨p1, g1, g2, g3, p2, p3⟩
theorem plug_T (a i : Nat) (v : Int32) (l r : Tr) (fs : List Fr) : plug fs (nd a i v l r) = plug ((true, (a, i, v), r) :: fs) l := rfl
theorem plug_F (a i : Nat) (v : Int32) (l r : Tr) (fs : List Fr) : plug fs (nd a i v l r) = plug ((false, (a, i, v), l) :: fs) r := rfl
/-- .. and its parent -/
theorem czp {t : Tr} {f : Fr} {fs : List Fr} (h : cT L K Rc Ic (plug (f :: fs) t)) : (f.2.1.1 ∈ L ∧ K f.2.1.1 = 0) ∧ Rc 0 f.2.1.1 = (if f.1 = true then rk kA t else rk kA f.2.2) ∧ Rc 1 f.2.1.1 = (if f.1 = true then rk kA f.2.2 else rk kA t) ∧ Rc 2 f.2.1.1 = pk kA fs ∧ Ic 0 f.2.1.1 = nI (tsz t + 1 + tsz f.2.2) ∧ Ic 1 f.2.1.1 = f.2.1.2.2 := by
  obtain ⟨b, ⟨a, i, v⟩, c⟩ := f
  cases b
  · obtain ⟨h1, h2, h3, h4, h5, h6⟩ := cz (fs := fs) (a := a) (i := i) (v := v) (l := c) (r := t) h
    refine ⟨h1, h2, h3, h4, ?_, h6⟩
    rw [h5]
    exact congrArg nI (by show tsz c + 1 + tsz t = tsz t + 1 + tsz c; omega)
  · exact cz (fs := fs) (a := a) (i := i) (v := v) (l := t) (r := c) h
theorem cnt_rk {t : Tr} {par : Option Nat} (h : gN (Pn L K Ic) t) : cntO (Ic 0) (rk kA t) = nI (tsz t) := by
  cases t with
  | leaf => rfl
  | inner a i v l r => exact h.1.2.1
theorem rk_K {t : Tr} (h : gN (Pn L K Ic) t) : ∀ b, rk kA t = some b → b ∈ L ∧ K b = 0 := by
  cases t with
  | leaf => intro b hb; cases hb
  | inner a i v l r => intro b hb; cases hb; exact h.1.1
/-- the other subtree of the parent isn't the node -/
theorem sib_ne {t : Tr} {f : Fr} {fs : List Fr} {a : Nat} (hn : (kl kA (plug (f :: fs) t)).Nodup) (ht : rk kA t = some a) : rk kA f.2.2 ≠ some a := by
  intro h
  have h2 := (kl_plug kA (f :: fs) t).nodup_iff.mp hn
  exact (List.nodup_append.mp h2).2.2 a (rk_mem kA ht) a (List.mem_cons_of_mem _ (List.mem_append_left _ (rk_mem kA h))) rfl
/-- whether the node is a left child -/
def isLeftOf (Rc : Nat → Nat → Option Nat) (a : Nat) : Int32 := match Rc 2 a with
  | none => 0
  | some p => if Rc 0 p = some a then 1 else 0
def hd01 (fs : List Fr) : Int32 := if (fs.head?.map (·.1)) = some true then 1 else 0
theorem isLeft_eq {a i : Nat} {v : Int32} {l r : Tr} {fs : List Fr} (hn : (kl kA (plug fs (nd a i v l r))).Nodup) (h : cT L K Rc Ic (plug fs (nd a i v l r))) : isLeftOf Rc a = hd01 fs := by
  have h1 := (cz h).2.2.2.1
  unfold isLeftOf
  rw [h1]
  cases fs with
  | nil => rfl
  | cons f fs =>
    have h2 := (czp h).2.1
    have h3 := sib_ne hn (a := a) rfl
    obtain ⟨b, x, c⟩ := f
    cases b
    · have h2 : Rc 0 x.1 = rk kA c := h2
      show (if Rc 0 x.1 = some a then (1 : Int32) else 0) = 0
      rw [if_neg (by rw [h2]; exact h3)]
    · have h2 : Rc 0 x.1 = some a := h2
      show (if Rc 0 x.1 = some a then (1 : Int32) else 0) = 1
      rw [if_pos h2]
theorem rot_kl (ky : Nat → Nat → Nat) (a i : Nat) (v : Int32) (b c : Tr) (f : Fr) (fs : List Fr) : kl ky (plug fs (rot1 (nd a i v b c) f)) = kl ky (plug (f :: fs) (nd a i v b c)) := by
  obtain ⟨l', r', e1, e2, e3⟩ := rot1_nd f a i v b c
  apply kl_io
  rw [io_plug, io_plug, e1, bef_cons, aft_cons]
  simp [io, e2, e3]
end FOR
