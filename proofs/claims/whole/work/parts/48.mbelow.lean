/-! ===== the model: below, subtree, potential ===== -/
def bl (i : Nat) : Tr → Nat
  | .leaf => 0
  | .inner _ j _ l r => if j = i then tsz l + 1 + tsz r else bl i l + bl i r
/-- the nodes that have i above them, or are it -/
def plL (i : Nat) : Tr → List Nat
  | .leaf => []
  | .inner a j v l r => if j = i then kl kI (nd a j v l r) else plL i l ++ plL i r
theorem plL_len (i : Nat) (t : Tr) : (plL i t).length = bl i t := by
  induction t with
  | leaf => rfl
  | inner a j v l r ihl ihr =>
    unfold plL bl
    by_cases h : j = i
    · rw [if_pos h, if_pos h, kl_len]
      rfl
    · rw [if_neg h, if_neg h, List.length_append, ihl, ihr]
theorem plL_kl (i : Nat) (t : Tr) : ∀ q ∈ plL i t, q ∈ kl kI t := by
  induction t with
  | leaf => intro q h; cases h
  | inner a j v l r ihl ihr =>
    intro q h
    unfold plL at h
    by_cases e : j = i
    · rw [if_pos e] at h
      exact h
    · rw [if_neg e] at h
      rw [show kl kI (Std.DTreeMap.Internal.Impl.inner a j v l r) = kl kI l ++ j :: kl kI r from kl_nd kI a j v l r]
      rcases List.mem_append.mp h with h | h
      · exact List.mem_append_left _ (ihl q h)
      · exact List.mem_append_right _ (List.mem_cons_of_mem _ (ihr q h))
theorem plL_nd (i : Nat) (t : Tr) : (kl kI t).Nodup → (plL i t).Nodup := by
  induction t with
  | leaf => intro _; exact List.nodup_nil
  | inner a j v l r ihl ihr =>
    intro hn
    have hn2 := hn
    obtain ⟨m1, m2, m3, m4, lr⟩ := apartI hn2
    unfold plL
    by_cases e : j = i
    · rw [if_pos e]
      exact hn
    · rw [if_neg e]
      exact List.nodup_append.mpr ⟨ihl m3, ihr m4, fun q hq q' hq' => lr q (plL_kl i l q hq) q' (plL_kl i r q' hq')⟩
theorem bl_out {i : Nat} (t : Tr) : i ∉ kl kI t → bl i t = 0 := by
  induction t with
  | leaf => intro _; rfl
  | inner a j v l r ihl ihr =>
    intro h
    rw [show kl kI (Std.DTreeMap.Internal.Impl.inner a j v l r) = kl kI l ++ j :: kl kI r from kl_nd kI a j v l r] at h
    unfold bl
    rw [if_neg (fun e => h (by rw [e]; simp)), ihl (fun e => h (List.mem_append_left _ e)), ihr (fun e => h (List.mem_append_right _ (List.mem_cons_of_mem _ e)))]
theorem bl_plug {i : Nat} (fs : List Fr) : ∀ t, i ∉ kp kI fs → bl i (plug fs t) = bl i t := by
  induction fs with
  | nil => intro t _; rfl
  | cons f fs ih =>
    intro t h
    obtain ⟨b, ⟨a, j, v⟩, c⟩ := f
    have h : i ∉ (j :: (kl kI c ++ kp kI fs)) := h
    have h1 : j ≠ i := fun e => h (by rw [e]; exact List.mem_cons_self)
    have h2 : bl i c = 0 := bl_out c (fun e => h (List.mem_cons_of_mem _ (List.mem_append_left _ e)))
    show bl i (plug fs (plug1 (b, (a, j, v), c) t)) = bl i t
    rw [ih _ (fun e => h (List.mem_cons_of_mem _ (List.mem_append_right _ e)))]
    cases b
    · show (if j = i then _ else bl i c + bl i t) = _
      rw [if_neg h1, h2, Nat.zero_add]
    · show (if j = i then _ else bl i t + bl i c) = _
      rw [if_neg h1, h2, Nat.add_zero]
def hsB (i o : Nat) (fs : List Fr) : Bool := decide (o = i) || fs.any (fun f => decide (fk kI f = i))
theorem plL_plug {i o : Nat} (fs : List Fr) : ∀ t, o ∈ kl kI t → (kl kI (plug fs t)).Nodup → (o ∈ plL i (plug fs t) ↔ fs.any (fun f => decide (fk kI f = i)) = true ∨ o ∈ plL i t) := by
  induction fs with
  | nil => intro t ho hn; simp [plug]
  | cons f fs ih =>
    intro t ho hn
    have hn2 := (kl_plug kI (f :: fs) t).nodup_iff.mp hn
    obtain ⟨b, ⟨a, j, v⟩, c⟩ := f
    have hc : o ∉ kl kI c := fun h => (List.nodup_append.mp hn2).2.2 o ho o (List.mem_cons_of_mem _ (List.mem_append_left _ h)) rfl
    have ho1 : o ∈ kl kI (plug1 (b, (a, j, v), c) t) := by
      cases b
      · show o ∈ kl kI (nd a j v c t)
        rw [kl_nd]
        exact List.mem_append_right _ (List.mem_cons_of_mem _ ho)
      · show o ∈ kl kI (nd a j v t c)
        rw [kl_nd]
        exact List.mem_append_left _ ho
    show o ∈ plL i (plug fs (plug1 (b, (a, j, v), c) t)) ↔ _
    rw [ih _ ho1 hn]
    have e : o ∈ plL i (plug1 (b, (a, j, v), c) t) ↔ j = i ∨ o ∈ plL i t := by
      have hc2 : o ∉ plL i c := fun h => hc (plL_kl i c o h)
      cases b
      · show o ∈ (if j = i then kl kI (nd a j v c t) else plL i c ++ plL i t) ↔ _
        by_cases h : j = i
        · rw [if_pos h]
          exact ⟨fun _ => Or.inl h, fun _ => ho1⟩
        · rw [if_neg h]
          simp [h, hc2]
      · show o ∈ (if j = i then kl kI (nd a j v t c) else plL i t ++ plL i c) ↔ _
        by_cases h : j = i
        · rw [if_pos h]
          exact ⟨fun _ => Or.inl h, fun _ => ho1⟩
        · rw [if_neg h]
          simp [h, hc2]
    rw [e]
    show _ ↔ (decide (j = i) || fs.any (fun f => decide (fk kI f = i))) = true ∨ _
    simp only [Bool.or_eq_true, decide_eq_true_eq]
    constructor
    · rintro (h | h | h)
      · exact Or.inl (Or.inr h)
      · exact Or.inl (Or.inl h)
      · exact Or.inr h
    · rintro ((h | h) | h)
      · exact Or.inr (Or.inl h)
      · exact Or.inl h
      · exact Or.inr (Or.inr h)
theorem hs_plL {i o a : Nat} {v : Int32} {l r : Tr} {fs : List Fr} (hn : (kl kI (plug fs (nd a o v l r))).Nodup) : hsB i o fs = true ↔ o ∈ plL i (plug fs (nd a o v l r)) := by
  rw [plL_plug fs _ (rk_mem kI rfl) hn]
  have hn2 := (List.nodup_append.mp ((kl_plug kI fs (nd a o v l r)).nodup_iff.mp hn)).1
  obtain ⟨m1, m2, -⟩ := apartI hn2
  have e : o ∈ plL i (nd a o v l r) ↔ o = i := by
    show o ∈ (if o = i then kl kI (nd a o v l r) else plL i l ++ plL i r) ↔ _
    by_cases h : o = i
    · rw [if_pos h]
      exact ⟨fun _ => h, fun _ => rk_mem kI rfl⟩
    · rw [if_neg h]
      refine ⟨fun hm => ?_, fun e => absurd e h⟩
      rcases List.mem_append.mp hm with hm | hm
      · exact absurd (plL_kl i l o hm) m1
      · exact absurd (plL_kl i r o hm) m2
  rw [e]
  unfold hsB
  simp only [Bool.or_eq_true, decide_eq_true_eq]
  exact Or.comm
/-! sums over places -/
def wL (g : Nat → Nat) (l : List Nat) : Nat → Nat
  | 0 => 0
  | k + 1 => wL g l k + (if k ∈ l then g k else 0)
theorem wL_nil (g : Nat → Nat) : ∀ k, wL g [] k = 0 := by
  intro k
  induction k with
  | zero => rfl
  | succ k ih =>
    unfold wL
    rw [ih, if_neg (by simp)]
theorem wL_cons (g : Nat → Nat) {a : Nat} {l : List Nat} (h : a ∉ l) : ∀ k, wL g (a :: l) k = wL g l k + (if a < k then g a else 0) := by
  intro k
  induction k with
  | zero => rfl
  | succ k ih =>
    unfold wL
    rw [ih]
    by_cases e : k = a
    · rw [e, if_neg (Nat.lt_irrefl _), if_pos List.mem_cons_self, if_neg h, if_pos (Nat.lt_succ_self _)]
    · by_cases hl : k ∈ l
      · rw [if_pos (List.mem_cons_of_mem _ hl), if_pos hl]
        by_cases hk : a < k
        · rw [if_pos hk, if_pos (by omega)]
          omega
        · rw [if_neg hk, if_neg (by omega)]
          omega
      · have hal : ¬ k ∈ a :: l := by simp [e, hl]
        rw [if_neg hl, if_neg hal]
        by_cases hk : a < k
        · rw [if_pos hk, if_pos (show a < k + 1 by omega), Nat.add_zero, Nat.add_zero]
        · rw [if_neg hk, if_neg (show ¬ a < k + 1 by omega)]
theorem wL_all (g : Nat → Nat) (N : Nat) (l : List Nat) : l.Nodup → (∀ x ∈ l, x < N) → wL g l N = (l.map g).sum := by
  induction l with
  | nil => intro _ _; exact wL_nil g N
  | cons a l ih =>
    intro hn h
    rw [List.nodup_cons] at hn
    rw [wL_cons g hn.1, ih hn.2 (fun x hx => h x (List.mem_cons_of_mem _ hx)), if_pos (h a List.mem_cons_self), List.map_cons, List.sum_cons, Nat.add_comm]
theorem wL_le (g : Nat → Nat) (b : Nat) (l : List Nat) (hg : ∀ k, k ∈ l → g k ≤ b) : ∀ k, wL g l k ≤ b * k := by
  intro k
  induction k with
  | zero => exact Nat.le_refl _
  | succ k ih =>
    unfold wL
    rw [Nat.mul_succ]
    by_cases h : k ∈ l
    · rw [if_pos h]
      have := hg k h
      omega
    · rw [if_neg h]
      omega
section MBL
variable {G : GC} {L : List Nat} {K AN : Nat → Nat} {R0 Rc : Nat → Nat → Option Nat} {Ic AIc Im AIm I1 A1 : Nat → Nat → Int32} {AR : Nat → Nat → Option Nat} {AL : Nat → Nat → Int64} {W : Nat → Nat} {t c m : Tr} {fg fg' : Nat → Option (Nat × Nat)} {n : Cn} {F : List Tr}
theorem bel_up {Q : RS → SS → Prop} (i cnt oth : Nat) (hM : mK W L K AN R0) (hi : i < 60) : ∀ (fs : List Fr) (x : Tr) (o : Nat), mT W AIm (plug fs x) → rk kI x = some o →
    WP G mX5_below Q 0 0 50 [(0, vr (some (W 0))), (1, vi (nI i)), (2, vi (nI cnt)), (3, vi (nI oth)), (4, vi (if hsB i o fs = true then nI i else -1))] [] (mkS L K AN R0 Rc Ic AIc AR Im AIm AL) →
    WP G mX5_below Q 0 0 26 [(0, vr (some (W 0))), (1, vi (nI i)), (2, vi (nI cnt)), (3, vi (nI oth)), (4, vi (nI o))] [] (mkS L K AN R0 Rc Ic AIc AR Im AIm AL) := by
  obtain ⟨m0, ⟨f1, f2, f3, f4, f5, f6, f7⟩, ⟨⟨q1, n1⟩, ⟨q2, n2⟩, ⟨q3, n3⟩, ⟨q4, n4⟩, ⟨q5, n5⟩, ⟨q6, n6⟩, ⟨q7, n7⟩⟩, hne⟩ := hM
  intro fs
  induction fs with
  | nil =>
    intro x o hm ho kk
    cases x with
    | leaf => cases ho
    | inner a o' v l r =>
      cases ho
      obtain ⟨z0, z1, z2, z3⟩ := mz (fs := []) hm
      refine WP_iload dX5_below_26 rfl ?_
      refine WP_iconst (-1) dX5_below_28 (by decide) ?_
      refine WP_icmp_eq 50 dX5_below_29 (by decide) (fun hb => absurd hb (nI_ne1 z0)) (fun _ => ?_)
      refine WP_iload dX5_below_32 rfl ?_
      refine WP_iload_n dX5_below_34 rfl ?_
      refine WP_icmp_eq 50 dX5_below_35 (by decide) (fun hb => ?_) (fun hb => ?_)
      · have e : o' = i := (nI_eq (by omega) (by omega)).mp hb
        rw [if_pos (by simp [hsB, e])] at kk
        rw [e]
        exact kk
      · have e : ¬ o' = i := fun e => hb (by rw [e])
        rw [if_neg (by simp [hsB, e])] at kk
        refine WP_aload_n dX5_below_38 rfl ?_
        refine gf_RX5_26 dX5_below_39 rfl rfl m0 ?_
        refine WP_iload dX5_below_42 rfl ?_
        refine ald_7 o' 60 dX5_below_44 f4 q4 n4 rfl z0 (by decide) ?_
        refine WP_istore dX5_below_45 (by decide) rfl ?_
        refine WP_goto 26 dX5_below_47 (by decide) ?_
        rw [z3]
        refine WP_iload dX5_below_26 rfl ?_
        refine WP_iconst (-1) dX5_below_28 (by decide) ?_
        refine WP_icmp_eq 50 dX5_below_29 (by decide) (fun _ => ?_) (fun hb => absurd hb (by decide))
        refine WP_lv [(0, vr (some (W 0))), (1, vi (nI i)), (2, vi (nI cnt)), (3, vi (nI oth)), (4, vi (-1))] (List.forall_mem_cons.mpr ⟨rfl, List.forall_mem_cons.mpr ⟨rfl, List.forall_mem_cons.mpr ⟨rfl, List.forall_mem_cons.mpr ⟨rfl, List.forall_mem_cons.mpr ⟨rfl, fun _ h9 => absurd h9 List.not_mem_nil⟩⟩⟩⟩⟩) ?_
        exact kk
  | cons f fs ih =>
    intro x o hm ho kk
    cases x with
    | leaf => cases ho
    | inner a o' v l r =>
      cases ho
      obtain ⟨z0, z1, z2, z3⟩ := mz hm
      refine WP_iload dX5_below_26 rfl ?_
      refine WP_iconst (-1) dX5_below_28 (by decide) ?_
      refine WP_icmp_eq 50 dX5_below_29 (by decide) (fun hb => absurd hb (nI_ne1 z0)) (fun _ => ?_)
      refine WP_iload dX5_below_32 rfl ?_
      refine WP_iload_n dX5_below_34 rfl ?_
      refine WP_icmp_eq 50 dX5_below_35 (by decide) (fun hb => ?_) (fun hb => ?_)
      · have e : o' = i := (nI_eq (by omega) (by omega)).mp hb
        rw [if_pos (by simp [hsB, e])] at kk
        rw [e]
        exact kk
      · have e : ¬ o' = i := fun e => hb (by rw [e])
        have e2 : hsB i o' (f :: fs) = hsB i (fk kI f) fs := by simp [hsB, e]
        rw [e2] at kk
        refine WP_aload_n dX5_below_38 rfl ?_
        refine gf_RX5_26 dX5_below_39 rfl rfl m0 ?_
        refine WP_iload dX5_below_42 rfl ?_
        refine ald_7 o' 60 dX5_below_44 f4 q4 n4 rfl z0 (by decide) ?_
        refine WP_istore dX5_below_45 (by decide) rfl ?_
        refine WP_goto 26 dX5_below_47 (by decide) ?_
        rw [z3]
        refine WP_lv [(0, vr (some (W 0))), (1, vi (nI i)), (2, vi (nI cnt)), (3, vi (nI oth)), (4, vi (nI (fk kI f)))] (List.forall_mem_cons.mpr ⟨rfl, List.forall_mem_cons.mpr ⟨rfl, List.forall_mem_cons.mpr ⟨rfl, List.forall_mem_cons.mpr ⟨rfl, List.forall_mem_cons.mpr ⟨rfl, fun _ h9 => absurd h9 List.not_mem_nil⟩⟩⟩⟩⟩) ?_
        exact ih (plug1 f (nd a o' v l r)) (fk kI f) hm (rk_plug1 kI f _) kk
theorem bel_loop {Q : RS → SS → Prop} (i : Nat) (hM : mK W L K AN R0) (hi : i < 60) (hF : mF W AIm [t, c]) (h1 : ∀ x, mB t c x → AIm (W 5) x.2.1 = 1) (h0 : ∀ i, i < 60 → (∀ x, mB t c x → x.2.1 ≠ i) → AIm (W 5) i = 0)
    (hQ : Q (.inl (some (vi (nI (wL (fun _ => 1) (plL i t ++ plL i c) 60))))) (mkS L K AN R0 Rc Ic AIc AR Im AIm AL)) : ∀ (b k : Nat), 60 - k ≤ b → k ≤ 60 →
    WP G mX5_below Q 0 0 4 [(0, vr (some (W 0))), (1, vi (nI i)), (2, vi (nI (wL (fun _ => 1) (plL i t ++ plL i c) k))), (3, vi (nI k))] [] (mkS L K AN R0 Rc Ic AIc AR Im AIm AL) := by
  have hM' := hM
  obtain ⟨m0, ⟨f1, f2, f3, f4, f5, f6, f7⟩, ⟨⟨q1, n1⟩, ⟨q2, n2⟩, ⟨q3, n3⟩, ⟨q4, n4⟩, ⟨q5, n5⟩, ⟨q6, n6⟩, ⟨q7, n7⟩⟩, hne⟩ := hM
  have hnd : (kl kI t ++ (kl kI c ++ [])).Nodup := hF.2
  rw [List.append_nil] at hnd
  have hmt := hF.1 t (by simp)
  have hmc := hF.1 c (by simp)
  have fin : ∀ k, k = 60 → WP G mX5_below Q 0 0 4 [(0, vr (some (W 0))), (1, vi (nI i)), (2, vi (nI (wL (fun _ => 1) (plL i t ++ plL i c) k))), (3, vi (nI k))] [] (mkS L K AN R0 Rc Ic AIc AR Im AIm AL) := by
    intro k hk
    subst hk
    refine WP_iload_n dX5_below_4 rfl ?_
    refine WP_bipush (60) dX5_below_5 (by decide) ?_
    refine WP_icmp_ge 70 dX5_below_7 (by decide) (fun h1 => ?_) (fun h1 => ?_)
    · refine WP_iload_n dX5_below_70 rfl ?_
      refine WP_ireturn dX5_below_71 rfl rfl (Nat.le_of_ble_eq_true rfl) (Nat.le_of_ble_eq_true rfl) ?_
      exact hQ
    · exact absurd (Int32.le_refl _) h1
  intro b
  induction b with
  | zero => intro k hb hk; exact fin k (by omega)
  | succ b ih =>
    intro k hb hk
    by_cases hk60 : k < 60
    · have tail : ∀ p : Bool, (p = true ↔ k ∈ plL i t ++ plL i c) → WP G mX5_below Q 0 0 50 [(0, vr (some (W 0))), (1, vi (nI i)), (2, vi (nI (wL (fun _ => 1) (plL i t ++ plL i c) k))), (3, vi (nI k)), (4, vi (if p = true then nI i else -1))] [] (mkS L K AN R0 Rc Ic AIc AR Im AIm AL) := by
        intro p hp
        refine WP_iload_n dX5_below_50 rfl ?_
        refine WP_iload dX5_below_51 rfl ?_
        refine WP_iload_n dX5_below_53 rfl ?_
        cases p with
        | true =>
          have hmem := hp.mp rfl
          rw [if_pos rfl]
          refine WP_icmp_ne 61 dX5_below_54 (by decide) (fun hb => absurd hb (fun h => h rfl)) (fun _ => ?_)
          refine WP_iconst (1) dX5_below_57 (by decide) ?_
          refine WP_goto 62 dX5_below_58 (by decide) ?_
          refine WP_iadd dX5_below_62 ?_
          refine WP_istore_n dX5_below_63 (by decide) rfl ?_
          refine WP_iinc (nI (k + 1)) dX5_below_64 rfl (nI_1 _) (by decide) rfl ?_
          refine WP_goto 4 dX5_below_67 (by decide) ?_
          have e : nI (wL (fun _ => 1) (plL i t ++ plL i c) k) + 1 = nI (wL (fun _ => 1) (plL i t ++ plL i c) (k + 1)) := by
            rw [nI_1]
            refine congrArg nI ?_
            show _ = wL _ _ k + (if k ∈ plL i t ++ plL i c then 1 else 0)
            rw [if_pos hmem]
          rw [e]
          refine WP_lv [(0, vr (some (W 0))), (1, vi (nI i)), (2, vi (nI (wL (fun _ => 1) (plL i t ++ plL i c) (k + 1)))), (3, vi (nI (k + 1)))] (List.forall_mem_cons.mpr ⟨rfl, List.forall_mem_cons.mpr ⟨rfl, List.forall_mem_cons.mpr ⟨rfl, List.forall_mem_cons.mpr ⟨rfl, fun _ h9 => absurd h9 List.not_mem_nil⟩⟩⟩⟩) ?_
          exact ih (k + 1) (by omega) (by omega)
        | false =>
          have hmem : ¬ k ∈ plL i t ++ plL i c := fun h => by cases hp.mpr h
          rw [if_neg (by decide)]
          refine WP_icmp_ne 61 dX5_below_54 (by decide) (fun _ => ?_) (fun hb => absurd hb (fun h => nI_ne1 hi (h : (-1 : Int32) = nI i).symm))
          refine WP_iconst (0) dX5_below_61 (by decide) ?_
          refine WP_iadd dX5_below_62 ?_
          refine WP_istore_n dX5_below_63 (by decide) rfl ?_
          refine WP_iinc (nI (k + 1)) dX5_below_64 rfl (nI_1 _) (by decide) rfl ?_
          refine WP_goto 4 dX5_below_67 (by decide) ?_
          have e : nI (wL (fun _ => 1) (plL i t ++ plL i c) k) + 0 = nI (wL (fun _ => 1) (plL i t ++ plL i c) (k + 1)) := by
            rw [Int32.add_zero]
            refine congrArg nI ?_
            show _ = wL _ _ k + (if k ∈ plL i t ++ plL i c then 1 else 0)
            rw [if_neg hmem]
            rfl
          rw [e]
          refine WP_lv [(0, vr (some (W 0))), (1, vi (nI i)), (2, vi (nI (wL (fun _ => 1) (plL i t ++ plL i c) (k + 1)))), (3, vi (nI (k + 1)))] (List.forall_mem_cons.mpr ⟨rfl, List.forall_mem_cons.mpr ⟨rfl, List.forall_mem_cons.mpr ⟨rfl, List.forall_mem_cons.mpr ⟨rfl, fun _ h9 => absurd h9 List.not_mem_nil⟩⟩⟩⟩) ?_
          exact ih (k + 1) (by omega) (by omega)
      have inT : ∀ u : Tr, mT W AIm u → (kl kI u).Nodup → ∀ z ∈ io u, z.2.1 = k → (k ∈ plL i u ↔ k ∈ plL i t ++ plL i c) →
          WP G mX5_below Q 0 0 26 [(0, vr (some (W 0))), (1, vi (nI i)), (2, vi (nI (wL (fun _ => 1) (plL i t ++ plL i c) k))), (3, vi (nI k)), (4, vi (nI k))] [] (mkS L K AN R0 Rc Ic AIc AR Im AIm AL) := by
        intro u hu hn z hz e hiff
        obtain ⟨a, o, v⟩ := z
        have e : o = k := e
        subst e
        obtain ⟨fs, l, r, e2⟩ := zip_of u hz
        have hu2 := hu
        have hn2 := hn
        rw [e2] at hu2 hn2
        refine bel_up i _ o hM' hi fs _ o hu2 rfl (tail _ ?_)
        rw [hs_plL hn2, ← e2]
        exact hiff
      refine WP_iload_n dX5_below_4 rfl ?_
      refine WP_bipush (60) dX5_below_5 (by decide) ?_
      refine WP_icmp_ge 70 dX5_below_7 (by decide) (fun h3 => ?_) (fun h3 => ?_)
      · exact absurd h3 (nI_ge hk60 (by decide))
      · refine WP_aload_n dX5_below_10 rfl ?_
        refine gf_RX5_29 dX5_below_11 rfl rfl m0 ?_
        refine WP_iload_n dX5_below_14 rfl ?_
        refine ald_8 k 60 dX5_below_15 f5 q5 n5 rfl hk60 (by decide) ?_
        by_cases hin : ∃ x, mB t c x ∧ x.2.1 = k
        · obtain ⟨z, hz, hzk⟩ := hin
          rw [← hzk, h1 z hz, hzk]
          refine WP_if_eq 23 dX5_below_16 (by decide) (fun hb => absurd hb (by decide)) (fun _ => ?_)
          refine WP_iload_n dX5_below_19 rfl ?_
          refine WP_goto 24 dX5_below_20 (by decide) ?_
          refine WP_istore dX5_below_24 (by decide) rfl ?_
          refine WP_lv [(0, vr (some (W 0))), (1, vi (nI i)), (2, vi (nI (wL (fun _ => 1) (plL i t ++ plL i c) k))), (3, vi (nI k)), (4, vi (nI k))] (List.forall_mem_cons.mpr ⟨rfl, List.forall_mem_cons.mpr ⟨rfl, List.forall_mem_cons.mpr ⟨rfl, List.forall_mem_cons.mpr ⟨rfl, List.forall_mem_cons.mpr ⟨rfl, fun _ h9 => absurd h9 List.not_mem_nil⟩⟩⟩⟩⟩) ?_
          rcases hz with hz | hz
          · refine inT t hmt (List.nodup_append.mp hnd).1 z hz hzk ⟨fun h => List.mem_append_left _ h, fun h => ?_⟩
            rcases List.mem_append.mp h with h | h
            · exact h
            · exact absurd rfl ((List.nodup_append.mp hnd).2.2 k (List.mem_map.mpr ⟨z, hz, hzk⟩) k (plL_kl i c k h))
          · refine inT c hmc (List.nodup_append.mp hnd).2.1 z hz hzk ⟨fun h => List.mem_append_right _ h, fun h => ?_⟩
            rcases List.mem_append.mp h with h | h
            · exact absurd rfl ((List.nodup_append.mp hnd).2.2 k (plL_kl i t k h) k (List.mem_map.mpr ⟨z, hz, hzk⟩))
            · exact h
        · rw [h0 k hk60 (fun x hx e => hin ⟨x, hx, e⟩)]
          refine WP_if_eq 23 dX5_below_16 (by decide) (fun _ => ?_) (fun hb => absurd hb (by decide))
          refine WP_iconst (-1) dX5_below_23 (by decide) ?_
          refine WP_istore dX5_below_24 (by decide) rfl ?_
          refine WP_iload dX5_below_26 rfl ?_
          refine WP_iconst (-1) dX5_below_28 (by decide) ?_
          refine WP_icmp_eq 50 dX5_below_29 (by decide) (fun _ => ?_) (fun hb => absurd hb (by decide))
          refine WP_lv [(0, vr (some (W 0))), (1, vi (nI i)), (2, vi (nI (wL (fun _ => 1) (plL i t ++ plL i c) k))), (3, vi (nI k)), (4, vi (if false = true then nI i else -1))] (List.forall_mem_cons.mpr ⟨rfl, List.forall_mem_cons.mpr ⟨rfl, List.forall_mem_cons.mpr ⟨rfl, List.forall_mem_cons.mpr ⟨rfl, List.forall_mem_cons.mpr ⟨rfl, fun _ h9 => absurd h9 List.not_mem_nil⟩⟩⟩⟩⟩) ?_
          refine tail false ⟨fun h => (by cases h), fun h => ?_⟩
          have hk2 : k ∈ kl kI t ++ kl kI c := by
            rcases List.mem_append.mp h with h | h
            · exact List.mem_append_left _ (plL_kl i t k h)
            · exact List.mem_append_right _ (plL_kl i c k h)
          rcases List.mem_append.mp hk2 with h | h
          · obtain ⟨z, hz, e⟩ := List.mem_map.mp h
            exact absurd ⟨z, Or.inl hz, e⟩ hin
          · obtain ⟨z, hz, e⟩ := List.mem_map.mp h
            exact absurd ⟨z, Or.inr hz, e⟩ hin
    · exact fin k (by omega)
theorem bel_sum (i : Nat) (hF : mF W AIm [t, c]) : wL (fun _ => 1) (plL i t ++ plL i c) 60 = bl i t + bl i c := by
  have hnd : (kl kI t ++ (kl kI c ++ [])).Nodup := hF.2
  rw [List.append_nil] at hnd
  obtain ⟨n1, n2, n3⟩ := List.nodup_append.mp hnd
  rw [wL_all]
  · rw [← plL_len, ← plL_len, ← List.length_append]
    generalize plL i t ++ plL i c = l
    induction l with
    | nil => rfl
    | cons a l ih => rw [List.map_cons, List.sum_cons, ih, List.length_cons, Nat.add_comm]
  · exact List.nodup_append.mpr ⟨plL_nd i t n1, plL_nd i c n2, fun q hq q' hq' => n3 q (plL_kl i t q hq) q' (plL_kl i c q' hq')⟩
  · intro x hx
    rcases List.mem_append.mp hx with hx | hx
    · exact (hF.1 t (by simp)).2 x (plL_kl i t x hx)
    · exact (hF.1 c (by simp)).2 x (plL_kl i c x hx)
theorem m_below (i : Nat) (hM : mK W L K AN R0) (hi : i < 60) (hF : mF W AIm [t, c]) (h1 : ∀ x, mB t c x → AIm (W 5) x.2.1 = 1) (h0 : ∀ i, i < 60 → (∀ x, mB t c x → x.2.1 ≠ i) → AIm (W 5) i = 0) :
    MT G mX5_below [vr (some (W 0)), vi (nI i)] (mkS L K AN R0 Rc Ic AIc AR Im AIm AL) (rI (fun x S' => x = nI (bl i t + bl i c) ∧ S' = mkS L K AN R0 Rc Ic AIc AR Im AIm AL)) := by
  refine MT_of (by decide) rfl (Nat.le_of_ble_eq_true rfl) ?_
  refine WP_iconst (0) dX5_below_0 (by decide) ?_
  refine WP_istore_n dX5_below_1 (by decide) rfl ?_
  refine WP_iconst (0) dX5_below_2 (by decide) ?_
  refine WP_istore_n dX5_below_3 (by decide) rfl ?_
  refine WP_lv [(0, vr (some (W 0))), (1, vi (nI i)), (2, vi (nI (wL (fun _ => 1) (plL i t ++ plL i c) 0))), (3, vi (nI 0))] (List.forall_mem_cons.mpr ⟨rfl, List.forall_mem_cons.mpr ⟨rfl, List.forall_mem_cons.mpr ⟨rfl, List.forall_mem_cons.mpr ⟨rfl, fun _ h9 => absurd h9 List.not_mem_nil⟩⟩⟩⟩) ?_
  exact bel_loop i hM hi hF h1 h0 ⟨_, rfl, by rw [bel_sum i hF], rfl⟩ 60 0 (by decide) (by decide)
theorem bl_at {k : Nat} (hF : mF W AIm [t, c]) (hk : k < tsz t) : bl (idAt t k).2 t + bl (idAt t k).2 c = tsz (zat t k []).1 ∧ (idAt t k).2 < 60 := by
  obtain ⟨fs, a, i, v, l, r, z1, z2, z3, z4, z5, z6, z7⟩ := at_zip hk
  have hnd : (kl kI t ++ (kl kI c ++ [])).Nodup := hF.2
  rw [List.append_nil] at hnd
  have hit : i ∈ kl kI t := List.mem_of_getElem? (kl_at z7)
  have hic : i ∉ kl kI c := fun h => (List.nodup_append.mp hnd).2.2 i hit i h rfl
  have hnt := (List.nodup_append.mp hnd).1
  have hn2 := hnt
  rw [z2] at hn2
  have hif : i ∉ kp kI fs := fun h => (List.nodup_append.mp ((kl_plug kI fs _).nodup_iff.mp hn2)).2.2 i (rk_mem kI rfl) i h rfl
  rw [idAt_of z7, z1]
  refine ⟨?_, (hF.1 t (by simp)).2 i hit⟩
  show bl i t + bl i c = tsz (nd a i v l r)
  rw [bl_out c hic, Nat.add_zero]
  rw [z2, bl_plug fs _ hif]
  exact if_pos rfl
theorem p_subtree (x : Int32) (hA : AI (t, c, fg, n)) (hI : mI W L K AN R0 Im AIm (t, c, fg, n)) :
    MT G mX5_subtree [vr (some (W 0)), vi x] (mkS L K AN R0 Rc Ic AIc AR Im AIm AL) (mR W L K AN R0 Rc Ic AIc AR AL (aSub (t, c, fg, n) x)) := by
  obtain ⟨hM, ⟨ht, hc⟩, hF, hcn, hv, ⟨hth1, hth0⟩, hfg⟩ := id hI
  have ht : Im 1 (W 0) = ix (rk kI t) := ht
  have hc : Im 2 (W 0) = ix (rk kI c) := hc
  have hF : mF W AIm [t, c] := hF
  have hcn : cmO Im W = n := hcn
  have hfg : ∀ k, k < 4 → AIm (W 6) k = ix ((fg k).map (·.2)) := hfg
  have hs : tsz t + tsz c ≤ 60 := hA.1
  have hst : tsz t ≤ 60 := by omega
  have hmt := hF.1 t List.mem_cons_self
  have hnt := mF_hd hF
  obtain ⟨m0, ⟨f1, f2, f3, f4, f5, f6, f7⟩, ⟨⟨q1, n1⟩, ⟨q2, n2⟩, ⟨q3, n3⟩, ⟨q4, n4⟩, ⟨q5, n5⟩, ⟨q6, n6⟩, ⟨q7, n7⟩⟩, hne⟩ := id hM
  refine MT_of (by decide) rfl (Nat.le_of_ble_eq_true rfl) ?_
  by_cases hx : inP (tsz t) x
  · refine WP_aload_n dX5_subtree_0 rfl ?_
    refine WP_aload_n dX5_subtree_1 rfl ?_
    refine WP_iload_n dX5_subtree_2 rfl ?_
    refine callVi mX5_isPlace [_] dX5_subtree_3 okc_X5_isPlace ok_781 ⟨by decide, by decide⟩ rfl rfl m0 rfl (Nat.le_of_ble_eq_true rfl) (Nat.le_of_ble_eq_true rfl) (Nat.le_of_ble_eq_true rfl) (m_isPlace x hM ht hmt hnt hst) (fun x1 S1 h1 => ?_)
    obtain ⟨rfl, I1, A1, rfl, s1, -⟩ := h1
    rw [if_pos hx]
    refine WP_if_eq 13 dX5_subtree_6 (by decide) (fun hb => absurd hb (by decide)) (fun _ => ?_)
    refine WP_iconst (0) dX5_subtree_9 (by decide) ?_
    refine WP_goto 14 dX5_subtree_10 (by decide) ?_
    refine callVi mX5_goesWell [_] dX5_subtree_14 okc_X5_goesWell ok_749 ⟨by decide, by decide⟩ rfl rfl m0 rfl (Nat.le_of_ble_eq_true rfl) (Nat.le_of_ble_eq_true rfl) (Nat.le_of_ble_eq_true rfl) (m_goesWell 0 hM) (fun x1 S1 h1 => ?_)
    obtain ⟨rfl, rfl⟩ := h1
    rw [if_pos rfl]
    have hI2 := mI_S hI s1 0
    have th : (u2 I1 0 (W 0) 0) 0 (W 0) = 0 := u2_eq _ _ _ _
    generalize u2 I1 0 (W 0) 0 = Im2 at hI2 th ⊢
    refine WP_if_eq 36 dX5_subtree_17 (by decide) (fun hb => absurd hb (by decide)) (fun _ => ?_)
    obtain ⟨-, ⟨ht2, hc2⟩, hF2, hn2, hv2, ⟨hi2, hj2⟩, hfg2⟩ := id hI2
    have ht2 : Im2 1 (W 0) = ix (rk kI t) := ht2
    have hc2 : Im2 2 (W 0) = ix (rk kI c) := hc2
    have hF2 : mF W A1 [t, c] := hF2
    have hn2 : cmO Im2 W = n := hn2
    have hfg2 : ∀ k, k < 4 → A1 (W 6) k = ix ((fg k).map (·.2)) := hfg2
    have hv2 : ∀ x, mB t c x → A1 (W 1) x.2.1 = x.2.2 := hv2
    obtain ⟨k, hk, rfl⟩ := inP_of hx (by omega)
    obtain ⟨hb1, hb2⟩ := bl_at hF2 hk
    have ez : aSub (t, c, fg, n) (nI k) = (0, nI (tsz (zat t k []).1), (t, c, fg, n)) := by
      unfold aSub
      rw [if_pos hx, pI_n (by omega)]
    rw [ez]
    refine WP_aload_n dX5_subtree_20 rfl ?_
    refine WP_aload_n dX5_subtree_21 rfl ?_
    refine WP_aload_n dX5_subtree_22 rfl ?_
    refine gf_RX5_9 dX5_subtree_23 rfl rfl m0 ?_
    refine WP_iload_n dX5_subtree_26 rfl ?_
    rw [ht2]
    refine callVi mX5_nodeAt [_, _] dX5_subtree_27 okc_X5_nodeAt ok_761 ⟨by decide, by decide⟩ rfl rfl m0 rfl (Nat.le_of_ble_eq_true rfl) (Nat.le_of_ble_eq_true rfl) (Nat.le_of_ble_eq_true rfl) (m_nodeAt k hM (hF2.1 t List.mem_cons_self) hnt hst hk) (fun x1 S1 h1 => ?_)
    obtain ⟨rfl, I3, A3, rfl, s3, -⟩ := h1
    refine callVi mX5_below [_] dX5_subtree_30 okc_X5_below ok_897 ⟨by decide, by decide⟩ rfl rfl m0 rfl (Nat.le_of_ble_eq_true rfl) (Nat.le_of_ble_eq_true rfl) (Nat.le_of_ble_eq_true rfl) (m_below (t := t) (c := c) (idAt t k).2 hM hb2 (mS_F hM s3 hF2) (by rw [(mS_X hM s3).2.2.1]; exact hi2) (by rw [(mS_X hM s3).2.2.1]; exact hj2)) (fun x1 S1 h1 => ?_)
    obtain ⟨rfl, rfl⟩ := h1
    rw [hb1]
    refine WP_goto 37 dX5_subtree_33 (by decide) ?_
    refine WP_ireturn dX5_subtree_37 rfl rfl (Nat.le_of_ble_eq_true rfl) (Nat.le_of_ble_eq_true rfl) ?_
    refine ⟨_, _, _, rfl, fun _ => rfl, rfl, mI_mk hI2 (fun _ => Iff.rfl) (mS_F hM s3 hF2) ?_ ?_ ?_ (mS_X hM s3).2.1 (mS_X hM s3).2.2.1 (mS_X hM s3).2.2.2, ?_⟩
    · rw [s3.1 1 (by decide)]
      exact ht2
    · rw [s3.1 2 (by decide)]
      exact hc2
    · rw [mS_c s3, hn2]
    · rw [s3.1 0 (by decide)]
      exact th
  · have ez : aSub (t, c, fg, n) x = (1, 0, (t, c, fg, n)) := by
      unfold aSub
      rw [if_neg hx]
    rw [ez]
    refine WP_aload_n dX5_subtree_0 rfl ?_
    refine WP_aload_n dX5_subtree_1 rfl ?_
    refine WP_iload_n dX5_subtree_2 rfl ?_
    refine callVi mX5_isPlace [_] dX5_subtree_3 okc_X5_isPlace ok_781 ⟨by decide, by decide⟩ rfl rfl m0 rfl (Nat.le_of_ble_eq_true rfl) (Nat.le_of_ble_eq_true rfl) (Nat.le_of_ble_eq_true rfl) (m_isPlace x hM ht hmt hnt hst) (fun x1 S1 h1 => ?_)
    obtain ⟨rfl, I1, A1, rfl, s1, -⟩ := h1
    rw [if_neg hx]
    refine WP_if_eq 13 dX5_subtree_6 (by decide) (fun _ => ?_) (fun hb => absurd hb (by decide))
    refine WP_iconst (1) dX5_subtree_13 (by decide) ?_
    refine callVi mX5_goesWell [_] dX5_subtree_14 okc_X5_goesWell ok_749 ⟨by decide, by decide⟩ rfl rfl m0 rfl (Nat.le_of_ble_eq_true rfl) (Nat.le_of_ble_eq_true rfl) (Nat.le_of_ble_eq_true rfl) (m_goesWell 1 hM) (fun x1 S1 h1 => ?_)
    obtain ⟨rfl, rfl⟩ := h1
    rw [if_neg (by decide)]
    refine WP_if_eq 36 dX5_subtree_17 (by decide) (fun _ => ?_) (fun hb => absurd hb (by decide))
    refine WP_iconst (0) dX5_subtree_36 (by decide) ?_
    refine WP_ireturn dX5_subtree_37 rfl rfl (Nat.le_of_ble_eq_true rfl) (Nat.le_of_ble_eq_true rfl) ?_
    exact mR_thr hI s1
theorem shl2 : ∀ r, r < 8 → (2 : Int32) <<< (nI r &&& 31) = nI (2 ^ (r + 1)) := by decide
theorem rankm_loop {Q : RS → SS → Prop} (s : Nat) (hs : s ≤ 60) (h1 : 1 ≤ s) (hQ : Q (.inl (some (vi (nI (Nat.log2 s))))) (mkS L K AN R0 Rc Ic AIc AR Im AIm AL)) : ∀ (b r : Nat), 6 - r ≤ b → r ≤ 6 → 2 ^ r ≤ s →
    WP G mX5_rank Q 0 0 2 [(0, vi (nI s)), (1, vi (nI r))] [] (mkS L K AN R0 Rc Ic AIc AR Im AIm AL) := by
  intro b
  induction b with
  | zero =>
    intro r hb hr h2
    obtain rfl : r = 6 := by omega
    omega
  | succ b ih =>
    intro r hb hr h2
    have h6 : r < 6 := by
      by_cases e : r = 6
      · subst e
        omega
      · omega
    have hp : 2 ^ (r + 1) ≤ 2 ^ 6 := Nat.pow_le_pow_right (by decide) (by omega)
    refine WP_iconst (2) dX5_rank_2 (by decide) ?_
    refine WP_iload_n dX5_rank_3 rfl ?_
    refine WP_ishl (nI (2 ^ (r + 1))) dX5_rank_4 (shl2 r (by omega)) ?_
    refine WP_iload_n dX5_rank_5 rfl ?_
    refine WP_icmp_gt 15 dX5_rank_6 (by decide) (fun hb2 => ?_) (fun hb2 => ?_)
    · have hlt : s < 2 ^ (r + 1) := (nI_ltI (by omega) (by omega)).mp hb2
      have e : Nat.log2 s = r := (Nat.log2_eq_iff (by omega)).mpr ⟨h2, hlt⟩
      rw [e] at hQ
      refine WP_iload_n dX5_rank_15 rfl ?_
      refine WP_ireturn dX5_rank_16 rfl rfl (Nat.le_of_ble_eq_true rfl) (Nat.le_of_ble_eq_true rfl) ?_
      exact hQ
    · have hle : 2 ^ (r + 1) ≤ s := by
        by_cases e : 2 ^ (r + 1) ≤ s
        · exact e
        · exact absurd (nI_lt (by omega) (by omega)) hb2
      refine WP_iinc (nI (r + 1)) dX5_rank_9 rfl (nI_1 _) (by decide) rfl ?_
      refine WP_goto 2 dX5_rank_12 (by decide) ?_
      refine WP_lv [(0, vi (nI s)), (1, vi (nI (r + 1)))] (List.forall_mem_cons.mpr ⟨rfl, List.forall_mem_cons.mpr ⟨rfl, fun _ h9 => absurd h9 List.not_mem_nil⟩⟩) ?_
      exact ih (r + 1) (by omega) (by omega) hle
theorem m_rank (s : Nat) (hs : s ≤ 60) (h1 : 1 ≤ s) : MT G mX5_rank [vi (nI s)] (mkS L K AN R0 Rc Ic AIc AR Im AIm AL) (rI (fun x S' => x = nI (Nat.log2 s) ∧ S' = mkS L K AN R0 Rc Ic AIc AR Im AIm AL)) := by
  refine MT_of (by decide) rfl (Nat.le_of_ble_eq_true rfl) ?_
  refine WP_iconst (0) dX5_rank_0 (by decide) ?_
  refine WP_istore_n dX5_rank_1 (by decide) rfl ?_
  refine WP_lv [(0, vi (nI s)), (1, vi (nI 0))] (List.forall_mem_cons.mpr ⟨rfl, List.forall_mem_cons.mpr ⟨rfl, fun _ h9 => absurd h9 List.not_mem_nil⟩⟩) ?_
  exact rankm_loop s hs h1 ⟨_, rfl, rfl, rfl⟩ 6 0 (by decide) (by decide) h1
/-! the potential -/
theorem rks_sum (g : Nat → Nat) (t : Tr) : (kl kI t).Nodup → (∀ o ∈ kl kI t, g o = Nat.log2 (bl o t)) → ((kl kI t).map g).sum = rkS t := by
  induction t with
  | leaf => intro _ _; rfl
  | inner a i v l r ihl ihr =>
    intro hn hg
    have hn2 := hn
    obtain ⟨m1, m2, m3, m4, lr⟩ := apartI hn2
    rw [show kl kI (Std.DTreeMap.Internal.Impl.inner a i v l r) = kl kI l ++ i :: kl kI r from kl_nd kI a i v l r] at hg ⊢
    rw [List.map_append, List.map_cons, List.sum_append, List.sum_cons]
    have e1 := ihl m3 (fun o ho => by
      rw [hg o (List.mem_append_left _ ho)]
      show Nat.log2 (if i = o then _ else bl o l + bl o r) = _
      rw [if_neg (fun e => m1 (by rw [e]; exact ho)), bl_out r (fun h => lr o ho o h rfl), Nat.add_zero])
    have e2 := ihr m4 (fun o ho => by
      rw [hg o (List.mem_append_right _ (List.mem_cons_of_mem _ ho))]
      show Nat.log2 (if i = o then _ else bl o l + bl o r) = _
      rw [if_neg (fun e => m2 (by rw [e]; exact ho)), bl_out l (fun h => lr o h o ho rfl), Nat.zero_add])
    have e3 : g i = Nat.log2 (tsz l + 1 + tsz r) := by
      rw [hg i (List.mem_append_right _ List.mem_cons_self)]
      show Nat.log2 (if i = i then _ else _) = _
      rw [if_pos rfl]
    rw [e1, e2, e3]
    show _ = Nat.log2 (tsz l + 1 + tsz r) + rkS l + rkS r
    omega
theorem bl_rng {o : Nat} (u : Tr) : o ∈ kl kI u → (kl kI u).Nodup → 1 ≤ bl o u ∧ bl o u ≤ tsz u := by
  induction u with
  | leaf => intro h; cases h
  | inner a i v l r ihl ihr =>
    intro h hn
    have hn2 := hn
    obtain ⟨m1, m2, m3, m4, lr⟩ := apartI hn2
    show 1 ≤ (if i = o then tsz l + 1 + tsz r else bl o l + bl o r) ∧ (if i = o then tsz l + 1 + tsz r else bl o l + bl o r) ≤ tsz l + 1 + tsz r
    by_cases e : i = o
    · rw [if_pos e]
      omega
    · rw [if_neg e]
      rw [show kl kI (Std.DTreeMap.Internal.Impl.inner a i v l r) = kl kI l ++ i :: kl kI r from kl_nd kI a i v l r] at h
      rcases List.mem_append.mp h with h | h
      · have := ihl h m3
        have h0 := bl_out r (fun h2 => lr o h o h2 rfl)
        omega
      · rcases List.mem_cons.mp h with h | h
        · exact absurd h.symm e
        · have := ihr h m4
          have h0 := bl_out l (fun h2 => lr o h2 o h rfl)
          omega
theorem pot_loop {Q : RS → SS → Prop} (hM : mK W L K AN R0) (hs : tsz t + tsz c ≤ 60) (hF : mF W AIm [t, c]) (h1 : ∀ x, mB t c x → AIm (W 5) x.2.1 = 1) (h0 : ∀ i, i < 60 → (∀ x, mB t c x → x.2.1 ≠ i) → AIm (W 5) i = 0)
    (hQ : Q (.inl (some (vi (nI (wL (fun o => Nat.log2 (bl o t + bl o c)) (kl kI t ++ kl kI c) 60))))) (mkS L K AN R0 Rc Ic AIc AR Im AIm AL)) : ∀ (b k : Nat), 60 - k ≤ b → k ≤ 60 →
    WP G mX5_potential Q 0 0 9 [(0, vr (some (W 0))), (1, vi (nI (wL (fun o => Nat.log2 (bl o t + bl o c)) (kl kI t ++ kl kI c) k))), (2, vi (nI k))] [] (mkS L K AN R0 Rc Ic AIc AR Im AIm AL) := by
  have hM' := hM
  obtain ⟨m0, ⟨f1, f2, f3, f4, f5, f6, f7⟩, ⟨⟨q1, n1⟩, ⟨q2, n2⟩, ⟨q3, n3⟩, ⟨q4, n4⟩, ⟨q5, n5⟩, ⟨q6, n6⟩, ⟨q7, n7⟩⟩, hne⟩ := hM
  have hnd : (kl kI t ++ (kl kI c ++ [])).Nodup := hF.2
  rw [List.append_nil] at hnd
  obtain ⟨nd1, nd2, nd3⟩ := List.nodup_append.mp hnd
  have fin : ∀ k, k = 60 → WP G mX5_potential Q 0 0 9 [(0, vr (some (W 0))), (1, vi (nI (wL (fun o => Nat.log2 (bl o t + bl o c)) (kl kI t ++ kl kI c) k))), (2, vi (nI k))] [] (mkS L K AN R0 Rc Ic AIc AR Im AIm AL) := by
    intro k hk
    subst hk
    refine WP_iload_n dX5_potential_9 rfl ?_
    refine WP_bipush (60) dX5_potential_10 (by decide) ?_
    refine WP_icmp_ge 45 dX5_potential_12 (by decide) (fun h3 => ?_) (fun h3 => ?_)
    · refine WP_iload_n dX5_potential_45 rfl ?_
      refine WP_ireturn dX5_potential_46 rfl rfl (Nat.le_of_ble_eq_true rfl) (Nat.le_of_ble_eq_true rfl) ?_
      exact hQ
    · exact absurd (Int32.le_refl _) h3
  intro b
  induction b with
  | zero => intro k hb hk; exact fin k (by omega)
  | succ b ih =>
    intro k hb hk
    by_cases hk60 : k < 60
    · refine WP_iload_n dX5_potential_9 rfl ?_
      refine WP_bipush (60) dX5_potential_10 (by decide) ?_
      refine WP_icmp_ge 45 dX5_potential_12 (by decide) (fun h3 => ?_) (fun h3 => ?_)
      · exact absurd h3 (nI_ge hk60 (by decide))
      · refine WP_iload_n dX5_potential_15 rfl ?_
        refine WP_aload_n dX5_potential_16 rfl ?_
        refine gf_RX5_29 dX5_potential_17 rfl rfl m0 ?_
        refine WP_iload_n dX5_potential_20 rfl ?_
        refine ald_8 k 60 dX5_potential_21 f5 q5 n5 rfl hk60 (by decide) ?_
        by_cases hin : k ∈ kl kI t ++ kl kI c
        · have hz : ∃ z, mB t c z ∧ z.2.1 = k := by
            rcases List.mem_append.mp hin with h | h
            · obtain ⟨z, hz, e⟩ := List.mem_map.mp h
              exact ⟨z, Or.inl hz, e⟩
            · obtain ⟨z, hz, e⟩ := List.mem_map.mp h
              exact ⟨z, Or.inr hz, e⟩
          obtain ⟨z, hz, hzk⟩ := hz
          have hr : 1 ≤ bl k t + bl k c ∧ bl k t + bl k c ≤ 60 := by
            rcases List.mem_append.mp hin with h | h
            · have := bl_rng t h nd1
              have h9 := bl_out c (fun h2 => nd3 k h k h2 rfl)
              omega
            · have := bl_rng c h nd2
              have h9 := bl_out t (fun h2 => nd3 k h2 k h rfl)
              omega
          rw [← hzk, h1 z hz, hzk]
          refine WP_if_eq 36 dX5_potential_22 (by decide) (fun hb => absurd hb (by decide)) (fun _ => ?_)
          refine WP_aload_n dX5_potential_25 rfl ?_
          refine WP_iload_n dX5_potential_26 rfl ?_
          refine callVi mX5_below [_] dX5_potential_27 okc_X5_below ok_897 ⟨by decide, by decide⟩ rfl rfl m0 rfl (Nat.le_of_ble_eq_true rfl) (Nat.le_of_ble_eq_true rfl) (Nat.le_of_ble_eq_true rfl) (m_below k hM' hk60 hF h1 h0) (fun x1 S1 h4 => ?_)
          obtain ⟨rfl, rfl⟩ := h4
          refine callSi mX5_rank [_] dX5_potential_30 okc_X5_rank ok_901 ⟨by decide, by decide⟩ rfl rfl (Nat.le_of_ble_eq_true rfl) (Nat.le_of_ble_eq_true rfl) (Nat.le_of_ble_eq_true rfl) (m_rank (bl k t + bl k c) hr.2 hr.1) rfl (fun x1 S1 h4 => ?_)
          obtain ⟨rfl, rfl⟩ := h4
          refine WP_goto 37 dX5_potential_33 (by decide) ?_
          refine WP_iadd dX5_potential_37 ?_
          refine WP_istore_n dX5_potential_38 (by decide) rfl ?_
          refine WP_iinc (nI (k + 1)) dX5_potential_39 rfl (nI_1 _) (by decide) rfl ?_
          refine WP_goto 9 dX5_potential_42 (by decide) ?_
          have e : nI (wL (fun o => Nat.log2 (bl o t + bl o c)) (kl kI t ++ kl kI c) k) + nI (Nat.log2 (bl k t + bl k c)) = nI (wL (fun o => Nat.log2 (bl o t + bl o c)) (kl kI t ++ kl kI c) (k + 1)) := by
            rw [nI_add]
            refine congrArg nI ?_
            show _ = wL _ _ k + (if k ∈ kl kI t ++ kl kI c then _ else 0)
            rw [if_pos hin]
          rw [e]
          refine WP_lv [(0, vr (some (W 0))), (1, vi (nI (wL (fun o => Nat.log2 (bl o t + bl o c)) (kl kI t ++ kl kI c) (k + 1)))), (2, vi (nI (k + 1)))] (List.forall_mem_cons.mpr ⟨rfl, List.forall_mem_cons.mpr ⟨rfl, List.forall_mem_cons.mpr ⟨rfl, fun _ h9 => absurd h9 List.not_mem_nil⟩⟩⟩) ?_
          exact ih (k + 1) (by omega) (by omega)
        · rw [h0 k hk60 (fun x hx e => hin (by
            rcases hx with hx | hx
            · exact List.mem_append_left _ (List.mem_map.mpr ⟨x, hx, e⟩)
            · exact List.mem_append_right _ (List.mem_map.mpr ⟨x, hx, e⟩)))]
          refine WP_if_eq 36 dX5_potential_22 (by decide) (fun _ => ?_) (fun hb => absurd hb (by decide))
          refine WP_iconst (0) dX5_potential_36 (by decide) ?_
          refine WP_iadd dX5_potential_37 ?_
          refine WP_istore_n dX5_potential_38 (by decide) rfl ?_
          refine WP_iinc (nI (k + 1)) dX5_potential_39 rfl (nI_1 _) (by decide) rfl ?_
          refine WP_goto 9 dX5_potential_42 (by decide) ?_
          have e : nI (wL (fun o => Nat.log2 (bl o t + bl o c)) (kl kI t ++ kl kI c) k) + 0 = nI (wL (fun o => Nat.log2 (bl o t + bl o c)) (kl kI t ++ kl kI c) (k + 1)) := by
            rw [Int32.add_zero]
            refine congrArg nI ?_
            show _ = wL _ _ k + (if k ∈ kl kI t ++ kl kI c then _ else 0)
            rw [if_neg hin]
            rfl
          rw [e]
          refine WP_lv [(0, vr (some (W 0))), (1, vi (nI (wL (fun o => Nat.log2 (bl o t + bl o c)) (kl kI t ++ kl kI c) (k + 1)))), (2, vi (nI (k + 1)))] (List.forall_mem_cons.mpr ⟨rfl, List.forall_mem_cons.mpr ⟨rfl, List.forall_mem_cons.mpr ⟨rfl, fun _ h9 => absurd h9 List.not_mem_nil⟩⟩⟩) ?_
          exact ih (k + 1) (by omega) (by omega)
    · exact fin k (by omega)
theorem pot_sum (hF : mF W AIm [t, c]) : wL (fun o => Nat.log2 (bl o t + bl o c)) (kl kI t ++ kl kI c) 60 = rkS t + rkS c := by
  have hnd : (kl kI t ++ (kl kI c ++ [])).Nodup := hF.2
  rw [List.append_nil] at hnd
  obtain ⟨n1, n2, n3⟩ := List.nodup_append.mp hnd
  rw [wL_all _ _ _ hnd (fun x hx => by
    rcases List.mem_append.mp hx with hx | hx
    · exact (hF.1 t (by simp)).2 x hx
    · exact (hF.1 c (by simp)).2 x hx)]
  rw [List.map_append, List.sum_append]
  rw [rks_sum _ t n1 (fun o ho => by rw [bl_out c (fun h => n3 o ho o h rfl), Nat.add_zero]), rks_sum _ c n2 (fun o ho => by rw [bl_out t (fun h => n3 o h o ho rfl), Nat.zero_add])]
theorem p_potential (hA : AI (t, c, fg, n)) (hI : mI W L K AN R0 Im AIm (t, c, fg, n)) : MT G mX5_potential [vr (some (W 0))] (mkS L K AN R0 Rc Ic AIc AR Im AIm AL) (mV W L K AN R0 Rc Ic AIc AR AL (nI (rkS t + rkS c)) (t, c, fg, n)) := by
  obtain ⟨hM, ⟨ht, hc⟩, hF, hcn, hv, ⟨hth1, hth0⟩, hfg⟩ := id hI
  have ht : Im 1 (W 0) = ix (rk kI t) := ht
  have hc : Im 2 (W 0) = ix (rk kI c) := hc
  have hF : mF W AIm [t, c] := hF
  have hcn : cmO Im W = n := hcn
  have hfg : ∀ k, k < 4 → AIm (W 6) k = ix ((fg k).map (·.2)) := hfg
  have hs : tsz t + tsz c ≤ 60 := hA.1
  have hst : tsz t ≤ 60 := by omega
  have hmt := hF.1 t List.mem_cons_self
  have hnt := mF_hd hF
  obtain ⟨m0, ⟨f1, f2, f3, f4, f5, f6, f7⟩, ⟨⟨q1, n1⟩, ⟨q2, n2⟩, ⟨q3, n3⟩, ⟨q4, n4⟩, ⟨q5, n5⟩, ⟨q6, n6⟩, ⟨q7, n7⟩⟩, hne⟩ := id hM
  refine MT_of (by decide) rfl (Nat.le_of_ble_eq_true rfl) ?_
  refine WP_aload_n dX5_potential_0 rfl ?_
  refine WP_iconst (0) dX5_potential_1 (by decide) ?_
  refine pf_RX5_39 dX5_potential_2 rfl rfl m0 ?_
  refine WP_iconst (0) dX5_potential_5 (by decide) ?_
  refine WP_istore_n dX5_potential_6 (by decide) rfl ?_
  refine WP_iconst (0) dX5_potential_7 (by decide) ?_
  refine WP_istore_n dX5_potential_8 (by decide) rfl ?_
  refine WP_lv [(0, vr (some (W 0))), (1, vi (nI (wL (fun o => Nat.log2 (bl o t + bl o c)) (kl kI t ++ kl kI c) 0))), (2, vi (nI 0))] (List.forall_mem_cons.mpr ⟨rfl, List.forall_mem_cons.mpr ⟨rfl, List.forall_mem_cons.mpr ⟨rfl, fun _ h9 => absurd h9 List.not_mem_nil⟩⟩⟩) ?_
  refine pot_loop hM hs hF hth1 hth0 ?_ 60 0 (by decide) (by decide)
  rw [pot_sum hF]
  exact ⟨_, _, rfl, rfl, mI_S hI mS_refl 0⟩
end MBL
