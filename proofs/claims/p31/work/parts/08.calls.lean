/-! ===== calls ===== -/
section WPC
variable {G : GC} {M : MD} {Q : RS → SS → Prop} {k n pc : Nat} {lv : List (Nat × VV)} {st rest : List VV} {S : SS}
def okw (w : Cond) : Prop := w ∈ lw_tbl ∧ goodWord w = true
theorem cx_ok {p : Program} {s : State} {m : MethodId} {meth : Method} {c : Code} {args : Array Value} (C : Cx G p M s m meth c) {w : Cond} (h : okw w) : w.before args s = true := cx_w C h.1 h.2
theorem okw_at {s U : State} {w : Cond} {a' : Array Value} (hG : G0 G) (hW : G.2.1.WarmedH U.vm) (h : okw w) : w.before a' U = true := word_at hW (good_of_word h.2) (hG.2.1 w h.1)
def isK (S : SS) (ci a : Nat) : Prop := a ∈ S.1.1 ∧ S.1.2.1 a = ci
theorem cE_obj (cy : CY) {S : SS} {a ci : Nat} (h : S.1.2.1 a = ci) (hc : ci < 5) : ∃ fs, cE cy S a = .inr (ci, fs) := by
  obtain ⟨⟨L, K, AN, R0⟩, ⟨Rc, Ic, AIc, AR⟩, ⟨Im, AIm⟩, AL⟩ := S
  have h : K a = ci := h
  rcases (show ci = 0 ∨ ci = 1 ∨ ci = 2 ∨ ci = 3 ∨ ci = 4 by omega) with rfl | rfl | rfl | rfl | rfl <;> exact ⟨_, by simp only [cE, h]; rfl⟩
theorem pool_at (cy : CY) {S : SS} {a : Nat} (h : a ∈ S.1.1) : ∃ j : Nat, (va_pl S.1.1 (cE cy S))[j]? = some (a, cE cy S a) := va_pl_get (X := []) h
/-- what a callee's contract gives its caller -/
theorem W_after {p : Program} {e : Env} {R : Room} {s : State} {m : MethodId} {args : Array Value} {below : List Frame} {meth : Method} {c : Code} {H : Heap} {locs : List Loc} {ls : Array Slot} {mc ms : Nat} {Qz : RS → SS → Prop} {a9 : Array Value} {Qf : State → Prop} {st0 : List Value}
    (hr : vx_Run p G.1 e R s m args below meth c H locs k n mc ms (F0 m pc ls st0) (rest.map toV) (QC G Qz a9) (XC G Qz) (AG G)) (hS : va_S (AG G) s.heap H locs)
    (kret : ∀ (v : Option VV) (S' : SS) (H1 : Heap) (locs1 : List Loc), Qz (.inl v) S' → HH G S' H1 → va_S (AG G) s.heap H1 locs1 → W p G.1 e R s m args below meth c H1 locs1 (k + mc) (n + ms) Qf (F0 m (pc + 3) ls ((v.toList ++ rest).map toV)))
    (kthr : ∀ (E : String) (S' : SS) (H1 : Heap) (locs1 : List Loc) (ce : Cell) (q9 : Addr), Qz (.inr E) S' → HH G S' H1 → va_S (AG G) s.heap H1 locs1 → H1[q9]? = some ce → ce.vm = .none → s.vm.findClass E = some ce.cls → vx_W p G.1 e R s m args below meth c H1 locs1 (k + mc) (n + ms) Qf (F0 m pc ls (rest.map toV)) q9) :
    W p G.1 e R s m args below meth c H locs k n Qf (F0 m pc ls st0) := by
  intro T hT X
  rcases hr T hT X with ⟨v, st₀, t, T', L, h0, X', hL, e1, e2, ⟨v', S', hv, hq, hh', hF⟩, st⟩ | ⟨q, st₀, t, T', L, E, ce, h0, X', hL, e1, e2, ⟨S', hq, hh', hF⟩, hce, hcv, hcl, st⟩
  · cases hv
    obtain ⟨k1, k2, k3⟩ := vx_keep h0 e1 hS (fun _ _ h => h) (fun _ h => h) hL hF
    obtain ⟨t2, a1, b1⟩ := kret v' S' T'.heap (locs ++ L) hq (by rw [e1]; exact hh') k3 T' rfl X'
    refine ⟨t2, st t2 ?_, b1⟩
    cases v' <;> exact a1
  · obtain ⟨k1, k2, k3⟩ := vx_keep h0 e1 hS (fun _ _ h => h) (fun _ h => h) hL hF
    obtain ⟨t2, a1, b1⟩ := kthr E S' T'.heap (locs ++ L) ce q hq (by rw [e1]; exact hh') k3 (by rw [e1]; exact hce) hcv hcl T' rfl X'
    exact ⟨t2, st.trans a1, b1⟩
theorem PC_blind {av : List VV} : FrameBlind (PC G av S) := fun a U g mk h => h
theorem PC_of {p : Program} {s : State} {m : MethodId} {meth : Method} {c : Code} {H : Heap} {locs : List Loc} {av : List VV} (C : Cx G p M s m meth c) (hh : HH G S H) (hS : va_S (AG G) s.heap H locs) {U : State} (hU : U.heap = H) (hW : s.WarmedH U.vm) : PC G av S (av.map toV).toArray U := by
  refine ⟨rfl, C.2.2.2.2.2.2.2.2.1, State.WarmedH.trans C.2.2.2.2.2.2.2.2.2.1 hW, ?_, by rw [hU]; exact hh⟩
  obtain ⟨h1, h2, h3⟩ := C.2.2.2.2.2.2.2.2.2.2
  rw [hU]
  refine ⟨Nat.le_trans h1 hS.1, fun q hq => ?_, fun q hq => Nat.lt_of_lt_of_le (h3 q hq) hS.1⟩
  rw [hS.2.1 q (Nat.lt_of_lt_of_le hq h1) (fun h9 => Nat.not_le.mpr hq h9.1)]
  exact h2 q hq
/-- what the tables say of a method that is called by the machine's choice on an object -/
def okV (Z : MD) (ci na : Nat) : Prop := okw (mw Z) ∧ okw (.instanceMethod Z.1) ∧ okw (.selects Z.1.cls Z.1 Z.1) ∧ okw (.initialized Z.1.cls) ∧ Z.2.2.2.2.1 = [] ∧ (∃ q, vwCl[ci]? = some q ∧ q.1 = Z.1.cls) ∧ ci < 5 ∧ (Z.1.cls ≠ "java/lang/invoke/MethodHandle" ∧ Z.1.cls ≠ "java/lang/invoke/VarHandle") ∧ (parseMethodDescriptor Z.1.desc).map (fun d => d.parameters.length) = some na
def okS (Z : MD) (na : Nat) : Prop := okw (mw Z) ∧ okw (.static Z.1) ∧ okw (.initialized Z.1.cls) ∧ (Z.1.cls ≠ "java/lang/invoke/MethodHandle" ∧ Z.1.cls ≠ "java/lang/invoke/VarHandle") ∧ (parseMethodDescriptor Z.1.desc).map (fun d => d.parameters.length) = some na
def okR (M Z : MD) : Prop := Z.2.2.2.2.2.1 + 1 ≤ M.2.2.2.2.2.1 ∧ 8 + (Z.2.2.1 + 11) + 30 * Z.2.2.2.2.2.1 ≤ 30 * M.2.2.2.2.2.1
theorem okR.loc {M Z : MD} (h : okR M Z) : 8 + (Z.2.2.1 + 11) + (rmOf Z).locals ≤ (rmOf M).locals := by
  have h2 := h.2
  show 8 + (Z.2.2.1 + 11) + (30 * Z.2.2.2.2.2.1 + rmX) ≤ 30 * M.2.2.2.2.2.1 + rmX
  omega
theorem nArgs {y : MethodName} {na : Nat} (h : (parseMethodDescriptor y.desc).map (fun d => d.parameters.length) = some na) : ∀ sig, parseMethodDescriptor y.desc = some sig → na = sig.parameters.length := by
  intro sig hs
  rw [hs] at h
  exact (Option.some.inj h).symm
theorem WP_callV (Z : MD) {ci na idx a : Nat} {As : List VV} {o : Option Nat} {Qz : RS → SS → Prop} (dg : decode M.2.1 pc = .ok (.invokevirtual idx, 3)) (hz : okV Z ci na) (hl9 : okw (.methodLink M.1.cls idx Z.1)) (hR : okR M Z)
    (hst : st = As.reverse ++ vr o :: rest) (ho : o = some a) (hk : isK S ci a) (hn : As.length = na) (hrest : argsSz rest ≤ 8) (hc : k + Z.2.2.2.2.2.2.1 ≤ M.2.2.2.2.2.2.1) (hsl : n + Z.2.2.2.2.2.2.2 ≤ M.2.2.2.2.2.2.2)
    (hM : MT G Z (vr (some a) :: As) S Qz)
    (kret : ∀ (v : Option VV) (S' : SS), Qz (.inl v) S' → WP G M Q (k + Z.2.2.2.2.2.2.1) (n + Z.2.2.2.2.2.2.2) (pc + 3) lv (v.toList ++ rest) S')
    (kthr : ∀ (E : String) (S' : SS), Qz (.inr E) S' → WX G M Q (k + Z.2.2.2.2.2.2.1) (n + Z.2.2.2.2.2.2.2) pc lv rest E S') :
    WP G M Q k n pc lv st S := by
  subst hst
  subst ho
  intro p e s m args below meth c H locs ls C hh hS hl
  obtain ⟨z1, z2, z3, z4, z5, ⟨q, z6, z7⟩, z8, z9, z10⟩ := hz
  obtain ⟨fs, hfs⟩ := cE_obj G.2.2.2.1 hk.2 z8
  obtain ⟨j, hj⟩ := pool_at G.2.2.2.1 hk.1
  rw [hfs] at hj
  have hw : mw Z = .code Z.1 Z.2.1 Z.2.2.1 Z.2.2.2.1 := by unfold mw; rw [z5]
  have hKs : va_K G.2.2.1 vwCl (tysOf G.2.2.2.1) s := va_K.moved C.2.2.2.2.2.2.2.2.2.1.alike C.2.2.2.2.2.2.2.2.1.2.2.1
  have hrecv := va_recv hKs hh.1 z6 hj
  rw [z7] at hrecv
  have h0 : ((As.reverse ++ vr (some a) :: rest).map toV) = (As.map toV).reverse ++ Value.ref a :: rest.map toV := by
    rw [List.map_append, List.map_reverse]
    rfl
  rw [h0]
  refine W_after (mc := Z.2.2.2.2.2.2.1) (ms := Z.2.2.2.2.2.2.2) (rest := rest) (Qz := Qz) (vx_runV (C := Z.1.cls) (y := Z.1) (bytes := Z.2.1) (maxL := Z.2.2.1) (ret := Z.2.2.2.1) (ws := [mw Z]) (rm := rmOf Z) (n := na) (Ts := []) (own := M.1.cls) (nL := M.2.2.1) (As := As.map toV)
    ⟨C.1, C.2.1, C.2.2.2.2.1, C.2.2.2.2.2.1, fun w h => absurd h List.not_mem_nil⟩ hM
    ⟨⟨rfl, rfl, hR.1, okR.loc hR, fun w hw9 a' U hW => by rw [List.mem_singleton.mp hw9]; exact okw_at (s := s) C.2.2.2.2.2.2.2.2.1 (State.WarmedH.trans C.2.2.2.2.2.2.2.2.2.1 hW) z1, by rw [hw]; exact List.mem_singleton.mpr rfl, by rw [← hw]; exact cx_ok C z1, cx_ok C z4, z9, nArgs z10, cx_ok C hl9⟩, cx_ok C z2, cx_ok C z3⟩
    ⟨PC_blind, hrecv, fun U hU hW => PC_of C hh hS hU hW⟩ rfl (by rw [List.length_map]; exact hn) hl.1 rfl (lv_room (by rw [catSum]; exact hrest)) dg ⟨hc, hsl⟩) hS
    (fun v S' H1 locs1 hq hh1 hS1 => kret v S' hq p e s m args below meth c H1 locs1 ls C hh1 hS1 hl)
    (fun E S' H1 locs1 ce q9 hq hh1 hS1 hce hcv hcl => kthr E S' hq p e s m args below meth c H1 locs1 ls ce q9 C hh1 hS1 hl hce hcv hcl)
theorem WP_callS (Z : MD) {na idx : Nat} {As : List VV} {Qz : RS → SS → Prop} (dg : decode M.2.1 pc = .ok (.invokestatic idx, 3)) (hz : okS Z na) (htb : Z.2.2.2.2.1 = []) (hl9 : okw (.methodLink M.1.cls idx Z.1)) (hR : okR M Z)
    (hst : st = As.reverse ++ rest) (hn : As.length = na) (hrest : argsSz rest ≤ 8) (hc : k + Z.2.2.2.2.2.2.1 ≤ M.2.2.2.2.2.2.1) (hsl : n + Z.2.2.2.2.2.2.2 ≤ M.2.2.2.2.2.2.2)
    (hM : MT G Z As S Qz)
    (kret : ∀ (v : Option VV) (S' : SS), Qz (.inl v) S' → WP G M Q (k + Z.2.2.2.2.2.2.1) (n + Z.2.2.2.2.2.2.2) (pc + 3) lv (v.toList ++ rest) S')
    (kthr : ∀ (E : String) (S' : SS), Qz (.inr E) S' → WX G M Q (k + Z.2.2.2.2.2.2.1) (n + Z.2.2.2.2.2.2.2) pc lv rest E S') :
    WP G M Q k n pc lv st S := by
  subst hst
  intro p e s m args below meth c H locs ls C hh hS hl
  obtain ⟨z1, z2, z4, z9, z10⟩ := hz
  have hw : mw Z = .code Z.1 Z.2.1 Z.2.2.1 Z.2.2.2.1 := by unfold mw; rw [htb]
  have h0 : ((As.reverse ++ rest).map toV) = (As.map toV).reverse ++ rest.map toV := by
    rw [List.map_append, List.map_reverse]
  rw [h0]
  refine W_after (mc := Z.2.2.2.2.2.2.1) (ms := Z.2.2.2.2.2.2.2) (rest := rest) (Qz := Qz) (vx_runS (y := Z.1) (bytes := Z.2.1) (maxL := Z.2.2.1) (ret := Z.2.2.2.1) (ws := [mw Z]) (rm := rmOf Z) (n := na) (Ts := []) (own := M.1.cls) (nL := M.2.2.1) (As := As.map toV)
    ⟨C.1, C.2.1, C.2.2.2.2.1, C.2.2.2.2.2.1, fun w h => absurd h List.not_mem_nil⟩ hM
    ⟨⟨rfl, rfl, hR.1, okR.loc hR, fun w hw9 a' U hW => by rw [List.mem_singleton.mp hw9]; exact okw_at (s := s) C.2.2.2.2.2.2.2.2.1 (State.WarmedH.trans C.2.2.2.2.2.2.2.2.2.1 hW) z1, by rw [hw]; exact List.mem_singleton.mpr rfl, by rw [← hw]; exact cx_ok C z1, cx_ok C z4, z9, nArgs z10, cx_ok C hl9⟩, cx_ok C z2⟩
    ⟨PC_blind, fun U hU hW => PC_of C hh hS hU hW⟩ rfl (by rw [List.length_map]; exact hn) hl.1 rfl (lv_room (by rw [catSum]; exact hrest)) dg ⟨hc, hsl⟩) hS
    (fun v S' H1 locs1 hq hh1 hS1 => kret v S' hq p e s m args below meth c H1 locs1 ls C hh1 hS1 hl)
    (fun E S' H1 locs1 ce q9 hq hh1 hS1 hce hcv hcl => kthr E S' hq p e s m args below meth c H1 locs1 ls ce q9 C hh1 hS1 hl hce hcv hcl)
/-- a static call of a method with a table -/
theorem WP_callSX (Z : MD) {na idx : Nat} {As : List VV} {Qz : RS → SS → Prop} {z : Nat × Nat × Nat × Nat} {tb' : List (Nat × Nat × Nat × Nat)} (dg : decode M.2.1 pc = .ok (.invokestatic idx, 3)) (hz : okS Z na) (htb : Z.2.2.2.2.1 = z :: tb') (hl9 : okw (.methodLink M.1.cls idx Z.1)) (hR : okR M Z)
    (hst : st = As.reverse ++ rest) (hn : As.length = na) (hrest : argsSz rest ≤ 8) (hc : k + Z.2.2.2.2.2.2.1 ≤ M.2.2.2.2.2.2.1) (hsl : n + Z.2.2.2.2.2.2.2 ≤ M.2.2.2.2.2.2.2)
    (hM : MT G Z As S Qz)
    (kret : ∀ (v : Option VV) (S' : SS), Qz (.inl v) S' → WP G M Q (k + Z.2.2.2.2.2.2.1) (n + Z.2.2.2.2.2.2.2) (pc + 3) lv (v.toList ++ rest) S')
    (kthr : ∀ (E : String) (S' : SS), Qz (.inr E) S' → WX G M Q (k + Z.2.2.2.2.2.2.1) (n + Z.2.2.2.2.2.2.2) pc lv rest E S') :
    WP G M Q k n pc lv st S := by
  subst hst
  intro p e s m args below meth c H locs ls C hh hS hl
  obtain ⟨z1, z2, z4, z9, z10⟩ := hz
  have hw : mw Z = .codeWith Z.1 Z.2.1 Z.2.2.1 Z.2.2.2.1 Z.2.2.2.2.1 := by unfold mw; rw [htb]
  have h0 : ((As.reverse ++ rest).map toV) = (As.map toV).reverse ++ rest.map toV := by
    rw [List.map_append, List.map_reverse]
  rw [h0]
  refine W_after (mc := Z.2.2.2.2.2.2.1) (ms := Z.2.2.2.2.2.2.2) (rest := rest) (Qz := Qz) (vx_runSX (y := Z.1) (bytes := Z.2.1) (maxL := Z.2.2.1) (ret := Z.2.2.2.1) (hh := Z.2.2.2.2.1) (ws := [mw Z]) (rm := rmOf Z) (n := na) (Ts := []) (own := M.1.cls) (nL := M.2.2.1) (As := As.map toV)
    ⟨C.1, C.2.1, C.2.2.2.2.1, C.2.2.2.2.2.1, fun w h => absurd h List.not_mem_nil⟩ hM
    ⟨⟨rfl, rfl, hR.1, okR.loc hR, fun w hw9 a' U hW => by rw [List.mem_singleton.mp hw9]; exact okw_at (s := s) C.2.2.2.2.2.2.2.2.1 (State.WarmedH.trans C.2.2.2.2.2.2.2.2.2.1 hW) z1, by rw [hw]; exact List.mem_singleton.mpr rfl⟩, by rw [← hw]; exact cx_ok C z1, cx_ok C z4, z9, nArgs z10, cx_ok C hl9, cx_ok C z2⟩
    ⟨PC_blind, fun U hU hW => PC_of C hh hS hU hW⟩ rfl (by rw [List.length_map]; exact hn) hl.1 rfl (lv_room (by rw [catSum]; exact hrest)) dg ⟨hc, hsl⟩) hS
    (fun v S' H1 locs1 hq hh1 hS1 => kret v S' hq p e s m args below meth c H1 locs1 ls C hh1 hS1 hl)
    (fun E S' H1 locs1 ce q9 hq hh1 hS1 hce hcv hcl => kthr E S' hq p e s m args below meth c H1 locs1 ls ce q9 C hh1 hS1 hl hce hcv hcl)
/-- not caught here -/
theorem WX_out {E : String} (htb : M.2.2.2.2.1 = []) (h1 : k ≤ M.2.2.2.2.2.2.1) (h2 : n ≤ M.2.2.2.2.2.2.2) (hq : Q (.inr E) S) : WX G M Q k n pc lv st E S := by
  intro p e s m args below meth c H locs ls ce q9 C hh hS hl hce hcv hcl
  refine vx_out (fun x hx => ?_) C.2.2.2.1 hce hcv hcl (fun t ht hA => ⟨S, hq, by rw [ht]; exact hh, hS.F ht⟩) hS.2.2 h1 h2
  have h9 := C.2.2.2.2.2.2.2.1
  rw [htb] at h9
  rw [h9] at hx
  cases hx
end WPC
