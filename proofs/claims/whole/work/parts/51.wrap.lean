/-! ===== the law's wrappers: what is thrown is caught ===== -/
section WRP
variable {G : GC} {M : MD} {Q : RS → SS → Prop} {k n pc : Nat} {lv : List (Nat × VV)} {st : List VV} {S : SS}
theorem nc_AO (hG : G0 G) : va_Nc xA xO G.2.1 := va_Nc.of (args := #[Value.ref G.2.2.2.2]) (flat_of_before _ hG.2.2.2 _ (by decide +kernel))
theorem nc_SO (hG : G0 G) : va_Nc xS xO G.2.1 := va_Nc.of (args := #[Value.ref G.2.2.2.2]) (flat_of_before _ hG.2.2.2 _ (by decide +kernel))
theorem nc_SA (hG : G0 G) : va_Nc xS xA G.2.1 := va_Nc.of (args := #[Value.ref G.2.2.2.2]) (flat_of_before _ hG.2.2.2 _ (by decide +kernel))
theorem WX_catch {E : String} (pre : List (Nat × Nat × Nat × Nat)) (x : Nat × Nat × Nat × Nat) (suf : List (Nat × Nat × Nat × Nat)) (htb : M.2.2.2.2.1 = pre ++ x :: suf) (hx : x.1 ≤ pc ∧ pc < x.2.1) (h0 : x.2.2.2 ≠ 0) (hl9 : okw (.classLink M.1.cls x.2.2.2 E)) (hcst : Cond.castable E E ∈ lw_tbl)
    (hpass : ∀ z ∈ pre, z.2.2.2 ≠ 0 ∧ ∃ nm : String, okw (.classLink M.1.cls z.2.2.2 nm) ∧ (G0 G → va_Nc E nm G.2.1))
    (kk : ∀ q : Nat, WP G M Q k n x.2.2.1 lv [vr (some q)] S) : WX G M Q k n pc lv st E S := by
  intro p e s m args below meth c H locs ls ce q9 C hh hS hl hce hcv hcl
  have hG := C.2.2.2.2.2.2.2.2.1
  have hW := C.2.2.2.2.2.2.2.2.2.1
  refine vx_catch (name := E) (E := E) (ce := ce) C.2.2.2.2.2.1 (tableOf pre) _ (tableOf suf) (C.2.2.2.2.2.2.2.1.trans (by rw [htb]; simp [tableOf]; rfl)) (fun z hz => ?_) ?_ h0 (cx_ok C hl9) (va_Nw.use rfl (va_Nw.warmC hW (va_Nw.of rfl (hG.2.1 _ hcst)))) hce hcv hcl ?_
  · obtain ⟨z0, h1, h2⟩ := List.mem_map.mp hz
    obtain ⟨h3, nm, h4, h5⟩ := hpass z0 h1
    subst h2
    exact Or.inr ⟨h3, nm, cx_ok C h4, va_Nc.moved hW.alike (h5 hG)⟩
  · simp [covers]
    exact hx
  · exact kk q9 p e s m args below meth c H locs ls C hh hS hl
end WRP
