/-! ===== the law's wrappers: what is thrown is caught ===== -/
section WRP
variable {G : GC} {M : MD} {Q : RS → SS → Prop} {k n pc : Nat} {lv : List (Nat × VV)} {st : List VV} {S : SS}
theorem nc_AO (hG : G0 G) : va_Nc xA xO G.2.1 := va_Nc.of (args := #[Value.ref G.2.2.2.2]) (flat_of_before _ hG.2.2.2 _ (by decide +kernel))
theorem nc_SO (hG : G0 G) : va_Nc xS xO G.2.1 := va_Nc.of (args := #[Value.ref G.2.2.2.2]) (flat_of_before _ hG.2.2.2 _ (by decide +kernel))
theorem nc_SA (hG : G0 G) : va_Nc xS xA G.2.1 := va_Nc.of (args := #[Value.ref G.2.2.2.2]) (flat_of_before _ hG.2.2.2 _ (by decide +kernel))
theorem WX_catch {E : String} (pre : List (Nat × Nat × Nat × Nat)) (x : Nat × Nat × Nat × Nat) (suf : List (Nat × Nat × Nat × Nat)) (htb : M.2.2.2.2.1 = pre ++ x :: suf) (hx : x.1 ≤ pc ∧ pc < x.2.1) (h0 : x.2.2.2 ≠ 0) (hl9 : okw (.classLink M.1.cls x.2.2.2 E)) (hcst : Cond.castable E E ∈ lw_tbl)
    (hpass : ∀ z ∈ pre, z.2.2.2 ≠ 0 ∧ ∃ nm : String, okw (.classLink M.1.cls z.2.2.2 nm) ∧ (G0 G → va_Nc E nm G.2.1))
    (kk : ∀ q : Nat, WP G M Q k n x.2.2.1 lv [vr (some q)] S) : WX G M Q k n pc lv st E S := by
  intro p e s m args below meth c H locs ls ce q9 C hh hS hl hce hcv hcl
  have hG := C.2.2.2.2.2.2.2.2.1
  have hW := C.2.2.2.2.2.2.2.2.2.1
  refine vx_catch (name := E) (E := E) (ce := ce) C.2.2.2.2.2.1 (tableOf pre) _ (tableOf suf) (C.2.2.2.2.2.2.2.1.trans (by rw [htb]; simp [tableOf]; rfl)) (fun z hz => ?_) ?_ h0 (cx_ok C hl9) (va_Nw.use rfl (va_Nw.warmC hW (va_Nw.of rfl (hG.2.1 _ hcst)))) hce hcv hcl ?_
  · obtain ⟨z0, h1, h2⟩ := List.mem_map.mp hz
    obtain ⟨h3, nm, h4, h5⟩ := hpass z0 h1
    subst h2
    exact Or.inr ⟨h3, nm, cx_ok C h4, va_Nc.moved hW.alike (h5 hG)⟩
  · simp [covers]
    exact hx
  · exact kk q9 p e s m args below meth c H locs ls C hh hS hl
end WRP
section LWR
variable {G : GC} {L : List Nat} {K AN : Nat → Nat} {R0 Rc : Nat → Nat → Option Nat} {Ic AIc Im AIm : Nat → Nat → Int32} {AR : Nat → Nat → Option Nat} {AL : Nat → Nat → Int64} {E : Nat → Nat}
theorem wr_insert (p0 p1 : Int32) (O : Nat) (P : Rz → Prop) (h0 : E 0 ∈ L ∧ K (E 0) = 4) (hO : O ∈ L ∧ K O = 10) (nO : AN O = 1)
    (hk : MT G mX4_insert [vr (some (E 0)), vi p0, vi p1] (mkS L K AN R0 Rc Ic AIc AR Im AIm AL) (fun r S' => ∃ z, P z ∧ cR [xO, xA, xS] (cJ E L K AN R0 Im AIm AL) z r S')) :
    MT G mL_insert [vr (some (E 0)), vi p0, vi p1, vr (some O)] (mkS L K AN R0 Rc Ic AIc AR Im AIm AL) (rI (fun x S' => ∃ z, P z ∧ x = nI z.1 ∧ ∃ AL', cJ E L K AN R0 Im AIm AL' z.2.2 S' ∧ (z.1 = 0 → AL' O 0 = z.2.1.toInt64))) := by
  refine MT_ofH (by decide) rfl (Nat.le_of_ble_eq_true rfl) ?_
  refine WP_aload_n dL_insert_0 rfl ?_
  refine WP_iconst (0) dL_insert_1 (by decide) ?_
  refine WP_aload_n dL_insert_2 rfl ?_
  refine WP_iload_n dL_insert_3 rfl ?_
  refine WP_iload_n dL_insert_4 rfl ?_
  refine WP_callV mX4_insert (As := [_, _]) dL_insert_5 okc_X4_insert ok_219 ⟨by decide, by decide⟩ rfl rfl h0 rfl (Nat.le_of_ble_eq_true rfl) (Nat.le_of_ble_eq_true rfl) (Nat.le_of_ble_eq_true rfl) hk (fun v9 S9 hq => ?_) (fun E9 S9 hq => ?_)
  · obtain ⟨z, hz, hI, h | ⟨ex, -, -, h⟩⟩ := hq
    · obtain ⟨z1, h2⟩ := h
      cases h2
      obtain ⟨L', K', Rc', Ic', AIc', AR', rfl, hg, hI⟩ := hI
      have kO : O ∈ L' ∧ K' O = 10 := ⟨(hg O hO.1).1, (hg O hO.1).2.trans hO.2⟩
      refine WP_i2l dL_insert_8 ?_
      refine ast_10 0 1 dL_insert_9 rfl kO nO rfl (by decide) (by decide) ?_
      refine WP_goto 25 dL_insert_10 (by decide) ?_
      refine WP_iconst (0) dL_insert_25 (by decide) ?_
      refine WP_ireturn dL_insert_26 rfl rfl (Nat.le_of_ble_eq_true rfl) (Nat.le_of_ble_eq_true rfl) ?_
      exact ⟨_, rfl, z, hz, by rw [z1]; rfl, _, ⟨L', K', Rc', Ic', AIc', AR', rfl, hg, hI⟩, fun _ => by rw [va_up_self, pk_uLs]⟩
    · cases h
  · obtain ⟨z, hz, hI, h | ⟨ex, h1, h2, h⟩⟩ := hq
    · cases h.2
    · cases h
      obtain ⟨L', K', Rc', Ic', AIc', AR', rfl, hg, hI⟩ := hI
      have hj : ∃ j, z.1 = j + 1 := ⟨z.1 - 1, by omega⟩
      obtain ⟨j, hj⟩ := hj
      rw [hj, Nat.add_sub_cancel] at h1
      match j, hj, h1 with
      | 0, hj, h1 =>
        have h1 : some xO = some E9 := h1
        cases h1
        refine WX_catch [] (0, 10, 13, 13) [(0, 10, 17, 15), (0, 10, 21, 17)] rfl ⟨by decide, by decide⟩ (by decide) ok_216 cst_O (fun _ h => absurd h List.not_mem_nil) (fun q => ?_)
        refine WP_astore dL_insert_13 (by decide) rfl ?_
        refine WP_iconst (1) dL_insert_15 (by decide) ?_
        refine WP_ireturn dL_insert_16 rfl rfl (Nat.le_of_ble_eq_true rfl) (Nat.le_of_ble_eq_true rfl) ?_
        exact ⟨_, rfl, z, hz, by rw [hj]; rfl, _, ⟨L', K', Rc', Ic', AIc', AR', rfl, hg, hI⟩, fun h9 => absurd h9 (by omega)⟩
      | 1, hj, h1 =>
        have h1 : some xA = some E9 := h1
        cases h1
        refine WX_catch [(0, 10, 13, 13)] (0, 10, 17, 15) [(0, 10, 21, 17)] rfl ⟨by decide, by decide⟩ (by decide) ok_217 cst_A (List.forall_mem_cons.mpr ⟨⟨by decide, xO, ok_216, nc_AO⟩, fun _ h => absurd h List.not_mem_nil⟩) (fun q => ?_)
        refine WP_astore dL_insert_17 (by decide) rfl ?_
        refine WP_iconst (2) dL_insert_19 (by decide) ?_
        refine WP_ireturn dL_insert_20 rfl rfl (Nat.le_of_ble_eq_true rfl) (Nat.le_of_ble_eq_true rfl) ?_
        exact ⟨_, rfl, z, hz, by rw [hj]; rfl, _, ⟨L', K', Rc', Ic', AIc', AR', rfl, hg, hI⟩, fun h9 => absurd h9 (by omega)⟩
      | 2, hj, h1 =>
        have h1 : some xS = some E9 := h1
        cases h1
        refine WX_catch [(0, 10, 13, 13), (0, 10, 17, 15)] (0, 10, 21, 17) [] rfl ⟨by decide, by decide⟩ (by decide) ok_218 cst_S (List.forall_mem_cons.mpr ⟨⟨by decide, xO, ok_216, nc_SO⟩, List.forall_mem_cons.mpr ⟨⟨by decide, xA, ok_217, nc_SA⟩, fun _ h => absurd h List.not_mem_nil⟩⟩) (fun q => ?_)
        refine WP_astore dL_insert_21 (by decide) rfl ?_
        refine WP_iconst (3) dL_insert_23 (by decide) ?_
        refine WP_ireturn dL_insert_24 rfl rfl (Nat.le_of_ble_eq_true rfl) (Nat.le_of_ble_eq_true rfl) ?_
        exact ⟨_, rfl, z, hz, by rw [hj]; rfl, _, ⟨L', K', Rc', Ic', AIc', AR', rfl, hg, hI⟩, fun h9 => absurd h9 (by omega)⟩
      | j + 3, hj, h1 => cases h1
theorem wr_remove (p0 : Int32) (O : Nat) (P : Rz → Prop) (h0 : E 0 ∈ L ∧ K (E 0) = 4) (hO : O ∈ L ∧ K O = 10) (nO : AN O = 1)
    (hk : MT G mX4_remove [vr (some (E 0)), vi p0] (mkS L K AN R0 Rc Ic AIc AR Im AIm AL) (fun r S' => ∃ z, P z ∧ cR [xO] (cJ E L K AN R0 Im AIm AL) z r S')) :
    MT G mL_remove [vr (some (E 0)), vi p0, vr (some O)] (mkS L K AN R0 Rc Ic AIc AR Im AIm AL) (rI (fun x S' => ∃ z, P z ∧ x = nI z.1 ∧ ∃ AL', cJ E L K AN R0 Im AIm AL' z.2.2 S' ∧ (z.1 = 0 → AL' O 0 = z.2.1.toInt64))) := by
  refine MT_ofH (by decide) rfl (Nat.le_of_ble_eq_true rfl) ?_
  refine WP_aload_n dL_remove_0 rfl ?_
  refine WP_iconst (0) dL_remove_1 (by decide) ?_
  refine WP_aload_n dL_remove_2 rfl ?_
  refine WP_iload_n dL_remove_3 rfl ?_
  refine WP_callV mX4_remove (As := [_]) dL_remove_4 okc_X4_remove ok_413 ⟨by decide, by decide⟩ rfl rfl h0 rfl (Nat.le_of_ble_eq_true rfl) (Nat.le_of_ble_eq_true rfl) (Nat.le_of_ble_eq_true rfl) hk (fun v9 S9 hq => ?_) (fun E9 S9 hq => ?_)
  · obtain ⟨z, hz, hI, h | ⟨ex, -, -, h⟩⟩ := hq
    · obtain ⟨z1, h2⟩ := h
      cases h2
      obtain ⟨L', K', Rc', Ic', AIc', AR', rfl, hg, hI⟩ := hI
      have kO : O ∈ L' ∧ K' O = 10 := ⟨(hg O hO.1).1, (hg O hO.1).2.trans hO.2⟩
      refine WP_i2l dL_remove_7 ?_
      refine ast_10 0 1 dL_remove_8 rfl kO nO rfl (by decide) (by decide) ?_
      refine WP_goto 15 dL_remove_9 (by decide) ?_
      refine WP_iconst (0) dL_remove_15 (by decide) ?_
      refine WP_ireturn dL_remove_16 rfl rfl (Nat.le_of_ble_eq_true rfl) (Nat.le_of_ble_eq_true rfl) ?_
      exact ⟨_, rfl, z, hz, by rw [z1]; rfl, _, ⟨L', K', Rc', Ic', AIc', AR', rfl, hg, hI⟩, fun _ => by rw [va_up_self, pk_uLs]⟩
    · cases h
  · obtain ⟨z, hz, hI, h | ⟨ex, h1, h2, h⟩⟩ := hq
    · cases h.2
    · cases h
      obtain ⟨L', K', Rc', Ic', AIc', AR', rfl, hg, hI⟩ := hI
      have hj : ∃ j, z.1 = j + 1 := ⟨z.1 - 1, by omega⟩
      obtain ⟨j, hj⟩ := hj
      rw [hj, Nat.add_sub_cancel] at h1
      match j, hj, h1 with
      | 0, hj, h1 =>
        have h1 : some xO = some E9 := h1
        cases h1
        refine WX_catch [] (0, 9, 12, 13) [] rfl ⟨by decide, by decide⟩ (by decide) ok_216 cst_O (fun _ h => absurd h List.not_mem_nil) (fun q => ?_)
        refine WP_astore_n dL_remove_12 (by decide) rfl ?_
        refine WP_iconst (1) dL_remove_13 (by decide) ?_
        refine WP_ireturn dL_remove_14 rfl rfl (Nat.le_of_ble_eq_true rfl) (Nat.le_of_ble_eq_true rfl) ?_
        exact ⟨_, rfl, z, hz, by rw [hj]; rfl, _, ⟨L', K', Rc', Ic', AIc', AR', rfl, hg, hI⟩, fun h9 => absurd h9 (by omega)⟩
      | j + 1, hj, h1 => cases h1
theorem wr_get (p0 : Int32) (O : Nat) (P : Rz → Prop) (h0 : E 0 ∈ L ∧ K (E 0) = 4) (hO : O ∈ L ∧ K O = 10) (nO : AN O = 1)
    (hk : MT G mX4_get [vr (some (E 0)), vi p0] (mkS L K AN R0 Rc Ic AIc AR Im AIm AL) (fun r S' => ∃ z, P z ∧ cR [xO] (cJ E L K AN R0 Im AIm AL) z r S')) :
    MT G mL_get [vr (some (E 0)), vi p0, vr (some O)] (mkS L K AN R0 Rc Ic AIc AR Im AIm AL) (rI (fun x S' => ∃ z, P z ∧ x = nI z.1 ∧ ∃ AL', cJ E L K AN R0 Im AIm AL' z.2.2 S' ∧ (z.1 = 0 → AL' O 0 = z.2.1.toInt64))) := by
  refine MT_ofH (by decide) rfl (Nat.le_of_ble_eq_true rfl) ?_
  refine WP_aload_n dL_get_0 rfl ?_
  refine WP_iconst (0) dL_get_1 (by decide) ?_
  refine WP_aload_n dL_get_2 rfl ?_
  refine WP_iload_n dL_get_3 rfl ?_
  refine WP_callV mX4_get (As := [_]) dL_get_4 okc_X4_get ok_448 ⟨by decide, by decide⟩ rfl rfl h0 rfl (Nat.le_of_ble_eq_true rfl) (Nat.le_of_ble_eq_true rfl) (Nat.le_of_ble_eq_true rfl) hk (fun v9 S9 hq => ?_) (fun E9 S9 hq => ?_)
  · obtain ⟨z, hz, hI, h | ⟨ex, -, -, h⟩⟩ := hq
    · obtain ⟨z1, h2⟩ := h
      cases h2
      obtain ⟨L', K', Rc', Ic', AIc', AR', rfl, hg, hI⟩ := hI
      have kO : O ∈ L' ∧ K' O = 10 := ⟨(hg O hO.1).1, (hg O hO.1).2.trans hO.2⟩
      refine WP_i2l dL_get_7 ?_
      refine ast_10 0 1 dL_get_8 rfl kO nO rfl (by decide) (by decide) ?_
      refine WP_goto 15 dL_get_9 (by decide) ?_
      refine WP_iconst (0) dL_get_15 (by decide) ?_
      refine WP_ireturn dL_get_16 rfl rfl (Nat.le_of_ble_eq_true rfl) (Nat.le_of_ble_eq_true rfl) ?_
      exact ⟨_, rfl, z, hz, by rw [z1]; rfl, _, ⟨L', K', Rc', Ic', AIc', AR', rfl, hg, hI⟩, fun _ => by rw [va_up_self, pk_uLs]⟩
    · cases h
  · obtain ⟨z, hz, hI, h | ⟨ex, h1, h2, h⟩⟩ := hq
    · cases h.2
    · cases h
      obtain ⟨L', K', Rc', Ic', AIc', AR', rfl, hg, hI⟩ := hI
      have hj : ∃ j, z.1 = j + 1 := ⟨z.1 - 1, by omega⟩
      obtain ⟨j, hj⟩ := hj
      rw [hj, Nat.add_sub_cancel] at h1
      match j, hj, h1 with
      | 0, hj, h1 =>
        have h1 : some xO = some E9 := h1
        cases h1
        refine WX_catch [] (0, 9, 12, 13) [] rfl ⟨by decide, by decide⟩ (by decide) ok_216 cst_O (fun _ h => absurd h List.not_mem_nil) (fun q => ?_)
        refine WP_astore_n dL_get_12 (by decide) rfl ?_
        refine WP_iconst (1) dL_get_13 (by decide) ?_
        refine WP_ireturn dL_get_14 rfl rfl (Nat.le_of_ble_eq_true rfl) (Nat.le_of_ble_eq_true rfl) ?_
        exact ⟨_, rfl, z, hz, by rw [hj]; rfl, _, ⟨L', K', Rc', Ic', AIc', AR', rfl, hg, hI⟩, fun h9 => absurd h9 (by omega)⟩
      | j + 1, hj, h1 => cases h1
theorem wr_set (p0 p1 : Int32) (O : Nat) (P : Rz → Prop) (h0 : E 0 ∈ L ∧ K (E 0) = 4) (hO : O ∈ L ∧ K O = 10) (nO : AN O = 1)
    (hk : MT G mX4_set [vr (some (E 0)), vi p0, vi p1] (mkS L K AN R0 Rc Ic AIc AR Im AIm AL) (fun r S' => ∃ z, P z ∧ cR [xO, xA] (cJ E L K AN R0 Im AIm AL) z r S')) :
    MT G mL_set [vr (some (E 0)), vi p0, vi p1, vr (some O)] (mkS L K AN R0 Rc Ic AIc AR Im AIm AL) (rI (fun x S' => ∃ z, P z ∧ x = nI z.1 ∧ ∃ AL', cJ E L K AN R0 Im AIm AL' z.2.2 S' ∧ (z.1 = 0 → AL' O 0 = z.2.1.toInt64))) := by
  refine MT_ofH (by decide) rfl (Nat.le_of_ble_eq_true rfl) ?_
  refine WP_aload_n dL_set_0 rfl ?_
  refine WP_iconst (0) dL_set_1 (by decide) ?_
  refine WP_aload_n dL_set_2 rfl ?_
  refine WP_iload_n dL_set_3 rfl ?_
  refine WP_iload_n dL_set_4 rfl ?_
  refine WP_callV mX4_set (As := [_, _]) dL_set_5 okc_X4_set ok_455 ⟨by decide, by decide⟩ rfl rfl h0 rfl (Nat.le_of_ble_eq_true rfl) (Nat.le_of_ble_eq_true rfl) (Nat.le_of_ble_eq_true rfl) hk (fun v9 S9 hq => ?_) (fun E9 S9 hq => ?_)
  · obtain ⟨z, hz, hI, h | ⟨ex, -, -, h⟩⟩ := hq
    · obtain ⟨z1, h2⟩ := h
      cases h2
      obtain ⟨L', K', Rc', Ic', AIc', AR', rfl, hg, hI⟩ := hI
      have kO : O ∈ L' ∧ K' O = 10 := ⟨(hg O hO.1).1, (hg O hO.1).2.trans hO.2⟩
      refine WP_i2l dL_set_8 ?_
      refine ast_10 0 1 dL_set_9 rfl kO nO rfl (by decide) (by decide) ?_
      refine WP_goto 21 dL_set_10 (by decide) ?_
      refine WP_iconst (0) dL_set_21 (by decide) ?_
      refine WP_ireturn dL_set_22 rfl rfl (Nat.le_of_ble_eq_true rfl) (Nat.le_of_ble_eq_true rfl) ?_
      exact ⟨_, rfl, z, hz, by rw [z1]; rfl, _, ⟨L', K', Rc', Ic', AIc', AR', rfl, hg, hI⟩, fun _ => by rw [va_up_self, pk_uLs]⟩
    · cases h
  · obtain ⟨z, hz, hI, h | ⟨ex, h1, h2, h⟩⟩ := hq
    · cases h.2
    · cases h
      obtain ⟨L', K', Rc', Ic', AIc', AR', rfl, hg, hI⟩ := hI
      have hj : ∃ j, z.1 = j + 1 := ⟨z.1 - 1, by omega⟩
      obtain ⟨j, hj⟩ := hj
      rw [hj, Nat.add_sub_cancel] at h1
      match j, hj, h1 with
      | 0, hj, h1 =>
        have h1 : some xO = some E9 := h1
        cases h1
        refine WX_catch [] (0, 10, 13, 13) [(0, 10, 17, 15)] rfl ⟨by decide, by decide⟩ (by decide) ok_216 cst_O (fun _ h => absurd h List.not_mem_nil) (fun q => ?_)
        refine WP_astore dL_set_13 (by decide) rfl ?_
        refine WP_iconst (1) dL_set_15 (by decide) ?_
        refine WP_ireturn dL_set_16 rfl rfl (Nat.le_of_ble_eq_true rfl) (Nat.le_of_ble_eq_true rfl) ?_
        exact ⟨_, rfl, z, hz, by rw [hj]; rfl, _, ⟨L', K', Rc', Ic', AIc', AR', rfl, hg, hI⟩, fun h9 => absurd h9 (by omega)⟩
      | 1, hj, h1 =>
        have h1 : some xA = some E9 := h1
        cases h1
        refine WX_catch [(0, 10, 13, 13)] (0, 10, 17, 15) [] rfl ⟨by decide, by decide⟩ (by decide) ok_217 cst_A (List.forall_mem_cons.mpr ⟨⟨by decide, xO, ok_216, nc_AO⟩, fun _ h => absurd h List.not_mem_nil⟩) (fun q => ?_)
        refine WP_astore dL_set_17 (by decide) rfl ?_
        refine WP_iconst (2) dL_set_19 (by decide) ?_
        refine WP_ireturn dL_set_20 rfl rfl (Nat.le_of_ble_eq_true rfl) (Nat.le_of_ble_eq_true rfl) ?_
        exact ⟨_, rfl, z, hz, by rw [hj]; rfl, _, ⟨L', K', Rc', Ic', AIc', AR', rfl, hg, hI⟩, fun h9 => absurd h9 (by omega)⟩
      | j + 2, hj, h1 => cases h1
theorem wr_reverse (p0 p1 : Int32) (O : Nat) (P : Rz → Prop) (h0 : E 0 ∈ L ∧ K (E 0) = 4) (hO : O ∈ L ∧ K O = 10) (nO : AN O = 1)
    (hk : MT G mX4_reverse [vr (some (E 0)), vi p0, vi p1] (mkS L K AN R0 Rc Ic AIc AR Im AIm AL) (fun r S' => ∃ z, P z ∧ cR [xO] (cJ E L K AN R0 Im AIm AL) z r S')) :
    MT G mL_reverse [vr (some (E 0)), vi p0, vi p1, vr (some O)] (mkS L K AN R0 Rc Ic AIc AR Im AIm AL) (rI (fun x S' => ∃ z, P z ∧ x = nI z.1 ∧ ∃ AL', cJ E L K AN R0 Im AIm AL' z.2.2 S' ∧ (z.1 = 0 → AL' O 0 = z.2.1.toInt64))) := by
  refine MT_ofH (by decide) rfl (Nat.le_of_ble_eq_true rfl) ?_
  refine WP_aload_n dL_reverse_0 rfl ?_
  refine WP_iconst (0) dL_reverse_1 (by decide) ?_
  refine WP_aload_n dL_reverse_2 rfl ?_
  refine WP_iload_n dL_reverse_3 rfl ?_
  refine WP_iload_n dL_reverse_4 rfl ?_
  refine WP_callV mX4_reverse (As := [_, _]) dL_reverse_5 okc_X4_reverse ok_466 ⟨by decide, by decide⟩ rfl rfl h0 rfl (Nat.le_of_ble_eq_true rfl) (Nat.le_of_ble_eq_true rfl) (Nat.le_of_ble_eq_true rfl) hk (fun v9 S9 hq => ?_) (fun E9 S9 hq => ?_)
  · obtain ⟨z, hz, hI, h | ⟨ex, -, -, h⟩⟩ := hq
    · obtain ⟨z1, h2⟩ := h
      cases h2
      obtain ⟨L', K', Rc', Ic', AIc', AR', rfl, hg, hI⟩ := hI
      have kO : O ∈ L' ∧ K' O = 10 := ⟨(hg O hO.1).1, (hg O hO.1).2.trans hO.2⟩
      refine WP_i2l dL_reverse_8 ?_
      refine ast_10 0 1 dL_reverse_9 rfl kO nO rfl (by decide) (by decide) ?_
      refine WP_goto 17 dL_reverse_10 (by decide) ?_
      refine WP_iconst (0) dL_reverse_17 (by decide) ?_
      refine WP_ireturn dL_reverse_18 rfl rfl (Nat.le_of_ble_eq_true rfl) (Nat.le_of_ble_eq_true rfl) ?_
      exact ⟨_, rfl, z, hz, by rw [z1]; rfl, _, ⟨L', K', Rc', Ic', AIc', AR', rfl, hg, hI⟩, fun _ => by rw [va_up_self, pk_uLs]⟩
    · cases h
  · obtain ⟨z, hz, hI, h | ⟨ex, h1, h2, h⟩⟩ := hq
    · cases h.2
    · cases h
      obtain ⟨L', K', Rc', Ic', AIc', AR', rfl, hg, hI⟩ := hI
      have hj : ∃ j, z.1 = j + 1 := ⟨z.1 - 1, by omega⟩
      obtain ⟨j, hj⟩ := hj
      rw [hj, Nat.add_sub_cancel] at h1
      match j, hj, h1 with
      | 0, hj, h1 =>
        have h1 : some xO = some E9 := h1
        cases h1
        refine WX_catch [] (0, 10, 13, 13) [] rfl ⟨by decide, by decide⟩ (by decide) ok_216 cst_O (fun _ h => absurd h List.not_mem_nil) (fun q => ?_)
        refine WP_astore dL_reverse_13 (by decide) rfl ?_
        refine WP_iconst (1) dL_reverse_15 (by decide) ?_
        refine WP_ireturn dL_reverse_16 rfl rfl (Nat.le_of_ble_eq_true rfl) (Nat.le_of_ble_eq_true rfl) ?_
        exact ⟨_, rfl, z, hz, by rw [hj]; rfl, _, ⟨L', K', Rc', Ic', AIc', AR', rfl, hg, hI⟩, fun h9 => absurd h9 (by omega)⟩
      | j + 1, hj, h1 => cases h1
theorem wr_raise (p0 p1 p2 : Int32) (O : Nat) (P : Rz → Prop) (h0 : E 0 ∈ L ∧ K (E 0) = 4) (hO : O ∈ L ∧ K O = 10) (nO : AN O = 1)
    (hk : MT G mX4_raise [vr (some (E 0)), vi p0, vi p1, vi p2] (mkS L K AN R0 Rc Ic AIc AR Im AIm AL) (fun r S' => ∃ z, P z ∧ cR [xO, xA] (cJ E L K AN R0 Im AIm AL) z r S')) :
    MT G mL_raise [vr (some (E 0)), vi p0, vi p1, vi p2, vr (some O)] (mkS L K AN R0 Rc Ic AIc AR Im AIm AL) (rI (fun x S' => ∃ z, P z ∧ x = nI z.1 ∧ ∃ AL', cJ E L K AN R0 Im AIm AL' z.2.2 S' ∧ (z.1 = 0 → AL' O 0 = z.2.1.toInt64))) := by
  refine MT_ofH (by decide) rfl (Nat.le_of_ble_eq_true rfl) ?_
  refine WP_aload dL_raise_0 rfl ?_
  refine WP_iconst (0) dL_raise_2 (by decide) ?_
  refine WP_aload_n dL_raise_3 rfl ?_
  refine WP_iload_n dL_raise_4 rfl ?_
  refine WP_iload_n dL_raise_5 rfl ?_
  refine WP_iload_n dL_raise_6 rfl ?_
  refine WP_callV mX4_raise (As := [_, _, _]) dL_raise_7 okc_X4_raise ok_502 ⟨by decide, by decide⟩ rfl rfl h0 rfl (Nat.le_of_ble_eq_true rfl) (Nat.le_of_ble_eq_true rfl) (Nat.le_of_ble_eq_true rfl) hk (fun v9 S9 hq => ?_) (fun E9 S9 hq => ?_)
  · obtain ⟨z, hz, hI, h | ⟨ex, -, -, h⟩⟩ := hq
    · obtain ⟨z1, h2⟩ := h
      cases h2
      obtain ⟨L', K', Rc', Ic', AIc', AR', rfl, hg, hI⟩ := hI
      have kO : O ∈ L' ∧ K' O = 10 := ⟨(hg O hO.1).1, (hg O hO.1).2.trans hO.2⟩
      refine WP_i2l dL_raise_10 ?_
      refine ast_10 0 1 dL_raise_11 rfl kO nO rfl (by decide) (by decide) ?_
      refine WP_goto 23 dL_raise_12 (by decide) ?_
      refine WP_iconst (0) dL_raise_23 (by decide) ?_
      refine WP_ireturn dL_raise_24 rfl rfl (Nat.le_of_ble_eq_true rfl) (Nat.le_of_ble_eq_true rfl) ?_
      exact ⟨_, rfl, z, hz, by rw [z1]; rfl, _, ⟨L', K', Rc', Ic', AIc', AR', rfl, hg, hI⟩, fun _ => by rw [va_up_self, pk_uLs]⟩
    · cases h
  · obtain ⟨z, hz, hI, h | ⟨ex, h1, h2, h⟩⟩ := hq
    · cases h.2
    · cases h
      obtain ⟨L', K', Rc', Ic', AIc', AR', rfl, hg, hI⟩ := hI
      have hj : ∃ j, z.1 = j + 1 := ⟨z.1 - 1, by omega⟩
      obtain ⟨j, hj⟩ := hj
      rw [hj, Nat.add_sub_cancel] at h1
      match j, hj, h1 with
      | 0, hj, h1 =>
        have h1 : some xO = some E9 := h1
        cases h1
        refine WX_catch [] (0, 12, 15, 13) [(0, 12, 19, 15)] rfl ⟨by decide, by decide⟩ (by decide) ok_216 cst_O (fun _ h => absurd h List.not_mem_nil) (fun q => ?_)
        refine WP_astore dL_raise_15 (by decide) rfl ?_
        refine WP_iconst (1) dL_raise_17 (by decide) ?_
        refine WP_ireturn dL_raise_18 rfl rfl (Nat.le_of_ble_eq_true rfl) (Nat.le_of_ble_eq_true rfl) ?_
        exact ⟨_, rfl, z, hz, by rw [hj]; rfl, _, ⟨L', K', Rc', Ic', AIc', AR', rfl, hg, hI⟩, fun h9 => absurd h9 (by omega)⟩
      | 1, hj, h1 =>
        have h1 : some xA = some E9 := h1
        cases h1
        refine WX_catch [(0, 12, 15, 13)] (0, 12, 19, 15) [] rfl ⟨by decide, by decide⟩ (by decide) ok_217 cst_A (List.forall_mem_cons.mpr ⟨⟨by decide, xO, ok_216, nc_AO⟩, fun _ h => absurd h List.not_mem_nil⟩) (fun q => ?_)
        refine WP_astore dL_raise_19 (by decide) rfl ?_
        refine WP_iconst (2) dL_raise_21 (by decide) ?_
        refine WP_ireturn dL_raise_22 rfl rfl (Nat.le_of_ble_eq_true rfl) (Nat.le_of_ble_eq_true rfl) ?_
        exact ⟨_, rfl, z, hz, by rw [hj]; rfl, _, ⟨L', K', Rc', Ic', AIc', AR', rfl, hg, hI⟩, fun h9 => absurd h9 (by omega)⟩
      | j + 2, hj, h1 => cases h1
theorem wr_sum (p0 p1 : Int32) (O : Nat) (P : Rz → Prop) (h0 : E 0 ∈ L ∧ K (E 0) = 4) (hO : O ∈ L ∧ K O = 10) (nO : AN O = 1)
    (hk : MT G mX4_sum [vr (some (E 0)), vi p0, vi p1] (mkS L K AN R0 Rc Ic AIc AR Im AIm AL) (fun r S' => ∃ z, P z ∧ cR [xO] (cJ E L K AN R0 Im AIm AL) z r S')) :
    MT G mL_sum [vr (some (E 0)), vi p0, vi p1, vr (some O)] (mkS L K AN R0 Rc Ic AIc AR Im AIm AL) (rI (fun x S' => ∃ z, P z ∧ x = nI z.1 ∧ ∃ AL', cJ E L K AN R0 Im AIm AL' z.2.2 S' ∧ (z.1 = 0 → AL' O 0 = z.2.1.toInt64))) := by
  refine MT_ofH (by decide) rfl (Nat.le_of_ble_eq_true rfl) ?_
  refine WP_aload_n dL_sum_0 rfl ?_
  refine WP_iconst (0) dL_sum_1 (by decide) ?_
  refine WP_aload_n dL_sum_2 rfl ?_
  refine WP_iload_n dL_sum_3 rfl ?_
  refine WP_iload_n dL_sum_4 rfl ?_
  refine WP_callV mX4_sum (As := [_, _]) dL_sum_5 okc_X4_sum ok_517 ⟨by decide, by decide⟩ rfl rfl h0 rfl (Nat.le_of_ble_eq_true rfl) (Nat.le_of_ble_eq_true rfl) (Nat.le_of_ble_eq_true rfl) hk (fun v9 S9 hq => ?_) (fun E9 S9 hq => ?_)
  · obtain ⟨z, hz, hI, h | ⟨ex, -, -, h⟩⟩ := hq
    · obtain ⟨z1, h2⟩ := h
      cases h2
      obtain ⟨L', K', Rc', Ic', AIc', AR', rfl, hg, hI⟩ := hI
      have kO : O ∈ L' ∧ K' O = 10 := ⟨(hg O hO.1).1, (hg O hO.1).2.trans hO.2⟩
      refine WP_i2l dL_sum_8 ?_
      refine ast_10 0 1 dL_sum_9 rfl kO nO rfl (by decide) (by decide) ?_
      refine WP_goto 17 dL_sum_10 (by decide) ?_
      refine WP_iconst (0) dL_sum_17 (by decide) ?_
      refine WP_ireturn dL_sum_18 rfl rfl (Nat.le_of_ble_eq_true rfl) (Nat.le_of_ble_eq_true rfl) ?_
      exact ⟨_, rfl, z, hz, by rw [z1]; rfl, _, ⟨L', K', Rc', Ic', AIc', AR', rfl, hg, hI⟩, fun _ => by rw [va_up_self, pk_uLs]⟩
    · cases h
  · obtain ⟨z, hz, hI, h | ⟨ex, h1, h2, h⟩⟩ := hq
    · cases h.2
    · cases h
      obtain ⟨L', K', Rc', Ic', AIc', AR', rfl, hg, hI⟩ := hI
      have hj : ∃ j, z.1 = j + 1 := ⟨z.1 - 1, by omega⟩
      obtain ⟨j, hj⟩ := hj
      rw [hj, Nat.add_sub_cancel] at h1
      match j, hj, h1 with
      | 0, hj, h1 =>
        have h1 : some xO = some E9 := h1
        cases h1
        refine WX_catch [] (0, 10, 13, 13) [] rfl ⟨by decide, by decide⟩ (by decide) ok_216 cst_O (fun _ h => absurd h List.not_mem_nil) (fun q => ?_)
        refine WP_astore dL_sum_13 (by decide) rfl ?_
        refine WP_iconst (1) dL_sum_15 (by decide) ?_
        refine WP_ireturn dL_sum_16 rfl rfl (Nat.le_of_ble_eq_true rfl) (Nat.le_of_ble_eq_true rfl) ?_
        exact ⟨_, rfl, z, hz, by rw [hj]; rfl, _, ⟨L', K', Rc', Ic', AIc', AR', rfl, hg, hI⟩, fun h9 => absurd h9 (by omega)⟩
      | j + 1, hj, h1 => cases h1
theorem wr_least (p0 p1 : Int32) (O : Nat) (P : Rz → Prop) (h0 : E 0 ∈ L ∧ K (E 0) = 4) (hO : O ∈ L ∧ K O = 10) (nO : AN O = 1)
    (hk : MT G mX4_least [vr (some (E 0)), vi p0, vi p1] (mkS L K AN R0 Rc Ic AIc AR Im AIm AL) (fun r S' => ∃ z, P z ∧ cR [xO, xA] (cJ E L K AN R0 Im AIm AL) z r S')) :
    MT G mL_least [vr (some (E 0)), vi p0, vi p1, vr (some O)] (mkS L K AN R0 Rc Ic AIc AR Im AIm AL) (rI (fun x S' => ∃ z, P z ∧ x = nI z.1 ∧ ∃ AL', cJ E L K AN R0 Im AIm AL' z.2.2 S' ∧ (z.1 = 0 → AL' O 0 = z.2.1.toInt64))) := by
  refine MT_ofH (by decide) rfl (Nat.le_of_ble_eq_true rfl) ?_
  refine WP_aload_n dL_least_0 rfl ?_
  refine WP_iconst (0) dL_least_1 (by decide) ?_
  refine WP_aload_n dL_least_2 rfl ?_
  refine WP_iload_n dL_least_3 rfl ?_
  refine WP_iload_n dL_least_4 rfl ?_
  refine WP_callV mX4_least (As := [_, _]) dL_least_5 okc_X4_least ok_528 ⟨by decide, by decide⟩ rfl rfl h0 rfl (Nat.le_of_ble_eq_true rfl) (Nat.le_of_ble_eq_true rfl) (Nat.le_of_ble_eq_true rfl) hk (fun v9 S9 hq => ?_) (fun E9 S9 hq => ?_)
  · obtain ⟨z, hz, hI, h | ⟨ex, -, -, h⟩⟩ := hq
    · obtain ⟨z1, h2⟩ := h
      cases h2
      obtain ⟨L', K', Rc', Ic', AIc', AR', rfl, hg, hI⟩ := hI
      have kO : O ∈ L' ∧ K' O = 10 := ⟨(hg O hO.1).1, (hg O hO.1).2.trans hO.2⟩
      refine WP_i2l dL_least_8 ?_
      refine ast_10 0 1 dL_least_9 rfl kO nO rfl (by decide) (by decide) ?_
      refine WP_goto 21 dL_least_10 (by decide) ?_
      refine WP_iconst (0) dL_least_21 (by decide) ?_
      refine WP_ireturn dL_least_22 rfl rfl (Nat.le_of_ble_eq_true rfl) (Nat.le_of_ble_eq_true rfl) ?_
      exact ⟨_, rfl, z, hz, by rw [z1]; rfl, _, ⟨L', K', Rc', Ic', AIc', AR', rfl, hg, hI⟩, fun _ => by rw [va_up_self, pk_uLs]⟩
    · cases h
  · obtain ⟨z, hz, hI, h | ⟨ex, h1, h2, h⟩⟩ := hq
    · cases h.2
    · cases h
      obtain ⟨L', K', Rc', Ic', AIc', AR', rfl, hg, hI⟩ := hI
      have hj : ∃ j, z.1 = j + 1 := ⟨z.1 - 1, by omega⟩
      obtain ⟨j, hj⟩ := hj
      rw [hj, Nat.add_sub_cancel] at h1
      match j, hj, h1 with
      | 0, hj, h1 =>
        have h1 : some xO = some E9 := h1
        cases h1
        refine WX_catch [] (0, 10, 13, 13) [(0, 10, 17, 15)] rfl ⟨by decide, by decide⟩ (by decide) ok_216 cst_O (fun _ h => absurd h List.not_mem_nil) (fun q => ?_)
        refine WP_astore dL_least_13 (by decide) rfl ?_
        refine WP_iconst (1) dL_least_15 (by decide) ?_
        refine WP_ireturn dL_least_16 rfl rfl (Nat.le_of_ble_eq_true rfl) (Nat.le_of_ble_eq_true rfl) ?_
        exact ⟨_, rfl, z, hz, by rw [hj]; rfl, _, ⟨L', K', Rc', Ic', AIc', AR', rfl, hg, hI⟩, fun h9 => absurd h9 (by omega)⟩
      | 1, hj, h1 =>
        have h1 : some xA = some E9 := h1
        cases h1
        refine WX_catch [(0, 10, 13, 13)] (0, 10, 17, 15) [] rfl ⟨by decide, by decide⟩ (by decide) ok_217 cst_A (List.forall_mem_cons.mpr ⟨⟨by decide, xO, ok_216, nc_AO⟩, fun _ h => absurd h List.not_mem_nil⟩) (fun q => ?_)
        refine WP_astore dL_least_17 (by decide) rfl ?_
        refine WP_iconst (2) dL_least_19 (by decide) ?_
        refine WP_ireturn dL_least_20 rfl rfl (Nat.le_of_ble_eq_true rfl) (Nat.le_of_ble_eq_true rfl) ?_
        exact ⟨_, rfl, z, hz, by rw [hj]; rfl, _, ⟨L', K', Rc', Ic', AIc', AR', rfl, hg, hI⟩, fun h9 => absurd h9 (by omega)⟩
      | j + 2, hj, h1 => cases h1
theorem wr_cut (p0 p1 : Int32) (O : Nat) (P : Rz → Prop) (h0 : E 0 ∈ L ∧ K (E 0) = 4) (hO : O ∈ L ∧ K O = 10) (nO : AN O = 1)
    (hk : MT G mX4_cut [vr (some (E 0)), vi p0, vi p1] (mkS L K AN R0 Rc Ic AIc AR Im AIm AL) (fun r S' => ∃ z, P z ∧ cR [xO, xS] (cJ E L K AN R0 Im AIm AL) z r S')) :
    MT G mL_cut [vr (some (E 0)), vi p0, vi p1, vr (some O)] (mkS L K AN R0 Rc Ic AIc AR Im AIm AL) (rI (fun x S' => ∃ z, P z ∧ x = nI z.1 ∧ ∃ AL', cJ E L K AN R0 Im AIm AL' z.2.2 S' ∧ (z.1 = 0 → AL' O 0 = z.2.1.toInt64))) := by
  refine MT_ofH (by decide) rfl (Nat.le_of_ble_eq_true rfl) ?_
  refine WP_aload_n dL_cut_0 rfl ?_
  refine WP_iconst (0) dL_cut_1 (by decide) ?_
  refine WP_aload_n dL_cut_2 rfl ?_
  refine WP_iload_n dL_cut_3 rfl ?_
  refine WP_iload_n dL_cut_4 rfl ?_
  refine WP_callV mX4_cut (As := [_, _]) dL_cut_5 okc_X4_cut ok_543 ⟨by decide, by decide⟩ rfl rfl h0 rfl (Nat.le_of_ble_eq_true rfl) (Nat.le_of_ble_eq_true rfl) (Nat.le_of_ble_eq_true rfl) hk (fun v9 S9 hq => ?_) (fun E9 S9 hq => ?_)
  · obtain ⟨z, hz, hI, h | ⟨ex, -, -, h⟩⟩ := hq
    · obtain ⟨z1, h2⟩ := h
      cases h2
      obtain ⟨L', K', Rc', Ic', AIc', AR', rfl, hg, hI⟩ := hI
      have kO : O ∈ L' ∧ K' O = 10 := ⟨(hg O hO.1).1, (hg O hO.1).2.trans hO.2⟩
      refine WP_i2l dL_cut_8 ?_
      refine ast_10 0 1 dL_cut_9 rfl kO nO rfl (by decide) (by decide) ?_
      refine WP_goto 21 dL_cut_10 (by decide) ?_
      refine WP_iconst (0) dL_cut_21 (by decide) ?_
      refine WP_ireturn dL_cut_22 rfl rfl (Nat.le_of_ble_eq_true rfl) (Nat.le_of_ble_eq_true rfl) ?_
      exact ⟨_, rfl, z, hz, by rw [z1]; rfl, _, ⟨L', K', Rc', Ic', AIc', AR', rfl, hg, hI⟩, fun _ => by rw [va_up_self, pk_uLs]⟩
    · cases h
  · obtain ⟨z, hz, hI, h | ⟨ex, h1, h2, h⟩⟩ := hq
    · cases h.2
    · cases h
      obtain ⟨L', K', Rc', Ic', AIc', AR', rfl, hg, hI⟩ := hI
      have hj : ∃ j, z.1 = j + 1 := ⟨z.1 - 1, by omega⟩
      obtain ⟨j, hj⟩ := hj
      rw [hj, Nat.add_sub_cancel] at h1
      match j, hj, h1 with
      | 0, hj, h1 =>
        have h1 : some xO = some E9 := h1
        cases h1
        refine WX_catch [] (0, 10, 13, 13) [(0, 10, 17, 17)] rfl ⟨by decide, by decide⟩ (by decide) ok_216 cst_O (fun _ h => absurd h List.not_mem_nil) (fun q => ?_)
        refine WP_astore dL_cut_13 (by decide) rfl ?_
        refine WP_iconst (1) dL_cut_15 (by decide) ?_
        refine WP_ireturn dL_cut_16 rfl rfl (Nat.le_of_ble_eq_true rfl) (Nat.le_of_ble_eq_true rfl) ?_
        exact ⟨_, rfl, z, hz, by rw [hj]; rfl, _, ⟨L', K', Rc', Ic', AIc', AR', rfl, hg, hI⟩, fun h9 => absurd h9 (by omega)⟩
      | 1, hj, h1 =>
        have h1 : some xS = some E9 := h1
        cases h1
        refine WX_catch [(0, 10, 13, 13)] (0, 10, 17, 17) [] rfl ⟨by decide, by decide⟩ (by decide) ok_218 cst_S (List.forall_mem_cons.mpr ⟨⟨by decide, xO, ok_216, nc_SO⟩, fun _ h => absurd h List.not_mem_nil⟩) (fun q => ?_)
        refine WP_astore dL_cut_17 (by decide) rfl ?_
        refine WP_iconst (2) dL_cut_19 (by decide) ?_
        refine WP_ireturn dL_cut_20 rfl rfl (Nat.le_of_ble_eq_true rfl) (Nat.le_of_ble_eq_true rfl) ?_
        exact ⟨_, rfl, z, hz, by rw [hj]; rfl, _, ⟨L', K', Rc', Ic', AIc', AR', rfl, hg, hI⟩, fun h9 => absurd h9 (by omega)⟩
      | j + 2, hj, h1 => cases h1
theorem wr_paste (p0 : Int32) (O : Nat) (P : Rz → Prop) (h0 : E 0 ∈ L ∧ K (E 0) = 4) (hO : O ∈ L ∧ K O = 10) (nO : AN O = 1)
    (hk : MT G mX4_paste [vr (some (E 0)), vi p0] (mkS L K AN R0 Rc Ic AIc AR Im AIm AL) (fun r S' => ∃ z, P z ∧ cR [xO] (cJ E L K AN R0 Im AIm AL) z r S')) :
    MT G mL_paste [vr (some (E 0)), vi p0, vr (some O)] (mkS L K AN R0 Rc Ic AIc AR Im AIm AL) (rI (fun x S' => ∃ z, P z ∧ x = nI z.1 ∧ ∃ AL', cJ E L K AN R0 Im AIm AL' z.2.2 S' ∧ (z.1 = 0 → AL' O 0 = z.2.1.toInt64))) := by
  refine MT_ofH (by decide) rfl (Nat.le_of_ble_eq_true rfl) ?_
  refine WP_aload_n dL_paste_0 rfl ?_
  refine WP_iconst (0) dL_paste_1 (by decide) ?_
  refine WP_aload_n dL_paste_2 rfl ?_
  refine WP_iload_n dL_paste_3 rfl ?_
  refine WP_callV mX4_paste (As := [_]) dL_paste_4 okc_X4_paste ok_555 ⟨by decide, by decide⟩ rfl rfl h0 rfl (Nat.le_of_ble_eq_true rfl) (Nat.le_of_ble_eq_true rfl) (Nat.le_of_ble_eq_true rfl) hk (fun v9 S9 hq => ?_) (fun E9 S9 hq => ?_)
  · obtain ⟨z, hz, hI, h | ⟨ex, -, -, h⟩⟩ := hq
    · obtain ⟨z1, h2⟩ := h
      cases h2
      obtain ⟨L', K', Rc', Ic', AIc', AR', rfl, hg, hI⟩ := hI
      have kO : O ∈ L' ∧ K' O = 10 := ⟨(hg O hO.1).1, (hg O hO.1).2.trans hO.2⟩
      refine WP_i2l dL_paste_7 ?_
      refine ast_10 0 1 dL_paste_8 rfl kO nO rfl (by decide) (by decide) ?_
      refine WP_goto 15 dL_paste_9 (by decide) ?_
      refine WP_iconst (0) dL_paste_15 (by decide) ?_
      refine WP_ireturn dL_paste_16 rfl rfl (Nat.le_of_ble_eq_true rfl) (Nat.le_of_ble_eq_true rfl) ?_
      exact ⟨_, rfl, z, hz, by rw [z1]; rfl, _, ⟨L', K', Rc', Ic', AIc', AR', rfl, hg, hI⟩, fun _ => by rw [va_up_self, pk_uLs]⟩
    · cases h
  · obtain ⟨z, hz, hI, h | ⟨ex, h1, h2, h⟩⟩ := hq
    · cases h.2
    · cases h
      obtain ⟨L', K', Rc', Ic', AIc', AR', rfl, hg, hI⟩ := hI
      have hj : ∃ j, z.1 = j + 1 := ⟨z.1 - 1, by omega⟩
      obtain ⟨j, hj⟩ := hj
      rw [hj, Nat.add_sub_cancel] at h1
      match j, hj, h1 with
      | 0, hj, h1 =>
        have h1 : some xO = some E9 := h1
        cases h1
        refine WX_catch [] (0, 9, 12, 13) [] rfl ⟨by decide, by decide⟩ (by decide) ok_216 cst_O (fun _ h => absurd h List.not_mem_nil) (fun q => ?_)
        refine WP_astore_n dL_paste_12 (by decide) rfl ?_
        refine WP_iconst (1) dL_paste_13 (by decide) ?_
        refine WP_ireturn dL_paste_14 rfl rfl (Nat.le_of_ble_eq_true rfl) (Nat.le_of_ble_eq_true rfl) ?_
        exact ⟨_, rfl, z, hz, by rw [hj]; rfl, _, ⟨L', K', Rc', Ic', AIc', AR', rfl, hg, hI⟩, fun h9 => absurd h9 (by omega)⟩
      | j + 1, hj, h1 => cases h1
theorem wr_point (p0 p1 : Int32) (O : Nat) (P : Rz → Prop) (h0 : E 0 ∈ L ∧ K (E 0) = 4) (hO : O ∈ L ∧ K O = 10) (nO : AN O = 1)
    (hk : MT G mX4_point [vr (some (E 0)), vi p0, vi p1] (mkS L K AN R0 Rc Ic AIc AR Im AIm AL) (fun r S' => ∃ z, P z ∧ cR [xO] (cJ E L K AN R0 Im AIm AL) z r S')) :
    MT G mL_point [vr (some (E 0)), vi p0, vi p1, vr (some O)] (mkS L K AN R0 Rc Ic AIc AR Im AIm AL) (rI (fun x S' => ∃ z, P z ∧ x = nI z.1 ∧ ∃ AL', cJ E L K AN R0 Im AIm AL' z.2.2 S' ∧ (z.1 = 0 → AL' O 0 = z.2.1.toInt64))) := by
  refine MT_ofH (by decide) rfl (Nat.le_of_ble_eq_true rfl) ?_
  refine WP_aload_n dL_point_0 rfl ?_
  refine WP_iconst (0) dL_point_1 (by decide) ?_
  refine WP_aload_n dL_point_2 rfl ?_
  refine WP_iload_n dL_point_3 rfl ?_
  refine WP_iload_n dL_point_4 rfl ?_
  refine WP_callV mX4_point (As := [_, _]) dL_point_5 okc_X4_point ok_566 ⟨by decide, by decide⟩ rfl rfl h0 rfl (Nat.le_of_ble_eq_true rfl) (Nat.le_of_ble_eq_true rfl) (Nat.le_of_ble_eq_true rfl) hk (fun v9 S9 hq => ?_) (fun E9 S9 hq => ?_)
  · obtain ⟨z, hz, hI, h | ⟨ex, -, -, h⟩⟩ := hq
    · obtain ⟨z1, h2⟩ := h
      cases h2
      obtain ⟨L', K', Rc', Ic', AIc', AR', rfl, hg, hI⟩ := hI
      have kO : O ∈ L' ∧ K' O = 10 := ⟨(hg O hO.1).1, (hg O hO.1).2.trans hO.2⟩
      refine WP_i2l dL_point_8 ?_
      refine ast_10 0 1 dL_point_9 rfl kO nO rfl (by decide) (by decide) ?_
      refine WP_goto 17 dL_point_10 (by decide) ?_
      refine WP_iconst (0) dL_point_17 (by decide) ?_
      refine WP_ireturn dL_point_18 rfl rfl (Nat.le_of_ble_eq_true rfl) (Nat.le_of_ble_eq_true rfl) ?_
      exact ⟨_, rfl, z, hz, by rw [z1]; rfl, _, ⟨L', K', Rc', Ic', AIc', AR', rfl, hg, hI⟩, fun _ => by rw [va_up_self, pk_uLs]⟩
    · cases h
  · obtain ⟨z, hz, hI, h | ⟨ex, h1, h2, h⟩⟩ := hq
    · cases h.2
    · cases h
      obtain ⟨L', K', Rc', Ic', AIc', AR', rfl, hg, hI⟩ := hI
      have hj : ∃ j, z.1 = j + 1 := ⟨z.1 - 1, by omega⟩
      obtain ⟨j, hj⟩ := hj
      rw [hj, Nat.add_sub_cancel] at h1
      match j, hj, h1 with
      | 0, hj, h1 =>
        have h1 : some xO = some E9 := h1
        cases h1
        refine WX_catch [] (0, 10, 13, 13) [] rfl ⟨by decide, by decide⟩ (by decide) ok_216 cst_O (fun _ h => absurd h List.not_mem_nil) (fun q => ?_)
        refine WP_astore dL_point_13 (by decide) rfl ?_
        refine WP_iconst (1) dL_point_15 (by decide) ?_
        refine WP_ireturn dL_point_16 rfl rfl (Nat.le_of_ble_eq_true rfl) (Nat.le_of_ble_eq_true rfl) ?_
        exact ⟨_, rfl, z, hz, by rw [hj]; rfl, _, ⟨L', K', Rc', Ic', AIc', AR', rfl, hg, hI⟩, fun h9 => absurd h9 (by omega)⟩
      | j + 1, hj, h1 => cases h1
theorem wr_follow (p0 : Int32) (O : Nat) (P : Rz → Prop) (h0 : E 0 ∈ L ∧ K (E 0) = 4) (hO : O ∈ L ∧ K O = 10) (nO : AN O = 1)
    (hk : MT G mX4_follow [vr (some (E 0)), vi p0] (mkS L K AN R0 Rc Ic AIc AR Im AIm AL) (fun r S' => ∃ z, P z ∧ cR [xO] (cJ E L K AN R0 Im AIm AL) z r S')) :
    MT G mL_follow [vr (some (E 0)), vi p0, vr (some O)] (mkS L K AN R0 Rc Ic AIc AR Im AIm AL) (rI (fun x S' => ∃ z, P z ∧ x = nI z.1 ∧ ∃ AL', cJ E L K AN R0 Im AIm AL' z.2.2 S' ∧ (z.1 = 0 → AL' O 0 = z.2.1.toInt64))) := by
  refine MT_ofH (by decide) rfl (Nat.le_of_ble_eq_true rfl) ?_
  refine WP_aload_n dL_follow_0 rfl ?_
  refine WP_iconst (0) dL_follow_1 (by decide) ?_
  refine WP_aload_n dL_follow_2 rfl ?_
  refine WP_iload_n dL_follow_3 rfl ?_
  refine WP_callV mX4_follow (As := [_]) dL_follow_4 okc_X4_follow ok_578 ⟨by decide, by decide⟩ rfl rfl h0 rfl (Nat.le_of_ble_eq_true rfl) (Nat.le_of_ble_eq_true rfl) (Nat.le_of_ble_eq_true rfl) hk (fun v9 S9 hq => ?_) (fun E9 S9 hq => ?_)
  · obtain ⟨z, hz, hI, h | ⟨ex, -, -, h⟩⟩ := hq
    · obtain ⟨z1, h2⟩ := h
      cases h2
      obtain ⟨L', K', Rc', Ic', AIc', AR', rfl, hg, hI⟩ := hI
      have kO : O ∈ L' ∧ K' O = 10 := ⟨(hg O hO.1).1, (hg O hO.1).2.trans hO.2⟩
      refine WP_i2l dL_follow_7 ?_
      refine ast_10 0 1 dL_follow_8 rfl kO nO rfl (by decide) (by decide) ?_
      refine WP_goto 15 dL_follow_9 (by decide) ?_
      refine WP_iconst (0) dL_follow_15 (by decide) ?_
      refine WP_ireturn dL_follow_16 rfl rfl (Nat.le_of_ble_eq_true rfl) (Nat.le_of_ble_eq_true rfl) ?_
      exact ⟨_, rfl, z, hz, by rw [z1]; rfl, _, ⟨L', K', Rc', Ic', AIc', AR', rfl, hg, hI⟩, fun _ => by rw [va_up_self, pk_uLs]⟩
    · cases h
  · obtain ⟨z, hz, hI, h | ⟨ex, h1, h2, h⟩⟩ := hq
    · cases h.2
    · cases h
      obtain ⟨L', K', Rc', Ic', AIc', AR', rfl, hg, hI⟩ := hI
      have hj : ∃ j, z.1 = j + 1 := ⟨z.1 - 1, by omega⟩
      obtain ⟨j, hj⟩ := hj
      rw [hj, Nat.add_sub_cancel] at h1
      match j, hj, h1 with
      | 0, hj, h1 =>
        have h1 : some xO = some E9 := h1
        cases h1
        refine WX_catch [] (0, 9, 12, 13) [] rfl ⟨by decide, by decide⟩ (by decide) ok_216 cst_O (fun _ h => absurd h List.not_mem_nil) (fun q => ?_)
        refine WP_astore_n dL_follow_12 (by decide) rfl ?_
        refine WP_iconst (1) dL_follow_13 (by decide) ?_
        refine WP_ireturn dL_follow_14 rfl rfl (Nat.le_of_ble_eq_true rfl) (Nat.le_of_ble_eq_true rfl) ?_
        exact ⟨_, rfl, z, hz, by rw [hj]; rfl, _, ⟨L', K', Rc', Ic', AIc', AR', rfl, hg, hI⟩, fun h9 => absurd h9 (by omega)⟩
      | j + 1, hj, h1 => cases h1
theorem wr_move (p0 p1 : Int32) (O : Nat) (P : Rz → Prop) (h0 : E 0 ∈ L ∧ K (E 0) = 4) (hO : O ∈ L ∧ K O = 10) (nO : AN O = 1)
    (hk : MT G mX4_move [vr (some (E 0)), vi p0, vi p1] (mkS L K AN R0 Rc Ic AIc AR Im AIm AL) (fun r S' => ∃ z, P z ∧ cR [xO, xS] (cJ E L K AN R0 Im AIm AL) z r S')) :
    MT G mL_move [vr (some (E 0)), vi p0, vi p1, vr (some O)] (mkS L K AN R0 Rc Ic AIc AR Im AIm AL) (rI (fun x S' => ∃ z, P z ∧ x = nI z.1 ∧ ∃ AL', cJ E L K AN R0 Im AIm AL' z.2.2 S' ∧ (z.1 = 0 → AL' O 0 = z.2.1.toInt64))) := by
  refine MT_ofH (by decide) rfl (Nat.le_of_ble_eq_true rfl) ?_
  refine WP_aload_n dL_move_0 rfl ?_
  refine WP_iconst (0) dL_move_1 (by decide) ?_
  refine WP_aload_n dL_move_2 rfl ?_
  refine WP_iload_n dL_move_3 rfl ?_
  refine WP_iload_n dL_move_4 rfl ?_
  refine WP_callV mX4_move (As := [_, _]) dL_move_5 okc_X4_move ok_593 ⟨by decide, by decide⟩ rfl rfl h0 rfl (Nat.le_of_ble_eq_true rfl) (Nat.le_of_ble_eq_true rfl) (Nat.le_of_ble_eq_true rfl) hk (fun v9 S9 hq => ?_) (fun E9 S9 hq => ?_)
  · obtain ⟨z, hz, hI, h | ⟨ex, -, -, h⟩⟩ := hq
    · obtain ⟨z1, h2⟩ := h
      cases h2
      obtain ⟨L', K', Rc', Ic', AIc', AR', rfl, hg, hI⟩ := hI
      have kO : O ∈ L' ∧ K' O = 10 := ⟨(hg O hO.1).1, (hg O hO.1).2.trans hO.2⟩
      refine WP_i2l dL_move_8 ?_
      refine ast_10 0 1 dL_move_9 rfl kO nO rfl (by decide) (by decide) ?_
      refine WP_goto 21 dL_move_10 (by decide) ?_
      refine WP_iconst (0) dL_move_21 (by decide) ?_
      refine WP_ireturn dL_move_22 rfl rfl (Nat.le_of_ble_eq_true rfl) (Nat.le_of_ble_eq_true rfl) ?_
      exact ⟨_, rfl, z, hz, by rw [z1]; rfl, _, ⟨L', K', Rc', Ic', AIc', AR', rfl, hg, hI⟩, fun _ => by rw [va_up_self, pk_uLs]⟩
    · cases h
  · obtain ⟨z, hz, hI, h | ⟨ex, h1, h2, h⟩⟩ := hq
    · cases h.2
    · cases h
      obtain ⟨L', K', Rc', Ic', AIc', AR', rfl, hg, hI⟩ := hI
      have hj : ∃ j, z.1 = j + 1 := ⟨z.1 - 1, by omega⟩
      obtain ⟨j, hj⟩ := hj
      rw [hj, Nat.add_sub_cancel] at h1
      match j, hj, h1 with
      | 0, hj, h1 =>
        have h1 : some xO = some E9 := h1
        cases h1
        refine WX_catch [] (0, 10, 13, 13) [(0, 10, 17, 17)] rfl ⟨by decide, by decide⟩ (by decide) ok_216 cst_O (fun _ h => absurd h List.not_mem_nil) (fun q => ?_)
        refine WP_astore dL_move_13 (by decide) rfl ?_
        refine WP_iconst (1) dL_move_15 (by decide) ?_
        refine WP_ireturn dL_move_16 rfl rfl (Nat.le_of_ble_eq_true rfl) (Nat.le_of_ble_eq_true rfl) ?_
        exact ⟨_, rfl, z, hz, by rw [hj]; rfl, _, ⟨L', K', Rc', Ic', AIc', AR', rfl, hg, hI⟩, fun h9 => absurd h9 (by omega)⟩
      | 1, hj, h1 =>
        have h1 : some xS = some E9 := h1
        cases h1
        refine WX_catch [(0, 10, 13, 13)] (0, 10, 17, 17) [] rfl ⟨by decide, by decide⟩ (by decide) ok_218 cst_S (List.forall_mem_cons.mpr ⟨⟨by decide, xO, ok_216, nc_SO⟩, fun _ h => absurd h List.not_mem_nil⟩) (fun q => ?_)
        refine WP_astore dL_move_17 (by decide) rfl ?_
        refine WP_iconst (2) dL_move_19 (by decide) ?_
        refine WP_ireturn dL_move_20 rfl rfl (Nat.le_of_ble_eq_true rfl) (Nat.le_of_ble_eq_true rfl) ?_
        exact ⟨_, rfl, z, hz, by rw [hj]; rfl, _, ⟨L', K', Rc', Ic', AIc', AR', rfl, hg, hI⟩, fun h9 => absurd h9 (by omega)⟩
      | j + 2, hj, h1 => cases h1
theorem wr_depth (p0 : Int32) (O : Nat) (P : Rz → Prop) (h0 : E 0 ∈ L ∧ K (E 0) = 4) (hO : O ∈ L ∧ K O = 10) (nO : AN O = 1)
    (hk : MT G mX4_depth [vr (some (E 0)), vi p0] (mkS L K AN R0 Rc Ic AIc AR Im AIm AL) (fun r S' => ∃ z, P z ∧ cR [xO] (cJ E L K AN R0 Im AIm AL) z r S')) :
    MT G mL_depth [vr (some (E 0)), vi p0, vr (some O)] (mkS L K AN R0 Rc Ic AIc AR Im AIm AL) (rI (fun x S' => ∃ z, P z ∧ x = nI z.1 ∧ ∃ AL', cJ E L K AN R0 Im AIm AL' z.2.2 S' ∧ (z.1 = 0 → AL' O 0 = z.2.1.toInt64))) := by
  refine MT_ofH (by decide) rfl (Nat.le_of_ble_eq_true rfl) ?_
  refine WP_aload_n dL_depth_0 rfl ?_
  refine WP_iconst (0) dL_depth_1 (by decide) ?_
  refine WP_aload_n dL_depth_2 rfl ?_
  refine WP_iload_n dL_depth_3 rfl ?_
  refine WP_callV mX4_depth (As := [_]) dL_depth_4 okc_X4_depth ok_602 ⟨by decide, by decide⟩ rfl rfl h0 rfl (Nat.le_of_ble_eq_true rfl) (Nat.le_of_ble_eq_true rfl) (Nat.le_of_ble_eq_true rfl) hk (fun v9 S9 hq => ?_) (fun E9 S9 hq => ?_)
  · obtain ⟨z, hz, hI, h | ⟨ex, -, -, h⟩⟩ := hq
    · obtain ⟨z1, h2⟩ := h
      cases h2
      obtain ⟨L', K', Rc', Ic', AIc', AR', rfl, hg, hI⟩ := hI
      have kO : O ∈ L' ∧ K' O = 10 := ⟨(hg O hO.1).1, (hg O hO.1).2.trans hO.2⟩
      refine WP_i2l dL_depth_7 ?_
      refine ast_10 0 1 dL_depth_8 rfl kO nO rfl (by decide) (by decide) ?_
      refine WP_goto 15 dL_depth_9 (by decide) ?_
      refine WP_iconst (0) dL_depth_15 (by decide) ?_
      refine WP_ireturn dL_depth_16 rfl rfl (Nat.le_of_ble_eq_true rfl) (Nat.le_of_ble_eq_true rfl) ?_
      exact ⟨_, rfl, z, hz, by rw [z1]; rfl, _, ⟨L', K', Rc', Ic', AIc', AR', rfl, hg, hI⟩, fun _ => by rw [va_up_self, pk_uLs]⟩
    · cases h
  · obtain ⟨z, hz, hI, h | ⟨ex, h1, h2, h⟩⟩ := hq
    · cases h.2
    · cases h
      obtain ⟨L', K', Rc', Ic', AIc', AR', rfl, hg, hI⟩ := hI
      have hj : ∃ j, z.1 = j + 1 := ⟨z.1 - 1, by omega⟩
      obtain ⟨j, hj⟩ := hj
      rw [hj, Nat.add_sub_cancel] at h1
      match j, hj, h1 with
      | 0, hj, h1 =>
        have h1 : some xO = some E9 := h1
        cases h1
        refine WX_catch [] (0, 9, 12, 13) [] rfl ⟨by decide, by decide⟩ (by decide) ok_216 cst_O (fun _ h => absurd h List.not_mem_nil) (fun q => ?_)
        refine WP_astore_n dL_depth_12 (by decide) rfl ?_
        refine WP_iconst (1) dL_depth_13 (by decide) ?_
        refine WP_ireturn dL_depth_14 rfl rfl (Nat.le_of_ble_eq_true rfl) (Nat.le_of_ble_eq_true rfl) ?_
        exact ⟨_, rfl, z, hz, by rw [hj]; rfl, _, ⟨L', K', Rc', Ic', AIc', AR', rfl, hg, hI⟩, fun h9 => absurd h9 (by omega)⟩
      | j + 1, hj, h1 => cases h1
theorem wr_subtree (p0 : Int32) (O : Nat) (P : Rz → Prop) (h0 : E 0 ∈ L ∧ K (E 0) = 4) (hO : O ∈ L ∧ K O = 10) (nO : AN O = 1)
    (hk : MT G mX4_subtree [vr (some (E 0)), vi p0] (mkS L K AN R0 Rc Ic AIc AR Im AIm AL) (fun r S' => ∃ z, P z ∧ cR [xO] (cJ E L K AN R0 Im AIm AL) z r S')) :
    MT G mL_subtree [vr (some (E 0)), vi p0, vr (some O)] (mkS L K AN R0 Rc Ic AIc AR Im AIm AL) (rI (fun x S' => ∃ z, P z ∧ x = nI z.1 ∧ ∃ AL', cJ E L K AN R0 Im AIm AL' z.2.2 S' ∧ (z.1 = 0 → AL' O 0 = z.2.1.toInt64))) := by
  refine MT_ofH (by decide) rfl (Nat.le_of_ble_eq_true rfl) ?_
  refine WP_aload_n dL_subtree_0 rfl ?_
  refine WP_iconst (0) dL_subtree_1 (by decide) ?_
  refine WP_aload_n dL_subtree_2 rfl ?_
  refine WP_iload_n dL_subtree_3 rfl ?_
  refine WP_callV mX4_subtree (As := [_]) dL_subtree_4 okc_X4_subtree ok_610 ⟨by decide, by decide⟩ rfl rfl h0 rfl (Nat.le_of_ble_eq_true rfl) (Nat.le_of_ble_eq_true rfl) (Nat.le_of_ble_eq_true rfl) hk (fun v9 S9 hq => ?_) (fun E9 S9 hq => ?_)
  · obtain ⟨z, hz, hI, h | ⟨ex, -, -, h⟩⟩ := hq
    · obtain ⟨z1, h2⟩ := h
      cases h2
      obtain ⟨L', K', Rc', Ic', AIc', AR', rfl, hg, hI⟩ := hI
      have kO : O ∈ L' ∧ K' O = 10 := ⟨(hg O hO.1).1, (hg O hO.1).2.trans hO.2⟩
      refine WP_i2l dL_subtree_7 ?_
      refine ast_10 0 1 dL_subtree_8 rfl kO nO rfl (by decide) (by decide) ?_
      refine WP_goto 15 dL_subtree_9 (by decide) ?_
      refine WP_iconst (0) dL_subtree_15 (by decide) ?_
      refine WP_ireturn dL_subtree_16 rfl rfl (Nat.le_of_ble_eq_true rfl) (Nat.le_of_ble_eq_true rfl) ?_
      exact ⟨_, rfl, z, hz, by rw [z1]; rfl, _, ⟨L', K', Rc', Ic', AIc', AR', rfl, hg, hI⟩, fun _ => by rw [va_up_self, pk_uLs]⟩
    · cases h
  · obtain ⟨z, hz, hI, h | ⟨ex, h1, h2, h⟩⟩ := hq
    · cases h.2
    · cases h
      obtain ⟨L', K', Rc', Ic', AIc', AR', rfl, hg, hI⟩ := hI
      have hj : ∃ j, z.1 = j + 1 := ⟨z.1 - 1, by omega⟩
      obtain ⟨j, hj⟩ := hj
      rw [hj, Nat.add_sub_cancel] at h1
      match j, hj, h1 with
      | 0, hj, h1 =>
        have h1 : some xO = some E9 := h1
        cases h1
        refine WX_catch [] (0, 9, 12, 13) [] rfl ⟨by decide, by decide⟩ (by decide) ok_216 cst_O (fun _ h => absurd h List.not_mem_nil) (fun q => ?_)
        refine WP_astore_n dL_subtree_12 (by decide) rfl ?_
        refine WP_iconst (1) dL_subtree_13 (by decide) ?_
        refine WP_ireturn dL_subtree_14 rfl rfl (Nat.le_of_ble_eq_true rfl) (Nat.le_of_ble_eq_true rfl) ?_
        exact ⟨_, rfl, z, hz, by rw [hj]; rfl, _, ⟨L', K', Rc', Ic', AIc', AR', rfl, hg, hI⟩, fun h9 => absurd h9 (by omega)⟩
      | j + 1, hj, h1 => cases h1
theorem wr_child (p0 p1 : Int32) (O : Nat) (P : Rz → Prop) (h0 : E 0 ∈ L ∧ K (E 0) = 4) (hO : O ∈ L ∧ K O = 10) (nO : AN O = 1)
    (hk : MT G mX4_child [vr (some (E 0)), vi p0, vi p1] (mkS L K AN R0 Rc Ic AIc AR Im AIm AL) (fun r S' => ∃ z, P z ∧ cR [xO] (cJ E L K AN R0 Im AIm AL) z r S')) :
    MT G mL_child [vr (some (E 0)), vi p0, vi p1, vr (some O)] (mkS L K AN R0 Rc Ic AIc AR Im AIm AL) (rI (fun x S' => ∃ z, P z ∧ x = nI z.1 ∧ ∃ AL', cJ E L K AN R0 Im AIm AL' z.2.2 S' ∧ (z.1 = 0 → AL' O 0 = z.2.1.toInt64))) := by
  refine MT_ofH (by decide) rfl (Nat.le_of_ble_eq_true rfl) ?_
  refine WP_aload_n dL_child_0 rfl ?_
  refine WP_iconst (0) dL_child_1 (by decide) ?_
  refine WP_aload_n dL_child_2 rfl ?_
  refine WP_iload_n dL_child_3 rfl ?_
  refine WP_iload_n dL_child_4 rfl ?_
  refine WP_callV mX4_child (As := [_, _]) dL_child_5 okc_X4_child ok_617 ⟨by decide, by decide⟩ rfl rfl h0 rfl (Nat.le_of_ble_eq_true rfl) (Nat.le_of_ble_eq_true rfl) (Nat.le_of_ble_eq_true rfl) hk (fun v9 S9 hq => ?_) (fun E9 S9 hq => ?_)
  · obtain ⟨z, hz, hI, h | ⟨ex, -, -, h⟩⟩ := hq
    · obtain ⟨z1, h2⟩ := h
      cases h2
      obtain ⟨L', K', Rc', Ic', AIc', AR', rfl, hg, hI⟩ := hI
      have kO : O ∈ L' ∧ K' O = 10 := ⟨(hg O hO.1).1, (hg O hO.1).2.trans hO.2⟩
      refine WP_i2l dL_child_8 ?_
      refine ast_10 0 1 dL_child_9 rfl kO nO rfl (by decide) (by decide) ?_
      refine WP_goto 17 dL_child_10 (by decide) ?_
      refine WP_iconst (0) dL_child_17 (by decide) ?_
      refine WP_ireturn dL_child_18 rfl rfl (Nat.le_of_ble_eq_true rfl) (Nat.le_of_ble_eq_true rfl) ?_
      exact ⟨_, rfl, z, hz, by rw [z1]; rfl, _, ⟨L', K', Rc', Ic', AIc', AR', rfl, hg, hI⟩, fun _ => by rw [va_up_self, pk_uLs]⟩
    · cases h
  · obtain ⟨z, hz, hI, h | ⟨ex, h1, h2, h⟩⟩ := hq
    · cases h.2
    · cases h
      obtain ⟨L', K', Rc', Ic', AIc', AR', rfl, hg, hI⟩ := hI
      have hj : ∃ j, z.1 = j + 1 := ⟨z.1 - 1, by omega⟩
      obtain ⟨j, hj⟩ := hj
      rw [hj, Nat.add_sub_cancel] at h1
      match j, hj, h1 with
      | 0, hj, h1 =>
        have h1 : some xO = some E9 := h1
        cases h1
        refine WX_catch [] (0, 10, 13, 13) [] rfl ⟨by decide, by decide⟩ (by decide) ok_216 cst_O (fun _ h => absurd h List.not_mem_nil) (fun q => ?_)
        refine WP_astore dL_child_13 (by decide) rfl ?_
        refine WP_iconst (1) dL_child_15 (by decide) ?_
        refine WP_ireturn dL_child_16 rfl rfl (Nat.le_of_ble_eq_true rfl) (Nat.le_of_ble_eq_true rfl) ?_
        exact ⟨_, rfl, z, hz, by rw [hj]; rfl, _, ⟨L', K', Rc', Ic', AIc', AR', rfl, hg, hI⟩, fun h9 => absurd h9 (by omega)⟩
      | j + 1, hj, h1 => cases h1
theorem wr_whereIs (p0 : Int32) (O : Nat) (P : Rz → Prop) (h0 : E 0 ∈ L ∧ K (E 0) = 4) (hO : O ∈ L ∧ K O = 10) (nO : AN O = 1)
    (hk : MT G mX4_whereIs [vr (some (E 0)), vi p0] (mkS L K AN R0 Rc Ic AIc AR Im AIm AL) (fun r S' => ∃ z, P z ∧ cR [xO] (cJ E L K AN R0 Im AIm AL) z r S')) :
    MT G mL_whereIs [vr (some (E 0)), vi p0, vr (some O)] (mkS L K AN R0 Rc Ic AIc AR Im AIm AL) (rI (fun x S' => ∃ z, P z ∧ x = nI z.1 ∧ ∃ AL', cJ E L K AN R0 Im AIm AL' z.2.2 S' ∧ (z.1 = 0 → AL' O 0 = z.2.1.toInt64))) := by
  refine MT_ofH (by decide) rfl (Nat.le_of_ble_eq_true rfl) ?_
  refine WP_aload_n dL_whereIs_0 rfl ?_
  refine WP_iconst (0) dL_whereIs_1 (by decide) ?_
  refine WP_aload_n dL_whereIs_2 rfl ?_
  refine WP_iload_n dL_whereIs_3 rfl ?_
  refine WP_callV mX4_whereIs (As := [_]) dL_whereIs_4 okc_X4_whereIs ok_624 ⟨by decide, by decide⟩ rfl rfl h0 rfl (Nat.le_of_ble_eq_true rfl) (Nat.le_of_ble_eq_true rfl) (Nat.le_of_ble_eq_true rfl) hk (fun v9 S9 hq => ?_) (fun E9 S9 hq => ?_)
  · obtain ⟨z, hz, hI, h | ⟨ex, -, -, h⟩⟩ := hq
    · obtain ⟨z1, h2⟩ := h
      cases h2
      obtain ⟨L', K', Rc', Ic', AIc', AR', rfl, hg, hI⟩ := hI
      have kO : O ∈ L' ∧ K' O = 10 := ⟨(hg O hO.1).1, (hg O hO.1).2.trans hO.2⟩
      refine WP_i2l dL_whereIs_7 ?_
      refine ast_10 0 1 dL_whereIs_8 rfl kO nO rfl (by decide) (by decide) ?_
      refine WP_goto 15 dL_whereIs_9 (by decide) ?_
      refine WP_iconst (0) dL_whereIs_15 (by decide) ?_
      refine WP_ireturn dL_whereIs_16 rfl rfl (Nat.le_of_ble_eq_true rfl) (Nat.le_of_ble_eq_true rfl) ?_
      exact ⟨_, rfl, z, hz, by rw [z1]; rfl, _, ⟨L', K', Rc', Ic', AIc', AR', rfl, hg, hI⟩, fun _ => by rw [va_up_self, pk_uLs]⟩
    · cases h
  · obtain ⟨z, hz, hI, h | ⟨ex, h1, h2, h⟩⟩ := hq
    · cases h.2
    · cases h
      obtain ⟨L', K', Rc', Ic', AIc', AR', rfl, hg, hI⟩ := hI
      have hj : ∃ j, z.1 = j + 1 := ⟨z.1 - 1, by omega⟩
      obtain ⟨j, hj⟩ := hj
      rw [hj, Nat.add_sub_cancel] at h1
      match j, hj, h1 with
      | 0, hj, h1 =>
        have h1 : some xO = some E9 := h1
        cases h1
        refine WX_catch [] (0, 9, 12, 13) [] rfl ⟨by decide, by decide⟩ (by decide) ok_216 cst_O (fun _ h => absurd h List.not_mem_nil) (fun q => ?_)
        refine WP_astore_n dL_whereIs_12 (by decide) rfl ?_
        refine WP_iconst (1) dL_whereIs_13 (by decide) ?_
        refine WP_ireturn dL_whereIs_14 rfl rfl (Nat.le_of_ble_eq_true rfl) (Nat.le_of_ble_eq_true rfl) ?_
        exact ⟨_, rfl, z, hz, by rw [hj]; rfl, _, ⟨L', K', Rc', Ic', AIc', AR', rfl, hg, hI⟩, fun h9 => absurd h9 (by omega)⟩
      | j + 1, hj, h1 => cases h1
theorem wr_plain (p0 : Int32) (O : Nat) (P : Rz → Prop) (h0 : E 0 ∈ L ∧ K (E 0) = 4) (hO : O ∈ L ∧ K O = 10) (nO : AN O = 1)
    (hk : MT G mX4_plain [vr (some (E 0)), vi p0] (mkS L K AN R0 Rc Ic AIc AR Im AIm AL) (fun r S' => ∃ z, P z ∧ cR [xO] (cJ E L K AN R0 Im AIm AL) z r S')) :
    MT G mL_plain [vr (some (E 0)), vi p0, vr (some O)] (mkS L K AN R0 Rc Ic AIc AR Im AIm AL) (rI (fun x S' => ∃ z, P z ∧ x = nI z.1 ∧ ∃ AL', cJ E L K AN R0 Im AIm AL' z.2.2 S' ∧ (z.1 = 0 → AL' O 0 = z.2.1.toInt64))) := by
  refine MT_ofH (by decide) rfl (Nat.le_of_ble_eq_true rfl) ?_
  refine WP_aload_n dL_plain_0 rfl ?_
  refine WP_iconst (0) dL_plain_1 (by decide) ?_
  refine WP_aload_n dL_plain_2 rfl ?_
  refine WP_iload_n dL_plain_3 rfl ?_
  refine WP_callV mX4_plain (As := [_]) dL_plain_4 okc_X4_plain ok_631 ⟨by decide, by decide⟩ rfl rfl h0 rfl (Nat.le_of_ble_eq_true rfl) (Nat.le_of_ble_eq_true rfl) (Nat.le_of_ble_eq_true rfl) hk (fun v9 S9 hq => ?_) (fun E9 S9 hq => ?_)
  · obtain ⟨z, hz, hI, h | ⟨ex, -, -, h⟩⟩ := hq
    · obtain ⟨z1, h2⟩ := h
      cases h2
      obtain ⟨L', K', Rc', Ic', AIc', AR', rfl, hg, hI⟩ := hI
      have kO : O ∈ L' ∧ K' O = 10 := ⟨(hg O hO.1).1, (hg O hO.1).2.trans hO.2⟩
      refine WP_i2l dL_plain_7 ?_
      refine ast_10 0 1 dL_plain_8 rfl kO nO rfl (by decide) (by decide) ?_
      refine WP_goto 15 dL_plain_9 (by decide) ?_
      refine WP_iconst (0) dL_plain_15 (by decide) ?_
      refine WP_ireturn dL_plain_16 rfl rfl (Nat.le_of_ble_eq_true rfl) (Nat.le_of_ble_eq_true rfl) ?_
      exact ⟨_, rfl, z, hz, by rw [z1]; rfl, _, ⟨L', K', Rc', Ic', AIc', AR', rfl, hg, hI⟩, fun _ => by rw [va_up_self, pk_uLs]⟩
    · cases h
  · obtain ⟨z, hz, hI, h | ⟨ex, h1, h2, h⟩⟩ := hq
    · cases h.2
    · cases h
      obtain ⟨L', K', Rc', Ic', AIc', AR', rfl, hg, hI⟩ := hI
      have hj : ∃ j, z.1 = j + 1 := ⟨z.1 - 1, by omega⟩
      obtain ⟨j, hj⟩ := hj
      rw [hj, Nat.add_sub_cancel] at h1
      match j, hj, h1 with
      | 0, hj, h1 =>
        have h1 : some xO = some E9 := h1
        cases h1
        refine WX_catch [] (0, 9, 12, 13) [] rfl ⟨by decide, by decide⟩ (by decide) ok_216 cst_O (fun _ h => absurd h List.not_mem_nil) (fun q => ?_)
        refine WP_astore_n dL_plain_12 (by decide) rfl ?_
        refine WP_iconst (1) dL_plain_13 (by decide) ?_
        refine WP_ireturn dL_plain_14 rfl rfl (Nat.le_of_ble_eq_true rfl) (Nat.le_of_ble_eq_true rfl) ?_
        exact ⟨_, rfl, z, hz, by rw [hj]; rfl, _, ⟨L', K', Rc', Ic', AIc', AR', rfl, hg, hI⟩, fun h9 => absurd h9 (by omega)⟩
      | j + 1, hj, h1 => cases h1
theorem wr_plainSum (p0 p1 : Int32) (O : Nat) (P : Rz → Prop) (h0 : E 0 ∈ L ∧ K (E 0) = 4) (hO : O ∈ L ∧ K O = 10) (nO : AN O = 1)
    (hk : MT G mX4_plainSum [vr (some (E 0)), vi p0, vi p1] (mkS L K AN R0 Rc Ic AIc AR Im AIm AL) (fun r S' => ∃ z, P z ∧ cR [xO] (cJ E L K AN R0 Im AIm AL) z r S')) :
    MT G mL_plainSum [vr (some (E 0)), vi p0, vi p1, vr (some O)] (mkS L K AN R0 Rc Ic AIc AR Im AIm AL) (rI (fun x S' => ∃ z, P z ∧ x = nI z.1 ∧ ∃ AL', cJ E L K AN R0 Im AIm AL' z.2.2 S' ∧ (z.1 = 0 → AL' O 0 = z.2.1.toInt64))) := by
  refine MT_ofH (by decide) rfl (Nat.le_of_ble_eq_true rfl) ?_
  refine WP_aload_n dL_plainSum_0 rfl ?_
  refine WP_iconst (0) dL_plainSum_1 (by decide) ?_
  refine WP_aload_n dL_plainSum_2 rfl ?_
  refine WP_iload_n dL_plainSum_3 rfl ?_
  refine WP_iload_n dL_plainSum_4 rfl ?_
  refine WP_callV mX4_plainSum (As := [_, _]) dL_plainSum_5 okc_X4_plainSum ok_642 ⟨by decide, by decide⟩ rfl rfl h0 rfl (Nat.le_of_ble_eq_true rfl) (Nat.le_of_ble_eq_true rfl) (Nat.le_of_ble_eq_true rfl) hk (fun v9 S9 hq => ?_) (fun E9 S9 hq => ?_)
  · obtain ⟨z, hz, hI, h | ⟨ex, -, -, h⟩⟩ := hq
    · obtain ⟨z1, h2⟩ := h
      cases h2
      obtain ⟨L', K', Rc', Ic', AIc', AR', rfl, hg, hI⟩ := hI
      have kO : O ∈ L' ∧ K' O = 10 := ⟨(hg O hO.1).1, (hg O hO.1).2.trans hO.2⟩
      refine WP_i2l dL_plainSum_8 ?_
      refine ast_10 0 1 dL_plainSum_9 rfl kO nO rfl (by decide) (by decide) ?_
      refine WP_goto 17 dL_plainSum_10 (by decide) ?_
      refine WP_iconst (0) dL_plainSum_17 (by decide) ?_
      refine WP_ireturn dL_plainSum_18 rfl rfl (Nat.le_of_ble_eq_true rfl) (Nat.le_of_ble_eq_true rfl) ?_
      exact ⟨_, rfl, z, hz, by rw [z1]; rfl, _, ⟨L', K', Rc', Ic', AIc', AR', rfl, hg, hI⟩, fun _ => by rw [va_up_self, pk_uLs]⟩
    · cases h
  · obtain ⟨z, hz, hI, h | ⟨ex, h1, h2, h⟩⟩ := hq
    · cases h.2
    · cases h
      obtain ⟨L', K', Rc', Ic', AIc', AR', rfl, hg, hI⟩ := hI
      have hj : ∃ j, z.1 = j + 1 := ⟨z.1 - 1, by omega⟩
      obtain ⟨j, hj⟩ := hj
      rw [hj, Nat.add_sub_cancel] at h1
      match j, hj, h1 with
      | 0, hj, h1 =>
        have h1 : some xO = some E9 := h1
        cases h1
        refine WX_catch [] (0, 10, 13, 13) [] rfl ⟨by decide, by decide⟩ (by decide) ok_216 cst_O (fun _ h => absurd h List.not_mem_nil) (fun q => ?_)
        refine WP_astore dL_plainSum_13 (by decide) rfl ?_
        refine WP_iconst (1) dL_plainSum_15 (by decide) ?_
        refine WP_ireturn dL_plainSum_16 rfl rfl (Nat.le_of_ble_eq_true rfl) (Nat.le_of_ble_eq_true rfl) ?_
        exact ⟨_, rfl, z, hz, by rw [hj]; rfl, _, ⟨L', K', Rc', Ic', AIc', AR', rfl, hg, hI⟩, fun h9 => absurd h9 (by omega)⟩
      | j + 1, hj, h1 => cases h1
end LWR
