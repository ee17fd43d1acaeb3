/-! ===== SplaySequence: what each call does (5): insert ===== -/
section CIV
variable {G : GC} {M : MD} {Q : RS → SS → Prop} {k n pc : Nat} {lv : List (Nat × VV)} {st rest : List VV} {S : SS}
theorem callIv (Z : MD) {na idx a : Nat} (As : List VV) {p : SS → Prop} (dg : decode M.2.1 pc = .ok (.invokespecial idx, 3)) (hz : okw (mw Z) ∧ okw (.instanceMethod Z.1) ∧ okw (.initialized Z.1.cls)) (htb : Z.2.2.2.2.1 = []) (hret : Z.2.2.2.1 = none) (hnm : Z.1.name = "<init>") (hd : (Z.1.cls ≠ "java/lang/invoke/MethodHandle" ∧ Z.1.cls ≠ "java/lang/invoke/VarHandle") ∧ (parseMethodDescriptor Z.1.desc).map (fun d => d.parameters.length) = some na) (hl9 : okw (.methodLink M.1.cls idx Z.1)) (hR : okR M Z)
    (hst : st = As.reverse ++ vr (some a) :: rest) (hn : As.length = na) (hrest : argsSz rest ≤ 8) (hc : k + Z.2.2.2.2.2.2.1 ≤ M.2.2.2.2.2.2.1) (hsl : n + Z.2.2.2.2.2.2.2 ≤ M.2.2.2.2.2.2.2)
    (hM : MT G Z (vr (some a) :: As) S (rV p))
    (kret : ∀ (S' : SS), p S' → WP G M Q (k + Z.2.2.2.2.2.2.1) (n + Z.2.2.2.2.2.2.2) (pc + 3) lv rest S') : WP G M Q k n pc lv st S :=
  WP_callI Z dg hz htb hret hnm hd hl9 hR hst hn hrest hc hsl hM rV_no (fun v S' h => by
    obtain ⟨e, h⟩ := h
    cases e
    exact kret S' h)
theorem callINv (Z : MD) {na idx a : Nat} {host : String} (As : List VV) {p : SS → Prop} (dg : decode M.2.1 pc = .ok (.invokespecial idx, 3)) (hz : okw (mw Z) ∧ okw (.instanceMethod Z.1) ∧ okw (.initialized Z.1.cls)) (htb : Z.2.2.2.2.1 = []) (hret : Z.2.2.2.1 = none) (hnm : Z.1.name = "<init>") (hd : (Z.1.cls ≠ "java/lang/invoke/MethodHandle" ∧ Z.1.cls ≠ "java/lang/invoke/VarHandle") ∧ (parseMethodDescriptor Z.1.desc).map (fun d => d.parameters.length) = some na) (hl9 : Cond.methodLinkNest M.1.cls idx Z.1 host ∈ lw_tbl) (hR : okR M Z)
    (hst : st = As.reverse ++ vr (some a) :: rest) (hn : As.length = na) (hrest : argsSz rest ≤ 8) (hc : k + Z.2.2.2.2.2.2.1 ≤ M.2.2.2.2.2.2.1) (hsl : n + Z.2.2.2.2.2.2.2 ≤ M.2.2.2.2.2.2.2)
    (hM : MT G Z (vr (some a) :: As) S (rV p))
    (kret : ∀ (S' : SS), p S' → WP G M Q (k + Z.2.2.2.2.2.2.1) (n + Z.2.2.2.2.2.2.2) (pc + 3) lv rest S') : WP G M Q k n pc lv st S :=
  WP_callIN Z dg hz htb hret hnm hd hl9 hR hst hn hrest hc hsl hM rV_no (fun v S' h => by
    obtain ⟨e, h⟩ := h
    cases e
    exact kret S' h)
end CIV
section CL5
variable {G : GC} {L : List Nat} {K AN : Nat → Nat} {R0 Rc : Nat → Nat → Option Nat} {Ic AIc Im AIm : Nat → Nat → Int32} {AR : Nat → Nat → Option Nat} {AL : Nat → Nat → Int64} {E : Nat → Nat} {t c : Tr} {fg : Nat → Option (Nat × Nat)} {n : Cn}
theorem fresh_ex (L : List Nat) : ∃ q, q ∉ L := by
  have h : ∀ l : List Nat, ∃ m, ∀ x ∈ l, x < m := by
    intro l
    induction l with
    | nil => exact ⟨0, fun x h => by cases h⟩
    | cons a l ih =>
      obtain ⟨m, hm⟩ := ih
      refine ⟨max m (a + 1), fun x hx => ?_⟩
      rcases List.mem_cons.mp hx with e | hx
      · omega
      · have := hm x hx
        omega
  obtain ⟨m, hm⟩ := h L
  exact ⟨m, fun h => Nat.lt_irrefl _ (hm m h)⟩
theorem cT_L (h : cT L K Rc Ic t) : ∀ b ∈ kl kA t, b ∈ L := by
  intro b hb
  obtain ⟨x, h1, h2⟩ := List.mem_map.mp hb
  subst h2
  obtain ⟨s, h3⟩ := gN_mem (a := x.1) (i := x.2.1) (v := x.2.2) t h.2 h1
  exact h3.1.1
theorem grow_K {q b kd : Nat} (hq : q ∉ L) (h : b ∈ L ∧ K b = kd) (k0 : Nat) : b ∈ L ++ [q] ∧ va_up K q k0 b = kd :=
  ⟨List.mem_append_left _ h.1, by rw [va_up_ne _ _ (show b ≠ q from fun e => hq (e ▸ h.1))]; exact h.2⟩
theorem cT_grow {Rc' : Nat → Nat → Option Nat} {Ic' : Nat → Nat → Int32} {q : Nat} (hq : q ∉ L) (hf : ∀ b, b ≠ q → (Rc' 0 b = Rc 0 b ∧ Rc' 1 b = Rc 1 b ∧ Rc' 2 b = Rc 2 b) ∧ Ic' 0 b = Ic 0 b ∧ Ic' 1 b = Ic 1 b) (h : cT L K Rc Ic t) : cT (L ++ [q]) (va_up K q 0) Rc' Ic' t := by
  have hne : ∀ b ∈ kl kA t, b ≠ q := fun b hb e => hq (e ▸ cT_L h b hb)
  have h2 := cT_frame (fun b hb => hf b (hne b hb)) h
  exact ⟨h2.1, gN_congr t (fun a i v s hm hp => ⟨grow_K hq hp.1 0, hp.2⟩) h2.2⟩
theorem cF_new {Rc' : Nat → Nat → Option Nat} {Ic' : Nat → Nat → Int32} {q i : Nat} {v : Int32} {F : List Tr} (hq : q ∉ L) (hf : ∀ b, b ≠ q → (Rc' 0 b = Rc 0 b ∧ Rc' 1 b = Rc 1 b ∧ Rc' 2 b = Rc 2 b) ∧ Ic' 0 b = Ic 0 b ∧ Ic' 1 b = Ic 1 b)
    (h0 : Rc' 0 q = none) (h1 : Rc' 1 q = none) (h2 : Rc' 2 q = none) (h3 : Ic' 0 q = 1) (h4 : Ic' 1 q = v) (h : cF L K Rc Ic F) : cF (L ++ [q]) (va_up K q 0) Rc' Ic' (nd q i v .leaf .leaf :: F) := by
  refine ⟨fun u hu => ?_, ?_⟩
  · rcases List.mem_cons.mp hu with e | hu
    · rw [e]
      exact ⟨⟨h0, h1, h2, trivial, trivial⟩, ⟨⟨by simp, va_up_self _ _ _⟩, h3, h4⟩, trivial, trivial⟩
    · exact cT_grow hq hf (h.1 u hu)
  · show (q :: F.flatMap (kl kA)).Nodup
    refine List.nodup_cons.mpr ⟨fun hm => ?_, h.2⟩
    obtain ⟨u, hu, hb⟩ := List.mem_flatMap.mp hm
    exact hq (cT_L (h.1 u hu) q hb)
theorem cK_grow {q : Nat} (hq : q ∉ L) (hK : cK E L K AN R0) : cK E (L ++ [q]) (va_up K q 0) AN R0 := by
  obtain ⟨a0, a1, ⟨a2, a3, a4, a5⟩, a6, ⟨a7, a8⟩, ⟨b1, b2, b3, b4⟩, ⟨b5, b6, b7, b8⟩, b9⟩ := hK
  exact ⟨grow_K hq a0 0, a1, ⟨grow_K hq a2 0, grow_K hq a3 0, grow_K hq a4 0, grow_K hq a5 0⟩, grow_K hq a6 0, ⟨grow_K hq a7 0, a8⟩, ⟨grow_K hq b1 0, grow_K hq b2 0, b3, b4⟩, ⟨grow_K hq b5 0, grow_K hq b6 0, b7, b8⟩, b9⟩
theorem k_insert (i : Nat) (x v : Int32) (hI : cI E L K AN R0 Rc Ic AIc AR (t, c, fg, n)) :
    MT G mX4_insert [vr (some (E 0)), vi x, vi v] (mkS L K AN R0 Rc Ic AIc AR Im AIm AL) (fun r S' => ∃ q, q ∉ L ∧ cR [xO, xA, xS] (cJ E L K AN R0 Im AIm AL) (aIns (q, i) (t, c, fg, n) x v) r S') := by
  have hI9 := hI
  obtain ⟨hK, hW, ⟨hl1, hl2⟩, hv1, hv2, hfg, hA1, hA2⟩ := hI9
  have hW : cW E L K Rc Ic (t, c, .leaf, .leaf) n := hW
  have hl1 : Ic 2 (E 7) = nI (tsz t) := hl1
  have hl2 : Ic 2 (E 8) = nI (tsz c) := hl2
  have hv1 : rowV (AIc (E 9)) (vls t) := hv1
  have hv2 : rowV (AIc (E 10)) (vls c) := hv2
  have hfg : ∀ k, k < 4 → AR (E 6) k = (fg k).map (·.1) := hfg
  have hs : tsz t + tsz c ≤ 60 := hA1
  have hA2 : ∀ k p, k < 4 → fg k = some p → p ∈ ids t ∨ p ∈ ids c := hA2
  have h0 := hK.1
  obtain ⟨k1, k2, k3, k4⟩ := hK.2.2.1
  have k5 := hK.2.2.2.1
  obtain ⟨k6, n6⟩ := hK.2.2.2.2.1
  have k7 := hK.2.2.2.2.2.1
  have k8 := hK.2.2.2.2.2.2.1
  obtain ⟨d78, d910⟩ := hK.2.2.2.2.2.2.2.1
  obtain ⟨e1, e2, e3, e4, e5, e6, e7, e8⟩ := hK.2.1
  obtain ⟨d12, d13, d14, d23, d24, d34⟩ := hK.2.2.2.2.2.2.2.2
  obtain ⟨q0, hq0⟩ : ∃ q, q ∉ L := fresh_ex L
  refine MT_of (by decide) rfl (Nat.le_of_ble_eq_true rfl) ?_
  refine WP_aload_n dX4_insert_0 rfl ?_
  refine WP_iload_n dX4_insert_1 rfl ?_
  refine callVtv mX4_checkGap [_] dX4_insert_2 okc_X4_checkGap ok_451 ⟨by decide, by decide⟩ rfl rfl h0 rfl (Nat.le_of_ble_eq_true rfl) (Nat.le_of_ble_eq_true rfl) (Nat.le_of_ble_eq_true rfl) (c_checkGap x hK hW (by omega)) rfl (fun E9 S9 ht => ?_) (fun S1 h1 => ?_)
  · obtain ⟨⟨rfl, hx⟩, rfl⟩ := ht
    refine ⟨q0, hq0, ?_⟩
    unfold aIns
    rw [if_neg hx]
    exact cR_thr rfl hI
  · obtain ⟨hr, rfl⟩ := h1
    refine WP_iload_n dX4_insert_5 rfl ?_
    refine callSuv mX4_checkAmount [_] dX4_insert_6 okc_X4_checkAmount ok_300 ⟨by decide, by decide⟩ rfl rfl (Nat.le_of_ble_eq_true rfl) (Nat.le_of_ble_eq_true rfl) (Nat.le_of_ble_eq_true rfl) (c_checkAmount v) rfl rfl (fun E9 S9 ht => ?_) (fun S1 h1 => ?_)
    · obtain ⟨⟨rfl, hx⟩, rfl⟩ := ht
      refine ⟨q0, hq0, ?_⟩
      unfold aIns
      rw [if_pos hr, if_neg hx]
      exact cR_thr rfl hI
    · obtain ⟨hw, rfl⟩ := h1
      refine WP_aload_n dX4_insert_9 rfl ?_
      refine gf_RX4_10 dX4_insert_10 rfl rfl h0 ?_
      rw [e1]
      refine callVi mX3_count [] dX4_insert_13 okc_X3_count ok_134 ⟨by decide, by decide⟩ rfl rfl k1 rfl (Nat.le_of_ble_eq_true rfl) (Nat.le_of_ble_eq_true rfl) (Nat.le_of_ble_eq_true rfl) (c_count (E 1) t k1 hW.2.1.1 (cW_T hW).1) (fun x1 S1 h1 => ?_)
      obtain ⟨rfl, rfl⟩ := h1
      refine WP_aload_n dX4_insert_16 rfl ?_
      refine gf_RX4_16 dX4_insert_17 rfl rfl h0 ?_
      rw [e2]
      refine callVi mX3_count [] dX4_insert_20 okc_X3_count ok_134 ⟨by decide, by decide⟩ rfl rfl k2 rfl (Nat.le_of_ble_eq_true rfl) (Nat.le_of_ble_eq_true rfl) (Nat.le_of_ble_eq_true rfl) (c_count (E 2) c k2 hW.2.1.2.1 (cW_T hW).2.1) (fun x1 S1 h1 => ?_)
      obtain ⟨rfl, rfl⟩ := h1
      refine WP_iadd dX4_insert_23 ?_
      refine WP_bipush (60) dX4_insert_24 (by decide) ?_
      rw [nI_add]
      refine WP_icmp_lt 39 dX4_insert_26 (by decide) (fun hb => ?_) (fun hb => ?_)
      · have hlt : tsz t + tsz c < 60 := (nI_ltI (by omega) (by decide)).mp (show nI (tsz t + tsz c) < nI 60 from hb)
        obtain ⟨k, hk, rfl⟩ := inP_of hr (by omega)
        refine WP_aload_n dX4_insert_39 rfl ?_
        refine gf_RX4_28 dX4_insert_40 rfl rfl h0 ?_
        rw [e5]
        refine callVv mX2_beginCall [] dX4_insert_43 okc_X2_beginCall ok_225 ⟨by decide, by decide⟩ rfl rfl k5 rfl (Nat.le_of_ble_eq_true rfl) (Nat.le_of_ble_eq_true rfl) (Nat.le_of_ble_eq_true rfl) (w_begin hK hW) (fun S1 h1 => ?_)
        obtain ⟨R1, I1, rfl, W1, i1⟩ := h1
        refine WP_aload_n dX4_insert_46 rfl ?_
        refine gf_RX4_28 dX4_insert_47 rfl rfl h0 ?_
        refine WP_aload_n dX4_insert_50 rfl ?_
        refine gf_RX4_10 dX4_insert_51 rfl rfl h0 ?_
        refine WP_iload_n dX4_insert_54 rfl ?_
        refine WP_aload_n dX4_insert_55 rfl ?_
        refine gf_RX4_22 dX4_insert_56 rfl rfl h0 ?_
        rw [e5, e1, e4]
        refine callVv mX2_split [_, _, _] dX4_insert_59 okc_X2_split ok_342 ⟨by decide, by decide⟩ rfl rfl k5 rfl (Nat.le_of_ble_eq_true rfl) (Nat.le_of_ble_eq_true rfl) (Nat.le_of_ble_eq_true rfl) (w_split4 hK W1 (by omega) (by omega)) (fun S1 h1 => ?_)
        obtain ⟨R2, I2, rfl, W2, i2⟩ := h1
        refine new_0 dX4_insert_62 ok_67 (Nat.le_of_ble_eq_true rfl) (Nat.le_of_ble_eq_true rfl) (fun q hq => ?_)
        have hK' := cK_grow hq hK
        have kq : q ∈ L ++ [q] ∧ va_up K q 0 q = 0 := ⟨by simp, va_up_self _ _ _⟩
        refine WP_dup dX4_insert_65 rfl ?_
        refine WP_iload_n dX4_insert_66 rfl ?_
        refine callIv (na := 1) mX0_init [_] dX4_insert_67 okc_X0_init rfl rfl rfl ⟨⟨by decide, by decide⟩, by decide +kernel⟩ ok_508 ⟨by decide, by decide⟩ rfl rfl (Nat.le_of_ble_eq_true rfl) (Nat.le_of_ble_eq_true rfl) (Nat.le_of_ble_eq_true rfl) (c_NodeInit q v kq) (fun S1 h1 => ?_)
        subst h1
        have F3 : cF (L ++ [q]) (va_up K q 0) (u2 (u2 (u2 R2 0 q none) 1 q none) 2 q none) (u2 (u2 (u2 (u2 I2 0 q 0) 1 q 0) 0 q 1) 1 q v) (nd q i v .leaf .leaf :: [(splT t k).1, c, .leaf, (splT t k).2]) :=
          cF_new hq (fun b hb => by simp [u2, hb]) (by simp [u2]) (by simp [u2]) (by simp [u2]) (by simp [u2]) (by simp [u2]) W2.1
        have r3 : (u2 (u2 (u2 R2 0 q none) 1 q none) 2 q none) 3 = R2 3 := by rw [u2_o _ _ _ (by decide), u2_o _ _ _ (by decide), u2_o _ _ _ (by decide)]
        have z1 : (u2 (u2 (u2 R2 0 q none) 1 q none) 2 q none) 1 q = none := by simp [u2]
        have i3 : ∀ j, 2 ≤ j → (u2 (u2 (u2 (u2 I2 0 q 0) 1 q 0) 0 q 1) 1 q v) j = I2 j := fun j hj => by rw [u2_o _ _ _ (by omega), u2_o _ _ _ (by omega), u2_o _ _ _ (by omega), u2_o _ _ _ (by omega)]
        generalize u2 (u2 (u2 R2 0 q none) 1 q none) 2 q none = R3 at F3 r3 z1 ⊢
        generalize u2 (u2 (u2 (u2 I2 0 q 0) 1 q 0) 0 q 1) 1 q v = I3 at F3 i3 ⊢
        have h0 := hK'.1
        obtain ⟨k1, k2, k3, k4⟩ := hK'.2.2.1
        have k7 := hK'.2.2.2.2.2.1
        refine WP_astore_n dX4_insert_70 (by decide) rfl ?_
        refine WP_aload_n dX4_insert_71 rfl ?_
        refine WP_aload_n dX4_insert_72 rfl ?_
        refine gf_RX4_10 dX4_insert_73 rfl rfl h0 ?_
        rw [e1]
        refine callVr mX3_takeAll [] dX4_insert_76 okc_X3_takeAll ok_439 ⟨by decide, by decide⟩ rfl rfl k1 rfl (Nat.le_of_ble_eq_true rfl) (Nat.le_of_ble_eq_true rfl) (Nat.le_of_ble_eq_true rfl) (c_takeAll (E 1) k1) (fun o1 S1 h1 => ?_)
        obtain ⟨rfl, rfl⟩ := h1
        rw [show R3 3 (E 1) = rk kA (splT t k).1 from by rw [r3]; exact W2.2.1.1]
        have g1 := (F3.1 (splT t k).1 (by simp)).2
        have g2 := (F3.1 (splT t k).2 (by simp)).2
        have z2 : (u2 R3 3 (E 1) none) 1 q = none := by rw [u2_o _ _ _ (by decide), z1]
        refine callVv mX0_takeLeft [_] dX4_insert_79 okc_X0_takeLeft ok_539 ⟨by decide, by decide⟩ rfl rfl kq rfl (Nat.le_of_ble_eq_true rfl) (Nat.le_of_ble_eq_true rfl) (Nat.le_of_ble_eq_true rfl) (c_takeLeft q (rk kA (splT t k).1) kq (rk_K g1) (fun b hb => by cases (z2.symm.trans hb))) (fun S1 h1 => ?_)
        subst h1
        rw [z2, cnt_rk (par := none) g1]
        have F4 : cF (L ++ [q]) (va_up K q 0) (tkR 0 (u2 R3 3 (E 1) none) q (rk kA (splT t k).1)) (u2 I3 0 q (1 + nI (tsz (splT t k).1) + cntO (I3 0) none)) (nd q i v (splT t k).1 .leaf :: [c, .leaf, (splT t k).2]) := by
          refine attL F3 ?_ ?_ ?_ ?_ ?_
          · rw [tkR_s _ (by decide), u2_o _ _ _ (by decide)]
          · rw [tkR_o _ _ (by decide) (by decide), u2_o _ _ _ (by decide)]
          · rw [tkR_p _ (by decide), u2_o _ _ _ (by decide)]
          · rw [u2_s]
            show va_up (I3 0) q (1 + nI (tsz (splT t k).1) + nI 0) = _
            rw [n3]
            rfl
          · rw [u2_o _ _ _ (by decide)]
        have hc4 := F4.1 _ List.mem_cons_self
        have y0 := (cz (fs := []) hc4).2.1
        have g4 := (F4.1 (splT t k).2 (by simp)).2
        have gl := hc4.2.2.1
        have x4 : (tkR 0 (u2 R3 3 (E 1) none) q (rk kA (splT t k).1)) 3 = va_up (R2 3) (E 1) none := by rw [tkR_o _ _ (by decide) (by decide), u2_s, r3]
        have i4 : ∀ j, 2 ≤ j → (u2 I3 0 q (1 + nI (tsz (splT t k).1) + cntO (I3 0) none)) j = I2 j := fun j hj => by rw [u2_o _ _ _ (by omega), i3 j hj]
        generalize tkR 0 (u2 R3 3 (E 1) none) q (rk kA (splT t k).1) = R4 at F4 x4 y0 ⊢
        generalize u2 I3 0 q (1 + nI (tsz (splT t k).1) + cntO (I3 0) none) = I4 at F4 i4 g4 gl ⊢
        refine WP_aload_n dX4_insert_82 rfl ?_
        refine WP_aload_n dX4_insert_83 rfl ?_
        refine gf_RX4_22 dX4_insert_84 rfl rfl h0 ?_
        rw [e4]
        refine callVr mX3_takeAll [] dX4_insert_87 okc_X3_takeAll ok_439 ⟨by decide, by decide⟩ rfl rfl k4 rfl (Nat.le_of_ble_eq_true rfl) (Nat.le_of_ble_eq_true rfl) (Nat.le_of_ble_eq_true rfl) (c_takeAll (E 4) k4) (fun o1 S1 h1 => ?_)
        obtain ⟨rfl, rfl⟩ := h1
        rw [show R4 3 (E 4) = rk kA (splT t k).2 from by rw [x4, va_up_ne _ _ (Ne.symm d14)]; exact W2.2.1.2.2.2]
        have y1 : (u2 R4 3 (E 4) none) 0 q = rk kA (splT t k).1 := by rw [u2_o _ _ _ (by decide)]; exact y0
        refine callVv mX0_takeRight [_] dX4_insert_90 okc_X0_takeRight ok_540 ⟨by decide, by decide⟩ rfl rfl kq rfl (Nat.le_of_ble_eq_true rfl) (Nat.le_of_ble_eq_true rfl) (Nat.le_of_ble_eq_true rfl) (c_takeRight q (rk kA (splT t k).2) kq (rk_K g4) (fun b hb => rk_K gl b (y1.symm.trans hb))) (fun S1 h1 => ?_)
        subst h1
        rw [y1, cnt_rk (par := none) gl, cnt_rk (par := none) g4, n3]
        have F5 : cF (L ++ [q]) (va_up K q 0) (tkR 1 (u2 R4 3 (E 4) none) q (rk kA (splT t k).2)) (u2 I4 0 q (nI (tsz (splT t k).1 + 1 + tsz (splT t k).2))) (nd q i v (splT t k).1 (splT t k).2 :: [c, .leaf]) := by
          refine attR (cF_perm (show List.Perm (nd q i v (splT t k).1 .leaf :: [c, lf0, (splT t k).2]) (nd q i v (splT t k).1 .leaf :: [(splT t k).2, c, lf0]) from List.Perm.cons _ (List.perm_append_comm (l₁ := [c, lf0]) (l₂ := [(splT t k).2]))) F4) ?_ ?_ ?_ ?_ ?_
          · rw [tkR_s _ (by decide), u2_o _ _ _ (by decide)]
          · rw [tkR_o _ _ (by decide) (by decide), u2_o _ _ _ (by decide)]
          · rw [tkR_p _ (by decide), u2_o _ _ _ (by decide)]
          · exact u2_s _ _ _ _
          · rw [u2_o _ _ _ (by decide)]
        have x5 : (tkR 1 (u2 R4 3 (E 4) none) q (rk kA (splT t k).2)) 3 = va_up (va_up (R2 3) (E 1) none) (E 4) none := by rw [tkR_o _ _ (by decide) (by decide), u2_s, x4]
        have i5 : ∀ j, 2 ≤ j → (u2 I4 0 q (nI (tsz (splT t k).1 + 1 + tsz (splT t k).2))) j = I2 j := fun j hj => by rw [u2_o _ _ _ (by omega), i4 j hj]
        generalize tkR 1 (u2 R4 3 (E 4) none) q (rk kA (splT t k).2) = R5 at F5 x5 ⊢
        generalize u2 I4 0 q (nI (tsz (splT t k).1 + 1 + tsz (splT t k).2)) = I5 at F5 i5 ⊢
        refine WP_aload_n dX4_insert_93 rfl ?_
        refine gf_RX4_10 dX4_insert_94 rfl rfl h0 ?_
        refine WP_aload_n dX4_insert_97 rfl ?_
        refine pf_RX4_86 dX4_insert_98 rfl e1 k1 ?_
        refine WP_aload_n dX4_insert_101 rfl ?_
        refine gf_RX4_41 dX4_insert_102 rfl rfl h0 ?_
        refine WP_iload_n dX4_insert_105 rfl ?_
        refine WP_iload_n dX4_insert_106 rfl ?_
        rw [e7]
        have i9 : I5 2 = Ic 2 := by rw [i5 2 (by decide), i2, i1]
        refine callVv mX1_open [_, _] dX4_insert_107 okc_X1_open ok_541 ⟨by decide, by decide⟩ rfl rfl k7.1 rfl (Nat.le_of_ble_eq_true rfl) (Nat.le_of_ble_eq_true rfl) (Nat.le_of_ble_eq_true rfl) (c_open (E 7) (E 9) k (tsz t) v k7 (by rw [i9, hl1]) (by omega) (by omega)) (fun S1 h1 => ?_)
        subst h1
        have s1 := tsz_spl1 t k
        have s2 := tsz_spl2 t k
        have hN : tsz (nd q i v (splT t k).1 (splT t k).2) = tsz t + 1 := by
          show tsz (splT t k).1 + 1 + tsz (splT t k).2 = _
          omega
        have W6 : cW E (L ++ [q]) (va_up K q 0) (u2 R5 3 (E 1) (some q)) (u2 I5 2 (E 7) (nI (tsz t + 1))) (nd q i v (splT t k).1 (splT t k).2, c, .leaf, .leaf) (addC (begC n) (splC t k)) := by
          refine ⟨cF_perm (List.perm_append_comm (l₁ := [lf0]) (l₂ := [nd q i v (splT t k).1 (splT t k).2, c, lf0])) (cF_leaf (cF_same F5 (u2_o _ _ _ (by decide)) (u2_o _ _ _ (by decide)) (u2_o _ _ _ (by decide)) (u2_o _ _ _ (by decide)) (u2_o _ _ _ (by decide)))), ⟨u2_eq _ _ _ _, ?_, ?_, ?_⟩, ?_⟩
          · rw [u2_na _ _ _ _ (Ne.symm d12), x5, va_up_ne _ _ d24, va_up_ne _ _ (Ne.symm d12)]
            exact W2.2.1.2.1
          · rw [u2_na _ _ _ _ (Ne.symm d13), x5, va_up_ne _ _ d34, va_up_ne _ _ (Ne.symm d13)]
            exact W2.2.1.2.2.1
          · rw [u2_na _ _ _ _ (Ne.symm d14), x5, va_up_self]
            rfl
          · rw [← W2.2.2]
            simp [cnO, u2, i5]
        refine WP_aload_n dX4_insert_110 rfl ?_
        refine gf_RX4_10 dX4_insert_111 rfl rfl h0 ?_
        rw [e1]
        refine callVi mX3_count [] dX4_insert_114 okc_X3_count ok_134 ⟨by decide, by decide⟩ rfl rfl k1 rfl (Nat.le_of_ble_eq_true rfl) (Nat.le_of_ble_eq_true rfl) (Nat.le_of_ble_eq_true rfl) (c_count (E 1) (nd q i v (splT t k).1 (splT t k).2) k1 W6.2.1.1 (cW_T W6).1) (fun x1 S1 h1 => ?_)
        obtain ⟨rfl, rfl⟩ := h1
        refine WP_ireturn dX4_insert_117 rfl rfl (Nat.le_of_ble_eq_true rfl) (Nat.le_of_ble_eq_true rfl) ?_
        have ez : aIns (q, i) (t, c, fg, n) (nI k) v = (0, nI (tsz t + 1), (nd q i v (splT t k).1 (splT t k).2, c, fg, addC (begC n) (splC t k))) := by
          unfold aIns
          rw [if_pos hr, if_pos hw, if_pos hlt, pI_n (by omega)]
        refine ⟨q, hq, ?_⟩
        rw [ez, hN]
        have et : vls t = vls (splT t k).1 ++ vls (splT t k).2 := by
          unfold vls
          rw [(splT_io t k).1, (splT_io t k).2, ← List.map_append, List.take_append_drop]
        have ed : ids t = ids (splT t k).1 ++ ids (splT t k).2 := by
          unfold ids
          rw [(splT_io t k).1, (splT_io t k).2, ← List.map_append, List.take_append_drop]
        refine ⟨⟨_, _, _, _, _, _, rfl, fun b hb => ⟨List.mem_append_left _ hb, va_up_ne _ _ (show b ≠ q from fun e => hq (e ▸ hb))⟩, hK', W6, ⟨?_, ?_⟩, ?_, ?_, hfg, ?_, fun j p h1 h2 => ?_⟩, Or.inl ⟨rfl, rfl⟩⟩
        · rw [u2_eq]
          exact congrArg nI hN.symm
        · rw [u2_na _ _ _ _ (Ne.symm d78), i9, hl2]
        · rw [va_up_self]
          have e9 : vls (nd q i v (splT t k).1 (splT t k).2) = vls (splT t k).1 ++ v :: vls (splT t k).2 := by simp [vls, io]
          show rowV _ (vls (nd q i v (splT t k).1 (splT t k).2))
          rw [e9]
          have hv1 := hv1
          rw [et] at hv1
          have := rowV_ins (v := v) (n := tsz t) hv1 (by rw [vls_len, vls_len]; omega)
          rw [vls_len, show tsz (splT t k).1 = k by omega] at this
          exact this
        · rw [va_up_ne _ _ (Ne.symm d910)]
          exact hv2
        · show tsz (nd q i v _ _) + tsz c ≤ 60
          rw [hN]
          omega
        · have h3 := hA2 j p h1 h2
          show p ∈ ids (nd q i v (splT t k).1 (splT t k).2) ∨ p ∈ ids c
          have e9 : ids (nd q i v (splT t k).1 (splT t k).2) = ids (splT t k).1 ++ (q, i) :: ids (splT t k).2 := by simp [ids, io]
          rw [e9]
          rw [ed] at h3
          simp only [List.mem_append, List.mem_cons] at h3 ⊢
          rcases h3 with (h3 | h3) | h3
          · exact Or.inl (Or.inl h3)
          · exact Or.inl (Or.inr (Or.inr h3))
          · exact Or.inr h3
      · have hlt : ¬ tsz t + tsz c < 60 := fun h => hb (nI_lt h (by decide))
        refine WP_throw "java/lang/IllegalStateException" "the sequence and the clipboard are full" 59 61 63 rfl rfl (by decide +kernel) ok_423 ok_23 sr_61 sx_61 tw_S to_S cst_S dX4_insert_29 dX4_insert_32 dX4_insert_33 dX4_insert_35 dX4_insert_38 (by decide) (Nat.le_of_ble_eq_true rfl) (Nat.le_of_ble_eq_true rfl) (Nat.le_of_ble_eq_true rfl) ?_
        refine ⟨q0, hq0, ?_⟩
        unfold aIns
        rw [if_pos hr, if_pos hw, if_neg hlt]
        exact cR_thr rfl hI
end CL5
