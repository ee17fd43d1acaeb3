/-! ===== SplaySequence$Splayer: splay ===== -/
section SPY
variable {G : GC} {L : List Nat} {K AN : Nat → Nat} {R0 Rc : Nat → Nat → Option Nat} {Ic AIc Im AIm : Nat → Nat → Int32} {AR : Nat → Nat → Option Nat} {AL : Nat → Nat → Int64}
theorem splay_nil {Q : RS → SS → Prop} {P T a i : Nat} {v : Int32} {l r : Tr} {F : List Tr} {k : Nat} (h : cF L K Rc Ic (nd a i v l r :: F))
    (kk : ∀ lv, lkp lv 1 = some (vr (some T)) → lkp lv 2 = some (vr (some a)) → WP G mX2_splay Q 0 0 104 lv [] (mkS L K AN R0 Rc Ic AIc AR Im AIm AL)) :
    WP G mX2_splay Q 0 0 12 [(0, vr (some P)), (1, vr (some T)), (2, vr (some a)), (3, vi (nI k))] [] (mkS L K AN R0 Rc Ic AIc AR Im AIm AL) := by
  obtain ⟨hka, hz0, hz1, hz2, -, -⟩ := cz (fs := []) (h.1 _ List.mem_cons_self)
  have hz2 : Rc 2 a = none := hz2
  refine WP_iload_n dX2_splay_12 rfl ?_
  refine WP_bipush (60) dX2_splay_13 (by decide) ?_
  refine WP_icmp_ge 104 dX2_splay_15 (by decide) (fun hb => ?_) (fun hb => ?_)
  · exact kk _ rfl rfl
  · refine WP_aload_n dX2_splay_18 rfl ?_
    refine gf_RX2_21 dX2_splay_19 rfl rfl hka ?_
    rw [hz2]
    refine WP_ifnull 104 dX2_splay_22 (by decide) (fun h1 => ?_) (fun p9 h1 => ?_)
    · exact kk _ rfl rfl
    · cases h1
theorem nI60 {k : Nat} (h : k < 60) : ¬ (60 : Int32) ≤ nI k := by
  rw [show (60 : Int32) = nI 60 from rfl]
  exact nI_ge h (by decide)
theorem splay_loop {Q : RS → SS → Prop} (P T a i : Nat) (v : Int32) : ∀ (n : Nat) (fs : List Fr), fs.length ≤ n → ∀ (l r : Tr) (F : List Tr) (R : Nat → Nat → Option Nat) (I : Nat → Nat → Int32) (k : Nat), k + (fs.length + 1) / 2 ≤ 60 → isK (mkS L K AN R0 R I AIc AR Im AIm AL) 2 P → cF L K R I (plug fs (nd a i v l r) :: F) →
    (∀ lv R' I', lkp lv 1 = some (vr (some T)) → lkp lv 2 = some (vr (some a)) → cF L K R' I' (spl fs (nd a i v l r) :: F) → R' 3 = R 3 → I' 2 = I 2 → cnts I I' P ((fs.length + 1) / 2) fs.length 0 → WP G mX2_splay Q 0 0 104 lv [] (mkS L K AN R0 R' I' AIc AR Im AIm AL)) →
    WP G mX2_splay Q 0 0 12 [(0, vr (some P)), (1, vr (some T)), (2, vr (some a)), (3, vi (nI k))] [] (mkS L K AN R0 R I AIc AR Im AIm AL) := by
  intro n
  induction n with
  | zero =>
    intro fs hn l r F R I k hk hP h kk
    match fs, hn with
    | [], _ => exact splay_nil h (fun lv l1 l2 => kk lv R I l1 l2 h rfl rfl (cnts_0 _ _))
  | succ n ih =>
    intro fs hn l r F R I k hk hP h kk
    match fs, hn, hk, h, kk with
    | [], _, hk, h, kk => exact splay_nil h (fun lv l1 l2 => kk lv R I l1 l2 h rfl rfl (cnts_0 _ _))
    | [f], _, hk, h, kk =>
      obtain ⟨lft, x, d⟩ := f
      have hc := h.1 _ List.mem_cons_self
      obtain ⟨hka, hz0, hz1, hz2, -, -⟩ := cz (fs := [(lft, x, d)]) hc
      have hz2 : R 2 a = some x.1 := hz2
      obtain ⟨hkp, -, -, hp2, -, -⟩ := czp (f := (lft, x, d)) (fs := []) hc
      have hp2 : R 2 x.1 = none := hp2
      have hk : k + 1 ≤ 60 := by simpa using hk
      refine WP_iload_n dX2_splay_12 rfl ?_
      refine WP_bipush (60) dX2_splay_13 (by decide) ?_
      refine WP_icmp_ge 104 dX2_splay_15 (by decide) (fun hb => ?_) (fun hb => ?_)
      · exact absurd hb (nI60 (by omega))
      · refine WP_aload_n dX2_splay_18 rfl ?_
        refine gf_RX2_21 dX2_splay_19 rfl rfl hka ?_
        rw [hz2]
        refine WP_ifnull 104 dX2_splay_22 (by decide) (fun h1 => ?_) (fun p9 h1 => ?_)
        · cases h1
        · cases h1
          refine WP_aload_n dX2_splay_25 rfl ?_
          refine gf_RX2_21 dX2_splay_26 rfl rfl hka ?_
          rw [hz2]
          refine WP_astore dX2_splay_29 (by decide) rfl ?_
          refine WP_aload dX2_splay_31 rfl ?_
          refine gf_RX2_21 dX2_splay_33 rfl rfl hkp ?_
          rw [hp2]
          refine WP_ifnull 73 dX2_splay_36 (by decide) (fun h1 => ?_) (fun p9 h1 => ?_)
          · refine WP_aload_n dX2_splay_73 rfl ?_
            refine WP_aload_n dX2_splay_74 rfl ?_
            refine callVv mX2_rotate [_] dX2_splay_75 okc_X2_rotate ok_237 ⟨by decide, by decide⟩ rfl rfl hP rfl (Nat.le_of_ble_eq_true rfl) (Nat.le_of_ble_eq_true rfl) (Nat.le_of_ble_eq_true rfl) (c_rotate P a i v l r d lft x [] F hP h) (fun S1 h1 => ?_)
            obtain ⟨R1, I1, rfl, g1, g2, g3, g4⟩ := h1
            obtain ⟨l', r', e1, -, -⟩ := rot1_nd (lft, x, d) a i v l r
            refine splay_tail (k := k) (T := T) (a := a) hP g1 rfl rfl rfl rfl (fun I2 g5 g6 g7 => ?_)
            have g5 : cF L K R1 I2 (rot1 (nd a i v l r) (lft, x, d) :: F) := g5
            refine splay_nil (by rw [e1] at g5; exact g5) (fun lv l1 l2 => kk lv R1 I2 l1 l2 g5 g2 (g6.trans g3) (by simpa using cnts_t g4 g7))
          · cases h1
    | f :: g :: hs, hn, hk, h, kk =>
      have hk : k + (hs.length + 1 + 1 + 1) / 2 ≤ 60 := hk
      have hk1 : k < 60 := by omega
      have hk2 : k + 1 + (hs.length + 1) / 2 ≤ 60 := by omega
      have hl2 : (hs.length + 1 + 1 + 1) / 2 = 1 + (hs.length + 1) / 2 := by omega
      have hlen : hs.length ≤ n := by simp at hn; omega
      obtain ⟨lft, x, d⟩ := f
      obtain ⟨lg, y, d2⟩ := g
      have hn9 := nodup_hd h
      have hc := h.1 _ List.mem_cons_self
      obtain ⟨hka, hz0, hz1, hz2, -, -⟩ := cz (fs := (lft, x, d) :: (lg, y, d2) :: hs) hc
      have hz2 : R 2 a = some x.1 := hz2
      obtain ⟨hkp, -, -, hp2, -, -⟩ := czp (f := (lft, x, d)) (fs := (lg, y, d2) :: hs) hc
      have hp2 : R 2 x.1 = some y.1 := hp2
      have hkg : isK (mkS L K AN R0 R I AIc AR Im AIm AL) 0 y.1 := (czp (f := (lg, y, d2)) (fs := hs) (t := plug1 (lft, x, d) (nd a i v l r)) hc).1
      have hL1 : isLeftOf R a = if lft = true then 1 else 0 := (isLeft_eq hn9 hc).trans (by cases lft <;> rfl)
      have hL2 : isLeftOf R x.1 = if lg = true then 1 else 0 := by
        obtain ⟨xa, xi, xv⟩ := x
        cases lft
        · exact (isLeft_eq (fs := (lg, y, d2) :: hs) (a := xa) (i := xi) (v := xv) (l := d) (r := nd a i v l r) hn9 hc).trans (by cases lg <;> rfl)
        · exact (isLeft_eq (fs := (lg, y, d2) :: hs) (a := xa) (i := xi) (v := xv) (l := nd a i v l r) (r := d) hn9 hc).trans (by cases lg <;> rfl)
      refine WP_iload_n dX2_splay_12 rfl ?_
      refine WP_bipush (60) dX2_splay_13 (by decide) ?_
      refine WP_icmp_ge 104 dX2_splay_15 (by decide) (fun hb => ?_) (fun hb => ?_)
      · exact absurd hb (nI60 hk1)
      · refine WP_aload_n dX2_splay_18 rfl ?_
        refine gf_RX2_21 dX2_splay_19 rfl rfl hka ?_
        rw [hz2]
        refine WP_ifnull 104 dX2_splay_22 (by decide) (fun h1 => ?_) (fun p9 h1 => ?_)
        · cases h1
        · cases h1
          refine WP_aload_n dX2_splay_25 rfl ?_
          refine gf_RX2_21 dX2_splay_26 rfl rfl hka ?_
          rw [hz2]
          refine WP_astore dX2_splay_29 (by decide) rfl ?_
          refine WP_aload dX2_splay_31 rfl ?_
          refine gf_RX2_21 dX2_splay_33 rfl rfl hkp ?_
          rw [hp2]
          refine WP_ifnull 73 dX2_splay_36 (by decide) (fun h1 => ?_) (fun p9 h1 => ?_)
          · cases h1
          · cases h1
            refine WP_aload_n dX2_splay_39 rfl ?_
            refine callVi mX0_isLeftChild [] dX2_splay_40 okc_X0_isLeftChild ok_233 ⟨by decide, by decide⟩ rfl rfl hka rfl (Nat.le_of_ble_eq_true rfl) (Nat.le_of_ble_eq_true rfl) (Nat.le_of_ble_eq_true rfl) (c_isLeftChild a hka (fun p h => by rw [hz2] at h; cases h; exact hkp)) (fun x1 S1 h1 => ?_)
            obtain ⟨h1, rfl⟩ := h1
            have h1 : x1 = if lft = true then 1 else 0 := h1.trans hL1
            subst h1
            refine WP_aload dX2_splay_43 rfl ?_
            refine callVi mX0_isLeftChild [] dX2_splay_45 okc_X0_isLeftChild ok_233 ⟨by decide, by decide⟩ rfl rfl hkp rfl (Nat.le_of_ble_eq_true rfl) (Nat.le_of_ble_eq_true rfl) (Nat.le_of_ble_eq_true rfl) (c_isLeftChild x.1 hkp (fun p h => by rw [hp2] at h; cases h; exact hkg)) (fun x2 S1 h1 => ?_)
            obtain ⟨h1, rfl⟩ := h1
            have h1 : x2 = if lg = true then 1 else 0 := h1.trans hL2
            subst h1
            refine WP_icmp_ne 55 dX2_splay_48 (by decide) (fun h2 => ?_) (fun h2 => ?_)
            · have hne : lft ≠ lg := by
                rintro rfl
                exact h2 rfl
              refine WP_iconst (0) dX2_splay_55 (by decide) ?_
              refine WP_istore dX2_splay_56 (by decide) rfl ?_
              refine WP_aload_n dX2_splay_58 rfl ?_
              refine WP_iload dX2_splay_59 rfl ?_
              refine WP_if_eq 69 dX2_splay_61 (by decide) (fun h3 => ?_) (fun h3 => ?_)
              · refine WP_aload_n dX2_splay_69 rfl ?_
                refine callVv mX2_rotate [_] dX2_splay_70 okc_X2_rotate ok_237 ⟨by decide, by decide⟩ rfl rfl hP rfl (Nat.le_of_ble_eq_true rfl) (Nat.le_of_ble_eq_true rfl) (Nat.le_of_ble_eq_true rfl) (c_rotate P a i v l r d lft x ((lg, y, d2) :: hs) F hP h) (fun S1 h1 => ?_)
                obtain ⟨R1, I1, rfl, g1, g2, g3, g4⟩ := h1
                obtain ⟨l1, r1, e1, -, -⟩ := rot1_nd (lft, x, d) a i v l r
                have g1' : cF L K R1 I1 (plug ((lg, y, d2) :: hs) (nd a i v l1 r1) :: F) := by rw [← e1]; exact g1
                refine WP_aload_n dX2_splay_73 rfl ?_
                refine WP_aload_n dX2_splay_74 rfl ?_
                refine callVv mX2_rotate [_] dX2_splay_75 okc_X2_rotate ok_237 ⟨by decide, by decide⟩ rfl rfl hP rfl (Nat.le_of_ble_eq_true rfl) (Nat.le_of_ble_eq_true rfl) (Nat.le_of_ble_eq_true rfl) (c_rotate P a i v l1 r1 d2 lg y hs F hP g1') (fun S1 h1 => ?_)
                obtain ⟨R2, I2, rfl, g5, g6, g7, g8⟩ := h1
                have e2 : rot1 (nd a i v l1 r1) (lg, y, d2) = step2 (lft, x, d) (lg, y, d2) (nd a i v l r) := by
                  unfold step2
                  rw [if_neg hne, e1]
                rw [e2] at g5
                obtain ⟨l2, r2, e3, -, -⟩ := step2_nd (lft, x, d) (lg, y, d2) a i v l r
                refine splay_tail (k := k) (T := T) (a := a) hP g5 rfl rfl rfl rfl (fun I3 g9 g10 g11 => ?_)
                rw [e3] at g9
                refine ih hs hlen l2 r2 F R2 I3 (k + 1) hk2 hP g9 (fun lv R' I' l1' l2' g12 g13 g14 g15 => kk lv R' I' l1' l2' ?_ (g13.trans (g6.trans g2)) (g14.trans (g10.trans (g7.trans g3))) ?_)
                · rw [← e3] at g12
                  exact g12
                · have := cnts_t (cnts_t (cnts_t g4 g8) g11) g15
                  show cnts I I' P ((hs.length + 1 + 1 + 1) / 2) (hs.length + 1 + 1) 0
                  rw [hl2, show hs.length + 1 + 1 = 0 + 1 + 1 + hs.length by omega]
                  exact this
              · exact absurd rfl h3
            · have heq : lft = lg := by
                cases lft <;> cases lg <;> first | rfl | exact absurd h2 (by decide)
              subst heq
              refine WP_iconst (1) dX2_splay_51 (by decide) ?_
              refine WP_goto 56 dX2_splay_52 (by decide) ?_
              refine WP_istore dX2_splay_56 (by decide) rfl ?_
              refine WP_aload_n dX2_splay_58 rfl ?_
              refine WP_iload dX2_splay_59 rfl ?_
              refine WP_if_eq 69 dX2_splay_61 (by decide) (fun h3 => ?_) (fun h3 => ?_)
              · exact absurd h3 (by decide)
              · refine WP_aload dX2_splay_64 rfl ?_
                refine WP_goto 70 dX2_splay_66 (by decide) ?_
                obtain ⟨xa, xi, xv⟩ := x
                have hcall : MT G mX2_rotate [vr (some P), vr (some xa)] (mkS L K AN R0 R I AIc AR Im AIm AL) (rV (fun S' => ∃ Rc' Ic', S' = mkS L K AN R0 Rc' Ic' AIc AR Im AIm AL ∧ cF L K Rc' Ic' (plug hs (rot1 (plug1 (lft, (xa, xi, xv), d) (nd a i v l r)) (lft, y, d2)) :: F) ∧ Rc' 3 = R 3 ∧ Ic' 2 = I 2 ∧ cnts I Ic' P 0 1 0)) := by
                  cases lft
                  · exact c_rotate P xa xi xv d (nd a i v l r) d2 false y hs F hP h
                  · exact c_rotate P xa xi xv (nd a i v l r) d d2 true y hs F hP h
                refine callVv mX2_rotate [_] dX2_splay_70 okc_X2_rotate ok_237 ⟨by decide, by decide⟩ rfl rfl hP rfl (Nat.le_of_ble_eq_true rfl) (Nat.le_of_ble_eq_true rfl) (Nat.le_of_ble_eq_true rfl) (hcall) (fun S1 h1 => ?_)
                obtain ⟨R1, I1, rfl, g1, g2, g3, g4⟩ := h1
                rw [rot1_zz (f := (lft, (xa, xi, xv), d)) (g := (lft, y, d2)) rfl] at g1
                have hz : ∃ d3, zzF (lft, (xa, xi, xv), d) (lft, y, d2) = (lft, (xa, xi, xv), d3) := by
                  obtain ⟨ya, yi, yv⟩ := y
                  cases lft <;> exact ⟨_, rfl⟩
                obtain ⟨d3, hz⟩ := hz
                have g1' : cF L K R1 I1 (plug ((lft, (xa, xi, xv), d3) :: hs) (nd a i v l r) :: F) := by rw [← hz]; exact g1
                refine WP_aload_n dX2_splay_73 rfl ?_
                refine WP_aload_n dX2_splay_74 rfl ?_
                refine callVv mX2_rotate [_] dX2_splay_75 okc_X2_rotate ok_237 ⟨by decide, by decide⟩ rfl rfl hP rfl (Nat.le_of_ble_eq_true rfl) (Nat.le_of_ble_eq_true rfl) (Nat.le_of_ble_eq_true rfl) (c_rotate P a i v l r d3 lft (xa, xi, xv) hs F hP g1') (fun S1 h1 => ?_)
                obtain ⟨R2, I2, rfl, g5, g6, g7, g8⟩ := h1
                have e2 : rot1 (nd a i v l r) (lft, (xa, xi, xv), d3) = step2 (lft, (xa, xi, xv), d) (lft, y, d2) (nd a i v l r) := by
                  unfold step2
                  rw [if_pos rfl, hz]
                rw [e2] at g5
                obtain ⟨l2, r2, e3, -, -⟩ := step2_nd (lft, (xa, xi, xv), d) (lft, y, d2) a i v l r
                refine splay_tail (k := k) (T := T) (a := a) hP g5 rfl rfl rfl rfl (fun I3 g9 g10 g11 => ?_)
                rw [e3] at g9
                refine ih hs hlen l2 r2 F R2 I3 (k + 1) hk2 hP g9 (fun lv R' I' l1' l2' g12 g13 g14 g15 => kk lv R' I' l1' l2' ?_ (g13.trans (g6.trans g2)) (g14.trans (g10.trans (g7.trans g3))) ?_)
                · rw [← e3] at g12
                  exact g12
                · have := cnts_t (cnts_t (cnts_t g4 g8) g11) g15
                  show cnts I I' P ((hs.length + 1 + 1 + 1) / 2) (hs.length + 1 + 1) 0
                  rw [hl2, show hs.length + 1 + 1 = 0 + 1 + 1 + hs.length by omega]
                  exact this
/-- splay of a node of a held tree; the tree's object gets it as its root -/
theorem c_splay (P T a i : Nat) (v : Int32) (l r : Tr) (fs : List Fr) (F : List Tr) (hP : isK (mkS L K AN R0 Rc Ic AIc AR Im AIm AL) 2 P) (hT : isK (mkS L K AN R0 Rc Ic AIc AR Im AIm AL) 3 T) (hsz : fs.length < 60) (h : cF L K Rc Ic (plug fs (nd a i v l r) :: F)) :
    MT G mX2_splay [vr (some P), vr (some T), vr (some a)] (mkS L K AN R0 Rc Ic AIc AR Im AIm AL) (rV (fun S' => ∃ Rc' Ic', S' = mkS L K AN R0 Rc' Ic' AIc AR Im AIm AL ∧ cF L K Rc' Ic' (spl fs (nd a i v l r) :: F) ∧ Rc' 3 = va_up (Rc 3) T (some a) ∧ Ic' 2 = Ic 2 ∧ cnts Ic Ic' P ((fs.length + 1) / 2) fs.length 1)) := by
  refine MT_of (by decide) rfl (Nat.le_of_ble_eq_true rfl) ?_
  refine WP_aload_n dX2_splay_0 rfl ?_
  refine WP_dup dX2_splay_1 rfl ?_
  refine gf_RX2_18 dX2_splay_2 rfl rfl hP ?_
  refine WP_iconst (1) dX2_splay_5 (by decide) ?_
  refine WP_iadd dX2_splay_6 ?_
  refine pf_RX2_18 dX2_splay_7 rfl rfl hP ?_
  refine WP_iconst (0) dX2_splay_10 (by decide) ?_
  refine WP_istore_n dX2_splay_11 (by decide) rfl ?_
  refine WP_lv [(0, vr (some P)), (1, vr (some T)), (2, vr (some a)), (3, vi (nI 0))] (List.forall_mem_cons.mpr ⟨rfl, List.forall_mem_cons.mpr ⟨rfl, List.forall_mem_cons.mpr ⟨rfl, List.forall_mem_cons.mpr ⟨rfl, fun _ h9 => absurd h9 List.not_mem_nil⟩⟩⟩⟩) ?_
  have h0 : cF L K Rc (u2 Ic 6 P (Ic 6 P + 1)) (plug fs (nd a i v l r) :: F) := ⟨fun u hu => cT_frame (fun q _ => ⟨⟨rfl, rfl, rfl⟩, by rw [u2_o _ _ _ (by decide)], by rw [u2_o _ _ _ (by decide)]⟩) (h.1 u hu), h.2⟩
  refine splay_loop P T a i v fs.length fs (Nat.le_refl _) l r F _ _ 0 (by omega) hP h0 (fun lv R' I' l1 l2 g1 g2 g3 g4 => ?_)
  refine WP_aload_n dX2_splay_104 l1 ?_
  refine WP_aload_n dX2_splay_105 l2 ?_
  refine pf_RX2_38 dX2_splay_106 rfl rfl hT ?_
  refine WP_return dX2_splay_109 rfl (Nat.le_of_ble_eq_true rfl) (Nat.le_of_ble_eq_true rfl) ?_
  refine ⟨rfl, _, _, rfl, ⟨fun u hu => cT_frame (fun q _ => ⟨⟨?_, ?_, ?_⟩, rfl, rfl⟩) (g1.1 u hu), g1.2⟩, by rw [u2_s, g2], by rw [g3, u2_o _ _ _ (by decide)], ?_⟩
  · rw [u2_o _ _ _ (by decide)]
  · rw [u2_o _ _ _ (by decide)]
  · rw [u2_o _ _ _ (by decide)]
  · have e0 : cnts Ic (u2 Ic 6 P (Ic 6 P + 1)) P 0 0 1 := by
      refine ⟨?_, ?_, ?_, ?_⟩
      · simp [u2, nI_0]
      · simp [u2, nI_0]
      · simp [u2, nI_0]
      · simp [u2]
        rfl
    have := cnts_t e0 g4
    rw [Nat.zero_add, Nat.zero_add] at this
    exact this
theorem c_beginCall (P : Nat) (hP : isK (mkS L K AN R0 Rc Ic AIc AR Im AIm AL) 2 P) :
    MT G mX2_beginCall [vr (some P)] (mkS L K AN R0 Rc Ic AIc AR Im AIm AL) (rV (fun S' => S' = mkS L K AN R0 Rc (u2 (u2 Ic 3 P 0) 4 P 0) AIc AR Im AIm AL)) := by
  refine MT_of (by decide) rfl (Nat.le_of_ble_eq_true rfl) ?_
  refine WP_aload_n dX2_beginCall_0 rfl ?_
  refine WP_iconst (0) dX2_beginCall_1 (by decide) ?_
  refine pf_RX2_9 dX2_beginCall_2 rfl rfl hP ?_
  refine WP_aload_n dX2_beginCall_5 rfl ?_
  refine WP_iconst (0) dX2_beginCall_6 (by decide) ?_
  refine pf_RX2_15 dX2_beginCall_7 rfl rfl hP ?_
  refine WP_return dX2_beginCall_10 rfl (Nat.le_of_ble_eq_true rfl) (Nat.le_of_ble_eq_true rfl) ?_
  exact ⟨rfl, rfl⟩
end SPY
