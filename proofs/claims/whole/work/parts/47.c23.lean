theorem mgt {Ls Ls2 : Nat → g_L} {w v : Nat} {M : g_L} (hw : w ≤ 1) (hv : v ≤ 1) (hA : Ls2 w = M) (hB : Ls2 (1 - w) = Ls (1 - w)) : ul_ Ls w M v = Ls2 v := by
  by_cases e : v = w
  · subst e; rw [ul_at, hA]
  · have e2 : v = 1 - w := by omega
    subst e2; rw [ul_ne e, hB]
theorem lk_rowQ {Ls : Nat → g_L} {S N Z R : Nat → Int32} {w : Nat} (h : mr_ Ls S N Z) (hw : w ≤ 1) : ∀ j, j < (Ls w).length → va_cpy Z R (24 * w) 0 (Ls w).length j = gn_ (Ls w) j := fun j hj => by
  unfold va_cpy
  rw [if_pos ⟨Nat.zero_le _, by omega⟩, Nat.sub_zero]
  exact h.Q hw hj
abbrev m_X3_turn_rm : Room := { frames := 10, cells := 2, slots := 48, locals := 248 }
set_option maxHeartbeats 4000000 in
set_option maxRecDepth 100000 in
theorem m_X3_turn (l : Launch) (D : va_G) (hAD : g_AD D) (σ : Nat → va_E) (th rs sg : Int32) (S N Z R : Nat → Int32) (T : Nat → Nat → Int32) (hM : g_Mf D σ th rs sg S N Z R T) (Ls : Nat → g_L) (wood bits : Int32) (hmr : mr_ Ls S N Z) (hvC : vC_ Ls) : g_M l D yX3_turn cX3_turn 7 (some .int) m_X3_turn_rm [.ref (ad_ D 20), .int wood, .int bits] σ (fun v1 σ1 => ((er_turn Ls wood bits = 0 ∧ (∃ w, w ≤ 1 ∧ wood = nI w ∧ nm1_ bits ∧ (Ls w).length ≠ 0 ∧ v1 = some (.int (fn_ (cb_ (Ls w) bits (Ls w).length) 0)) ∧ g_MM D σ1 (nI 0) (ul_ Ls w (cb_ (Ls w) bits (Ls w).length)))) ∨ ∃ k9, er_turn Ls wood bits = k9 ∧ k9 ≠ 0 ∧ v1 = some (.int (nI 0)) ∧ g_MM D σ1 (nI k9) Ls) ∧ g_off 20 30 σ σ1) := by
  refine g_ofW [(0, .ref (ad_ D 20)), (1, .int wood), (2, .int bits)] (by decide +kernel) (Nat.le_of_ble_eq_true rfl) rfl ?_
  intro p e s m args below meth c hx hb hr hml hown hlocks hts hE hZ hP hS hnm ls hl
  have hown : s.vm.findClass RX3 = some m.cls := hown
  generalize hQ : MQ _ _ _ _ _ _ _ = Q
  obtain ⟨k20, k21, k22, k23, k24, k25, k26, k27, k28, k29, k30⟩ := id hM
  refine lv_aload_n hx hb dX3_turn_0 rfl (lv_at hl 0 rfl) ?_
  refine lv_iconst (v := nI 0) hx hb dX3_turn_1 (by decide) ?_
  refine g_put hx hb hts hE hown hAD hP hS g_inX3 tyX3 tyX3_ok nmX3 rfl (by decide) k20 0 (by decide) rfl rfl (by decide +kernel) wf_X3_40 (v := nI 0) (Nat.le_of_ble_eq_true rfl) dX3_turn_2 (fun H locs hP hS => ?_)
  obtain ⟨σ_1, hσ2⟩ : ∃ z : Nat → va_E, z = va_up σ 20 (.inr (3, [.int (nI 0), .ref (ad_ D 21), .ref (ad_ D 22), .ref (ad_ D 23), .ref (ad_ D 24), .int rs, .int sg, .ref (ad_ D 25), .ref (ad_ D 26), .ref (ad_ D 27), .ref (ad_ D 28), .ref (ad_ D 29), .ref (ad_ D 30)])) := ⟨_, rfl⟩
  have hP : va_P D vwCl (g_W D σ_1) H := by rw [hσ2]; exact hP
  have hc3 : σ_1 20 = .inr (3, [.int (nI 0), .ref (ad_ D 21), .ref (ad_ D 22), .ref (ad_ D 23), .ref (ad_ D 24), .int rs, .int sg, .ref (ad_ D 25), .ref (ad_ D 26), .ref (ad_ D 27), .ref (ad_ D 28), .ref (ad_ D 29), .ref (ad_ D 30)]) := by rw [hσ2]; exact g_ups
  have hc4 := (by rw [hσ2]; exact g_upn k21 (by decide) : σ_1 21 = .inl (g_cI D, 2, .inl (S)))
  have hc5 := (by rw [hσ2]; exact g_upn k22 (by decide) : σ_1 22 = .inl (g_cI D, 48, .inl (N)))
  have hc6 := (by rw [hσ2]; exact g_upn k23 (by decide) : σ_1 23 = .inl (g_cI D, 48, .inl (Z)))
  have hc7 := (by rw [hσ2]; exact g_upn k24 (by decide) : σ_1 24 = .inl (g_cI D, 48, .inl (R)))
  have hc8 := (by rw [hσ2]; exact g_upn k25 (by decide) : σ_1 25 = .inl (g_cI D, 96, .inl (T 0)))
  have hc9 := (by rw [hσ2]; exact g_upn k26 (by decide) : σ_1 26 = .inl (g_cI D, 96, .inl (T 1)))
  have hc10 := (by rw [hσ2]; exact g_upn k27 (by decide) : σ_1 27 = .inl (g_cI D, 96, .inl (T 2)))
  have hc11 := (by rw [hσ2]; exact g_upn k28 (by decide) : σ_1 28 = .inl (g_cI D, 96, .inl (T 3)))
  have hc12 := (by rw [hσ2]; exact g_upn k29 (by decide) : σ_1 29 = .inl (g_cI D, 96, .inl (T 4)))
  have hc13 := (by rw [hσ2]; exact g_upn k30 (by decide) : σ_1 30 = .inl (g_cI D, 96, .inl (T 5)))
  have ho14 : g_off 20 30 σ σ_1 := by rw [hσ2]; exact g_off.up (g_off.rf (lo := 20) (hi := 30) (σ := σ)) (by decide) (by decide)
  refine lv_iload_n hx hb dX3_turn_5 rfl (lv_at hl 1 rfl) ?_
  refine g_callS0 (y := yX3_isWood) (n := 1) (As := [.int wood]) (rest := []) hx hb hml hown hts hE hZ hP hS hl.1 (m_X3_isWood l D hAD σ_1 (wood)) k_X3_94 rfl rfl ⟨rfl, rfl⟩ ⟨Nat.le_of_ble_eq_true rfl, Nat.le_of_ble_eq_true rfl⟩ (Nat.le_of_ble_eq_true rfl) ⟨Nat.le_of_ble_eq_true rfl, Nat.le_of_ble_eq_true rfl⟩ dX3_turn_6 (fun v15 σ_16 H locs hq hP hS => ?_)
  obtain ⟨rfl, rfl⟩ := hq
  refine W.eq (g2 := F0 m 9 ls [.int (if wk1_ (wood) then 1 else 0)]) rfl ?_
  refine lv_if_ne (tgt := 18) hx hb dX3_turn_9 (by decide) (fun h9 => ?_) (fun h9 => ?_)
  · have hq9 := g_pp1 h9
    obtain ⟨w, hw, hwe⟩ := ix_nat hq9 (by decide)
    subst hwe
    have hvw := hvC w hw
    have h24w := hvw.2
    have hvo := hvC (1 - w) (by omega)
    have h24o := hvo.2
    have hwl : wl_ Ls (nI w) = Ls w := wl_n hw
    have hot : ot_ Ls (nI w) = Ls (1 - w) := ot_n hw
    refine lv_iload_n hx hb dX3_turn_18 rfl (lv_at hl 2 rfl) ?_
    refine g_callS0 (y := yX3_isName) (n := 1) (As := [.int bits]) (rest := []) hx hb hml hown hts hE hZ hP hS hl.1 (m_X3_isName l D hAD σ_1 (bits)) k_X3_101 rfl rfl ⟨rfl, rfl⟩ ⟨Nat.le_of_ble_eq_true rfl, Nat.le_of_ble_eq_true rfl⟩ (Nat.le_of_ble_eq_true rfl) ⟨Nat.le_of_ble_eq_true rfl, Nat.le_of_ble_eq_true rfl⟩ dX3_turn_19 (fun v17 σ_18 H locs hq hP hS => ?_)
    obtain ⟨rfl, rfl⟩ := hq
    refine W.eq (g2 := F0 m 22 ls [.int (if nm1_ (bits) then 1 else 0)]) rfl ?_
    refine lv_if_ne (tgt := 31) hx hb dX3_turn_22 (by decide) (fun h22 => ?_) (fun h22 => ?_)
    · have hq22 := g_pp1 h22
      have hne22 := ne_m1 (nm_le hq22).1
      refine lv_aload_n hx hb dX3_turn_31 rfl (lv_at hl 0 rfl) ?_
      refine g_get hx hb hts hE hown hP g_inX3 rfl (by decide) hc3 1 (by decide) rfl wf_X3_9 (v := .ref (ad_ D 21)) rfl dX3_turn_32 ?_
      refine lv_iload_n hx hb dX3_turn_35 rfl (lv_at hl 1 rfl) ?_
      refine g_ialdN (j := w) hx hb hE hP (by decide) hc4 (by omega) (by decide) (v := nI ((Ls w).length)) (hmr.S (by omega)) dX3_turn_36 ?_
      refine lv_if_ne (tgt := 46) hx hb dX3_turn_37 (by decide) (fun h37 => ?_) (fun h37 => ?_)
      · have hb37 := g_ne (a := (Ls w).length) (b := 0) h37 (by omega) (by omega)
        refine lv_aload_n hx hb dX3_turn_46 rfl (lv_at hl 0 rfl) ?_
        refine g_get hx hb hts hE hown hP g_inX3 rfl (by decide) hc3 1 (by decide) rfl wf_X3_9 (v := .ref (ad_ D 21)) rfl dX3_turn_47 ?_
        refine lv_iload_n hx hb dX3_turn_50 rfl (lv_at hl 1 rfl) ?_
        refine g_ialdN (j := w) hx hb hE hP (by decide) hc4 (by omega) (by decide) (v := nI ((Ls w).length)) (hmr.S (by omega)) dX3_turn_51 ?_
        refine lv_istore_n (lv' := [(3, .int (nI ((Ls w).length))), (0, .ref (ad_ D 20)), (1, .int (nI w)), (2, .int bits)]) hx hb dX3_turn_52 rfl hl (by decide) rfl (fun ls hl => ?_)
        refine lv_iload_n hx hb dX3_turn_53 rfl (lv_at hl 0 rfl) ?_
        have hPX : va_P D vwCl (g_W D σ_1 ++ []) H := by rw [List.append_nil]; exact hP
        have hDX : va_D (g_A D s.heap.size) (g_W D σ_1 ++ []) := by rw [List.append_nil]; exact g_Ds hAD
        refine g_newI hx hb hts hE hPX hDX hS (n := (Ls w).length) (by omega) (by show 0 + 1 ≤ 2; omega) (by show 0 + (Ls w).length ≤ 48; omega) dX3_turn_54 (fun q1 H hPX hDX hS => ?_)
        rw [List.append_assoc] at hPX hDX
        have hPX : va_P D vwCl (g_W D σ_1 ++ [(q1, .inl (g_cI D, (Ls w).length, .inl (fun _ => 0)))]) H := hPX
        have hDX : va_D (g_A D s.heap.size) (g_W D σ_1 ++ [(q1, .inl (g_cI D, (Ls w).length, .inl (fun _ => 0)))]) := hDX
        have hP := g_xl hPX
        refine lv_astore (lv' := [(4, .ref q1), (3, .int (nI ((Ls w).length))), (0, .ref (ad_ D 20)), (1, .int (nI w)), (2, .int bits)]) hx hb dX3_turn_56 hl (by decide) rfl (fun ls hl => ?_)
        refine lv_iload_n hx hb dX3_turn_58 rfl (lv_at hl 1 rfl) ?_
        refine g_newI hx hb hts hE hPX hDX hS (n := (Ls w).length) (by omega) (by show 0 + 1 + 1 ≤ 2; omega) (by show 0 + (Ls w).length + (Ls w).length ≤ 48; omega) dX3_turn_59 (fun q2 H hPX hDX hS => ?_)
        rw [List.append_assoc] at hPX hDX
        have hPX : va_P D vwCl (g_W D σ_1 ++ [(q1, .inl (g_cI D, (Ls w).length, .inl (fun _ => 0))), (q2, .inl (g_cI D, (Ls w).length, .inl (fun _ => 0)))]) H := hPX
        have hDX : va_D (g_A D s.heap.size) (g_W D σ_1 ++ [(q1, .inl (g_cI D, (Ls w).length, .inl (fun _ => 0))), (q2, .inl (g_cI D, (Ls w).length, .inl (fun _ => 0)))]) := hDX
        have hP := g_xl hPX
        refine lv_astore (lv' := [(5, .ref q2), (4, .ref q1), (3, .int (nI ((Ls w).length))), (0, .ref (ad_ D 20)), (1, .int (nI w)), (2, .int bits)]) hx hb dX3_turn_61 hl (by decide) rfl (fun ls hl => ?_)
        refine lv_aload_n hx hb dX3_turn_63 rfl (lv_at hl 3 rfl) ?_
        refine g_get hx hb hts hE hown hP g_inX3 rfl (by decide) hc3 2 (by decide) rfl wf_X3_13 (v := .ref (ad_ D 22)) rfl dX3_turn_64 ?_
        refine lv_bipush (v := nI 24) hx hb dX3_turn_67 (by decide) ?_
        refine lv_iload_n hx hb dX3_turn_69 rfl (lv_at hl 4 rfl) ?_
        refine lv_imul hx hb dX3_turn_70 ?_
        refine g_top (y := nI (24 * w)) (pk_mul 24 w) ?_
        refine lv_aload hx hb dX3_turn_71 (lv_at hl 1 rfl) ?_
        refine lv_iconst (v := nI 0) hx hb dX3_turn_73 (by decide) ?_
        refine lv_iload_n hx hb dX3_turn_74 rfl (lv_at hl 2 rfl) ?_
        refine g_copyX (i := 0) (sp := 24 * w) (dp := 0) (n := (Ls w).length) hx hb (hml.trans hl.1.symm) hown hts k_X3_59 k_copy hE hPX hDX hS (by decide) hc5 rfl ⟨by omega, by omega, by omega⟩ (by omega) (by omega) ⟨Nat.le_of_ble_eq_true rfl, Nat.le_of_ble_eq_true rfl⟩ dX3_turn_75 (fun H locs hPX hDX hS => ?_)
        have hPX : va_P D vwCl (g_W D σ_1 ++ [(q1, .inl (g_cI D, (Ls w).length, .inl (va_cpy N (fun _ => 0) (24 * w) 0 (Ls w).length))), (q2, .inl (g_cI D, (Ls w).length, .inl (fun _ => 0)))]) H := hPX
        have hDX : va_D (g_A D s.heap.size) (g_W D σ_1 ++ [(q1, .inl (g_cI D, (Ls w).length, .inl (va_cpy N (fun _ => 0) (24 * w) 0 (Ls w).length))), (q2, .inl (g_cI D, (Ls w).length, .inl (fun _ => 0)))]) := hDX
        have hP := g_xl hPX
        refine lv_aload_n hx hb dX3_turn_78 rfl (lv_at hl 3 rfl) ?_
        refine g_get hx hb hts hE hown hP g_inX3 rfl (by decide) hc3 3 (by decide) rfl wf_X3_16 (v := .ref (ad_ D 23)) rfl dX3_turn_79 ?_
        refine lv_bipush (v := nI 24) hx hb dX3_turn_82 (by decide) ?_
        refine lv_iload_n hx hb dX3_turn_84 rfl (lv_at hl 4 rfl) ?_
        refine lv_imul hx hb dX3_turn_85 ?_
        refine g_top (y := nI (24 * w)) (pk_mul 24 w) ?_
        refine lv_aload hx hb dX3_turn_86 (lv_at hl 0 rfl) ?_
        refine lv_iconst (v := nI 0) hx hb dX3_turn_88 (by decide) ?_
        refine lv_iload_n hx hb dX3_turn_89 rfl (lv_at hl 2 rfl) ?_
        refine g_copyX (i := 1) (sp := 24 * w) (dp := 0) (n := (Ls w).length) hx hb (hml.trans hl.1.symm) hown hts k_X3_59 k_copy hE hPX hDX hS (by decide) hc6 rfl ⟨by omega, by omega, by omega⟩ (by omega) (by omega) ⟨Nat.le_of_ble_eq_true rfl, Nat.le_of_ble_eq_true rfl⟩ dX3_turn_90 (fun H locs hPX hDX hS => ?_)
        have hPX : va_P D vwCl (g_W D σ_1 ++ [(q1, .inl (g_cI D, (Ls w).length, .inl (va_cpy N (fun _ => 0) (24 * w) 0 (Ls w).length))), (q2, .inl (g_cI D, (Ls w).length, .inl (va_cpy Z (fun _ => 0) (24 * w) 0 (Ls w).length)))]) H := hPX
        have hDX : va_D (g_A D s.heap.size) (g_W D σ_1 ++ [(q1, .inl (g_cI D, (Ls w).length, .inl (va_cpy N (fun _ => 0) (24 * w) 0 (Ls w).length))), (q2, .inl (g_cI D, (Ls w).length, .inl (va_cpy Z (fun _ => 0) (24 * w) 0 (Ls w).length)))]) := hDX
        have hP := g_xl hPX
        refine lv_aload_n hx hb dX3_turn_93 rfl (lv_at hl 3 rfl) ?_
        refine g_get hx hb hts hE hown hP g_inX3 rfl (by decide) hc3 1 (by decide) rfl wf_X3_9 (v := .ref (ad_ D 21)) rfl dX3_turn_94 ?_
        refine lv_iload_n hx hb dX3_turn_97 rfl (lv_at hl 4 rfl) ?_
        refine lv_iconst (v := nI 0) hx hb dX3_turn_98 (by decide) ?_
        refine g_iastX (j := w) (x := nI 0) hx hb hE hPX hDX hS (by decide) hc4 (by omega) (by decide) dX3_turn_99 (fun H locs hPX hDX hS => ?_)
        have hP := g_xl hPX
        obtain ⟨σ_19, hσ20⟩ : ∃ z : Nat → va_E, z = va_up σ_1 21 (.inl (g_cI D, 2, .inl (upd S w (nI 0)))) := ⟨_, rfl⟩
        have hP : va_P D vwCl (g_W D σ_19) H := by rw [hσ20]; exact hP
        have hc21 := (by rw [hσ20]; exact g_upn hc3 (by decide) : σ_19 20 = .inr (3, [.int (nI 0), .ref (ad_ D 21), .ref (ad_ D 22), .ref (ad_ D 23), .ref (ad_ D 24), .int rs, .int sg, .ref (ad_ D 25), .ref (ad_ D 26), .ref (ad_ D 27), .ref (ad_ D 28), .ref (ad_ D 29), .ref (ad_ D 30)]))
        have hc22 : σ_19 21 = .inl (g_cI D, 2, .inl (upd S w (nI 0))) := by rw [hσ20]; exact g_ups
        have hc23 := (by rw [hσ20]; exact g_upn hc5 (by decide) : σ_19 22 = .inl (g_cI D, 48, .inl (N)))
        have hc24 := (by rw [hσ20]; exact g_upn hc6 (by decide) : σ_19 23 = .inl (g_cI D, 48, .inl (Z)))
        have hc25 := (by rw [hσ20]; exact g_upn hc7 (by decide) : σ_19 24 = .inl (g_cI D, 48, .inl (R)))
        have hc26 := (by rw [hσ20]; exact g_upn hc8 (by decide) : σ_19 25 = .inl (g_cI D, 96, .inl (T 0)))
        have hc27 := (by rw [hσ20]; exact g_upn hc9 (by decide) : σ_19 26 = .inl (g_cI D, 96, .inl (T 1)))
        have hc28 := (by rw [hσ20]; exact g_upn hc10 (by decide) : σ_19 27 = .inl (g_cI D, 96, .inl (T 2)))
        have hc29 := (by rw [hσ20]; exact g_upn hc11 (by decide) : σ_19 28 = .inl (g_cI D, 96, .inl (T 3)))
        have hc30 := (by rw [hσ20]; exact g_upn hc12 (by decide) : σ_19 29 = .inl (g_cI D, 96, .inl (T 4)))
        have hc31 := (by rw [hσ20]; exact g_upn hc13 (by decide) : σ_19 30 = .inl (g_cI D, 96, .inl (T 5)))
        have ho32 : g_off 20 30 σ σ_19 := by rw [hσ20]; exact g_off.up ho14 (by decide) (by decide)
        have hPX : va_P D vwCl (g_W D σ_19 ++ [(q1, .inl (g_cI D, (Ls w).length, .inl (va_cpy N (fun _ => 0) (24 * w) 0 (Ls w).length))), (q2, .inl (g_cI D, (Ls w).length, .inl (va_cpy Z (fun _ => 0) (24 * w) 0 (Ls w).length)))]) H := by rw [hσ20]; exact hPX
        have hDX : va_D (g_A D s.heap.size) (g_W D σ_19 ++ [(q1, .inl (g_cI D, (Ls w).length, .inl (va_cpy N (fun _ => 0) (24 * w) 0 (Ls w).length))), (q2, .inl (g_cI D, (Ls w).length, .inl (va_cpy Z (fun _ => 0) (24 * w) 0 (Ls w).length)))]) := by rw [hσ20]; exact hDX
        refine lv_iconst (v := nI 0) hx hb dX3_turn_100 (by decide) ?_
        refine lv_istore (lv' := [(6, .int (nI 0)), (5, .ref q2), (4, .ref q1), (3, .int (nI ((Ls w).length))), (0, .ref (ad_ D 20)), (1, .int (nI w)), (2, .int bits)]) hx hb dX3_turn_101 hl (by decide) rfl (fun ls hl => ?_)
        have K103 : ∀ (fuel103 : Nat) (i : Nat) (σ2 : Nat → va_E) (Ls2 : Nat → g_L) (S2 N2 Z2 : Nat → Int32), ((Ls w).length - i) < fuel103 → (i ≤ (Ls w).length) → (g_Mf D σ2 (nI 0) rs sg S2 N2 Z2 R T) → (mr_ Ls2 S2 N2 Z2) → (Ls2 w = cb_ (Ls w) bits i) → (Ls2 (1 - w) = Ls (1 - w)) → (g_off 20 30 σ σ2) → ∀ (H : Heap) (locs : List Loc), va_P D vwCl (g_W D σ2 ++ [(q1, .inl (g_cI D, (Ls w).length, .inl (va_cpy N (fun _ => 0) (24 * w) 0 (Ls w).length))), (q2, .inl (g_cI D, (Ls w).length, .inl (va_cpy Z (fun _ => 0) (24 * w) 0 (Ls w).length)))]) H → va_S (g_A D s.heap.size) s.heap H locs → ∀ ls : Array Slot, lv_has ls 7 [(6, .int (nI i)), (5, .ref q2), (4, .ref q1), (3, .int (nI ((Ls w).length))), (0, .ref (ad_ D 20)), (1, .int (nI w)), (2, .int bits)] → W p l e m_X3_turn_rm s m args below meth c H locs (0 + 1 + 1) (0 + (Ls w).length + (Ls w).length) Q (F0 m 103 ls []) := by
          intro fuel103
          induction fuel103 with
          | zero => intro i σ2 Ls2 S2 N2 Z2 hf; exact absurd hf (Nat.not_lt_zero _)
          | succ fuel103 ih103 =>
            intro i σ2 Ls2 S2 N2 Z2 hf103 hi hM2 hmr2 hA2 hB2 ho2 H locs hPX hS ls hl
            obtain ⟨t_20, t_21, t_22, t_23, t_24, t_25, t_26, t_27, t_28, t_29, t_30⟩ := id hM2
            have hP := g_xl hPX
            have hDX := g_xD (σ' := σ2) hDX
            refine lv_iload hx hb dX3_turn_103 (lv_at hl 0 rfl) ?_
            refine lv_iload_n hx hb dX3_turn_105 rfl (lv_at hl 3 rfl) ?_
            refine lv_icmp_ge (tgt := 132) hx hb dX3_turn_106 (by decide) (fun h106 => ?_) (fun h106 => ?_)
            · have hb106 := g_le (a := (Ls w).length) (b := i) h106 (by omega) (by omega)
              have hi2 : i = (Ls w).length := by omega
              have hnb := nm_le hq22
              have hlc : (Ls2 w).length = (Ls w).length := by rw [hA2, hi2, cb_sz hvw.1 hnb.1 hnb.2 _ (Nat.le_refl _)]
              refine lv_aload_n hx hb dX3_turn_132 rfl (lv_at hl 4 rfl) ?_
              refine g_get hx hb hts hE hown hP g_inX3 rfl (by decide) t_20 2 (by decide) rfl wf_X3_13 (v := .ref (ad_ D 22)) rfl dX3_turn_133 ?_
              refine lv_bipush (v := nI 24) hx hb dX3_turn_136 (by decide) ?_
              refine lv_iload_n hx hb dX3_turn_138 rfl (lv_at hl 5 rfl) ?_
              refine lv_imul hx hb dX3_turn_139 ?_
              refine g_top (y := nI (24 * w)) (pk_mul 24 w) ?_
              refine g_ialdN (j := 24 * w) hx hb hE hP (by decide) t_22 (by omega) (by decide) (v := fn_ (cb_ (Ls w) bits i) 0) ((hmr2.N (j := 0) hw (by omega)).trans (by rw [hA2])) dX3_turn_140 ?_
              have hMp33 : g_Mf D σ2 (nI 0) rs sg S2 N2 Z2 R T := ⟨t_20, t_21, t_22, t_23, t_24, t_25, t_26, t_27, t_28, t_29, t_30⟩
              refine W.widen (k := 2) (n := 48) (by omega) (by omega) ?_
              rw [← hQ]
              exact W.iret (v := fn_ (cb_ (Ls w) bits i) 0) hx hb hr (fun te9 hte9 _ => g_fin (⟨Or.inl ⟨by rw [er_turn, if_pos (ix_of hw (by decide)), if_pos hq22, hwl, if_neg hb37], w, hw, rfl, hq22, hb37, by rw [← hi2], ⟨_, _, _, _, _, _, _, hMp33, (mr_ext hmr2 (fun v hv => mgt hw hv (by rw [hA2, hi2]) hB2))⟩⟩, ho2⟩) hP hS hte9) hS.2.2 dX3_turn_141 hlocks
            · have hb106 := g_nle (a := (Ls w).length) (b := i) h106 (by omega) (by omega)
              refine lv_aload_n hx hb dX3_turn_109 rfl (lv_at hl 4 rfl) ?_
              refine lv_iload_n hx hb dX3_turn_110 rfl (lv_at hl 5 rfl) ?_
              refine lv_aload hx hb dX3_turn_111 (lv_at hl 2 rfl) ?_
              refine lv_iload hx hb dX3_turn_113 (lv_at hl 0 rfl) ?_
              refine g_ialdX (i := 0) (j := i) hx hb hE hPX rfl (by omega) (by omega) (v := fn_ (Ls w) i) (lk_row (R := fun _ => 0) hmr hw i (by omega)) dX3_turn_115 ?_
              refine lv_iload_n hx hb dX3_turn_116 rfl (lv_at hl 6 rfl) ?_
              refine lv_ixor hx hb dX3_turn_117 ?_
              refine lv_aload hx hb dX3_turn_118 (lv_at hl 1 rfl) ?_
              refine lv_iload hx hb dX3_turn_120 (lv_at hl 0 rfl) ?_
              refine g_ialdX (i := 1) (j := i) hx hb hE hPX rfl (by omega) (by omega) (v := gn_ (Ls w) i) (lk_rowQ (R := fun _ => 0) hmr hw i (by omega)) dX3_turn_122 ?_
              have hnb := nm_le hq22
              have hMp34 : g_Mf D σ2 (nI 0) rs sg S2 N2 Z2 R T := ⟨t_20, t_21, t_22, t_23, t_24, t_25, t_26, t_27, t_28, t_29, t_30⟩
              refine g_callVF (y := yX3_insert) (n := 3) (As := [.int (nI w), .int ((fn_ (Ls w) i) ^^^ bits), .int (gn_ (Ls w) i)]) (rest := []) hx hb hml hown hts hE hZ hPX hDX hS hl.1 (m_X3_insert l D hAD σ2 (nI 0) rs sg S2 N2 Z2 R T hMp34 Ls2 w ((fn_ (Ls w) i) ^^^ bits) (gn_ (Ls w) i) hmr2 (by omega) (by rw [hA2]; exact cb_no hvw.1 hnb.1 hnb.2 (by omega)) (by rw [hA2, cb_sz hvw.1 hnb.1 hnb.2 i (by omega)]; omega)) k_X3_104 (ci := 3) (by decide) t_20 rfl rfl rfl rfl rfl ⟨Nat.le_of_ble_eq_true rfl, Nat.le_of_ble_eq_true rfl⟩ (Nat.le_of_ble_eq_true rfl) ⟨by show 0 + 1 + 1 + 0 ≤ 2; omega, by show 0 + (Ls w).length + (Ls w).length + 0 ≤ 48; omega⟩ dX3_turn_123 (fun v36 σ_35 H locs hq hPX hDX hS => ?_)
              have hP := g_xl hPX
              obtain ⟨rfl, hq2⟩ := hq
              refine W.eq (g2 := F0 m 126 ls []) rfl ?_
              obtain ⟨⟨Sn37, Nn37, Qn37, hMn37, hmrn37⟩, hofn37⟩ := hq2
              obtain ⟨k38_20, k38_21, k38_22, k38_23, k38_24, k38_25, k38_26, k38_27, k38_28, k38_29, k38_30⟩ := id hMn37
              have ho39 := g_off.tr ho2 (g_off.wd hofn37 (by decide) (by decide))
              refine lv_iinc (v := nI (i + 1)) (lv' := [(6, .int (nI (i + 1))), (5, .ref q2), (4, .ref q1), (3, .int (nI ((Ls w).length))), (0, .ref (ad_ D 20)), (1, .int (nI w)), (2, .int bits)]) hx hb dX3_turn_126 hl (k := 0) rfl (g_inc i) (by decide) rfl (fun ls hl => ?_)
              refine lv_goto (tgt := 103) hx hb dX3_turn_129 (by decide) ?_
              have hMp40 : g_Mf D σ_35 (nI 0) rs sg Sn37 Nn37 Qn37 R T := ⟨k38_20, k38_21, k38_22, k38_23, k38_24, k38_25, k38_26, k38_27, k38_28, k38_29, k38_30⟩
              exact ih103 (i + 1) σ_35 ((ul_ Ls2 w (st_ (Ls2 w) ((fn_ (Ls w) i) ^^^ bits) (gn_ (Ls w) i)))) Sn37 Nn37 Qn37 (by omega) (by omega) hMp40 hmrn37 (by rw [ul_at, hA2]; rfl) ((ul_ne (by omega)).trans hB2) ho39 _ _ hPX hS ls (lv_sub hl [0, 1, 2, 3, 4, 5, 6] rfl)
        have hMp41 : g_Mf D σ_19 (nI 0) rs sg (upd S w (nI 0)) N Z R T := ⟨hc21, hc22, hc23, hc24, hc25, hc26, hc27, hc28, hc29, hc30, hc31⟩
        exact K103 (((Ls w).length - 0) + 1) 0 σ_19 ((ul_ Ls w [])) (upd S w (nI 0)) N Z (Nat.lt_succ_self _) (Nat.zero_le _) hMp41 ((mr_clear hmr hw)) ul_at ((ul_ne (by omega))) ho32 _ _ hPX hS ls (lv_sub hl [0, 1, 2, 3, 4, 5, 6] rfl)
      · have hb37 := g_eq (a := (Ls w).length) (b := 0) h37 (by omega) (by omega)
        refine lv_aload_n hx hb dX3_turn_40 rfl (lv_at hl 0 rfl) ?_
        refine lv_iconst (v := nI 3) hx hb dX3_turn_41 (by decide) ?_
        have hMp42 : g_Mf D σ_1 (nI 0) rs sg S N Z R T := ⟨hc3, hc4, hc5, hc6, hc7, hc8, hc9, hc10, hc11, hc12, hc13⟩
        refine g_callV0 (y := yX3_no) (n := 1) (As := [.int (nI 3)]) (rest := []) hx hb hml hown hts hE hZ hP hS hl.1 (m_X3_no l D hAD σ_1 (nI 0) rs sg S N Z R T hMp42 (nI 3)) k_X3_98 (ci := 3) (by decide) hc3 rfl rfl rfl rfl rfl ⟨rfl, rfl⟩ ⟨Nat.le_of_ble_eq_true rfl, Nat.le_of_ble_eq_true rfl⟩ (Nat.le_of_ble_eq_true rfl) ⟨Nat.le_of_ble_eq_true rfl, Nat.le_of_ble_eq_true rfl⟩ dX3_turn_42 (fun v43 σ_44 H locs hq hP hS => ?_)
        obtain ⟨rfl, hq2⟩ := hq
        refine W.eq (g2 := F0 m 45 ls [.int (nI 0)]) rfl ?_
        obtain ⟨hMn45, hon45⟩ := hq2
        obtain ⟨k46_20, k46_21, k46_22, k46_23, k46_24, k46_25, k46_26, k46_27, k46_28, k46_29, k46_30⟩ := id hMn45
        have ho47 := g_off.tr ho14 (g_off.wd hon45 (by decide) (by decide))
        have hMp48 : g_Mf D σ_44 (nI 3) rs sg S N Z R T := ⟨k46_20, k46_21, k46_22, k46_23, k46_24, k46_25, k46_26, k46_27, k46_28, k46_29, k46_30⟩
        refine W.widen (k := 2) (n := 48) (by omega) (by omega) ?_
        rw [← hQ]
        exact W.iret (v := nI 0) hx hb hr (fun te9 hte9 _ => g_fin (⟨Or.inr ⟨3, by rw [er_turn, if_pos (ix_of hw (by decide)), if_pos hq22, hwl, if_pos hb37], by decide, rfl, ⟨_, _, _, _, _, _, _, hMp48, hmr⟩⟩, ho47⟩) hP hS hte9) hS.2.2 dX3_turn_45 hlocks
    · have hq22 := g_pp0 h22
      refine lv_aload_n hx hb dX3_turn_25 rfl (lv_at hl 0 rfl) ?_
      refine lv_iconst (v := nI 2) hx hb dX3_turn_26 (by decide) ?_
      have hMp49 : g_Mf D σ_1 (nI 0) rs sg S N Z R T := ⟨hc3, hc4, hc5, hc6, hc7, hc8, hc9, hc10, hc11, hc12, hc13⟩
      refine g_callV0 (y := yX3_no) (n := 1) (As := [.int (nI 2)]) (rest := []) hx hb hml hown hts hE hZ hP hS hl.1 (m_X3_no l D hAD σ_1 (nI 0) rs sg S N Z R T hMp49 (nI 2)) k_X3_98 (ci := 3) (by decide) hc3 rfl rfl rfl rfl rfl ⟨rfl, rfl⟩ ⟨Nat.le_of_ble_eq_true rfl, Nat.le_of_ble_eq_true rfl⟩ (Nat.le_of_ble_eq_true rfl) ⟨Nat.le_of_ble_eq_true rfl, Nat.le_of_ble_eq_true rfl⟩ dX3_turn_27 (fun v50 σ_51 H locs hq hP hS => ?_)
      obtain ⟨rfl, hq2⟩ := hq
      refine W.eq (g2 := F0 m 30 ls [.int (nI 0)]) rfl ?_
      obtain ⟨hMn52, hon52⟩ := hq2
      obtain ⟨k53_20, k53_21, k53_22, k53_23, k53_24, k53_25, k53_26, k53_27, k53_28, k53_29, k53_30⟩ := id hMn52
      have ho54 := g_off.tr ho14 (g_off.wd hon52 (by decide) (by decide))
      have hMp55 : g_Mf D σ_51 (nI 2) rs sg S N Z R T := ⟨k53_20, k53_21, k53_22, k53_23, k53_24, k53_25, k53_26, k53_27, k53_28, k53_29, k53_30⟩
      refine W.widen (k := 2) (n := 48) (by omega) (by omega) ?_
      rw [← hQ]
      exact W.iret (v := nI 0) hx hb hr (fun te9 hte9 _ => g_fin (⟨Or.inr ⟨2, by rw [er_turn, if_pos (ix_of hw (by decide)), if_neg hq22], by decide, rfl, ⟨_, _, _, _, _, _, _, hMp55, hmr⟩⟩, ho54⟩) hP hS hte9) hS.2.2 dX3_turn_30 hlocks
  · have hq9 := g_pp0 h9
    refine lv_aload_n hx hb dX3_turn_12 rfl (lv_at hl 0 rfl) ?_
    refine lv_iconst (v := nI 1) hx hb dX3_turn_13 (by decide) ?_
    have hMp56 : g_Mf D σ_1 (nI 0) rs sg S N Z R T := ⟨hc3, hc4, hc5, hc6, hc7, hc8, hc9, hc10, hc11, hc12, hc13⟩
    refine g_callV0 (y := yX3_no) (n := 1) (As := [.int (nI 1)]) (rest := []) hx hb hml hown hts hE hZ hP hS hl.1 (m_X3_no l D hAD σ_1 (nI 0) rs sg S N Z R T hMp56 (nI 1)) k_X3_98 (ci := 3) (by decide) hc3 rfl rfl rfl rfl rfl ⟨rfl, rfl⟩ ⟨Nat.le_of_ble_eq_true rfl, Nat.le_of_ble_eq_true rfl⟩ (Nat.le_of_ble_eq_true rfl) ⟨Nat.le_of_ble_eq_true rfl, Nat.le_of_ble_eq_true rfl⟩ dX3_turn_14 (fun v57 σ_58 H locs hq hP hS => ?_)
    obtain ⟨rfl, hq2⟩ := hq
    refine W.eq (g2 := F0 m 17 ls [.int (nI 0)]) rfl ?_
    obtain ⟨hMn59, hon59⟩ := hq2
    obtain ⟨k60_20, k60_21, k60_22, k60_23, k60_24, k60_25, k60_26, k60_27, k60_28, k60_29, k60_30⟩ := id hMn59
    have ho61 := g_off.tr ho14 (g_off.wd hon59 (by decide) (by decide))
    have hMp62 : g_Mf D σ_58 (nI 1) rs sg S N Z R T := ⟨k60_20, k60_21, k60_22, k60_23, k60_24, k60_25, k60_26, k60_27, k60_28, k60_29, k60_30⟩
    refine W.widen (k := 2) (n := 48) (by omega) (by omega) ?_
    rw [← hQ]
    exact W.iret (v := nI 0) hx hb hr (fun te9 hte9 _ => g_fin (⟨Or.inr ⟨1, by rw [er_turn, if_neg hq9], by decide, rfl, ⟨_, _, _, _, _, _, _, hMp62, hmr⟩⟩, ho61⟩) hP hS hte9) hS.2.2 dX3_turn_17 hlocks
