abbrev m_X3_makeSigns_rm : Room := { frames := 61, cells := 0, slots := 0, locals := 1525 }
set_option maxHeartbeats 4000000 in
set_option maxRecDepth 100000 in
theorem m_X3_makeSigns (l : Launch) (D : va_G) (hAD : g_AD D) (σ : Nat → va_E) (th sg : Int32) (S N Z R : Nat → Int32) (T : Nat → Nat → Int32) (L : g_L) (hM : g_Mf D σ th (nI L.length) sg S N Z R T) (hv : vL_ L) (h48 : L.length ≤ 48) (hR : ∀ j, j < L.length → R j = fn_ L j) : g_M l D yX3_makeSigns cX3_makeSigns 1 none m_X3_makeSigns_rm [.ref (ad_ D 20)] σ (fun v1 σ1 => v1 = none ∧ (∃ R1 T1, g_Mf D σ1 th (nI (L).length) (nI (zs_ (L).length)) S N Z R1 T1 ∧ (∀ j, j < (L).length → R1 j = fn_ (L) j) ∧ mB_ (fn_ (L)) (L).length T1) ∧ g_off 20 30 σ σ1) := by
  refine g_ofW [(0, .ref (ad_ D 20))] (by decide +kernel) (Nat.le_of_ble_eq_true rfl) rfl ?_
  intro p e s m args below meth c hx hb hr hml hown hlocks hts hE hZ hP hS hnm ls hl
  have hown : s.vm.findClass RX3 = some m.cls := hown
  generalize hQ : MQ _ _ _ _ _ _ _ = Q
  obtain ⟨k20, k21, k22, k23, k24, k25, k26, k27, k28, k29, k30⟩ := id hM
  refine lv_aload_n hx hb dX3_makeSigns_0 rfl (lv_at hl 0 rfl) ?_
  refine lv_iconst (v := nI 0) hx hb dX3_makeSigns_1 (by decide) ?_
  refine g_put hx hb hts hE hown hAD hP hS g_inX3 tyX3 tyX3_ok nmX3 rfl (by decide) k20 6 (by decide) rfl rfl (by decide +kernel) wf_X3_69 (v := nI 0) (Nat.le_of_ble_eq_true rfl) dX3_makeSigns_2 (fun H locs hP hS => ?_)
  obtain ⟨σ_1, hσ2⟩ : ∃ z : Nat → va_E, z = va_up σ 20 (.inr (3, [.int th, .ref (ad_ D 21), .ref (ad_ D 22), .ref (ad_ D 23), .ref (ad_ D 24), .int (nI L.length), .int (nI 0), .ref (ad_ D 25), .ref (ad_ D 26), .ref (ad_ D 27), .ref (ad_ D 28), .ref (ad_ D 29), .ref (ad_ D 30)])) := ⟨_, rfl⟩
  have hP : va_P D vwCl (g_W D σ_1) H := by rw [hσ2]; exact hP
  have hc3 : σ_1 20 = .inr (3, [.int th, .ref (ad_ D 21), .ref (ad_ D 22), .ref (ad_ D 23), .ref (ad_ D 24), .int (nI L.length), .int (nI 0), .ref (ad_ D 25), .ref (ad_ D 26), .ref (ad_ D 27), .ref (ad_ D 28), .ref (ad_ D 29), .ref (ad_ D 30)]) := by rw [hσ2]; exact g_ups
  have hc4 := (by rw [hσ2]; exact g_upn k21 (by decide) : σ_1 21 = .inl (g_cI D, 2, .inl (S)))
  have hc5 := (by rw [hσ2]; exact g_upn k22 (by decide) : σ_1 22 = .inl (g_cI D, 48, .inl (N)))
  have hc6 := (by rw [hσ2]; exact g_upn k23 (by decide) : σ_1 23 = .inl (g_cI D, 48, .inl (Z)))
  have hc7 := (by rw [hσ2]; exact g_upn k24 (by decide) : σ_1 24 = .inl (g_cI D, 48, .inl (R)))
  have hc8 := (by rw [hσ2]; exact g_upn k25 (by decide) : σ_1 25 = .inl (g_cI D, 96, .inl (T 0)))
  have hc9 := (by rw [hσ2]; exact g_upn k26 (by decide) : σ_1 26 = .inl (g_cI D, 96, .inl (T 1)))
  have hc10 := (by rw [hσ2]; exact g_upn k27 (by decide) : σ_1 27 = .inl (g_cI D, 96, .inl (T 2)))
  have hc11 := (by rw [hσ2]; exact g_upn k28 (by decide) : σ_1 28 = .inl (g_cI D, 96, .inl (T 3)))
  have hc12 := (by rw [hσ2]; exact g_upn k29 (by decide) : σ_1 29 = .inl (g_cI D, 96, .inl (T 4)))
  have hc13 := (by rw [hσ2]; exact g_upn k30 (by decide) : σ_1 30 = .inl (g_cI D, 96, .inl (T 5)))
  have ho14 : g_off 20 30 σ σ_1 := by rw [hσ2]; exact g_off.up (g_off.rf (lo := 20) (hi := 30) (σ := σ)) (by decide) (by decide)
  refine lv_aload_n hx hb dX3_makeSigns_5 rfl (lv_at hl 0 rfl) ?_
  refine g_get hx hb hts hE hown hP g_inX3 rfl (by decide) hc3 5 (by decide) rfl wf_X3_79 (v := .int (nI L.length)) rfl dX3_makeSigns_6 ?_
  refine lv_if_le (tgt := 23) hx hb dX3_makeSigns_9 (by decide) (fun h9 => ?_) (fun h9 => ?_)
  · have hb9 := g_le (a := L.length) (b := 0) h9 (by omega) (by omega)
    have hMp15 : g_Mf D σ_1 th (nI L.length) (nI 0) S N Z R T := ⟨hc3, hc4, hc5, hc6, hc7, hc8, hc9, hc10, hc11, hc12, hc13⟩
    have h00 : L.length = 0 := by omega
    rw [← hQ]
    exact W.vret hx hb hr (fun te9 hte9 _ => g_fin (⟨rfl, ⟨_, _, (by rw [h00] at hMp15 ⊢; exact hMp15), hR, (by rw [h00]; intro i nd hi; simp [tr_] at hi)⟩, ho14⟩) hP hS hte9) hS.2.2 dX3_makeSigns_23 hlocks
  · have hb9 := g_nle (a := L.length) (b := 0) h9 (by omega) (by omega)
    refine lv_aload_n hx hb dX3_makeSigns_12 rfl (lv_at hl 0 rfl) ?_
    refine lv_iconst (v := nI 0) hx hb dX3_makeSigns_13 (by decide) ?_
    refine lv_aload_n hx hb dX3_makeSigns_14 rfl (lv_at hl 0 rfl) ?_
    refine g_get hx hb hts hE hown hP g_inX3 rfl (by decide) hc3 5 (by decide) rfl wf_X3_79 (v := .int (nI L.length)) rfl dX3_makeSigns_15 ?_
    refine g_top (y := nI (0 + L.length)) (congrArg nI (by omega)) ?_
    refine lv_iconst (v := nI 0) hx hb dX3_makeSigns_18 (by decide) ?_
    have hMp16 : g_Mf D σ_1 th (nI L.length) (nI 0) S N Z R T := ⟨hc3, hc4, hc5, hc6, hc7, hc8, hc9, hc10, hc11, hc12, hc13⟩
    refine g_callV0 (y := yX3_part) (n := 3) (As := [.int (nI 0), .int (nI (0 + L.length)), .int (nI 0)]) (rest := []) hx hb hml hown hts hE hZ hP hS hl.1 (m_X3_part l D hAD (fn_ L) L.length (gs_of hv) h48 hv.2.1 L.length σ_1 th (nI L.length) 0 S N Z R T 0 L.length 0 hMp16 hR (by omega) (Nat.le_refl _) (by omega) (by omega) (by omega)) k_X3_75 (ci := 3) (by decide) hc3 rfl rfl rfl rfl rfl ⟨rfl, rfl⟩ ⟨by show L.length + 12 + 1 ≤ 61; omega, by show 8 + (6 + 11) + (300 + 25 * L.length) ≤ 1525; omega⟩ (Nat.le_of_ble_eq_true rfl) ⟨Nat.zero_le _, Nat.zero_le _⟩ dX3_makeSigns_19 (fun v17 σ_18 H locs hq hP hS => ?_)
    obtain ⟨rfl, hq2⟩ := hq
    refine W.eq (g2 := F0 m 22 ls [.int (nI 0)]) rfl ?_
    obtain ⟨⟨T2, hM2, hp2, -⟩, ho2⟩ := hq2
    rw [show 0 + (2 * L.length - 1) = zs_ L.length by unfold zs_; split <;> omega] at hM2
    obtain ⟨k19_20, k19_21, k19_22, k19_23, k19_24, k19_25, k19_26, k19_27, k19_28, k19_29, k19_30⟩ := id hM2
    have ho20 := g_off.tr ho14 (g_off.wd ho2 (by decide) (by decide))
    refine lv_pop hx hb dX3_makeSigns_22 rfl ?_
    have hMp21 : g_Mf D σ_18 th (nI L.length) (nI (zs_ L.length)) S N Z R T2 := ⟨k19_20, k19_21, k19_22, k19_23, k19_24, k19_25, k19_26, k19_27, k19_28, k19_29, k19_30⟩
    rw [← hQ]
    exact W.vret hx hb hr (fun te9 hte9 _ => g_fin (⟨rfl, ⟨_, _, hMp21, hR, hp2 0⟩, ho20⟩) hP hS hte9) hS.2.2 dX3_makeSigns_23 hlocks

abbrev m_X3_look_rm : Room := { frames := 62, cells := 0, slots := 0, locals := 1545 }
set_option maxHeartbeats 4000000 in
set_option maxRecDepth 100000 in
theorem m_X3_look (l : Launch) (D : va_G) (hAD : g_AD D) (σ : Nat → va_E) (th rs sg : Int32) (S N Z R : Nat → Int32) (T : Nat → Nat → Int32) (hM : g_Mf D σ th rs sg S N Z R T) (Ls : Nat → g_L) (w : Nat) (hmr : mr_ Ls S N Z) (hw : w ≤ 1) (hvw : vL_ (Ls w)) : g_M l D yX3_look cX3_look 2 none m_X3_look_rm [.ref (ad_ D 20), .int (nI w)] σ (fun v1 σ1 => v1 = none ∧ (∃ R1 T1, g_Mf D σ1 th (nI (Ls w).length) (nI (zs_ (Ls w).length)) S N Z R1 T1 ∧ (∀ j, j < (Ls w).length → R1 j = fn_ (Ls w) j) ∧ mB_ (fn_ (Ls w)) (Ls w).length T1) ∧ g_off 20 30 σ σ1) := by
  refine g_ofW [(0, .ref (ad_ D 20)), (1, .int (nI w))] (by decide +kernel) (Nat.le_of_ble_eq_true rfl) rfl ?_
  intro p e s m args below meth c hx hb hr hml hown hlocks hts hE hZ hP hS hnm ls hl
  have hown : s.vm.findClass RX3 = some m.cls := hown
  generalize hQ : MQ _ _ _ _ _ _ _ = Q
  obtain ⟨k20, k21, k22, k23, k24, k25, k26, k27, k28, k29, k30⟩ := id hM
  have h24w := (hmr w hw).2.1
  refine lv_aload_n hx hb dX3_look_0 rfl (lv_at hl 0 rfl) ?_
  refine lv_aload_n hx hb dX3_look_1 rfl (lv_at hl 0 rfl) ?_
  refine g_get hx hb hts hE hown hP g_inX3 rfl (by decide) k20 1 (by decide) rfl wf_X3_9 (v := .ref (ad_ D 21)) rfl dX3_look_2 ?_
  refine lv_iload_n hx hb dX3_look_5 rfl (lv_at hl 1 rfl) ?_
  refine g_ialdN (j := w) hx hb hE hP (by decide) k21 (by omega) (by decide) (v := nI ((Ls w).length)) (hmr.S (by omega)) dX3_look_6 ?_
  refine g_put hx hb hts hE hown hAD hP hS g_inX3 tyX3 tyX3_ok nmX3 rfl (by decide) k20 5 (by decide) rfl rfl (by decide +kernel) wf_X3_79 (v := nI ((Ls w).length)) (Nat.le_of_ble_eq_true rfl) dX3_look_7 (fun H locs hP hS => ?_)
  obtain ⟨σ_1, hσ2⟩ : ∃ z : Nat → va_E, z = va_up σ 20 (.inr (3, [.int th, .ref (ad_ D 21), .ref (ad_ D 22), .ref (ad_ D 23), .ref (ad_ D 24), .int (nI ((Ls w).length)), .int sg, .ref (ad_ D 25), .ref (ad_ D 26), .ref (ad_ D 27), .ref (ad_ D 28), .ref (ad_ D 29), .ref (ad_ D 30)])) := ⟨_, rfl⟩
  have hP : va_P D vwCl (g_W D σ_1) H := by rw [hσ2]; exact hP
  have hc3 : σ_1 20 = .inr (3, [.int th, .ref (ad_ D 21), .ref (ad_ D 22), .ref (ad_ D 23), .ref (ad_ D 24), .int (nI ((Ls w).length)), .int sg, .ref (ad_ D 25), .ref (ad_ D 26), .ref (ad_ D 27), .ref (ad_ D 28), .ref (ad_ D 29), .ref (ad_ D 30)]) := by rw [hσ2]; exact g_ups
  have hc4 := (by rw [hσ2]; exact g_upn k21 (by decide) : σ_1 21 = .inl (g_cI D, 2, .inl (S)))
  have hc5 := (by rw [hσ2]; exact g_upn k22 (by decide) : σ_1 22 = .inl (g_cI D, 48, .inl (N)))
  have hc6 := (by rw [hσ2]; exact g_upn k23 (by decide) : σ_1 23 = .inl (g_cI D, 48, .inl (Z)))
  have hc7 := (by rw [hσ2]; exact g_upn k24 (by decide) : σ_1 24 = .inl (g_cI D, 48, .inl (R)))
  have hc8 := (by rw [hσ2]; exact g_upn k25 (by decide) : σ_1 25 = .inl (g_cI D, 96, .inl (T 0)))
  have hc9 := (by rw [hσ2]; exact g_upn k26 (by decide) : σ_1 26 = .inl (g_cI D, 96, .inl (T 1)))
  have hc10 := (by rw [hσ2]; exact g_upn k27 (by decide) : σ_1 27 = .inl (g_cI D, 96, .inl (T 2)))
  have hc11 := (by rw [hσ2]; exact g_upn k28 (by decide) : σ_1 28 = .inl (g_cI D, 96, .inl (T 3)))
  have hc12 := (by rw [hσ2]; exact g_upn k29 (by decide) : σ_1 29 = .inl (g_cI D, 96, .inl (T 4)))
  have hc13 := (by rw [hσ2]; exact g_upn k30 (by decide) : σ_1 30 = .inl (g_cI D, 96, .inl (T 5)))
  have ho14 : g_off 20 30 σ σ_1 := by rw [hσ2]; exact g_off.up (g_off.rf (lo := 20) (hi := 30) (σ := σ)) (by decide) (by decide)
  refine lv_aload_n hx hb dX3_look_10 rfl (lv_at hl 0 rfl) ?_
  refine g_get hx hb hts hE hown hP g_inX3 rfl (by decide) hc3 2 (by decide) rfl wf_X3_13 (v := .ref (ad_ D 22)) rfl dX3_look_11 ?_
  refine lv_bipush (v := nI 24) hx hb dX3_look_14 (by decide) ?_
  refine lv_iload_n hx hb dX3_look_16 rfl (lv_at hl 1 rfl) ?_
  refine lv_imul hx hb dX3_look_17 ?_
  refine g_top (y := nI (24 * w)) (pk_mul 24 w) ?_
  refine lv_aload_n hx hb dX3_look_18 rfl (lv_at hl 0 rfl) ?_
  refine g_get hx hb hts hE hown hP g_inX3 rfl (by decide) hc3 4 (by decide) rfl wf_X3_19 (v := .ref (ad_ D 24)) rfl dX3_look_19 ?_
  refine lv_iconst (v := nI 0) hx hb dX3_look_22 (by decide) ?_
  refine lv_aload_n hx hb dX3_look_23 rfl (lv_at hl 0 rfl) ?_
  refine g_get hx hb hts hE hown hP g_inX3 rfl (by decide) hc3 5 (by decide) rfl wf_X3_79 (v := .int (nI ((Ls w).length))) rfl dX3_look_24 ?_
  refine g_copy (sp := 24 * w) (dp := 0) (n := (Ls w).length) hx hb (hml.trans hl.1.symm) hown hts k_X3_59 k_copy hE hAD hP hS (by decide) (by decide) hc5 hc7 ⟨by omega, by omega, by omega⟩ (by omega) (by omega) ⟨Nat.le_of_ble_eq_true rfl, Nat.le_of_ble_eq_true rfl⟩ dX3_look_27 (fun H locs hP hS => ?_)
  obtain ⟨σ_15, hσ16⟩ : ∃ z : Nat → va_E, z = va_up σ_1 24 (.inl (g_cI D, 48, .inl (va_cpy N R (24 * w) 0 ((Ls w).length)))) := ⟨_, rfl⟩
  have hP : va_P D vwCl (g_W D σ_15) H := by rw [hσ16]; exact hP
  have hc17 := (by rw [hσ16]; exact g_upn hc3 (by decide) : σ_15 20 = .inr (3, [.int th, .ref (ad_ D 21), .ref (ad_ D 22), .ref (ad_ D 23), .ref (ad_ D 24), .int (nI ((Ls w).length)), .int sg, .ref (ad_ D 25), .ref (ad_ D 26), .ref (ad_ D 27), .ref (ad_ D 28), .ref (ad_ D 29), .ref (ad_ D 30)]))
  have hc18 := (by rw [hσ16]; exact g_upn hc4 (by decide) : σ_15 21 = .inl (g_cI D, 2, .inl (S)))
  have hc19 := (by rw [hσ16]; exact g_upn hc5 (by decide) : σ_15 22 = .inl (g_cI D, 48, .inl (N)))
  have hc20 := (by rw [hσ16]; exact g_upn hc6 (by decide) : σ_15 23 = .inl (g_cI D, 48, .inl (Z)))
  have hc21 : σ_15 24 = .inl (g_cI D, 48, .inl (va_cpy N R (24 * w) 0 ((Ls w).length))) := by rw [hσ16]; exact g_ups
  have hc22 := (by rw [hσ16]; exact g_upn hc8 (by decide) : σ_15 25 = .inl (g_cI D, 96, .inl (T 0)))
  have hc23 := (by rw [hσ16]; exact g_upn hc9 (by decide) : σ_15 26 = .inl (g_cI D, 96, .inl (T 1)))
  have hc24 := (by rw [hσ16]; exact g_upn hc10 (by decide) : σ_15 27 = .inl (g_cI D, 96, .inl (T 2)))
  have hc25 := (by rw [hσ16]; exact g_upn hc11 (by decide) : σ_15 28 = .inl (g_cI D, 96, .inl (T 3)))
  have hc26 := (by rw [hσ16]; exact g_upn hc12 (by decide) : σ_15 29 = .inl (g_cI D, 96, .inl (T 4)))
  have hc27 := (by rw [hσ16]; exact g_upn hc13 (by decide) : σ_15 30 = .inl (g_cI D, 96, .inl (T 5)))
  have ho28 : g_off 20 30 σ σ_15 := by rw [hσ16]; exact g_off.up ho14 (by decide) (by decide)
  refine lv_aload_n hx hb dX3_look_30 rfl (lv_at hl 0 rfl) ?_
  have hMp29 : g_Mf D σ_15 th (nI ((Ls w).length)) sg S N Z (va_cpy N R (24 * w) 0 ((Ls w).length)) T := ⟨hc17, hc18, hc19, hc20, hc21, hc22, hc23, hc24, hc25, hc26, hc27⟩
  refine g_callV0 (y := yX3_makeSigns) (n := 0) (As := []) (rest := []) hx hb hml hown hts hE hZ hP hS hl.1 (m_X3_makeSigns l D hAD σ_15 th sg S N Z (va_cpy N R (24 * w) 0 ((Ls w).length)) T (Ls w) hMp29 hvw (by omega) (lk_row hmr hw)) k_X3_82 (ci := 3) (by decide) hc17 rfl rfl rfl rfl rfl ⟨rfl, rfl⟩ ⟨Nat.le_of_ble_eq_true rfl, Nat.le_of_ble_eq_true rfl⟩ (Nat.le_of_ble_eq_true rfl) ⟨Nat.le_of_ble_eq_true rfl, Nat.le_of_ble_eq_true rfl⟩ dX3_look_31 (fun v30 σ_31 H locs hq hP hS => ?_)
  obtain ⟨rfl, hq2⟩ := hq
  refine W.eq (g2 := F0 m 34 ls []) rfl ?_
  obtain ⟨⟨Rn32, Tn32, hMn32, hRln32, hTln32⟩, hofn32⟩ := hq2
  obtain ⟨k33_20, k33_21, k33_22, k33_23, k33_24, k33_25, k33_26, k33_27, k33_28, k33_29, k33_30⟩ := id hMn32
  have ho34 := g_off.tr ho28 (g_off.wd hofn32 (by decide) (by decide))
  rw [← hQ]
  exact W.vret hx hb hr (fun te9 hte9 _ => g_fin (⟨rfl, ⟨_, _, hMn32, hRln32, hTln32⟩, ho34⟩) hP hS hte9) hS.2.2 dX3_look_34 hlocks

abbrev m_X3_lookWithout_rm : Room := { frames := 62, cells := 0, slots := 0, locals := 1545 }
set_option maxHeartbeats 4000000 in
set_option maxRecDepth 100000 in
theorem m_X3_lookWithout (l : Launch) (D : va_G) (hAD : g_AD D) (σ : Nat → va_E) (th rs sg : Int32) (S N Z R : Nat → Int32) (T : Nat → Nat → Int32) (hM : g_Mf D σ th rs sg S N Z R T) (Ls : Nat → g_L) (w k : Nat) (hmr : mr_ Ls S N Z) (hw : w ≤ 1) (hvw : vL_ (Ls w)) (hk : k < (Ls w).length) : g_M l D yX3_lookWithout cX3_lookWithout 3 none m_X3_lookWithout_rm [.ref (ad_ D 20), .int (nI w), .int (nI k)] σ (fun v1 σ1 => v1 = none ∧ (∃ R1 T1, g_Mf D σ1 th (nI ((Ls w).eraseIdx k).length) (nI (zs_ ((Ls w).eraseIdx k).length)) S N Z R1 T1 ∧ (∀ j, j < ((Ls w).eraseIdx k).length → R1 j = fn_ ((Ls w).eraseIdx k) j) ∧ mB_ (fn_ ((Ls w).eraseIdx k)) ((Ls w).eraseIdx k).length T1) ∧ g_off 20 30 σ σ1) := by
  refine g_ofW [(0, .ref (ad_ D 20)), (1, .int (nI w)), (2, .int (nI k))] (by decide +kernel) (Nat.le_of_ble_eq_true rfl) rfl ?_
  intro p e s m args below meth c hx hb hr hml hown hlocks hts hE hZ hP hS hnm ls hl
  have hown : s.vm.findClass RX3 = some m.cls := hown
  generalize hQ : MQ _ _ _ _ _ _ _ = Q
  obtain ⟨k20, k21, k22, k23, k24, k25, k26, k27, k28, k29, k30⟩ := id hM
  have h24w := (hmr w hw).2.1
  have hel := List.length_eraseIdx_of_lt hk
  refine lv_aload_n hx hb dX3_lookWithout_0 rfl (lv_at hl 0 rfl) ?_
  refine lv_aload_n hx hb dX3_lookWithout_1 rfl (lv_at hl 0 rfl) ?_
  refine g_get hx hb hts hE hown hP g_inX3 rfl (by decide) k20 1 (by decide) rfl wf_X3_9 (v := .ref (ad_ D 21)) rfl dX3_lookWithout_2 ?_
  refine lv_iload_n hx hb dX3_lookWithout_5 rfl (lv_at hl 1 rfl) ?_
  refine g_ialdN (j := w) hx hb hE hP (by decide) k21 (by omega) (by decide) (v := nI ((Ls w).length)) (hmr.S (by omega)) dX3_lookWithout_6 ?_
  refine lv_iconst (v := nI 1) hx hb dX3_lookWithout_7 (by decide) ?_
  refine lv_isub hx hb dX3_lookWithout_8 ?_
  refine g_top (y := nI (((Ls w).eraseIdx k).length)) ((pk_sub (by omega)).trans (congrArg nI (by omega))) ?_
  refine g_put hx hb hts hE hown hAD hP hS g_inX3 tyX3 tyX3_ok nmX3 rfl (by decide) k20 5 (by decide) rfl rfl (by decide +kernel) wf_X3_79 (v := nI (((Ls w).eraseIdx k).length)) (Nat.le_of_ble_eq_true rfl) dX3_lookWithout_9 (fun H locs hP hS => ?_)
  obtain ⟨σ_1, hσ2⟩ : ∃ z : Nat → va_E, z = va_up σ 20 (.inr (3, [.int th, .ref (ad_ D 21), .ref (ad_ D 22), .ref (ad_ D 23), .ref (ad_ D 24), .int (nI (((Ls w).eraseIdx k).length)), .int sg, .ref (ad_ D 25), .ref (ad_ D 26), .ref (ad_ D 27), .ref (ad_ D 28), .ref (ad_ D 29), .ref (ad_ D 30)])) := ⟨_, rfl⟩
  have hP : va_P D vwCl (g_W D σ_1) H := by rw [hσ2]; exact hP
  have hc3 : σ_1 20 = .inr (3, [.int th, .ref (ad_ D 21), .ref (ad_ D 22), .ref (ad_ D 23), .ref (ad_ D 24), .int (nI (((Ls w).eraseIdx k).length)), .int sg, .ref (ad_ D 25), .ref (ad_ D 26), .ref (ad_ D 27), .ref (ad_ D 28), .ref (ad_ D 29), .ref (ad_ D 30)]) := by rw [hσ2]; exact g_ups
  have hc4 := (by rw [hσ2]; exact g_upn k21 (by decide) : σ_1 21 = .inl (g_cI D, 2, .inl (S)))
  have hc5 := (by rw [hσ2]; exact g_upn k22 (by decide) : σ_1 22 = .inl (g_cI D, 48, .inl (N)))
  have hc6 := (by rw [hσ2]; exact g_upn k23 (by decide) : σ_1 23 = .inl (g_cI D, 48, .inl (Z)))
  have hc7 := (by rw [hσ2]; exact g_upn k24 (by decide) : σ_1 24 = .inl (g_cI D, 48, .inl (R)))
  have hc8 := (by rw [hσ2]; exact g_upn k25 (by decide) : σ_1 25 = .inl (g_cI D, 96, .inl (T 0)))
  have hc9 := (by rw [hσ2]; exact g_upn k26 (by decide) : σ_1 26 = .inl (g_cI D, 96, .inl (T 1)))
  have hc10 := (by rw [hσ2]; exact g_upn k27 (by decide) : σ_1 27 = .inl (g_cI D, 96, .inl (T 2)))
  have hc11 := (by rw [hσ2]; exact g_upn k28 (by decide) : σ_1 28 = .inl (g_cI D, 96, .inl (T 3)))
  have hc12 := (by rw [hσ2]; exact g_upn k29 (by decide) : σ_1 29 = .inl (g_cI D, 96, .inl (T 4)))
  have hc13 := (by rw [hσ2]; exact g_upn k30 (by decide) : σ_1 30 = .inl (g_cI D, 96, .inl (T 5)))
  have ho14 : g_off 20 30 σ σ_1 := by rw [hσ2]; exact g_off.up (g_off.rf (lo := 20) (hi := 30) (σ := σ)) (by decide) (by decide)
  refine lv_aload_n hx hb dX3_lookWithout_12 rfl (lv_at hl 0 rfl) ?_
  refine g_get hx hb hts hE hown hP g_inX3 rfl (by decide) hc3 2 (by decide) rfl wf_X3_13 (v := .ref (ad_ D 22)) rfl dX3_lookWithout_13 ?_
  refine lv_bipush (v := nI 24) hx hb dX3_lookWithout_16 (by decide) ?_
  refine lv_iload_n hx hb dX3_lookWithout_18 rfl (lv_at hl 1 rfl) ?_
  refine lv_imul hx hb dX3_lookWithout_19 ?_
  refine g_top (y := nI (24 * w)) (pk_mul 24 w) ?_
  refine lv_aload_n hx hb dX3_lookWithout_20 rfl (lv_at hl 0 rfl) ?_
  refine g_get hx hb hts hE hown hP g_inX3 rfl (by decide) hc3 4 (by decide) rfl wf_X3_19 (v := .ref (ad_ D 24)) rfl dX3_lookWithout_21 ?_
  refine lv_iconst (v := nI 0) hx hb dX3_lookWithout_24 (by decide) ?_
  refine lv_iload_n hx hb dX3_lookWithout_25 rfl (lv_at hl 2 rfl) ?_
  refine g_copy (sp := 24 * w) (dp := 0) (n := k) hx hb (hml.trans hl.1.symm) hown hts k_X3_59 k_copy hE hAD hP hS (by decide) (by decide) hc5 hc7 ⟨by omega, by omega, by omega⟩ (by omega) (by omega) ⟨Nat.le_of_ble_eq_true rfl, Nat.le_of_ble_eq_true rfl⟩ dX3_lookWithout_26 (fun H locs hP hS => ?_)
  obtain ⟨σ_15, hσ16⟩ : ∃ z : Nat → va_E, z = va_up σ_1 24 (.inl (g_cI D, 48, .inl (va_cpy N R (24 * w) 0 k))) := ⟨_, rfl⟩
  have hP : va_P D vwCl (g_W D σ_15) H := by rw [hσ16]; exact hP
  have hc17 := (by rw [hσ16]; exact g_upn hc3 (by decide) : σ_15 20 = .inr (3, [.int th, .ref (ad_ D 21), .ref (ad_ D 22), .ref (ad_ D 23), .ref (ad_ D 24), .int (nI (((Ls w).eraseIdx k).length)), .int sg, .ref (ad_ D 25), .ref (ad_ D 26), .ref (ad_ D 27), .ref (ad_ D 28), .ref (ad_ D 29), .ref (ad_ D 30)]))
  have hc18 := (by rw [hσ16]; exact g_upn hc4 (by decide) : σ_15 21 = .inl (g_cI D, 2, .inl (S)))
  have hc19 := (by rw [hσ16]; exact g_upn hc5 (by decide) : σ_15 22 = .inl (g_cI D, 48, .inl (N)))
  have hc20 := (by rw [hσ16]; exact g_upn hc6 (by decide) : σ_15 23 = .inl (g_cI D, 48, .inl (Z)))
  have hc21 : σ_15 24 = .inl (g_cI D, 48, .inl (va_cpy N R (24 * w) 0 k)) := by rw [hσ16]; exact g_ups
  have hc22 := (by rw [hσ16]; exact g_upn hc8 (by decide) : σ_15 25 = .inl (g_cI D, 96, .inl (T 0)))
  have hc23 := (by rw [hσ16]; exact g_upn hc9 (by decide) : σ_15 26 = .inl (g_cI D, 96, .inl (T 1)))
  have hc24 := (by rw [hσ16]; exact g_upn hc10 (by decide) : σ_15 27 = .inl (g_cI D, 96, .inl (T 2)))
  have hc25 := (by rw [hσ16]; exact g_upn hc11 (by decide) : σ_15 28 = .inl (g_cI D, 96, .inl (T 3)))
  have hc26 := (by rw [hσ16]; exact g_upn hc12 (by decide) : σ_15 29 = .inl (g_cI D, 96, .inl (T 4)))
  have hc27 := (by rw [hσ16]; exact g_upn hc13 (by decide) : σ_15 30 = .inl (g_cI D, 96, .inl (T 5)))
  have ho28 : g_off 20 30 σ σ_15 := by rw [hσ16]; exact g_off.up ho14 (by decide) (by decide)
  refine lv_aload_n hx hb dX3_lookWithout_29 rfl (lv_at hl 0 rfl) ?_
  refine g_get hx hb hts hE hown hP g_inX3 rfl (by decide) hc17 2 (by decide) rfl wf_X3_13 (v := .ref (ad_ D 22)) rfl dX3_lookWithout_30 ?_
  refine lv_bipush (v := nI 24) hx hb dX3_lookWithout_33 (by decide) ?_
  refine lv_iload_n hx hb dX3_lookWithout_35 rfl (lv_at hl 1 rfl) ?_
  refine lv_imul hx hb dX3_lookWithout_36 ?_
  refine g_top (y := nI (24 * w)) (pk_mul 24 w) ?_
  refine lv_iload_n hx hb dX3_lookWithout_37 rfl (lv_at hl 2 rfl) ?_
  refine lv_iadd hx hb dX3_lookWithout_38 ?_
  refine g_top (y := nI ((24 * w) + k)) (nI_add (24 * w) k) ?_
  refine lv_iconst (v := nI 1) hx hb dX3_lookWithout_39 (by decide) ?_
  refine lv_iadd hx hb dX3_lookWithout_40 ?_
  refine g_top (y := nI (((24 * w) + k) + 1)) (nI_add ((24 * w) + k) 1) ?_
  refine lv_aload_n hx hb dX3_lookWithout_41 rfl (lv_at hl 0 rfl) ?_
  refine g_get hx hb hts hE hown hP g_inX3 rfl (by decide) hc17 4 (by decide) rfl wf_X3_19 (v := .ref (ad_ D 24)) rfl dX3_lookWithout_42 ?_
  refine lv_iload_n hx hb dX3_lookWithout_45 rfl (lv_at hl 2 rfl) ?_
  refine lv_aload_n hx hb dX3_lookWithout_46 rfl (lv_at hl 0 rfl) ?_
  refine g_get hx hb hts hE hown hP g_inX3 rfl (by decide) hc17 5 (by decide) rfl wf_X3_79 (v := .int (nI (((Ls w).eraseIdx k).length))) rfl dX3_lookWithout_47 ?_
  refine lv_iload_n hx hb dX3_lookWithout_50 rfl (lv_at hl 2 rfl) ?_
  refine lv_isub hx hb dX3_lookWithout_51 ?_
  refine g_top (y := nI ((((Ls w).eraseIdx k).length) - k)) (pk_sub (by omega)) ?_
  refine g_copy (sp := ((24 * w) + k) + 1) (dp := k) (n := (((Ls w).eraseIdx k).length) - k) hx hb (hml.trans hl.1.symm) hown hts k_X3_59 k_copy hE hAD hP hS (by decide) (by decide) hc19 hc21 ⟨by omega, by omega, by omega⟩ (by omega) (by omega) ⟨Nat.le_of_ble_eq_true rfl, Nat.le_of_ble_eq_true rfl⟩ dX3_lookWithout_52 (fun H locs hP hS => ?_)
  obtain ⟨σ_29, hσ30⟩ : ∃ z : Nat → va_E, z = va_up σ_15 24 (.inl (g_cI D, 48, .inl (va_cpy N (va_cpy N R (24 * w) 0 k) (((24 * w) + k) + 1) k ((((Ls w).eraseIdx k).length) - k)))) := ⟨_, rfl⟩
  have hP : va_P D vwCl (g_W D σ_29) H := by rw [hσ30]; exact hP
  have hc31 := (by rw [hσ30]; exact g_upn hc17 (by decide) : σ_29 20 = .inr (3, [.int th, .ref (ad_ D 21), .ref (ad_ D 22), .ref (ad_ D 23), .ref (ad_ D 24), .int (nI (((Ls w).eraseIdx k).length)), .int sg, .ref (ad_ D 25), .ref (ad_ D 26), .ref (ad_ D 27), .ref (ad_ D 28), .ref (ad_ D 29), .ref (ad_ D 30)]))
  have hc32 := (by rw [hσ30]; exact g_upn hc18 (by decide) : σ_29 21 = .inl (g_cI D, 2, .inl (S)))
  have hc33 := (by rw [hσ30]; exact g_upn hc19 (by decide) : σ_29 22 = .inl (g_cI D, 48, .inl (N)))
  have hc34 := (by rw [hσ30]; exact g_upn hc20 (by decide) : σ_29 23 = .inl (g_cI D, 48, .inl (Z)))
  have hc35 : σ_29 24 = .inl (g_cI D, 48, .inl (va_cpy N (va_cpy N R (24 * w) 0 k) (((24 * w) + k) + 1) k ((((Ls w).eraseIdx k).length) - k))) := by rw [hσ30]; exact g_ups
  have hc36 := (by rw [hσ30]; exact g_upn hc22 (by decide) : σ_29 25 = .inl (g_cI D, 96, .inl (T 0)))
  have hc37 := (by rw [hσ30]; exact g_upn hc23 (by decide) : σ_29 26 = .inl (g_cI D, 96, .inl (T 1)))
  have hc38 := (by rw [hσ30]; exact g_upn hc24 (by decide) : σ_29 27 = .inl (g_cI D, 96, .inl (T 2)))
  have hc39 := (by rw [hσ30]; exact g_upn hc25 (by decide) : σ_29 28 = .inl (g_cI D, 96, .inl (T 3)))
  have hc40 := (by rw [hσ30]; exact g_upn hc26 (by decide) : σ_29 29 = .inl (g_cI D, 96, .inl (T 4)))
  have hc41 := (by rw [hσ30]; exact g_upn hc27 (by decide) : σ_29 30 = .inl (g_cI D, 96, .inl (T 5)))
  have ho42 : g_off 20 30 σ σ_29 := by rw [hσ30]; exact g_off.up ho28 (by decide) (by decide)
  refine lv_aload_n hx hb dX3_lookWithout_55 rfl (lv_at hl 0 rfl) ?_
  have hMp43 : g_Mf D σ_29 th (nI (((Ls w).eraseIdx k).length)) sg S N Z (va_cpy N (va_cpy N R (24 * w) 0 k) (((24 * w) + k) + 1) k ((((Ls w).eraseIdx k).length) - k)) T := ⟨hc31, hc32, hc33, hc34, hc35, hc36, hc37, hc38, hc39, hc40, hc41⟩
  refine g_callV0 (y := yX3_makeSigns) (n := 0) (As := []) (rest := []) hx hb hml hown hts hE hZ hP hS hl.1 (m_X3_makeSigns l D hAD σ_29 th sg S N Z (va_cpy N (va_cpy N R (24 * w) 0 k) (((24 * w) + k) + 1) k ((((Ls w).eraseIdx k).length) - k)) T ((Ls w).eraseIdx k) hMp43 (vL_er hvw) (by omega) (lk_row2 hmr hw hk)) k_X3_82 (ci := 3) (by decide) hc31 rfl rfl rfl rfl rfl ⟨rfl, rfl⟩ ⟨Nat.le_of_ble_eq_true rfl, Nat.le_of_ble_eq_true rfl⟩ (Nat.le_of_ble_eq_true rfl) ⟨Nat.le_of_ble_eq_true rfl, Nat.le_of_ble_eq_true rfl⟩ dX3_lookWithout_56 (fun v44 σ_45 H locs hq hP hS => ?_)
  obtain ⟨rfl, hq2⟩ := hq
  refine W.eq (g2 := F0 m 59 ls []) rfl ?_
  obtain ⟨⟨Rn46, Tn46, hMn46, hRln46, hTln46⟩, hofn46⟩ := hq2
  obtain ⟨k47_20, k47_21, k47_22, k47_23, k47_24, k47_25, k47_26, k47_27, k47_28, k47_29, k47_30⟩ := id hMn46
  have ho48 := g_off.tr ho42 (g_off.wd hofn46 (by decide) (by decide))
  rw [← hQ]
  exact W.vret hx hb hr (fun te9 hte9 _ => g_fin (⟨rfl, ⟨_, _, hMn46, hRln46, hTln46⟩, ho48⟩) hP hS hte9) hS.2.2 dX3_lookWithout_59 hlocks
