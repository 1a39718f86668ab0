abbrev m_X2_count_rm : Room := { frames := 13, cells := 5, slots := 30, locals := 323 }
set_option maxHeartbeats 4000000 in
set_option maxRecDepth 100000 in
theorem m_X2_count (l : Launch) (hst : l.stackTraces = false) (D : va_G) (hAD : g_AD D) (σ : Nat → va_E) (Ls : Nat → g_L) (wood what : Int32) (hC : g_C D σ Ls) (hvC : vC_ Ls) : g_X l D yX2_count cX2_count 4 (some .int) m_X2_count_rm [.ref (ad_ D 0), .int wood, .int what] σ (fun v1 σ1 => er_count wood what = 0 ∧ (∃ w t, w ≤ 1 ∧ wood = nI w ∧ t ≤ 6 ∧ what = nI t ∧ v1 = some (.int (cn_ (Ls w) t)) ∧ g_C D σ1 Ls) ∧ g_off 0 19 σ σ1) (fun E => (er_count wood what = 1 ∧ E = g_E0)) := by
  refine g_ofX [(0, .ref (ad_ D 0)), (1, .int wood), (2, .int what)] (by decide +kernel) (Nat.le_of_ble_eq_true rfl) rfl ?_
  intro p e s m args below meth c hx hb hr hml hown hlocks hts hE hZ hP hS htab ls hl
  have hown : s.vm.findClass RX2 = some m.cls := hown
  generalize hQ : vx_MQ _ _ _ _ _ _ _ _ = Q
  obtain ⟨hc0, hcA, hcB, ⟨Lc, hcBo⟩, sz, T, hG⟩ := id hC
  refine lv_iload_n hx hb dX2_count_0 rfl (lv_at hl 1 rfl) ?_
  refine g_callSX (y := yX2_checkWood) (n := 1) (As := [.int wood]) (rest := []) hx hb hml hown hts hE hZ hP hS hl.1 (m_X2_checkWood l hst D hAD σ (wood)) k_X2_29 rfl rfl ⟨Nat.le_of_ble_eq_true rfl, Nat.le_of_ble_eq_true rfl⟩ (Nat.le_of_ble_eq_true rfl) ⟨Nat.le_of_ble_eq_true rfl, Nat.le_of_ble_eq_true rfl⟩ dX2_count_1 (fun E ce q9 H locs hq hP hS hc9 hv9 hk9 => ?_) (fun v1 σ_2 H locs hq hP hS => ?_)
  · rw [← hQ]
    exact g_out htab hlocks (⟨by rw [er_count, if_neg (fun q => hq.2 q.1)], hq.1⟩) hP hS hc9 hv9 hk9 (Nat.le_of_ble_eq_true rfl) (Nat.le_of_ble_eq_true rfl)
  obtain ⟨rfl, rfl, hx1⟩ := hq
  refine W.eq (g2 := F0 m 4 ls []) rfl ?_
  refine W.widen (k := 2) (n := 12) (Nat.le_of_ble_eq_true rfl) (Nat.le_of_ble_eq_true rfl) ?_
  obtain ⟨w, hw, rfl⟩ := ix_nat hx1 (by decide)
  obtain ⟨Fw, Gw, hVw⟩ := hC.wood hw
  have hvw := hvC w hw
  have hwl : wl_ Ls (nI w) = Ls w := wl_n hw
  have hot : ot_ Ls (nI w) = Ls (1 - w) := ot_n hw
  refine lv_iload_n hx hb dX2_count_4 rfl (lv_at hl 2 rfl) ?_
  refine lv_bipush (v := nI 6) hx hb dX2_count_5 (by decide) ?_
  refine g_callSX (y := yX2_checkIndex) (n := 2) (As := [.int what, .int (nI 6)]) (rest := []) hx hb hml hown hts hE hZ hP hS hl.1 (m_X2_checkIndex l hst D hAD σ (what) (nI 6)) k_X2_67 rfl rfl ⟨Nat.le_of_ble_eq_true rfl, Nat.le_of_ble_eq_true rfl⟩ (Nat.le_of_ble_eq_true rfl) ⟨Nat.le_of_ble_eq_true rfl, Nat.le_of_ble_eq_true rfl⟩ dX2_count_7 (fun E ce q9 H locs hq hP hS hc9 hv9 hk9 => ?_) (fun v3 σ_4 H locs hq hP hS => ?_)
  · rw [← hQ]
    exact g_out htab hlocks (⟨by rw [er_count, if_neg (fun q => hq.2 q.2)], hq.1⟩) hP hS hc9 hv9 hk9 (Nat.le_of_ble_eq_true rfl) (Nat.le_of_ble_eq_true rfl)
  obtain ⟨rfl, rfl, hx7⟩ := hq
  refine W.eq (g2 := F0 m 10 ls []) rfl ?_
  refine W.widen (k := 3) (n := 18) (Nat.le_of_ble_eq_true rfl) (Nat.le_of_ble_eq_true rfl) ?_
  obtain ⟨t, ht3, rfl⟩ := ix_nat hx7 (by decide)
  refine lv_aload_n hx hb dX2_count_10 rfl (lv_at hl 0 rfl) ?_
  refine lv_iload_n hx hb dX2_count_11 rfl (lv_at hl 1 rfl) ?_
  refine g_callV0 (y := yX2_villagesOf) (n := 1) (As := [.int (nI w)]) (rest := []) hx hb hml hown hts hE hZ hP hS hl.1 (m_X2_villagesOf l D hAD σ w hw hc0) k_X2_39 (ci := 2) (by decide) hc0 rfl rfl rfl rfl rfl ⟨rfl, rfl⟩ ⟨Nat.le_of_ble_eq_true rfl, Nat.le_of_ble_eq_true rfl⟩ (Nat.le_of_ble_eq_true rfl) ⟨Nat.le_of_ble_eq_true rfl, Nat.le_of_ble_eq_true rfl⟩ dX2_count_12 (fun v5 σ_6 H locs hq hP hS => ?_)
  obtain ⟨rfl, rfl⟩ := hq
  refine W.eq (g2 := F0 m 15 ls [.ref (ad_ D (1 + 3 * w))]) rfl ?_
  refine lv_astore_n (lv' := [(3, .ref (ad_ D (1 + 3 * w))), (0, .ref (ad_ D 0)), (1, .int (nI w)), (2, .int (nI t))]) hx hb dX2_count_15 rfl hl (by decide) rfl (fun ls hl => ?_)
  refine lv_aload_n hx hb dX2_count_16 rfl (lv_at hl 1 rfl) ?_
  refine g_get hx hb hts hE hown hP g_inX2 rfl (by decide) hc0 3 (by decide) rfl wf_X2_25 (v := .ref (ad_ D 10)) rfl dX2_count_17 ?_
  refine lv_aload_n hx hb dX2_count_20 rfl (lv_at hl 0 rfl) ?_
  refine g_callV0 (y := yX0_fill) (n := 1) (As := [.ref (ad_ D (1 + 3 * w))]) (rest := []) hx hb hml hown hts hE hZ hP hS hl.1 (m_X0_fill l D hAD σ sz T hG (1 + 3 * w) (Ls w) Fw Gw hVw (by omega) (gs_of hvw.1)) k_X2_104 (ci := 0) (by decide) hG.1 rfl rfl rfl rfl rfl ⟨rfl, rfl⟩ ⟨Nat.le_of_ble_eq_true rfl, Nat.le_of_ble_eq_true rfl⟩ (Nat.le_of_ble_eq_true rfl) ⟨Nat.le_of_ble_eq_true rfl, Nat.le_of_ble_eq_true rfl⟩ dX2_count_21 (fun v7 σ_8 H locs hq hP hS => ?_)
  obtain ⟨rfl, hq2⟩ := hq
  refine W.eq (g2 := F0 m 24 ls []) rfl ?_
  obtain ⟨⟨Tf9, hGf10, hTB11⟩, hof12⟩ := hq2
  have hV13 := g_VF.off hVw hof12 (by omega)
  have ho14 := g_off.tr (g_off.rf (lo := 0) (hi := 19) (σ := σ)) (g_off.wd hof12 (by omega) (by omega))
  have hc15 := g_off.at0 hof12 hc0 (by omega)
  refine lv_aload_n hx hb dX2_count_24 rfl (lv_at hl 0 rfl) ?_
  refine lv_aload_n hx hb dX2_count_25 rfl (lv_at hl 1 rfl) ?_
  refine g_get hx hb hts hE hown hP g_inX2 rfl (by decide) hc15 3 (by decide) rfl wf_X2_25 (v := .ref (ad_ D 10)) rfl dX2_count_26 ?_
  refine lv_iload_n hx hb dX2_count_29 rfl (lv_at hl 3 rfl) ?_
  refine g_callS0 (y := yX2_countOf) (n := 3) (As := [.ref (ad_ D (1 + 3 * w)), .ref (ad_ D 10), .int (nI t)]) (rest := []) hx hb hml hown hts hE hZ hP hS hl.1 (m_X2_countOf l D hAD σ_8 (1 + 3 * w) (Ls w) Fw Gw Tf9 t hV13 hGf10 hTB11 hvw.1 (by omega)) k_X2_107 rfl rfl ⟨rfl, rfl⟩ ⟨Nat.le_of_ble_eq_true rfl, Nat.le_of_ble_eq_true rfl⟩ (Nat.le_of_ble_eq_true rfl) ⟨Nat.le_of_ble_eq_true rfl, Nat.le_of_ble_eq_true rfl⟩ dX2_count_30 (fun v16 σ_17 H locs hq hP hS => ?_)
  obtain ⟨rfl, rfl⟩ := hq
  refine W.eq (g2 := F0 m 33 ls [.int (cn_ (Ls w) t)]) rfl ?_
  refine W.widen (k := 5) (n := 30) (by omega) (by omega) ?_
  rw [← hQ]
  refine vx_ret ?_
  exact W.iret (v := cn_ (Ls w) t) hx hb hr (fun te9 hte9 _ => g_fin (⟨by rw [er_count, if_pos ⟨ix_of hw (by decide), ix_of ht3 (by decide)⟩], ⟨w, t, hw, rfl, ht3, rfl, rfl, hC.signs hof12 hGf10⟩, ho14⟩) hP hS hte9) hS.2.2 dX2_count_33 hlocks

abbrev m_X2_sign_rm : Room := { frames := 13, cells := 5, slots := 30, locals := 323 }
set_option maxHeartbeats 4000000 in
set_option maxRecDepth 100000 in
theorem m_X2_sign (l : Launch) (hst : l.stackTraces = false) (D : va_G) (hAD : g_AD D) (σ : Nat → va_E) (Ls : Nat → g_L) (wood place what : Int32) (hC : g_C D σ Ls) (hvC : vC_ Ls) : g_Y l D yX2_sign cX2_sign 4 (some .int) m_X2_sign_rm [.ref (ad_ D 0), .int wood, .int place, .int what] σ (fun v1 σ1 => er_sign Ls wood place what = 0 ∧ (∃ w p t, w ≤ 1 ∧ wood = nI w ∧ p < zs_ (Ls w).length ∧ place = nI p ∧ t ≤ 6 ∧ what = nI t ∧ v1 = some (.int (tel_ (tb_ (Ls w)) t p)) ∧ g_C D σ1 Ls) ∧ g_off 0 19 σ σ1) (fun E σ1 => er_sign Ls wood place what = 1 ∧ E = g_E0 ∧ g_C D σ1 Ls ∧ g_off 0 19 σ σ1) := by
  refine g_ofY [(0, .ref (ad_ D 0)), (1, .int wood), (2, .int place), (3, .int what)] (by decide +kernel) (Nat.le_of_ble_eq_true rfl) rfl ?_
  intro p e s m args below meth c hx hb hr hml hown hlocks hts hE hZ hP hS htab ls hl
  have hown : s.vm.findClass RX2 = some m.cls := hown
  generalize hQ : vx_MQ _ _ _ _ _ _ _ _ = Q
  obtain ⟨hc0, hcA, hcB, ⟨Lc, hcBo⟩, sz, T, hG⟩ := id hC
  refine lv_iload_n hx hb dX2_sign_0 rfl (lv_at hl 1 rfl) ?_
  refine g_callSX (y := yX2_checkWood) (n := 1) (As := [.int wood]) (rest := []) hx hb hml hown hts hE hZ hP hS hl.1 (m_X2_checkWood l hst D hAD σ (wood)) k_X2_29 rfl rfl ⟨Nat.le_of_ble_eq_true rfl, Nat.le_of_ble_eq_true rfl⟩ (Nat.le_of_ble_eq_true rfl) ⟨Nat.le_of_ble_eq_true rfl, Nat.le_of_ble_eq_true rfl⟩ dX2_sign_1 (fun E ce q9 H locs hq hP hS hc9 hv9 hk9 => ?_) (fun v1 σ_2 H locs hq hP hS => ?_)
  · rw [← hQ]
    exact g_outY htab hlocks (⟨by rw [er_sign, if_neg (fun q => hq.2 q.1)], hq.1, hC, g_off.rf⟩) hP hS hc9 hv9 hk9 (Nat.le_of_ble_eq_true rfl) (Nat.le_of_ble_eq_true rfl)
  obtain ⟨rfl, rfl, hx1⟩ := hq
  refine W.eq (g2 := F0 m 4 ls []) rfl ?_
  refine W.widen (k := 2) (n := 12) (Nat.le_of_ble_eq_true rfl) (Nat.le_of_ble_eq_true rfl) ?_
  obtain ⟨w, hw, rfl⟩ := ix_nat hx1 (by decide)
  obtain ⟨Fw, Gw, hVw⟩ := hC.wood hw
  have hvw := hvC w hw
  have hwl : wl_ Ls (nI w) = Ls w := wl_n hw
  have hot : ot_ Ls (nI w) = Ls (1 - w) := ot_n hw
  refine lv_aload_n hx hb dX2_sign_4 rfl (lv_at hl 0 rfl) ?_
  refine g_get hx hb hts hE hown hP g_inX2 rfl (by decide) hc0 3 (by decide) rfl wf_X2_25 (v := .ref (ad_ D 10)) rfl dX2_sign_5 ?_
  refine lv_aload_n hx hb dX2_sign_8 rfl (lv_at hl 0 rfl) ?_
  refine lv_iload_n hx hb dX2_sign_9 rfl (lv_at hl 1 rfl) ?_
  refine g_callV0 (y := yX2_villagesOf) (n := 1) (As := [.int (nI w)]) (rest := [.ref (ad_ D 10)]) hx hb hml hown hts hE hZ hP hS hl.1 (m_X2_villagesOf l D hAD σ w hw hc0) k_X2_39 (ci := 2) (by decide) hc0 rfl rfl rfl rfl rfl ⟨rfl, rfl⟩ ⟨Nat.le_of_ble_eq_true rfl, Nat.le_of_ble_eq_true rfl⟩ (Nat.le_of_ble_eq_true rfl) ⟨Nat.le_of_ble_eq_true rfl, Nat.le_of_ble_eq_true rfl⟩ dX2_sign_10 (fun v3 σ_4 H locs hq hP hS => ?_)
  obtain ⟨rfl, rfl⟩ := hq
  refine W.eq (g2 := F0 m 13 ls [.ref (ad_ D (1 + 3 * w)), .ref (ad_ D 10)]) rfl ?_
  refine g_callV0 (y := yX0_fill) (n := 1) (As := [.ref (ad_ D (1 + 3 * w))]) (rest := []) hx hb hml hown hts hE hZ hP hS hl.1 (m_X0_fill l D hAD σ sz T hG (1 + 3 * w) (Ls w) Fw Gw hVw (by omega) (gs_of hvw.1)) k_X2_104 (ci := 0) (by decide) hG.1 rfl rfl rfl rfl rfl ⟨rfl, rfl⟩ ⟨Nat.le_of_ble_eq_true rfl, Nat.le_of_ble_eq_true rfl⟩ (Nat.le_of_ble_eq_true rfl) ⟨Nat.le_of_ble_eq_true rfl, Nat.le_of_ble_eq_true rfl⟩ dX2_sign_13 (fun v5 σ_6 H locs hq hP hS => ?_)
  obtain ⟨rfl, hq2⟩ := hq
  refine W.eq (g2 := F0 m 16 ls []) rfl ?_
  obtain ⟨⟨Tf7, hGf8, hTB9⟩, hof10⟩ := hq2
  have hV11 := g_VF.off hVw hof10 (by omega)
  have ho12 := g_off.tr (g_off.rf (lo := 0) (hi := 19) (σ := σ)) (g_off.wd hof10 (by omega) (by omega))
  have hc13 := g_off.at0 hof10 hc0 (by omega)
  refine lv_iload_n hx hb dX2_sign_16 rfl (lv_at hl 2 rfl) ?_
  refine lv_aload_n hx hb dX2_sign_17 rfl (lv_at hl 0 rfl) ?_
  refine g_get hx hb hts hE hown hP g_inX2 rfl (by decide) hc13 3 (by decide) rfl wf_X2_25 (v := .ref (ad_ D 10)) rfl dX2_sign_18 ?_
  refine g_callV0 (y := yX0_size) (n := 0) (As := []) (rest := [.int place]) hx hb hml hown hts hE hZ hP hS hl.1 (m_X0_size l D hAD σ_6 (zs_ (List.length (Ls w))) Tf7 hGf8) k_X2_111 (ci := 0) (by decide) hGf8.1 rfl rfl rfl rfl rfl ⟨rfl, rfl⟩ ⟨Nat.le_of_ble_eq_true rfl, Nat.le_of_ble_eq_true rfl⟩ (Nat.le_of_ble_eq_true rfl) ⟨Nat.le_of_ble_eq_true rfl, Nat.le_of_ble_eq_true rfl⟩ dX2_sign_21 (fun v14 σ_15 H locs hq hP hS => ?_)
  obtain ⟨rfl, rfl⟩ := hq
  refine W.eq (g2 := F0 m 24 ls [.int (nI (zs_ (List.length (Ls w)))), .int place]) rfl ?_
  refine lv_iconst (v := nI 1) hx hb dX2_sign_24 (by decide) ?_
  refine lv_isub hx hb dX2_sign_25 ?_
  refine g_callSX (y := yX2_checkIndex) (n := 2) (As := [.int place, .int ((nI (zs_ (List.length (Ls w)))) - (nI 1))]) (rest := []) hx hb hml hown hts hE hZ hP hS hl.1 (m_X2_checkIndex l hst D hAD σ_6 (place) ((nI (zs_ (List.length (Ls w)))) - (nI 1))) k_X2_67 rfl rfl ⟨Nat.le_of_ble_eq_true rfl, Nat.le_of_ble_eq_true rfl⟩ (Nat.le_of_ble_eq_true rfl) ⟨Nat.le_of_ble_eq_true rfl, Nat.le_of_ble_eq_true rfl⟩ dX2_sign_26 (fun E ce q9 H locs hq hP hS hc9 hv9 hk9 => ?_) (fun v16 σ_17 H locs hq hP hS => ?_)
  · rw [← hQ]
    exact g_outY htab hlocks (⟨by rw [er_sign, hwl, if_neg (fun q => hq.2 q.2.1)], hq.1, hC.signs hof10 hGf8, ho12⟩) hP hS hc9 hv9 hk9 (Nat.le_of_ble_eq_true rfl) (Nat.le_of_ble_eq_true rfl)
  obtain ⟨rfl, rfl, hx26⟩ := hq
  refine W.eq (g2 := F0 m 29 ls []) rfl ?_
  refine W.widen (k := 3) (n := 18) (Nat.le_of_ble_eq_true rfl) (Nat.le_of_ble_eq_true rfl) ?_
  have hsg := hx26
  have hz95 := zs_le (show (Ls w).length ≤ 48 by have := hvw.2; omega)
  obtain ⟨p9, hp9, rfl⟩ := sz_ix (by omega) hx26
  refine lv_iload_n hx hb dX2_sign_29 rfl (lv_at hl 3 rfl) ?_
  refine lv_bipush (v := nI 6) hx hb dX2_sign_30 (by decide) ?_
  refine g_callSX (y := yX2_checkIndex) (n := 2) (As := [.int what, .int (nI 6)]) (rest := []) hx hb hml hown hts hE hZ hP hS hl.1 (m_X2_checkIndex l hst D hAD σ_6 (what) (nI 6)) k_X2_67 rfl rfl ⟨Nat.le_of_ble_eq_true rfl, Nat.le_of_ble_eq_true rfl⟩ (Nat.le_of_ble_eq_true rfl) ⟨Nat.le_of_ble_eq_true rfl, Nat.le_of_ble_eq_true rfl⟩ dX2_sign_32 (fun E ce q9 H locs hq hP hS hc9 hv9 hk9 => ?_) (fun v18 σ_19 H locs hq hP hS => ?_)
  · rw [← hQ]
    exact g_outY htab hlocks (⟨by rw [er_sign, hwl, if_neg (fun q => hq.2 q.2.2)], hq.1, hC.signs hof10 hGf8, ho12⟩) hP hS hc9 hv9 hk9 (Nat.le_of_ble_eq_true rfl) (Nat.le_of_ble_eq_true rfl)
  obtain ⟨rfl, rfl, hx32⟩ := hq
  refine W.eq (g2 := F0 m 35 ls []) rfl ?_
  refine W.widen (k := 4) (n := 24) (Nat.le_of_ble_eq_true rfl) (Nat.le_of_ble_eq_true rfl) ?_
  obtain ⟨t, ht3, rfl⟩ := ix_nat hx32 (by decide)
  refine lv_aload_n hx hb dX2_sign_35 rfl (lv_at hl 0 rfl) ?_
  refine g_get hx hb hts hE hown hP g_inX2 rfl (by decide) hc13 3 (by decide) rfl wf_X2_25 (v := .ref (ad_ D 10)) rfl dX2_sign_36 ?_
  refine lv_iload_n hx hb dX2_sign_39 rfl (lv_at hl 2 rfl) ?_
  refine lv_iload_n hx hb dX2_sign_40 rfl (lv_at hl 3 rfl) ?_
  refine g_callV0 (y := yX0_tell) (n := 2) (As := [.int (nI p9), .int (nI t)]) (rest := []) hx hb hml hown hts hE hZ hP hS hl.1 (m_X0_tell l D hAD σ_6 (zs_ (List.length (Ls w))) Tf7 hGf8 p9 t (by omega) (by omega)) k_X2_112 (ci := 0) (by decide) hGf8.1 rfl rfl rfl rfl rfl ⟨rfl, rfl⟩ ⟨Nat.le_of_ble_eq_true rfl, Nat.le_of_ble_eq_true rfl⟩ (Nat.le_of_ble_eq_true rfl) ⟨Nat.le_of_ble_eq_true rfl, Nat.le_of_ble_eq_true rfl⟩ dX2_sign_41 (fun v20 σ_21 H locs hq hP hS => ?_)
  obtain ⟨rfl, rfl⟩ := hq
  refine W.eq (g2 := F0 m 44 ls [.int (tel_ Tf7 t p9)]) rfl ?_
  refine g_top (y := tel_ (tb_ (Ls w)) t p9) (tel_cg hp9 (tB_eq hvw.1 hTB9) t) ?_
  refine W.widen (k := 5) (n := 30) (by omega) (by omega) ?_
  rw [← hQ]
  refine vx_ret ?_
  exact W.iret (v := tel_ (tb_ (Ls w)) t p9) hx hb hr (fun te9 hte9 _ => g_fin (⟨by rw [er_sign, hwl, if_pos ⟨ix_of hw (by decide), hsg, ix_of ht3 (by decide)⟩], ⟨w, p9, t, hw, rfl, hp9, rfl, ht3, rfl, rfl, hC.signs hof10 hGf8⟩, ho12⟩) hP hS hte9) hS.2.2 dX2_sign_44 hlocks

abbrev m_X2_walk_rm : Room := { frames := 13, cells := 5, slots := 30, locals := 323 }
set_option maxHeartbeats 4000000 in
set_option maxRecDepth 100000 in
theorem m_X2_walk (l : Launch) (hst : l.stackTraces = false) (D : va_G) (hAD : g_AD D) (σ : Nat → va_E) (Ls : Nat → g_L) (wood name what : Int32) (hC : g_C D σ Ls) (hvC : vC_ Ls) : g_X l D yX2_walk cX2_walk 5 (some .int) m_X2_walk_rm [.ref (ad_ D 0), .int wood, .int name, .int what] σ (fun v1 σ1 => er_walk Ls wood name what = 0 ∧ (∃ w t, w ≤ 1 ∧ wood = nI w ∧ t ≤ 2 ∧ what = nI t ∧ nm1_ name ∧ (Ls w).length ≠ 0 ∧ v1 = some (.int (tw_ (tb_ (Ls w)) name t)) ∧ g_C D σ1 Ls) ∧ g_off 0 19 σ σ1) (fun E => (er_walk Ls wood name what = 1 ∧ E = g_E0) ∨ (er_walk Ls wood name what = 2 ∧ E = g_E1) ∨ (er_walk Ls wood name what = 3 ∧ E = g_E2)) := by
  refine g_ofX [(0, .ref (ad_ D 0)), (1, .int wood), (2, .int name), (3, .int what)] (by decide +kernel) (Nat.le_of_ble_eq_true rfl) rfl ?_
  intro p e s m args below meth c hx hb hr hml hown hlocks hts hE hZ hP hS htab ls hl
  have hown : s.vm.findClass RX2 = some m.cls := hown
  generalize hQ : vx_MQ _ _ _ _ _ _ _ _ = Q
  obtain ⟨hc0, hcA, hcB, ⟨Lc, hcBo⟩, sz, T, hG⟩ := id hC
  refine lv_iload_n hx hb dX2_walk_0 rfl (lv_at hl 1 rfl) ?_
  refine g_callSX (y := yX2_checkWood) (n := 1) (As := [.int wood]) (rest := []) hx hb hml hown hts hE hZ hP hS hl.1 (m_X2_checkWood l hst D hAD σ (wood)) k_X2_29 rfl rfl ⟨Nat.le_of_ble_eq_true rfl, Nat.le_of_ble_eq_true rfl⟩ (Nat.le_of_ble_eq_true rfl) ⟨Nat.le_of_ble_eq_true rfl, Nat.le_of_ble_eq_true rfl⟩ dX2_walk_1 (fun E ce q9 H locs hq hP hS hc9 hv9 hk9 => ?_) (fun v1 σ_2 H locs hq hP hS => ?_)
  · rw [← hQ]
    exact g_out htab hlocks (Or.inl (⟨by rw [er_walk, if_neg (fun q => hq.2 q.1)], hq.1⟩)) hP hS hc9 hv9 hk9 (Nat.le_of_ble_eq_true rfl) (Nat.le_of_ble_eq_true rfl)
  obtain ⟨rfl, rfl, hx1⟩ := hq
  refine W.eq (g2 := F0 m 4 ls []) rfl ?_
  refine W.widen (k := 2) (n := 12) (Nat.le_of_ble_eq_true rfl) (Nat.le_of_ble_eq_true rfl) ?_
  obtain ⟨w, hw, rfl⟩ := ix_nat hx1 (by decide)
  obtain ⟨Fw, Gw, hVw⟩ := hC.wood hw
  have hvw := hvC w hw
  have hwl : wl_ Ls (nI w) = Ls w := wl_n hw
  have hot : ot_ Ls (nI w) = Ls (1 - w) := ot_n hw
  refine lv_iload_n hx hb dX2_walk_4 rfl (lv_at hl 3 rfl) ?_
  refine lv_iconst (v := nI 2) hx hb dX2_walk_5 (by decide) ?_
  refine g_callSX (y := yX2_checkIndex) (n := 2) (As := [.int what, .int (nI 2)]) (rest := []) hx hb hml hown hts hE hZ hP hS hl.1 (m_X2_checkIndex l hst D hAD σ (what) (nI 2)) k_X2_67 rfl rfl ⟨Nat.le_of_ble_eq_true rfl, Nat.le_of_ble_eq_true rfl⟩ (Nat.le_of_ble_eq_true rfl) ⟨Nat.le_of_ble_eq_true rfl, Nat.le_of_ble_eq_true rfl⟩ dX2_walk_6 (fun E ce q9 H locs hq hP hS hc9 hv9 hk9 => ?_) (fun v3 σ_4 H locs hq hP hS => ?_)
  · rw [← hQ]
    exact g_out htab hlocks (Or.inl (⟨by rw [er_walk, if_neg (fun q => hq.2 q.2)], hq.1⟩)) hP hS hc9 hv9 hk9 (Nat.le_of_ble_eq_true rfl) (Nat.le_of_ble_eq_true rfl)
  obtain ⟨rfl, rfl, hx6⟩ := hq
  refine W.eq (g2 := F0 m 9 ls []) rfl ?_
  refine W.widen (k := 3) (n := 18) (Nat.le_of_ble_eq_true rfl) (Nat.le_of_ble_eq_true rfl) ?_
  obtain ⟨t, ht3, rfl⟩ := ix_nat hx6 (by decide)
  refine lv_iload_n hx hb dX2_walk_9 rfl (lv_at hl 2 rfl) ?_
  refine g_callSX (y := yX2_checkName) (n := 1) (As := [.int name]) (rest := []) hx hb hml hown hts hE hZ hP hS hl.1 (m_X2_checkName l hst D hAD σ (name)) k_X2_33 rfl rfl ⟨Nat.le_of_ble_eq_true rfl, Nat.le_of_ble_eq_true rfl⟩ (Nat.le_of_ble_eq_true rfl) ⟨Nat.le_of_ble_eq_true rfl, Nat.le_of_ble_eq_true rfl⟩ dX2_walk_10 (fun E ce q9 H locs hq hP hS hc9 hv9 hk9 => ?_) (fun v5 σ_6 H locs hq hP hS => ?_)
  · rw [← hQ]
    exact g_out htab hlocks (Or.inr (Or.inl (⟨by rw [er_walk, if_pos (⟨ix_of hw (by decide), ix_of ht3 (by decide)⟩ : wk1_ _ ∧ ix_ _ _), if_neg hq.2], hq.1⟩))) hP hS hc9 hv9 hk9 (Nat.le_of_ble_eq_true rfl) (Nat.le_of_ble_eq_true rfl)
  obtain ⟨rfl, rfl, hx10⟩ := hq
  refine W.eq (g2 := F0 m 13 ls []) rfl ?_
  refine W.widen (k := 4) (n := 24) (Nat.le_of_ble_eq_true rfl) (Nat.le_of_ble_eq_true rfl) ?_
  refine lv_aload_n hx hb dX2_walk_13 rfl (lv_at hl 0 rfl) ?_
  refine lv_iload_n hx hb dX2_walk_14 rfl (lv_at hl 1 rfl) ?_
  refine g_callV0 (y := yX2_villagesOf) (n := 1) (As := [.int (nI w)]) (rest := []) hx hb hml hown hts hE hZ hP hS hl.1 (m_X2_villagesOf l D hAD σ w hw hc0) k_X2_39 (ci := 2) (by decide) hc0 rfl rfl rfl rfl rfl ⟨rfl, rfl⟩ ⟨Nat.le_of_ble_eq_true rfl, Nat.le_of_ble_eq_true rfl⟩ (Nat.le_of_ble_eq_true rfl) ⟨Nat.le_of_ble_eq_true rfl, Nat.le_of_ble_eq_true rfl⟩ dX2_walk_15 (fun v7 σ_8 H locs hq hP hS => ?_)
  obtain ⟨rfl, rfl⟩ := hq
  refine W.eq (g2 := F0 m 18 ls [.ref (ad_ D (1 + 3 * w))]) rfl ?_
  refine lv_astore (lv' := [(4, .ref (ad_ D (1 + 3 * w))), (0, .ref (ad_ D 0)), (1, .int (nI w)), (2, .int name), (3, .int (nI t))]) hx hb dX2_walk_18 hl (by decide) rfl (fun ls hl => ?_)
  refine lv_aload hx hb dX2_walk_20 (lv_at hl 0 rfl) ?_
  refine g_callSX (y := yX2_checkNotEmpty) (n := 1) (As := [.ref (ad_ D (1 + 3 * w))]) (rest := []) hx hb hml hown hts hE hZ hP hS hl.1 (m_X2_checkNotEmpty l hst D hAD σ (1 + 3 * w) (Ls w) Fw Gw hVw) k_X2_97 rfl rfl ⟨Nat.le_of_ble_eq_true rfl, Nat.le_of_ble_eq_true rfl⟩ (Nat.le_of_ble_eq_true rfl) ⟨Nat.le_of_ble_eq_true rfl, Nat.le_of_ble_eq_true rfl⟩ dX2_walk_22 (fun E ce q9 H locs hq hP hS hc9 hv9 hk9 => ?_) (fun v9 σ_10 H locs hq hP hS => ?_)
  · rw [← hQ]
    exact g_out htab hlocks (Or.inr (Or.inr (⟨by rw [er_walk, if_pos (⟨ix_of hw (by decide), ix_of ht3 (by decide)⟩ : wk1_ _ ∧ ix_ _ _), if_pos hx10, hwl, if_pos hq.2], hq.1⟩))) hP hS hc9 hv9 hk9 (Nat.le_of_ble_eq_true rfl) (Nat.le_of_ble_eq_true rfl)
  obtain ⟨rfl, rfl, hx22⟩ := hq
  refine W.eq (g2 := F0 m 25 ls []) rfl ?_
  refine W.widen (k := 5) (n := 30) (Nat.le_of_ble_eq_true rfl) (Nat.le_of_ble_eq_true rfl) ?_
  refine lv_aload_n hx hb dX2_walk_25 rfl (lv_at hl 1 rfl) ?_
  refine g_get hx hb hts hE hown hP g_inX2 rfl (by decide) hc0 3 (by decide) rfl wf_X2_25 (v := .ref (ad_ D 10)) rfl dX2_walk_26 ?_
  refine lv_aload hx hb dX2_walk_29 (lv_at hl 0 rfl) ?_
  refine g_callV0 (y := yX0_fill) (n := 1) (As := [.ref (ad_ D (1 + 3 * w))]) (rest := []) hx hb hml hown hts hE hZ hP hS hl.1 (m_X0_fill l D hAD σ sz T hG (1 + 3 * w) (Ls w) Fw Gw hVw (by omega) (gs_of hvw.1)) k_X2_104 (ci := 0) (by decide) hG.1 rfl rfl rfl rfl rfl ⟨rfl, rfl⟩ ⟨Nat.le_of_ble_eq_true rfl, Nat.le_of_ble_eq_true rfl⟩ (Nat.le_of_ble_eq_true rfl) ⟨Nat.le_of_ble_eq_true rfl, Nat.le_of_ble_eq_true rfl⟩ dX2_walk_31 (fun v11 σ_12 H locs hq hP hS => ?_)
  obtain ⟨rfl, hq2⟩ := hq
  refine W.eq (g2 := F0 m 34 ls []) rfl ?_
  obtain ⟨⟨Tf13, hGf14, hTB15⟩, hof16⟩ := hq2
  have hV17 := g_VF.off hVw hof16 (by omega)
  have ho18 := g_off.tr (g_off.rf (lo := 0) (hi := 19) (σ := σ)) (g_off.wd hof16 (by omega) (by omega))
  have hc19 := g_off.at0 hof16 hc0 (by omega)
  have hch := tB_ch hvw.1 hTB15
  have h0z := zs_pos (Nat.pos_of_ne_zero hx22)
  have hz95 := zs_le (show (Ls w).length ≤ 48 by have := hvw.2; omega)
  refine lv_aload_n hx hb dX2_walk_34 rfl (lv_at hl 1 rfl) ?_
  refine g_get hx hb hts hE hown hP g_inX2 rfl (by decide) hc19 3 (by decide) rfl wf_X2_25 (v := .ref (ad_ D 10)) rfl dX2_walk_35 ?_
  refine lv_iload_n hx hb dX2_walk_38 rfl (lv_at hl 3 rfl) ?_
  refine lv_iload_n hx hb dX2_walk_39 rfl (lv_at hl 4 rfl) ?_
  refine g_callV0 (y := yX0_tellWalk) (n := 2) (As := [.int name, .int (nI t)]) (rest := []) hx hb hml hown hts hE hZ hP hS hl.1 (m_X0_tellWalk l D hAD σ_12 (zs_ (List.length (Ls w))) Tf13 hGf14 (name) t h0z hch (by omega)) k_X2_116 (ci := 0) (by decide) hGf14.1 rfl rfl rfl rfl rfl ⟨rfl, rfl⟩ ⟨Nat.le_of_ble_eq_true rfl, Nat.le_of_ble_eq_true rfl⟩ (Nat.le_of_ble_eq_true rfl) ⟨Nat.le_of_ble_eq_true rfl, Nat.le_of_ble_eq_true rfl⟩ dX2_walk_40 (fun v20 σ_21 H locs hq hP hS => ?_)
  obtain ⟨rfl, rfl⟩ := hq
  refine W.eq (g2 := F0 m 43 ls [.int (tw_ Tf13 (name) t)]) rfl ?_
  refine g_top (y := tw_ (tb_ (Ls w)) name t) (tw_cg h0z hz95 hch (tB_eq hvw.1 hTB15) t) ?_
  refine W.widen (k := 5) (n := 30) (by omega) (by omega) ?_
  rw [← hQ]
  refine vx_ret ?_
  exact W.iret (v := tw_ (tb_ (Ls w)) name t) hx hb hr (fun te9 hte9 _ => g_fin (⟨by rw [er_walk, if_pos (⟨ix_of hw (by decide), ix_of ht3 (by decide)⟩ : wk1_ _ ∧ ix_ _ _), if_pos hx10, hwl, if_neg hx22], ⟨w, t, hw, rfl, ht3, rfl, hx10, hx22, rfl, hC.signs hof16 hGf14⟩, ho18⟩) hP hS hte9) hS.2.2 dX2_walk_43 hlocks


abbrev m_X2_mean_rm : Room := { frames := 13, cells := 5, slots := 30, locals := 323 }
set_option maxHeartbeats 4000000 in
set_option maxRecDepth 100000 in
theorem m_X2_mean (l : Launch) (hst : l.stackTraces = false) (D : va_G) (hAD : g_AD D) (σ : Nat → va_E) (Ls : Nat → g_L) (wood : Int32) (hC : g_C D σ Ls) (hvC : vC_ Ls) : g_X l D yX2_mean cX2_mean 4 (some .double) m_X2_mean_rm [.ref (ad_ D 0), .int wood] σ (fun v1 σ1 => er_wood wood = 0 ∧ (∃ w, w ≤ 1 ∧ wood = nI w ∧ v1 = some (.double (me_ (Ls w))) ∧ g_C D σ1 Ls) ∧ g_off 0 19 σ σ1) (fun E => (er_wood wood = 1 ∧ E = g_E0)) := by
  refine g_ofX [(0, .ref (ad_ D 0)), (1, .int wood)] (by decide +kernel) (Nat.le_of_ble_eq_true rfl) rfl ?_
  intro p e s m args below meth c hx hb hr hml hown hlocks hts hE hZ hP hS htab ls hl
  have hown : s.vm.findClass RX2 = some m.cls := hown
  generalize hQ : vx_MQ _ _ _ _ _ _ _ _ = Q
  obtain ⟨hc0, hcA, hcB, ⟨Lc, hcBo⟩, sz, T, hG⟩ := id hC
  refine lv_iload_n hx hb dX2_mean_0 rfl (lv_at hl 1 rfl) ?_
  refine g_callSX (y := yX2_checkWood) (n := 1) (As := [.int wood]) (rest := []) hx hb hml hown hts hE hZ hP hS hl.1 (m_X2_checkWood l hst D hAD σ (wood)) k_X2_29 rfl rfl ⟨Nat.le_of_ble_eq_true rfl, Nat.le_of_ble_eq_true rfl⟩ (Nat.le_of_ble_eq_true rfl) ⟨Nat.le_of_ble_eq_true rfl, Nat.le_of_ble_eq_true rfl⟩ dX2_mean_1 (fun E ce q9 H locs hq hP hS hc9 hv9 hk9 => ?_) (fun v1 σ_2 H locs hq hP hS => ?_)
  · rw [← hQ]
    exact g_out htab hlocks (⟨by rw [er_wood, if_neg hq.2], hq.1⟩) hP hS hc9 hv9 hk9 (Nat.le_of_ble_eq_true rfl) (Nat.le_of_ble_eq_true rfl)
  obtain ⟨rfl, rfl, hx1⟩ := hq
  refine W.eq (g2 := F0 m 4 ls []) rfl ?_
  refine W.widen (k := 2) (n := 12) (Nat.le_of_ble_eq_true rfl) (Nat.le_of_ble_eq_true rfl) ?_
  obtain ⟨w, hw, rfl⟩ := ix_nat hx1 (by decide)
  obtain ⟨Fw, Gw, hVw⟩ := hC.wood hw
  have hvw := hvC w hw
  have hwl : wl_ Ls (nI w) = Ls w := wl_n hw
  have hot : ot_ Ls (nI w) = Ls (1 - w) := ot_n hw
  have h24 := hvw.2
  refine lv_aload_n hx hb dX2_mean_4 rfl (lv_at hl 0 rfl) ?_
  refine lv_iload_n hx hb dX2_mean_5 rfl (lv_at hl 1 rfl) ?_
  refine g_callV0 (y := yX2_villagesOf) (n := 1) (As := [.int (nI w)]) (rest := []) hx hb hml hown hts hE hZ hP hS hl.1 (m_X2_villagesOf l D hAD σ w hw hc0) k_X2_39 (ci := 2) (by decide) hc0 rfl rfl rfl rfl rfl ⟨rfl, rfl⟩ ⟨Nat.le_of_ble_eq_true rfl, Nat.le_of_ble_eq_true rfl⟩ (Nat.le_of_ble_eq_true rfl) ⟨Nat.le_of_ble_eq_true rfl, Nat.le_of_ble_eq_true rfl⟩ dX2_mean_6 (fun v3 σ_4 H locs hq hP hS => ?_)
  obtain ⟨rfl, rfl⟩ := hq
  refine W.eq (g2 := F0 m 9 ls [.ref (ad_ D (1 + 3 * w))]) rfl ?_
  refine lv_astore_n (lv' := [(2, .ref (ad_ D (1 + 3 * w))), (0, .ref (ad_ D 0)), (1, .int (nI w))]) hx hb dX2_mean_9 rfl hl (by decide) rfl (fun ls hl => ?_)
  refine lv_aload_n hx hb dX2_mean_10 rfl (lv_at hl 0 rfl) ?_
  refine g_callV0 (y := yX1_size) (n := 0) (As := []) (rest := []) hx hb hml hown hts hE hZ hP hS hl.1 (m_X1_size l D hAD σ (1 + 3 * w) (Ls w) Fw Gw hVw) k_X2_47 (ci := 1) (by omega) hVw.1 rfl rfl rfl rfl rfl ⟨rfl, rfl⟩ ⟨Nat.le_of_ble_eq_true rfl, Nat.le_of_ble_eq_true rfl⟩ (Nat.le_of_ble_eq_true rfl) ⟨Nat.le_of_ble_eq_true rfl, Nat.le_of_ble_eq_true rfl⟩ dX2_mean_11 (fun v5 σ_6 H locs hq hP hS => ?_)
  obtain ⟨rfl, rfl⟩ := hq
  refine W.eq (g2 := F0 m 14 ls [.int (nI ((Ls w).length))]) rfl ?_
  refine lv_istore_n (lv' := [(3, .int (nI ((Ls w).length))), (2, .ref (ad_ D (1 + 3 * w))), (0, .ref (ad_ D 0)), (1, .int (nI w))]) hx hb dX2_mean_14 rfl hl (by decide) rfl (fun ls hl => ?_)
  refine lv_iload_n hx hb dX2_mean_15 rfl (lv_at hl 0 rfl) ?_
  refine lv_if_ne (tgt := 21) hx hb dX2_mean_16 (by decide) (fun h16 => ?_) (fun h16 => ?_)
  · have hb16 := g_ne (a := (Ls w).length) (b := 0) h16 (by omega) (by omega)
    refine lv_aload_n hx hb dX2_mean_21 rfl (lv_at hl 2 rfl) ?_
    refine g_get hx hb hts hE hown hP g_inX2 rfl (by decide) hc0 3 (by decide) rfl wf_X2_25 (v := .ref (ad_ D 10)) rfl dX2_mean_22 ?_
    refine lv_aload_n hx hb dX2_mean_25 rfl (lv_at hl 1 rfl) ?_
    refine g_callV0 (y := yX0_fill) (n := 1) (As := [.ref (ad_ D (1 + 3 * w))]) (rest := []) hx hb hml hown hts hE hZ hP hS hl.1 (m_X0_fill l D hAD σ sz T hG (1 + 3 * w) (Ls w) Fw Gw hVw (by omega) (gs_of hvw.1)) k_X2_104 (ci := 0) (by decide) hG.1 rfl rfl rfl rfl rfl ⟨rfl, rfl⟩ ⟨Nat.le_of_ble_eq_true rfl, Nat.le_of_ble_eq_true rfl⟩ (Nat.le_of_ble_eq_true rfl) ⟨Nat.le_of_ble_eq_true rfl, Nat.le_of_ble_eq_true rfl⟩ dX2_mean_26 (fun v7 σ_8 H locs hq hP hS => ?_)
    obtain ⟨rfl, hq2⟩ := hq
    refine W.eq (g2 := F0 m 29 ls []) rfl ?_
    obtain ⟨⟨Tf9, hGf10, hTB11⟩, hof12⟩ := hq2
    have hV13 := g_VF.off hVw hof12 (by omega)
    have ho14 := g_off.tr (g_off.rf (lo := 0) (hi := 19) (σ := σ)) (g_off.wd hof12 (by omega) (by omega))
    have hc15 := g_off.at0 hof12 hc0 (by omega)
    refine lv_aload_n hx hb dX2_mean_29 rfl (lv_at hl 2 rfl) ?_
    refine g_get hx hb hts hE hown hP g_inX2 rfl (by decide) hc15 3 (by decide) rfl wf_X2_25 (v := .ref (ad_ D 10)) rfl dX2_mean_30 ?_
    refine g_callV0 (y := yX0_addedPaths) (n := 0) (As := []) (rest := []) hx hb hml hown hts hE hZ hP hS hl.1 (m_X0_addedPaths l D hAD σ_8 (zs_ (List.length (Ls w))) Tf9 hGf10) k_X2_148 (ci := 0) (by decide) hGf10.1 rfl rfl rfl rfl rfl ⟨rfl, rfl⟩ ⟨Nat.le_of_ble_eq_true rfl, Nat.le_of_ble_eq_true rfl⟩ (Nat.le_of_ble_eq_true rfl) ⟨Nat.le_of_ble_eq_true rfl, Nat.le_of_ble_eq_true rfl⟩ dX2_mean_33 (fun v16 σ_17 H locs hq hP hS => ?_)
    obtain ⟨rfl, rfl⟩ := hq
    refine W.eq (g2 := F0 m 36 ls [.int (ap_ (Tf9 0) (Tf9 7) (zs_ (List.length (Ls w))))]) rfl ?_
    refine lv_i2d hx hb dX2_mean_36 ?_
    refine lv_iload_n hx hb dX2_mean_37 rfl (lv_at hl 0 rfl) ?_
    refine lv_i2d hx hb dX2_mean_38 ?_
    refine lv_ddiv hx hb dX2_mean_39 (me_num hvw.1 hb16 h24 hTB11) ?_
    refine W.widen (k := 5) (n := 30) (by omega) (by omega) ?_
    rw [← hQ]
    refine vx_ret ?_
    exact W.dret (v := FP.ddiv (FP.i2d (ap_ (Tf9 0) (Tf9 7) (zs_ (List.length (Ls w))))) (FP.i2d (nI ((Ls w).length)))) hx hb hr (fun te9 hte9 _ => g_fin (⟨by rw [er_wood, if_pos (ix_of hw (by decide))], ⟨w, hw, rfl, by rw [me_, if_neg hb16, ap_cg _ (fun q hq => tB_eq hvw.1 hTB11 q hq 0 (by decide)) (fun q hq => tB_eq hvw.1 hTB11 q hq 7 (by decide))], hC.signs hof12 hGf10⟩, ho14⟩) hP hS hte9) hS.2.2 dX2_mean_40 hlocks
  · have hb16 := g_eq (a := (Ls w).length) (b := 0) h16 (by omega) (by omega)
    refine lv_dconst0 hx hb dX2_mean_19 ?_
    refine W.widen (k := 5) (n := 30) (by omega) (by omega) ?_
    rw [← hQ]
    refine vx_ret ?_
    exact W.dret (v := FP.dconst0) hx hb hr (fun te9 hte9 _ => g_fin (⟨by rw [er_wood, if_pos (ix_of hw (by decide))], ⟨w, hw, rfl, by rw [me_, if_pos hb16], hC⟩, g_off.rf⟩) hP hS hte9) hS.2.2 dX2_mean_20 hlocks

abbrev m_X2_would_rm : Room := { frames := 13, cells := 5, slots := 30, locals := 323 }
set_option maxHeartbeats 4000000 in
set_option maxRecDepth 100000 in
theorem m_X2_would (l : Launch) (hst : l.stackTraces = false) (D : va_G) (hAD : g_AD D) (σ : Nat → va_E) (Ls : Nat → g_L) (what : Int32) (hC : g_C D σ Ls) (hvC : vC_ Ls) : g_X l D yX2_would cX2_would 2 (some .int) m_X2_would_rm [.ref (ad_ D 0), .int what] σ (fun v1 σ1 => er_would what = 0 ∧ (∃ t, t ≤ 3 ∧ what = nI t ∧ v1 = some (.int (cn_ (bo_ (Ls 0) (Ls 1)) t)) ∧ g_C D σ1 Ls) ∧ g_off 0 19 σ σ1) (fun E => (er_would what = 1 ∧ E = g_E0)) := by
  refine g_ofX [(0, .ref (ad_ D 0)), (1, .int what)] (by decide +kernel) (Nat.le_of_ble_eq_true rfl) rfl ?_
  intro p e s m args below meth c hx hb hr hml hown hlocks hts hE hZ hP hS htab ls hl
  have hown : s.vm.findClass RX2 = some m.cls := hown
  generalize hQ : vx_MQ _ _ _ _ _ _ _ _ = Q
  obtain ⟨hc0, hcA, hcB, ⟨Lc, hcBo⟩, sz, T, hG⟩ := id hC
  refine lv_iload_n hx hb dX2_would_0 rfl (lv_at hl 1 rfl) ?_
  refine lv_iconst (v := nI 3) hx hb dX2_would_1 (by decide) ?_
  refine g_callSX (y := yX2_checkIndex) (n := 2) (As := [.int what, .int (nI 3)]) (rest := []) hx hb hml hown hts hE hZ hP hS hl.1 (m_X2_checkIndex l hst D hAD σ (what) (nI 3)) k_X2_67 rfl rfl ⟨Nat.le_of_ble_eq_true rfl, Nat.le_of_ble_eq_true rfl⟩ (Nat.le_of_ble_eq_true rfl) ⟨Nat.le_of_ble_eq_true rfl, Nat.le_of_ble_eq_true rfl⟩ dX2_would_2 (fun E ce q9 H locs hq hP hS hc9 hv9 hk9 => ?_) (fun v1 σ_2 H locs hq hP hS => ?_)
  · rw [← hQ]
    exact g_out htab hlocks (⟨by rw [er_would, if_neg hq.2], hq.1⟩) hP hS hc9 hv9 hk9 (Nat.le_of_ble_eq_true rfl) (Nat.le_of_ble_eq_true rfl)
  obtain ⟨rfl, rfl, hx2⟩ := hq
  refine W.eq (g2 := F0 m 5 ls []) rfl ?_
  refine W.widen (k := 1) (n := 6) (Nat.le_of_ble_eq_true rfl) (Nat.le_of_ble_eq_true rfl) ?_
  obtain ⟨t, ht3, rfl⟩ := ix_nat hx2 (by decide)
  refine lv_aload_n hx hb dX2_would_5 rfl (lv_at hl 0 rfl) ?_
  refine g_callV0 (y := yX2_fillBoth) (n := 0) (As := []) (rest := []) hx hb hml hown hts hE hZ hP hS hl.1 (m_X2_fillBoth l D hAD σ Ls hC hvC) k_X2_142 (ci := 2) (by decide) hc0 rfl rfl rfl rfl rfl ⟨rfl, rfl⟩ ⟨Nat.le_of_ble_eq_true rfl, Nat.le_of_ble_eq_true rfl⟩ (Nat.le_of_ble_eq_true rfl) ⟨Nat.le_of_ble_eq_true rfl, Nat.le_of_ble_eq_true rfl⟩ dX2_would_6 (fun v3 σ_4 H locs hq hP hS => ?_)
  obtain ⟨rfl, hq2⟩ := hq
  refine W.eq (g2 := F0 m 9 ls []) rfl ?_
  obtain ⟨⟨hVbo5F, hVbo5G, hVbo5⟩, hob6⟩ := hq2
  have hCb7 := hC.both hob6 ⟨_, _, hVbo5⟩
  have hGo8 := g_S.off hG hob6 (by decide)
  have hvb := vL_bo (hvC 0 (by decide)).1 (hvC 1 (by decide)).1
  have ho9 := g_off.tr (g_off.rf (lo := 0) (hi := 19) (σ := σ)) (g_off.wd hob6 (by omega) (by omega))
  have hc10 := g_off.at0 hob6 hc0 (by omega)
  refine lv_aload_n hx hb dX2_would_9 rfl (lv_at hl 0 rfl) ?_
  refine g_get hx hb hts hE hown hP g_inX2 rfl (by decide) hc10 3 (by decide) rfl wf_X2_25 (v := .ref (ad_ D 10)) rfl dX2_would_10 ?_
  refine lv_aload_n hx hb dX2_would_13 rfl (lv_at hl 0 rfl) ?_
  refine g_get hx hb hts hE hown hP g_inX2 rfl (by decide) hc10 2 (by decide) rfl wf_X2_19 (v := .ref (ad_ D 7)) rfl dX2_would_14 ?_
  refine g_callV0 (y := yX0_fill) (n := 1) (As := [.ref (ad_ D 7)]) (rest := []) hx hb hml hown hts hE hZ hP hS hl.1 (m_X0_fill l D hAD σ_4 sz T hGo8 7 (bo_ (Ls 0) (Ls 1)) hVbo5F hVbo5G hVbo5 (by omega) (gs_of hvb)) k_X2_104 (ci := 0) (by decide) hGo8.1 rfl rfl rfl rfl rfl ⟨rfl, rfl⟩ ⟨Nat.le_of_ble_eq_true rfl, Nat.le_of_ble_eq_true rfl⟩ (Nat.le_of_ble_eq_true rfl) ⟨Nat.le_of_ble_eq_true rfl, Nat.le_of_ble_eq_true rfl⟩ dX2_would_17 (fun v11 σ_12 H locs hq hP hS => ?_)
  obtain ⟨rfl, hq2⟩ := hq
  refine W.eq (g2 := F0 m 20 ls []) rfl ?_
  obtain ⟨⟨Tf13, hGf14, hTB15⟩, hof16⟩ := hq2
  have hV17 := g_VF.off hVbo5 hof16 (by omega)
  have ho18 := g_off.tr ho9 (g_off.wd hof16 (by omega) (by omega))
  have hc19 := g_off.at0 hof16 hc10 (by omega)
  refine lv_aload_n hx hb dX2_would_20 rfl (lv_at hl 0 rfl) ?_
  refine g_get hx hb hts hE hown hP g_inX2 rfl (by decide) hc19 2 (by decide) rfl wf_X2_19 (v := .ref (ad_ D 7)) rfl dX2_would_21 ?_
  refine lv_aload_n hx hb dX2_would_24 rfl (lv_at hl 0 rfl) ?_
  refine g_get hx hb hts hE hown hP g_inX2 rfl (by decide) hc19 3 (by decide) rfl wf_X2_25 (v := .ref (ad_ D 10)) rfl dX2_would_25 ?_
  refine lv_iload_n hx hb dX2_would_28 rfl (lv_at hl 1 rfl) ?_
  refine g_callS0 (y := yX2_countOf) (n := 3) (As := [.ref (ad_ D 7), .ref (ad_ D 10), .int (nI t)]) (rest := []) hx hb hml hown hts hE hZ hP hS hl.1 (m_X2_countOf l D hAD σ_12 7 (bo_ (Ls 0) (Ls 1)) hVbo5F hVbo5G Tf13 t hV17 hGf14 hTB15 hvb (by omega)) k_X2_107 rfl rfl ⟨rfl, rfl⟩ ⟨Nat.le_of_ble_eq_true rfl, Nat.le_of_ble_eq_true rfl⟩ (Nat.le_of_ble_eq_true rfl) ⟨Nat.le_of_ble_eq_true rfl, Nat.le_of_ble_eq_true rfl⟩ dX2_would_29 (fun v20 σ_21 H locs hq hP hS => ?_)
  obtain ⟨rfl, rfl⟩ := hq
  refine W.eq (g2 := F0 m 32 ls [.int (cn_ (bo_ (Ls 0) (Ls 1)) t)]) rfl ?_
  refine W.widen (k := 5) (n := 30) (by omega) (by omega) ?_
  rw [← hQ]
  refine vx_ret ?_
  exact W.iret (v := cn_ (bo_ (Ls 0) (Ls 1)) t) hx hb hr (fun te9 hte9 _ => g_fin (⟨by rw [er_would, if_pos (ix_of ht3 (by decide))], ⟨t, ht3, rfl, rfl, hCb7.signs hof16 hGf14⟩, ho18⟩) hP hS hte9) hS.2.2 dX2_would_32 hlocks
