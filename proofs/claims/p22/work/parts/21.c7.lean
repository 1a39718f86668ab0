abbrev m_X2_put_rm : Room := { frames := 11, cells := 5, slots := 30, locals := 267 }
set_option maxHeartbeats 4000000 in
set_option maxRecDepth 100000 in
theorem m_X2_put (l : Launch) (hst : l.stackTraces = false) (D : va_G) (hAD : g_AD D) (σ : Nat → va_E) (Ls : Nat → g_L) (wood name mi : Int32) (hC : g_C D σ Ls) (hvC : vC_ Ls) : g_X l D yX2_put cX2_put 6 (some .int) m_X2_put_rm [.ref (ad_ D 0), .int wood, .int name, .int mi] σ (fun v1 σ1 => er_put Ls wood name mi = 0 ∧ (∃ w, w ≤ 1 ∧ wood = nI w ∧ v1 = some (.int (mo_ (Ls w) name)) ∧ g_C D σ1 (ul_ Ls w (st_ (Ls w) name mi))) ∧ g_off 0 19 σ σ1) (fun E => (er_put Ls wood name mi = 1 ∧ E = g_E0) ∨ (er_put Ls wood name mi = 2 ∧ E = g_E1) ∨ (er_put Ls wood name mi = 3 ∧ E = g_E2)) := by
  refine g_ofX [(0, .ref (ad_ D 0)), (1, .int wood), (2, .int name), (3, .int mi)] (by decide +kernel) (Nat.le_of_ble_eq_true rfl) rfl ?_
  intro p e s m args below meth c hx hb hr hml hown hlocks hts hE hZ hP hS htab ls hl
  have hown : s.vm.findClass RX2 = some m.cls := hown
  generalize hQ : vx_MQ _ _ _ _ _ _ _ _ = Q
  obtain ⟨hc0, hcA, hcB, ⟨Lc, hcBo⟩, sz, T, hG⟩ := id hC
  refine lv_iload_n hx hb dX2_put_0 rfl (lv_at hl 1 rfl) ?_
  refine g_callSX (y := yX2_checkWood) (n := 1) (As := [.int wood]) (rest := []) hx hb hml hown hts hE hZ hP hS hl.1 (m_X2_checkWood l hst D hAD σ (wood)) k_X2_29 rfl rfl ⟨Nat.le_of_ble_eq_true rfl, Nat.le_of_ble_eq_true rfl⟩ (Nat.le_of_ble_eq_true rfl) ⟨Nat.le_of_ble_eq_true rfl, Nat.le_of_ble_eq_true rfl⟩ dX2_put_1 (fun E ce q9 H locs hq hP hS hc9 hv9 hk9 => ?_) (fun v1 σ_2 H locs hq hP hS => ?_)
  · rw [← hQ]
    exact g_out htab hlocks (Or.inl (⟨by rw [er_put, if_neg hq.2], hq.1⟩)) hP hS hc9 hv9 hk9 (Nat.le_of_ble_eq_true rfl) (Nat.le_of_ble_eq_true rfl)
  obtain ⟨rfl, rfl, hx1⟩ := hq
  refine W.eq (g2 := F0 m 4 ls []) rfl ?_
  refine W.widen (k := 2) (n := 12) (Nat.le_of_ble_eq_true rfl) (Nat.le_of_ble_eq_true rfl) ?_
  obtain ⟨w, hw, rfl⟩ := ix_nat hx1 (by decide)
  obtain ⟨Fw, Gw, hVw⟩ := hC.wood hw
  have hvw := hvC w hw
  have hwl : wl_ Ls (nI w) = Ls w := wl_n hw
  have hot : ot_ Ls (nI w) = Ls (1 - w) := ot_n hw
  refine lv_iload_n hx hb dX2_put_4 rfl (lv_at hl 2 rfl) ?_
  refine g_callSX (y := yX2_checkName) (n := 1) (As := [.int name]) (rest := []) hx hb hml hown hts hE hZ hP hS hl.1 (m_X2_checkName l hst D hAD σ (name)) k_X2_33 rfl rfl ⟨Nat.le_of_ble_eq_true rfl, Nat.le_of_ble_eq_true rfl⟩ (Nat.le_of_ble_eq_true rfl) ⟨Nat.le_of_ble_eq_true rfl, Nat.le_of_ble_eq_true rfl⟩ dX2_put_5 (fun E ce q9 H locs hq hP hS hc9 hv9 hk9 => ?_) (fun v3 σ_4 H locs hq hP hS => ?_)
  · rw [← hQ]
    exact g_out htab hlocks (Or.inr (Or.inl (⟨by rw [er_put, if_pos (ix_of hw (by decide)), if_neg (fun q => hq.2 q.1)], hq.1⟩))) hP hS hc9 hv9 hk9 (Nat.le_of_ble_eq_true rfl) (Nat.le_of_ble_eq_true rfl)
  obtain ⟨rfl, rfl, hx5⟩ := hq
  refine W.eq (g2 := F0 m 8 ls []) rfl ?_
  refine W.widen (k := 3) (n := 18) (Nat.le_of_ble_eq_true rfl) (Nat.le_of_ble_eq_true rfl) ?_
  refine lv_iload_n hx hb dX2_put_8 rfl (lv_at hl 3 rfl) ?_
  refine g_callSX (y := yX2_checkMiles) (n := 1) (As := [.int mi]) (rest := []) hx hb hml hown hts hE hZ hP hS hl.1 (m_X2_checkMiles l hst D hAD σ (mi)) k_X2_36 rfl rfl ⟨Nat.le_of_ble_eq_true rfl, Nat.le_of_ble_eq_true rfl⟩ (Nat.le_of_ble_eq_true rfl) ⟨Nat.le_of_ble_eq_true rfl, Nat.le_of_ble_eq_true rfl⟩ dX2_put_9 (fun E ce q9 H locs hq hP hS hc9 hv9 hk9 => ?_) (fun v5 σ_6 H locs hq hP hS => ?_)
  · rw [← hQ]
    exact g_out htab hlocks (Or.inr (Or.inl (⟨by rw [er_put, if_pos (ix_of hw (by decide)), if_neg (fun q => hq.2 q.2)], hq.1⟩))) hP hS hc9 hv9 hk9 (Nat.le_of_ble_eq_true rfl) (Nat.le_of_ble_eq_true rfl)
  obtain ⟨rfl, rfl, hx9⟩ := hq
  refine W.eq (g2 := F0 m 12 ls []) rfl ?_
  refine W.widen (k := 4) (n := 24) (Nat.le_of_ble_eq_true rfl) (Nat.le_of_ble_eq_true rfl) ?_
  refine lv_aload_n hx hb dX2_put_12 rfl (lv_at hl 0 rfl) ?_
  refine lv_iload_n hx hb dX2_put_13 rfl (lv_at hl 1 rfl) ?_
  refine g_callV0 (y := yX2_villagesOf) (n := 1) (As := [.int (nI w)]) (rest := []) hx hb hml hown hts hE hZ hP hS hl.1 (m_X2_villagesOf l D hAD σ w hw hc0) k_X2_39 (ci := 2) (by decide) hc0 rfl rfl rfl rfl rfl ⟨rfl, rfl⟩ ⟨Nat.le_of_ble_eq_true rfl, Nat.le_of_ble_eq_true rfl⟩ (Nat.le_of_ble_eq_true rfl) ⟨Nat.le_of_ble_eq_true rfl, Nat.le_of_ble_eq_true rfl⟩ dX2_put_14 (fun v7 σ_8 H locs hq hP hS => ?_)
  obtain ⟨rfl, rfl⟩ := hq
  refine W.eq (g2 := F0 m 17 ls [.ref (ad_ D (1 + 3 * w))]) rfl ?_
  refine lv_astore (lv' := [(4, .ref (ad_ D (1 + 3 * w))), (0, .ref (ad_ D 0)), (1, .int (nI w)), (2, .int name), (3, .int mi)]) hx hb dX2_put_17 hl (by decide) rfl (fun ls hl => ?_)
  refine lv_aload hx hb dX2_put_19 (lv_at hl 0 rfl) ?_
  refine lv_iload_n hx hb dX2_put_21 rfl (lv_at hl 3 rfl) ?_
  refine g_callV0 (y := yX1_milesOf) (n := 1) (As := [.int name]) (rest := []) hx hb hml hown hts hE hZ hP hS hl.1 (m_X1_milesOf l D hAD σ (1 + 3 * w) (Ls w) Fw Gw hVw (name)) k_X2_43 (ci := 1) (by omega) hVw.1 rfl rfl rfl rfl rfl ⟨rfl, rfl⟩ ⟨Nat.le_of_ble_eq_true rfl, Nat.le_of_ble_eq_true rfl⟩ (Nat.le_of_ble_eq_true rfl) ⟨Nat.le_of_ble_eq_true rfl, Nat.le_of_ble_eq_true rfl⟩ dX2_put_22 (fun v9 σ_10 H locs hq hP hS => ?_)
  obtain ⟨rfl, rfl⟩ := hq
  refine W.eq (g2 := F0 m 25 ls [.int (mo_ (Ls w) (name))]) rfl ?_
  refine lv_istore (lv' := [(5, .int (mo_ (Ls w) (name))), (4, .ref (ad_ D (1 + 3 * w))), (0, .ref (ad_ D 0)), (1, .int (nI w)), (2, .int name), (3, .int mi)]) hx hb dX2_put_25 hl (by decide) rfl (fun ls hl => ?_)
  refine lv_iload hx hb dX2_put_27 (lv_at hl 0 rfl) ?_
  refine lv_iconst (v := (-1)) hx hb dX2_put_29 (by decide) ?_
  refine lv_icmp_ne (tgt := 53) hx hb dX2_put_30 (by decide) (fun h30 => ?_) (fun h30 => ?_)
  · have hn5 := nm_le hx5
    have hxx := ne_m1 hn5.1
    have hrr : fn_ (Ls w) (rk_ (Ls w) name) = name ∨ (Ls w).length < 48 := Or.inr (by have := hvw.2; omega)
    refine lv_aload hx hb dX2_put_53 (lv_at hl 1 rfl) ?_
    refine lv_iload_n hx hb dX2_put_55 rfl (lv_at hl 4 rfl) ?_
    refine lv_iload_n hx hb dX2_put_56 rfl (lv_at hl 5 rfl) ?_
    refine g_callV0 (y := yX1_set) (n := 2) (As := [.int name, .int mi]) (rest := []) hx hb hml hown hts hE hZ hP hS hl.1 (m_X1_set l D hAD σ (1 + 3 * w) (Ls w) Fw Gw hVw (name) (mi) hxx hrr) k_X2_58 (ci := 1) (by omega) hVw.1 rfl rfl rfl rfl rfl ⟨rfl, rfl⟩ ⟨Nat.le_of_ble_eq_true rfl, Nat.le_of_ble_eq_true rfl⟩ (Nat.le_of_ble_eq_true rfl) ⟨Nat.le_of_ble_eq_true rfl, Nat.le_of_ble_eq_true rfl⟩ dX2_put_57 (fun v11 σ_12 H locs hq hP hS => ?_)
    obtain ⟨rfl, hq2⟩ := hq
    refine W.eq (g2 := F0 m 60 ls []) rfl ?_
    obtain ⟨Fs13, Gs14, hVs15, hos16, hgs17⟩ := hq2
    have ho18 := g_off.tr (g_off.rf (lo := 0) (hi := 19) (σ := σ)) (g_off.wd hos16 (by omega) (by omega))
    have hc19 := g_off.at0 hos16 hc0 (by omega)
    refine lv_iload hx hb dX2_put_60 (lv_at hl 0 rfl) ?_
    refine W.widen (k := 5) (n := 30) (by omega) (by omega) ?_
    rw [← hQ]
    refine vx_ret ?_
    exact W.iret (v := mo_ (Ls w) (name)) hx hb hr (fun te9 hte9 _ => g_fin (⟨by rw [er_put, if_pos (ix_of hw (by decide)), if_pos ⟨hx5, hx9⟩, hwl, if_neg (fun q => by first | exact h30 q.1 | omega)], ⟨w, hw, rfl, rfl, hC.upd hw hos16 ⟨_, _, hVs15⟩⟩, ho18⟩) hP hS hte9) hS.2.2 dX2_put_62 hlocks
  · refine lv_aload hx hb dX2_put_33 (lv_at hl 1 rfl) ?_
    refine g_callV0 (y := yX1_size) (n := 0) (As := []) (rest := []) hx hb hml hown hts hE hZ hP hS hl.1 (m_X1_size l D hAD σ (1 + 3 * w) (Ls w) Fw Gw hVw) k_X2_47 (ci := 1) (by omega) hVw.1 rfl rfl rfl rfl rfl ⟨rfl, rfl⟩ ⟨Nat.le_of_ble_eq_true rfl, Nat.le_of_ble_eq_true rfl⟩ (Nat.le_of_ble_eq_true rfl) ⟨Nat.le_of_ble_eq_true rfl, Nat.le_of_ble_eq_true rfl⟩ dX2_put_35 (fun v20 σ_21 H locs hq hP hS => ?_)
    obtain ⟨rfl, rfl⟩ := hq
    refine W.eq (g2 := F0 m 38 ls [.int (nI ((Ls w).length))]) rfl ?_
    refine lv_bipush (v := nI 24) hx hb dX2_put_38 (by decide) ?_
    refine lv_icmp_lt (tgt := 53) hx hb dX2_put_40 (by decide) (fun h40 => ?_) (fun h40 => ?_)
    · have hb40 := g_lt (a := (Ls w).length) (b := 24) h40 (by omega) (by omega)
      have hn5 := nm_le hx5
      have hxx := ne_m1 hn5.1
      have hrr : fn_ (Ls w) (rk_ (Ls w) name) = name ∨ (Ls w).length < 48 := Or.inr (by have := hvw.2; omega)
      refine lv_aload hx hb dX2_put_53 (lv_at hl 1 rfl) ?_
      refine lv_iload_n hx hb dX2_put_55 rfl (lv_at hl 4 rfl) ?_
      refine lv_iload_n hx hb dX2_put_56 rfl (lv_at hl 5 rfl) ?_
      refine g_callV0 (y := yX1_set) (n := 2) (As := [.int name, .int mi]) (rest := []) hx hb hml hown hts hE hZ hP hS hl.1 (m_X1_set l D hAD σ (1 + 3 * w) (Ls w) Fw Gw hVw (name) (mi) hxx hrr) k_X2_58 (ci := 1) (by omega) hVw.1 rfl rfl rfl rfl rfl ⟨rfl, rfl⟩ ⟨Nat.le_of_ble_eq_true rfl, Nat.le_of_ble_eq_true rfl⟩ (Nat.le_of_ble_eq_true rfl) ⟨Nat.le_of_ble_eq_true rfl, Nat.le_of_ble_eq_true rfl⟩ dX2_put_57 (fun v22 σ_23 H locs hq hP hS => ?_)
      obtain ⟨rfl, hq2⟩ := hq
      refine W.eq (g2 := F0 m 60 ls []) rfl ?_
      obtain ⟨Fs24, Gs25, hVs26, hos27, hgs28⟩ := hq2
      have ho29 := g_off.tr (g_off.rf (lo := 0) (hi := 19) (σ := σ)) (g_off.wd hos27 (by omega) (by omega))
      have hc30 := g_off.at0 hos27 hc0 (by omega)
      refine lv_iload hx hb dX2_put_60 (lv_at hl 0 rfl) ?_
      refine W.widen (k := 5) (n := 30) (by omega) (by omega) ?_
      rw [← hQ]
      refine vx_ret ?_
      exact W.iret (v := mo_ (Ls w) (name)) hx hb hr (fun te9 hte9 _ => g_fin (⟨by rw [er_put, if_pos (ix_of hw (by decide)), if_pos ⟨hx5, hx9⟩, hwl, if_neg (fun q => by first | exact h30 q.1 | omega)], ⟨w, hw, rfl, rfl, hC.upd hw hos27 ⟨_, _, hVs26⟩⟩, ho29⟩) hP hS hte9) hS.2.2 dX2_put_62 hlocks
    · have hb40 := g_nlt (a := (Ls w).length) (b := 24) h40 (by omega) (by omega)
      rw [← hQ]
      exact g_throw (cls := g_E2) (text := "the wood is full") hx hb hst hown hts hE hZ hP hS (hl.1.trans hml.symm) (by decide +kernel) wl_X2_51 (g_mem 21 (by decide +kernel)) (by decide +kernel) (by decide +kernel) tw_E2.1 tw_E2.2.1 tw_E2.2.2 dX2_put_43 dX2_put_46 dX2_put_47 dX2_put_49 dX2_put_52 htab hlocks ⟨Nat.le_of_ble_eq_true rfl, Nat.le_of_ble_eq_true rfl, Nat.le_of_ble_eq_true rfl, Nat.le_of_ble_eq_true rfl⟩ (Or.inr (Or.inr (⟨by rw [er_put, if_pos (ix_of hw (by decide)), if_pos ⟨hx5, hx9⟩, hwl, if_pos ⟨h30, hb40⟩], rfl⟩))) (Nat.le_of_ble_eq_true rfl) (Nat.le_of_ble_eq_true rfl)

abbrev m_X2_take_rm : Room := { frames := 11, cells := 5, slots := 30, locals := 265 }
set_option maxHeartbeats 4000000 in
set_option maxRecDepth 100000 in
theorem m_X2_take (l : Launch) (hst : l.stackTraces = false) (D : va_G) (hAD : g_AD D) (σ : Nat → va_E) (Ls : Nat → g_L) (wood name : Int32) (hC : g_C D σ Ls) (hvC : vC_ Ls) : g_X l D yX2_take cX2_take 5 (some .int) m_X2_take_rm [.ref (ad_ D 0), .int wood, .int name] σ (fun v1 σ1 => er_take Ls wood name = 0 ∧ (∃ w, w ≤ 1 ∧ wood = nI w ∧ v1 = some (.int (mo_ (Ls w) name)) ∧ rk_ (Ls w) name < (Ls w).length ∧ fn_ (Ls w) (rk_ (Ls w) name) = name ∧ g_C D σ1 (ul_ Ls w ((Ls w).eraseIdx (rk_ (Ls w) name)))) ∧ g_off 0 19 σ σ1) (fun E => (er_take Ls wood name = 1 ∧ E = g_E0) ∨ (er_take Ls wood name = 2 ∧ E = g_E1) ∨ (er_take Ls wood name = 3 ∧ E = g_E2)) := by
  refine g_ofX [(0, .ref (ad_ D 0)), (1, .int wood), (2, .int name)] (by decide +kernel) (Nat.le_of_ble_eq_true rfl) rfl ?_
  intro p e s m args below meth c hx hb hr hml hown hlocks hts hE hZ hP hS htab ls hl
  have hown : s.vm.findClass RX2 = some m.cls := hown
  generalize hQ : vx_MQ _ _ _ _ _ _ _ _ = Q
  obtain ⟨hc0, hcA, hcB, ⟨Lc, hcBo⟩, sz, T, hG⟩ := id hC
  refine lv_iload_n hx hb dX2_take_0 rfl (lv_at hl 1 rfl) ?_
  refine g_callSX (y := yX2_checkWood) (n := 1) (As := [.int wood]) (rest := []) hx hb hml hown hts hE hZ hP hS hl.1 (m_X2_checkWood l hst D hAD σ (wood)) k_X2_29 rfl rfl ⟨Nat.le_of_ble_eq_true rfl, Nat.le_of_ble_eq_true rfl⟩ (Nat.le_of_ble_eq_true rfl) ⟨Nat.le_of_ble_eq_true rfl, Nat.le_of_ble_eq_true rfl⟩ dX2_take_1 (fun E ce q9 H locs hq hP hS hc9 hv9 hk9 => ?_) (fun v1 σ_2 H locs hq hP hS => ?_)
  · rw [← hQ]
    exact g_out htab hlocks (Or.inl (⟨by rw [er_take, if_neg hq.2], hq.1⟩)) hP hS hc9 hv9 hk9 (Nat.le_of_ble_eq_true rfl) (Nat.le_of_ble_eq_true rfl)
  obtain ⟨rfl, rfl, hx1⟩ := hq
  refine W.eq (g2 := F0 m 4 ls []) rfl ?_
  refine W.widen (k := 2) (n := 12) (Nat.le_of_ble_eq_true rfl) (Nat.le_of_ble_eq_true rfl) ?_
  obtain ⟨w, hw, rfl⟩ := ix_nat hx1 (by decide)
  obtain ⟨Fw, Gw, hVw⟩ := hC.wood hw
  have hvw := hvC w hw
  have hwl : wl_ Ls (nI w) = Ls w := wl_n hw
  have hot : ot_ Ls (nI w) = Ls (1 - w) := ot_n hw
  refine lv_iload_n hx hb dX2_take_4 rfl (lv_at hl 2 rfl) ?_
  refine g_callSX (y := yX2_checkName) (n := 1) (As := [.int name]) (rest := []) hx hb hml hown hts hE hZ hP hS hl.1 (m_X2_checkName l hst D hAD σ (name)) k_X2_33 rfl rfl ⟨Nat.le_of_ble_eq_true rfl, Nat.le_of_ble_eq_true rfl⟩ (Nat.le_of_ble_eq_true rfl) ⟨Nat.le_of_ble_eq_true rfl, Nat.le_of_ble_eq_true rfl⟩ dX2_take_5 (fun E ce q9 H locs hq hP hS hc9 hv9 hk9 => ?_) (fun v3 σ_4 H locs hq hP hS => ?_)
  · rw [← hQ]
    exact g_out htab hlocks (Or.inr (Or.inl (⟨by rw [er_take, if_pos (ix_of hw (by decide)), if_neg hq.2], hq.1⟩))) hP hS hc9 hv9 hk9 (Nat.le_of_ble_eq_true rfl) (Nat.le_of_ble_eq_true rfl)
  obtain ⟨rfl, rfl, hx5⟩ := hq
  refine W.eq (g2 := F0 m 8 ls []) rfl ?_
  refine W.widen (k := 3) (n := 18) (Nat.le_of_ble_eq_true rfl) (Nat.le_of_ble_eq_true rfl) ?_
  refine lv_aload_n hx hb dX2_take_8 rfl (lv_at hl 0 rfl) ?_
  refine lv_iload_n hx hb dX2_take_9 rfl (lv_at hl 1 rfl) ?_
  refine g_callV0 (y := yX2_villagesOf) (n := 1) (As := [.int (nI w)]) (rest := []) hx hb hml hown hts hE hZ hP hS hl.1 (m_X2_villagesOf l D hAD σ w hw hc0) k_X2_39 (ci := 2) (by decide) hc0 rfl rfl rfl rfl rfl ⟨rfl, rfl⟩ ⟨Nat.le_of_ble_eq_true rfl, Nat.le_of_ble_eq_true rfl⟩ (Nat.le_of_ble_eq_true rfl) ⟨Nat.le_of_ble_eq_true rfl, Nat.le_of_ble_eq_true rfl⟩ dX2_take_10 (fun v5 σ_6 H locs hq hP hS => ?_)
  obtain ⟨rfl, rfl⟩ := hq
  refine W.eq (g2 := F0 m 13 ls [.ref (ad_ D (1 + 3 * w))]) rfl ?_
  refine lv_astore_n (lv' := [(3, .ref (ad_ D (1 + 3 * w))), (0, .ref (ad_ D 0)), (1, .int (nI w)), (2, .int name)]) hx hb dX2_take_13 rfl hl (by decide) rfl (fun ls hl => ?_)
  refine lv_aload_n hx hb dX2_take_14 rfl (lv_at hl 0 rfl) ?_
  refine lv_iload_n hx hb dX2_take_15 rfl (lv_at hl 3 rfl) ?_
  refine g_callV0 (y := yX1_milesOf) (n := 1) (As := [.int name]) (rest := []) hx hb hml hown hts hE hZ hP hS hl.1 (m_X1_milesOf l D hAD σ (1 + 3 * w) (Ls w) Fw Gw hVw (name)) k_X2_43 (ci := 1) (by omega) hVw.1 rfl rfl rfl rfl rfl ⟨rfl, rfl⟩ ⟨Nat.le_of_ble_eq_true rfl, Nat.le_of_ble_eq_true rfl⟩ (Nat.le_of_ble_eq_true rfl) ⟨Nat.le_of_ble_eq_true rfl, Nat.le_of_ble_eq_true rfl⟩ dX2_take_16 (fun v7 σ_8 H locs hq hP hS => ?_)
  obtain ⟨rfl, rfl⟩ := hq
  refine W.eq (g2 := F0 m 19 ls [.int (mo_ (Ls w) (name))]) rfl ?_
  refine lv_istore (lv' := [(4, .int (mo_ (Ls w) (name))), (3, .ref (ad_ D (1 + 3 * w))), (0, .ref (ad_ D 0)), (1, .int (nI w)), (2, .int name)]) hx hb dX2_take_19 hl (by decide) rfl (fun ls hl => ?_)
  refine lv_iload hx hb dX2_take_21 (lv_at hl 0 rfl) ?_
  refine lv_iconst (v := (-1)) hx hb dX2_take_23 (by decide) ?_
  refine lv_icmp_ne (tgt := 37) hx hb dX2_take_24 (by decide) (fun h24 => ?_) (fun h24 => ?_)
  · have hfn : fn_ (Ls w) (rk_ (Ls w) name) = name := by
      by_cases e : fn_ (Ls w) (rk_ (Ls w) name) = name
      · exact e
      · exact absurd (by rw [mo_, if_neg e]) h24
    have hrm := fn_in hfn (ne_m1 (nm_le hx5).1)
    refine lv_aload_n hx hb dX2_take_37 rfl (lv_at hl 1 rfl) ?_
    refine lv_iload_n hx hb dX2_take_38 rfl (lv_at hl 4 rfl) ?_
    refine g_callV0 (y := yX1_removeName) (n := 1) (As := [.int name]) (rest := []) hx hb hml hown hts hE hZ hP hS hl.1 (m_X1_removeName l D hAD σ (1 + 3 * w) (Ls w) Fw Gw hVw (name) hrm) k_X2_64 (ci := 1) (by omega) hVw.1 rfl rfl rfl rfl rfl ⟨rfl, rfl⟩ ⟨Nat.le_of_ble_eq_true rfl, Nat.le_of_ble_eq_true rfl⟩ (Nat.le_of_ble_eq_true rfl) ⟨Nat.le_of_ble_eq_true rfl, Nat.le_of_ble_eq_true rfl⟩ dX2_take_39 (fun v9 σ_10 H locs hq hP hS => ?_)
    obtain ⟨rfl, hq2⟩ := hq
    refine W.eq (g2 := F0 m 42 ls []) rfl ?_
    obtain ⟨⟨Fr13, Gr14, hVk11⟩, hok12⟩ := hq2
    have ho15 := g_off.tr (g_off.rf (lo := 0) (hi := 19) (σ := σ)) (g_off.wd hok12 (by omega) (by omega))
    have hc16 := g_off.at0 hok12 hc0 (by omega)
    refine lv_iload hx hb dX2_take_42 (lv_at hl 0 rfl) ?_
    refine W.widen (k := 5) (n := 30) (by omega) (by omega) ?_
    rw [← hQ]
    refine vx_ret ?_
    exact W.iret (v := mo_ (Ls w) (name)) hx hb hr (fun te9 hte9 _ => g_fin (⟨by rw [er_take, if_pos (ix_of hw (by decide)), if_pos hx5, hwl, if_neg h24], ⟨w, hw, rfl, rfl, hrm, hfn, hC.upd hw hok12 ⟨_, _, hVk11⟩⟩, ho15⟩) hP hS hte9) hS.2.2 dX2_take_44 hlocks
  · rw [← hQ]
    exact g_throw (cls := g_E2) (text := "there is no such village") hx hb hst hown hts hE hZ hP hS (hl.1.trans hml.symm) (by decide +kernel) wl_X2_51 (g_mem 21 (by decide +kernel)) (by decide +kernel) (by decide +kernel) tw_E2.1 tw_E2.2.1 tw_E2.2.2 dX2_take_27 dX2_take_30 dX2_take_31 dX2_take_33 dX2_take_36 htab hlocks ⟨Nat.le_of_ble_eq_true rfl, Nat.le_of_ble_eq_true rfl, Nat.le_of_ble_eq_true rfl, Nat.le_of_ble_eq_true rfl⟩ (Or.inr (Or.inr (⟨by rw [er_take, if_pos (ix_of hw (by decide)), if_pos hx5, hwl, if_pos h24], rfl⟩))) (Nat.le_of_ble_eq_true rfl) (Nat.le_of_ble_eq_true rfl)

abbrev m_X2_miles_rm : Room := { frames := 11, cells := 5, slots := 30, locals := 265 }
set_option maxHeartbeats 4000000 in
set_option maxRecDepth 100000 in
theorem m_X2_miles (l : Launch) (hst : l.stackTraces = false) (D : va_G) (hAD : g_AD D) (σ : Nat → va_E) (Ls : Nat → g_L) (wood name : Int32) (hC : g_C D σ Ls) (hvC : vC_ Ls) : g_X l D yX2_miles cX2_miles 3 (some .int) m_X2_miles_rm [.ref (ad_ D 0), .int wood, .int name] σ (fun v1 σ1 => er_miles wood name = 0 ∧ (∃ w, w ≤ 1 ∧ wood = nI w ∧ v1 = some (.int (mo_ (Ls w) name)) ∧ g_C D σ1 Ls) ∧ g_off 0 19 σ σ1) (fun E => (er_miles wood name = 1 ∧ E = g_E0) ∨ (er_miles wood name = 2 ∧ E = g_E1)) := by
  refine g_ofX [(0, .ref (ad_ D 0)), (1, .int wood), (2, .int name)] (by decide +kernel) (Nat.le_of_ble_eq_true rfl) rfl ?_
  intro p e s m args below meth c hx hb hr hml hown hlocks hts hE hZ hP hS htab ls hl
  have hown : s.vm.findClass RX2 = some m.cls := hown
  generalize hQ : vx_MQ _ _ _ _ _ _ _ _ = Q
  obtain ⟨hc0, hcA, hcB, ⟨Lc, hcBo⟩, sz, T, hG⟩ := id hC
  refine lv_iload_n hx hb dX2_miles_0 rfl (lv_at hl 1 rfl) ?_
  refine g_callSX (y := yX2_checkWood) (n := 1) (As := [.int wood]) (rest := []) hx hb hml hown hts hE hZ hP hS hl.1 (m_X2_checkWood l hst D hAD σ (wood)) k_X2_29 rfl rfl ⟨Nat.le_of_ble_eq_true rfl, Nat.le_of_ble_eq_true rfl⟩ (Nat.le_of_ble_eq_true rfl) ⟨Nat.le_of_ble_eq_true rfl, Nat.le_of_ble_eq_true rfl⟩ dX2_miles_1 (fun E ce q9 H locs hq hP hS hc9 hv9 hk9 => ?_) (fun v1 σ_2 H locs hq hP hS => ?_)
  · rw [← hQ]
    exact g_out htab hlocks (Or.inl (⟨by rw [er_miles, if_neg hq.2], hq.1⟩)) hP hS hc9 hv9 hk9 (Nat.le_of_ble_eq_true rfl) (Nat.le_of_ble_eq_true rfl)
  obtain ⟨rfl, rfl, hx1⟩ := hq
  refine W.eq (g2 := F0 m 4 ls []) rfl ?_
  refine W.widen (k := 2) (n := 12) (Nat.le_of_ble_eq_true rfl) (Nat.le_of_ble_eq_true rfl) ?_
  obtain ⟨w, hw, rfl⟩ := ix_nat hx1 (by decide)
  obtain ⟨Fw, Gw, hVw⟩ := hC.wood hw
  have hvw := hvC w hw
  have hwl : wl_ Ls (nI w) = Ls w := wl_n hw
  have hot : ot_ Ls (nI w) = Ls (1 - w) := ot_n hw
  refine lv_iload_n hx hb dX2_miles_4 rfl (lv_at hl 2 rfl) ?_
  refine g_callSX (y := yX2_checkName) (n := 1) (As := [.int name]) (rest := []) hx hb hml hown hts hE hZ hP hS hl.1 (m_X2_checkName l hst D hAD σ (name)) k_X2_33 rfl rfl ⟨Nat.le_of_ble_eq_true rfl, Nat.le_of_ble_eq_true rfl⟩ (Nat.le_of_ble_eq_true rfl) ⟨Nat.le_of_ble_eq_true rfl, Nat.le_of_ble_eq_true rfl⟩ dX2_miles_5 (fun E ce q9 H locs hq hP hS hc9 hv9 hk9 => ?_) (fun v3 σ_4 H locs hq hP hS => ?_)
  · rw [← hQ]
    exact g_out htab hlocks (Or.inr (⟨by rw [er_miles, if_pos (ix_of hw (by decide)), if_neg hq.2], hq.1⟩)) hP hS hc9 hv9 hk9 (Nat.le_of_ble_eq_true rfl) (Nat.le_of_ble_eq_true rfl)
  obtain ⟨rfl, rfl, hx5⟩ := hq
  refine W.eq (g2 := F0 m 8 ls []) rfl ?_
  refine W.widen (k := 3) (n := 18) (Nat.le_of_ble_eq_true rfl) (Nat.le_of_ble_eq_true rfl) ?_
  refine lv_aload_n hx hb dX2_miles_8 rfl (lv_at hl 0 rfl) ?_
  refine lv_iload_n hx hb dX2_miles_9 rfl (lv_at hl 1 rfl) ?_
  refine g_callV0 (y := yX2_villagesOf) (n := 1) (As := [.int (nI w)]) (rest := []) hx hb hml hown hts hE hZ hP hS hl.1 (m_X2_villagesOf l D hAD σ w hw hc0) k_X2_39 (ci := 2) (by decide) hc0 rfl rfl rfl rfl rfl ⟨rfl, rfl⟩ ⟨Nat.le_of_ble_eq_true rfl, Nat.le_of_ble_eq_true rfl⟩ (Nat.le_of_ble_eq_true rfl) ⟨Nat.le_of_ble_eq_true rfl, Nat.le_of_ble_eq_true rfl⟩ dX2_miles_10 (fun v5 σ_6 H locs hq hP hS => ?_)
  obtain ⟨rfl, rfl⟩ := hq
  refine W.eq (g2 := F0 m 13 ls [.ref (ad_ D (1 + 3 * w))]) rfl ?_
  refine lv_iload_n hx hb dX2_miles_13 rfl (lv_at hl 2 rfl) ?_
  refine g_callV0 (y := yX1_milesOf) (n := 1) (As := [.int name]) (rest := []) hx hb hml hown hts hE hZ hP hS hl.1 (m_X1_milesOf l D hAD σ (1 + 3 * w) (Ls w) Fw Gw hVw (name)) k_X2_43 (ci := 1) (by omega) hVw.1 rfl rfl rfl rfl rfl ⟨rfl, rfl⟩ ⟨Nat.le_of_ble_eq_true rfl, Nat.le_of_ble_eq_true rfl⟩ (Nat.le_of_ble_eq_true rfl) ⟨Nat.le_of_ble_eq_true rfl, Nat.le_of_ble_eq_true rfl⟩ dX2_miles_14 (fun v7 σ_8 H locs hq hP hS => ?_)
  obtain ⟨rfl, rfl⟩ := hq
  refine W.eq (g2 := F0 m 17 ls [.int (mo_ (Ls w) (name))]) rfl ?_
  refine W.widen (k := 5) (n := 30) (by omega) (by omega) ?_
  rw [← hQ]
  refine vx_ret ?_
  exact W.iret (v := mo_ (Ls w) (name)) hx hb hr (fun te9 hte9 _ => g_fin (⟨by rw [er_miles, if_pos (ix_of hw (by decide)), if_pos hx5], ⟨w, hw, rfl, rfl, hC⟩, g_off.rf⟩) hP hS hte9) hS.2.2 dX2_miles_17 hlocks

abbrev m_X2_near_rm : Room := { frames := 11, cells := 5, slots := 30, locals := 265 }
set_option maxHeartbeats 4000000 in
set_option maxRecDepth 100000 in
theorem m_X2_near (l : Launch) (hst : l.stackTraces = false) (D : va_G) (hAD : g_AD D) (σ : Nat → va_E) (Ls : Nat → g_L) (wood name : Int32) (hC : g_C D σ Ls) (hvC : vC_ Ls) : g_X l D yX2_near cX2_near 3 (some .int) m_X2_near_rm [.ref (ad_ D 0), .int wood, .int name] σ (fun v1 σ1 => er_miles wood name = 0 ∧ (∃ w, w ≤ 1 ∧ wood = nI w ∧ v1 = some (.int (ne_ (Ls w) name (Ls w).length)) ∧ g_C D σ1 Ls) ∧ g_off 0 19 σ σ1) (fun E => (er_miles wood name = 1 ∧ E = g_E0) ∨ (er_miles wood name = 2 ∧ E = g_E1)) := by
  refine g_ofX [(0, .ref (ad_ D 0)), (1, .int wood), (2, .int name)] (by decide +kernel) (Nat.le_of_ble_eq_true rfl) rfl ?_
  intro p e s m args below meth c hx hb hr hml hown hlocks hts hE hZ hP hS htab ls hl
  have hown : s.vm.findClass RX2 = some m.cls := hown
  generalize hQ : vx_MQ _ _ _ _ _ _ _ _ = Q
  obtain ⟨hc0, hcA, hcB, ⟨Lc, hcBo⟩, sz, T, hG⟩ := id hC
  refine lv_iload_n hx hb dX2_near_0 rfl (lv_at hl 1 rfl) ?_
  refine g_callSX (y := yX2_checkWood) (n := 1) (As := [.int wood]) (rest := []) hx hb hml hown hts hE hZ hP hS hl.1 (m_X2_checkWood l hst D hAD σ (wood)) k_X2_29 rfl rfl ⟨Nat.le_of_ble_eq_true rfl, Nat.le_of_ble_eq_true rfl⟩ (Nat.le_of_ble_eq_true rfl) ⟨Nat.le_of_ble_eq_true rfl, Nat.le_of_ble_eq_true rfl⟩ dX2_near_1 (fun E ce q9 H locs hq hP hS hc9 hv9 hk9 => ?_) (fun v1 σ_2 H locs hq hP hS => ?_)
  · rw [← hQ]
    exact g_out htab hlocks (Or.inl (⟨by rw [er_miles, if_neg hq.2], hq.1⟩)) hP hS hc9 hv9 hk9 (Nat.le_of_ble_eq_true rfl) (Nat.le_of_ble_eq_true rfl)
  obtain ⟨rfl, rfl, hx1⟩ := hq
  refine W.eq (g2 := F0 m 4 ls []) rfl ?_
  refine W.widen (k := 2) (n := 12) (Nat.le_of_ble_eq_true rfl) (Nat.le_of_ble_eq_true rfl) ?_
  obtain ⟨w, hw, rfl⟩ := ix_nat hx1 (by decide)
  obtain ⟨Fw, Gw, hVw⟩ := hC.wood hw
  have hvw := hvC w hw
  have hwl : wl_ Ls (nI w) = Ls w := wl_n hw
  have hot : ot_ Ls (nI w) = Ls (1 - w) := ot_n hw
  refine lv_iload_n hx hb dX2_near_4 rfl (lv_at hl 2 rfl) ?_
  refine g_callSX (y := yX2_checkName) (n := 1) (As := [.int name]) (rest := []) hx hb hml hown hts hE hZ hP hS hl.1 (m_X2_checkName l hst D hAD σ (name)) k_X2_33 rfl rfl ⟨Nat.le_of_ble_eq_true rfl, Nat.le_of_ble_eq_true rfl⟩ (Nat.le_of_ble_eq_true rfl) ⟨Nat.le_of_ble_eq_true rfl, Nat.le_of_ble_eq_true rfl⟩ dX2_near_5 (fun E ce q9 H locs hq hP hS hc9 hv9 hk9 => ?_) (fun v3 σ_4 H locs hq hP hS => ?_)
  · rw [← hQ]
    exact g_out htab hlocks (Or.inr (⟨by rw [er_miles, if_pos (ix_of hw (by decide)), if_neg hq.2], hq.1⟩)) hP hS hc9 hv9 hk9 (Nat.le_of_ble_eq_true rfl) (Nat.le_of_ble_eq_true rfl)
  obtain ⟨rfl, rfl, hx5⟩ := hq
  refine W.eq (g2 := F0 m 8 ls []) rfl ?_
  refine W.widen (k := 3) (n := 18) (Nat.le_of_ble_eq_true rfl) (Nat.le_of_ble_eq_true rfl) ?_
  refine lv_aload_n hx hb dX2_near_8 rfl (lv_at hl 0 rfl) ?_
  refine lv_iload_n hx hb dX2_near_9 rfl (lv_at hl 1 rfl) ?_
  refine g_callV0 (y := yX2_villagesOf) (n := 1) (As := [.int (nI w)]) (rest := []) hx hb hml hown hts hE hZ hP hS hl.1 (m_X2_villagesOf l D hAD σ w hw hc0) k_X2_39 (ci := 2) (by decide) hc0 rfl rfl rfl rfl rfl ⟨rfl, rfl⟩ ⟨Nat.le_of_ble_eq_true rfl, Nat.le_of_ble_eq_true rfl⟩ (Nat.le_of_ble_eq_true rfl) ⟨Nat.le_of_ble_eq_true rfl, Nat.le_of_ble_eq_true rfl⟩ dX2_near_10 (fun v5 σ_6 H locs hq hP hS => ?_)
  obtain ⟨rfl, rfl⟩ := hq
  refine W.eq (g2 := F0 m 13 ls [.ref (ad_ D (1 + 3 * w))]) rfl ?_
  refine lv_iload_n hx hb dX2_near_13 rfl (lv_at hl 2 rfl) ?_
  refine g_callV0 (y := yX1_nearest) (n := 1) (As := [.int name]) (rest := []) hx hb hml hown hts hE hZ hP hS hl.1 (m_X1_nearest l D hAD σ (1 + 3 * w) (Ls w) Fw Gw hVw (name)) k_X2_133 (ci := 1) (by omega) hVw.1 rfl rfl rfl rfl rfl ⟨rfl, rfl⟩ ⟨Nat.le_of_ble_eq_true rfl, Nat.le_of_ble_eq_true rfl⟩ (Nat.le_of_ble_eq_true rfl) ⟨Nat.le_of_ble_eq_true rfl, Nat.le_of_ble_eq_true rfl⟩ dX2_near_14 (fun v7 σ_8 H locs hq hP hS => ?_)
  obtain ⟨rfl, rfl⟩ := hq
  refine W.eq (g2 := F0 m 17 ls [.int (ne_ (Ls w) (name) (List.length (Ls w)))]) rfl ?_
  refine W.widen (k := 5) (n := 30) (by omega) (by omega) ?_
  rw [← hQ]
  refine vx_ret ?_
  exact W.iret (v := ne_ (Ls w) (name) (List.length (Ls w))) hx hb hr (fun te9 hte9 _ => g_fin (⟨by rw [er_miles, if_pos (ix_of hw (by decide)), if_pos hx5], ⟨w, hw, rfl, rfl, hC⟩, g_off.rf⟩) hP hS hte9) hS.2.2 dX2_near_17 hlocks

abbrev m_X2_far_rm : Room := { frames := 11, cells := 5, slots := 30, locals := 265 }
set_option maxHeartbeats 4000000 in
set_option maxRecDepth 100000 in
theorem m_X2_far (l : Launch) (hst : l.stackTraces = false) (D : va_G) (hAD : g_AD D) (σ : Nat → va_E) (Ls : Nat → g_L) (wood : Int32) (hC : g_C D σ Ls) (hvC : vC_ Ls) : g_X l D yX2_far cX2_far 2 (some .int) m_X2_far_rm [.ref (ad_ D 0), .int wood] σ (fun v1 σ1 => er_wood wood = 0 ∧ (∃ w, w ≤ 1 ∧ wood = nI w ∧ v1 = some (.int (fa_ (Ls w) (Ls w).length)) ∧ g_C D σ1 Ls) ∧ g_off 0 19 σ σ1) (fun E => (er_wood wood = 1 ∧ E = g_E0)) := by
  refine g_ofX [(0, .ref (ad_ D 0)), (1, .int wood)] (by decide +kernel) (Nat.le_of_ble_eq_true rfl) rfl ?_
  intro p e s m args below meth c hx hb hr hml hown hlocks hts hE hZ hP hS htab ls hl
  have hown : s.vm.findClass RX2 = some m.cls := hown
  generalize hQ : vx_MQ _ _ _ _ _ _ _ _ = Q
  obtain ⟨hc0, hcA, hcB, ⟨Lc, hcBo⟩, sz, T, hG⟩ := id hC
  refine lv_iload_n hx hb dX2_far_0 rfl (lv_at hl 1 rfl) ?_
  refine g_callSX (y := yX2_checkWood) (n := 1) (As := [.int wood]) (rest := []) hx hb hml hown hts hE hZ hP hS hl.1 (m_X2_checkWood l hst D hAD σ (wood)) k_X2_29 rfl rfl ⟨Nat.le_of_ble_eq_true rfl, Nat.le_of_ble_eq_true rfl⟩ (Nat.le_of_ble_eq_true rfl) ⟨Nat.le_of_ble_eq_true rfl, Nat.le_of_ble_eq_true rfl⟩ dX2_far_1 (fun E ce q9 H locs hq hP hS hc9 hv9 hk9 => ?_) (fun v1 σ_2 H locs hq hP hS => ?_)
  · rw [← hQ]
    exact g_out htab hlocks (⟨by rw [er_wood, if_neg hq.2], hq.1⟩) hP hS hc9 hv9 hk9 (Nat.le_of_ble_eq_true rfl) (Nat.le_of_ble_eq_true rfl)
  obtain ⟨rfl, rfl, hx1⟩ := hq
  refine W.eq (g2 := F0 m 4 ls []) rfl ?_
  refine W.widen (k := 2) (n := 12) (Nat.le_of_ble_eq_true rfl) (Nat.le_of_ble_eq_true rfl) ?_
  obtain ⟨w, hw, rfl⟩ := ix_nat hx1 (by decide)
  obtain ⟨Fw, Gw, hVw⟩ := hC.wood hw
  have hvw := hvC w hw
  have hwl : wl_ Ls (nI w) = Ls w := wl_n hw
  have hot : ot_ Ls (nI w) = Ls (1 - w) := ot_n hw
  refine lv_aload_n hx hb dX2_far_4 rfl (lv_at hl 0 rfl) ?_
  refine lv_iload_n hx hb dX2_far_5 rfl (lv_at hl 1 rfl) ?_
  refine g_callV0 (y := yX2_villagesOf) (n := 1) (As := [.int (nI w)]) (rest := []) hx hb hml hown hts hE hZ hP hS hl.1 (m_X2_villagesOf l D hAD σ w hw hc0) k_X2_39 (ci := 2) (by decide) hc0 rfl rfl rfl rfl rfl ⟨rfl, rfl⟩ ⟨Nat.le_of_ble_eq_true rfl, Nat.le_of_ble_eq_true rfl⟩ (Nat.le_of_ble_eq_true rfl) ⟨Nat.le_of_ble_eq_true rfl, Nat.le_of_ble_eq_true rfl⟩ dX2_far_6 (fun v3 σ_4 H locs hq hP hS => ?_)
  obtain ⟨rfl, rfl⟩ := hq
  refine W.eq (g2 := F0 m 9 ls [.ref (ad_ D (1 + 3 * w))]) rfl ?_
  refine g_callV0 (y := yX1_farthest) (n := 0) (As := []) (rest := []) hx hb hml hown hts hE hZ hP hS hl.1 (m_X1_farthest l D hAD σ (1 + 3 * w) (Ls w) Fw Gw hVw) k_X2_136 (ci := 1) (by omega) hVw.1 rfl rfl rfl rfl rfl ⟨rfl, rfl⟩ ⟨Nat.le_of_ble_eq_true rfl, Nat.le_of_ble_eq_true rfl⟩ (Nat.le_of_ble_eq_true rfl) ⟨Nat.le_of_ble_eq_true rfl, Nat.le_of_ble_eq_true rfl⟩ dX2_far_9 (fun v5 σ_6 H locs hq hP hS => ?_)
  obtain ⟨rfl, rfl⟩ := hq
  refine W.eq (g2 := F0 m 12 ls [.int (fa_ (Ls w) (List.length (Ls w)))]) rfl ?_
  refine W.widen (k := 5) (n := 30) (by omega) (by omega) ?_
  rw [← hQ]
  refine vx_ret ?_
  exact W.iret (v := fa_ (Ls w) (List.length (Ls w))) hx hb hr (fun te9 hte9 _ => g_fin (⟨by rw [er_wood, if_pos (ix_of hw (by decide))], ⟨w, hw, rfl, rfl, hC⟩, g_off.rf⟩) hP hS hte9) hS.2.2 dX2_far_12 hlocks

abbrev m_X2_unlike_rm : Room := { frames := 9, cells := 5, slots := 30, locals := 224 }
set_option maxHeartbeats 4000000 in
set_option maxRecDepth 100000 in
theorem m_X2_unlike (l : Launch) (hst : l.stackTraces = false) (D : va_G) (hAD : g_AD D) (σ : Nat → va_E) (Ls : Nat → g_L) (a b : Int32) (hC : g_C D σ Ls) (hvC : vC_ Ls) : g_X l D yX2_unlike cX2_unlike 3 (some .int) m_X2_unlike_rm [.ref (ad_ D 0), .int a, .int b] σ (fun v1 σ1 => er_unlike a b = 0 ∧ (v1 = some (.int (fub_ a b)) ∧ nm1_ a ∧ nm1_ b ∧ g_C D σ1 Ls) ∧ g_off 0 19 σ σ1) (fun E => (er_unlike a b = 1 ∧ E = g_E1)) := by
  refine g_ofX [(0, .ref (ad_ D 0)), (1, .int a), (2, .int b)] (by decide +kernel) (Nat.le_of_ble_eq_true rfl) rfl ?_
  intro p e s m args below meth c hx hb hr hml hown hlocks hts hE hZ hP hS htab ls hl
  have hown : s.vm.findClass RX2 = some m.cls := hown
  generalize hQ : vx_MQ _ _ _ _ _ _ _ _ = Q
  obtain ⟨hc0, hcA, hcB, ⟨Lc, hcBo⟩, sz, T, hG⟩ := id hC
  refine lv_iload_n hx hb dX2_unlike_0 rfl (lv_at hl 1 rfl) ?_
  refine g_callSX (y := yX2_checkName) (n := 1) (As := [.int a]) (rest := []) hx hb hml hown hts hE hZ hP hS hl.1 (m_X2_checkName l hst D hAD σ (a)) k_X2_33 rfl rfl ⟨Nat.le_of_ble_eq_true rfl, Nat.le_of_ble_eq_true rfl⟩ (Nat.le_of_ble_eq_true rfl) ⟨Nat.le_of_ble_eq_true rfl, Nat.le_of_ble_eq_true rfl⟩ dX2_unlike_1 (fun E ce q9 H locs hq hP hS hc9 hv9 hk9 => ?_) (fun v1 σ_2 H locs hq hP hS => ?_)
  · rw [← hQ]
    exact g_out htab hlocks (⟨by rw [er_unlike, if_neg (fun q => hq.2 q.1)], hq.1⟩) hP hS hc9 hv9 hk9 (Nat.le_of_ble_eq_true rfl) (Nat.le_of_ble_eq_true rfl)
  obtain ⟨rfl, rfl, hx1⟩ := hq
  refine W.eq (g2 := F0 m 4 ls []) rfl ?_
  refine W.widen (k := 1) (n := 6) (Nat.le_of_ble_eq_true rfl) (Nat.le_of_ble_eq_true rfl) ?_
  refine lv_iload_n hx hb dX2_unlike_4 rfl (lv_at hl 2 rfl) ?_
  refine g_callSX (y := yX2_checkName) (n := 1) (As := [.int b]) (rest := []) hx hb hml hown hts hE hZ hP hS hl.1 (m_X2_checkName l hst D hAD σ (b)) k_X2_33 rfl rfl ⟨Nat.le_of_ble_eq_true rfl, Nat.le_of_ble_eq_true rfl⟩ (Nat.le_of_ble_eq_true rfl) ⟨Nat.le_of_ble_eq_true rfl, Nat.le_of_ble_eq_true rfl⟩ dX2_unlike_5 (fun E ce q9 H locs hq hP hS hc9 hv9 hk9 => ?_) (fun v3 σ_4 H locs hq hP hS => ?_)
  · rw [← hQ]
    exact g_out htab hlocks (⟨by rw [er_unlike, if_neg (fun q => hq.2 q.2)], hq.1⟩) hP hS hc9 hv9 hk9 (Nat.le_of_ble_eq_true rfl) (Nat.le_of_ble_eq_true rfl)
  obtain ⟨rfl, rfl, hx5⟩ := hq
  refine W.eq (g2 := F0 m 8 ls []) rfl ?_
  refine W.widen (k := 2) (n := 12) (Nat.le_of_ble_eq_true rfl) (Nat.le_of_ble_eq_true rfl) ?_
  refine lv_iload_n hx hb dX2_unlike_8 rfl (lv_at hl 1 rfl) ?_
  refine lv_iload_n hx hb dX2_unlike_9 rfl (lv_at hl 2 rfl) ?_
  refine g_callS0 (y := yX2_firstUnlikeBit) (n := 2) (As := [.int a, .int b]) (rest := []) hx hb hml hown hts hE hZ hP hS hl.1 (m_X2_firstUnlikeBit l D hAD σ (a) (b)) k_X2_139 rfl rfl ⟨rfl, rfl⟩ ⟨Nat.le_of_ble_eq_true rfl, Nat.le_of_ble_eq_true rfl⟩ (Nat.le_of_ble_eq_true rfl) ⟨Nat.le_of_ble_eq_true rfl, Nat.le_of_ble_eq_true rfl⟩ dX2_unlike_10 (fun v5 σ_6 H locs hq hP hS => ?_)
  obtain ⟨rfl, rfl⟩ := hq
  refine W.eq (g2 := F0 m 13 ls [.int (fub_ (a) (b))]) rfl ?_
  refine W.widen (k := 5) (n := 30) (by omega) (by omega) ?_
  rw [← hQ]
  refine vx_ret ?_
  exact W.iret (v := fub_ (a) (b)) hx hb hr (fun te9 hte9 _ => g_fin (⟨by rw [er_unlike, if_pos ⟨hx1, hx5⟩], ⟨rfl, hx1, hx5, hC⟩, g_off.rf⟩) hP hS hte9) hS.2.2 dX2_unlike_13 hlocks

abbrev m_X2_at_rm : Room := { frames := 10, cells := 5, slots := 30, locals := 242 }
set_option maxHeartbeats 4000000 in
set_option maxRecDepth 100000 in
theorem m_X2_at (l : Launch) (hst : l.stackTraces = false) (D : va_G) (hAD : g_AD D) (σ : Nat → va_E) (Ls : Nat → g_L) (wood k : Int32) (hC : g_C D σ Ls) (hvC : vC_ Ls) : g_X l D yX2_at cX2_at 4 (some .int) m_X2_at_rm [.ref (ad_ D 0), .int wood, .int k] σ (fun v1 σ1 => er_at Ls wood k = 0 ∧ (∃ w j, w ≤ 1 ∧ wood = nI w ∧ j < (Ls w).length ∧ k = nI j ∧ v1 = some (.int (fn_ (Ls w) j)) ∧ g_C D σ1 Ls) ∧ g_off 0 19 σ σ1) (fun E => (er_at Ls wood k = 1 ∧ E = g_E0)) := by
  refine g_ofX [(0, .ref (ad_ D 0)), (1, .int wood), (2, .int k)] (by decide +kernel) (Nat.le_of_ble_eq_true rfl) rfl ?_
  intro p e s m args below meth c hx hb hr hml hown hlocks hts hE hZ hP hS htab ls hl
  have hown : s.vm.findClass RX2 = some m.cls := hown
  generalize hQ : vx_MQ _ _ _ _ _ _ _ _ = Q
  obtain ⟨hc0, hcA, hcB, ⟨Lc, hcBo⟩, sz, T, hG⟩ := id hC
  refine lv_iload_n hx hb dX2_at_0 rfl (lv_at hl 1 rfl) ?_
  refine g_callSX (y := yX2_checkWood) (n := 1) (As := [.int wood]) (rest := []) hx hb hml hown hts hE hZ hP hS hl.1 (m_X2_checkWood l hst D hAD σ (wood)) k_X2_29 rfl rfl ⟨Nat.le_of_ble_eq_true rfl, Nat.le_of_ble_eq_true rfl⟩ (Nat.le_of_ble_eq_true rfl) ⟨Nat.le_of_ble_eq_true rfl, Nat.le_of_ble_eq_true rfl⟩ dX2_at_1 (fun E ce q9 H locs hq hP hS hc9 hv9 hk9 => ?_) (fun v1 σ_2 H locs hq hP hS => ?_)
  · rw [← hQ]
    exact g_out htab hlocks (⟨by rw [er_at, if_neg (fun q => hq.2 q.1)], hq.1⟩) hP hS hc9 hv9 hk9 (Nat.le_of_ble_eq_true rfl) (Nat.le_of_ble_eq_true rfl)
  obtain ⟨rfl, rfl, hx1⟩ := hq
  refine W.eq (g2 := F0 m 4 ls []) rfl ?_
  refine W.widen (k := 2) (n := 12) (Nat.le_of_ble_eq_true rfl) (Nat.le_of_ble_eq_true rfl) ?_
  obtain ⟨w, hw, rfl⟩ := ix_nat hx1 (by decide)
  obtain ⟨Fw, Gw, hVw⟩ := hC.wood hw
  have hvw := hvC w hw
  have hwl : wl_ Ls (nI w) = Ls w := wl_n hw
  have hot : ot_ Ls (nI w) = Ls (1 - w) := ot_n hw
  refine lv_aload_n hx hb dX2_at_4 rfl (lv_at hl 0 rfl) ?_
  refine lv_iload_n hx hb dX2_at_5 rfl (lv_at hl 1 rfl) ?_
  refine g_callV0 (y := yX2_villagesOf) (n := 1) (As := [.int (nI w)]) (rest := []) hx hb hml hown hts hE hZ hP hS hl.1 (m_X2_villagesOf l D hAD σ w hw hc0) k_X2_39 (ci := 2) (by decide) hc0 rfl rfl rfl rfl rfl ⟨rfl, rfl⟩ ⟨Nat.le_of_ble_eq_true rfl, Nat.le_of_ble_eq_true rfl⟩ (Nat.le_of_ble_eq_true rfl) ⟨Nat.le_of_ble_eq_true rfl, Nat.le_of_ble_eq_true rfl⟩ dX2_at_6 (fun v3 σ_4 H locs hq hP hS => ?_)
  obtain ⟨rfl, rfl⟩ := hq
  refine W.eq (g2 := F0 m 9 ls [.ref (ad_ D (1 + 3 * w))]) rfl ?_
  refine lv_astore_n (lv' := [(3, .ref (ad_ D (1 + 3 * w))), (0, .ref (ad_ D 0)), (1, .int (nI w)), (2, .int k)]) hx hb dX2_at_9 rfl hl (by decide) rfl (fun ls hl => ?_)
  refine lv_iload_n hx hb dX2_at_10 rfl (lv_at hl 3 rfl) ?_
  refine lv_aload_n hx hb dX2_at_11 rfl (lv_at hl 0 rfl) ?_
  refine g_callV0 (y := yX1_size) (n := 0) (As := []) (rest := [.int k]) hx hb hml hown hts hE hZ hP hS hl.1 (m_X1_size l D hAD σ (1 + 3 * w) (Ls w) Fw Gw hVw) k_X2_47 (ci := 1) (by omega) hVw.1 rfl rfl rfl rfl rfl ⟨rfl, rfl⟩ ⟨Nat.le_of_ble_eq_true rfl, Nat.le_of_ble_eq_true rfl⟩ (Nat.le_of_ble_eq_true rfl) ⟨Nat.le_of_ble_eq_true rfl, Nat.le_of_ble_eq_true rfl⟩ dX2_at_12 (fun v5 σ_6 H locs hq hP hS => ?_)
  obtain ⟨rfl, rfl⟩ := hq
  refine W.eq (g2 := F0 m 15 ls [.int (nI ((Ls w).length)), .int k]) rfl ?_
  refine lv_iconst (v := nI 1) hx hb dX2_at_15 (by decide) ?_
  refine lv_isub hx hb dX2_at_16 ?_
  refine g_callSX (y := yX2_checkIndex) (n := 2) (As := [.int k, .int ((nI ((Ls w).length)) - (nI 1))]) (rest := []) hx hb hml hown hts hE hZ hP hS hl.1 (m_X2_checkIndex l hst D hAD σ (k) ((nI ((Ls w).length)) - (nI 1))) k_X2_67 rfl rfl ⟨Nat.le_of_ble_eq_true rfl, Nat.le_of_ble_eq_true rfl⟩ (Nat.le_of_ble_eq_true rfl) ⟨Nat.le_of_ble_eq_true rfl, Nat.le_of_ble_eq_true rfl⟩ dX2_at_17 (fun E ce q9 H locs hq hP hS hc9 hv9 hk9 => ?_) (fun v7 σ_8 H locs hq hP hS => ?_)
  · rw [← hQ]
    exact g_out htab hlocks (⟨by rw [er_at, hwl, if_neg (fun q => hq.2 q.2)], hq.1⟩) hP hS hc9 hv9 hk9 (Nat.le_of_ble_eq_true rfl) (Nat.le_of_ble_eq_true rfl)
  obtain ⟨rfl, rfl, hx17⟩ := hq
  refine W.eq (g2 := F0 m 20 ls []) rfl ?_
  refine W.widen (k := 3) (n := 18) (Nat.le_of_ble_eq_true rfl) (Nat.le_of_ble_eq_true rfl) ?_
  have hat := hx17
  obtain ⟨j, hj, rfl⟩ := sz_ix (by have := hvw.2; omega) hx17
  have hj24 := hvw.2
  refine lv_aload_n hx hb dX2_at_20 rfl (lv_at hl 0 rfl) ?_
  refine lv_iload_n hx hb dX2_at_21 rfl (lv_at hl 3 rfl) ?_
  refine g_callV0 (y := yX1_nameAt) (n := 1) (As := [.int (nI j)]) (rest := []) hx hb hml hown hts hE hZ hP hS hl.1 (m_X1_nameAtN l D hAD σ (1 + 3 * w) (Ls w) Fw Gw hVw j (by omega)) k_X2_79 (ci := 1) (by omega) hVw.1 rfl rfl rfl rfl rfl ⟨rfl, rfl⟩ ⟨Nat.le_of_ble_eq_true rfl, Nat.le_of_ble_eq_true rfl⟩ (Nat.le_of_ble_eq_true rfl) ⟨Nat.le_of_ble_eq_true rfl, Nat.le_of_ble_eq_true rfl⟩ dX2_at_22 (fun v9 σ_10 H locs hq hP hS => ?_)
  obtain ⟨rfl, rfl⟩ := hq
  refine W.eq (g2 := F0 m 25 ls [.int (fn_ (Ls w) j)]) rfl ?_
  refine W.widen (k := 5) (n := 30) (by omega) (by omega) ?_
  rw [← hQ]
  refine vx_ret ?_
  exact W.iret (v := fn_ (Ls w) j) hx hb hr (fun te9 hte9 _ => g_fin (⟨by rw [er_at, hwl, if_pos ⟨ix_of hw (by decide), hat⟩], ⟨w, j, hw, rfl, hj, rfl, rfl, hC⟩, g_off.rf⟩) hP hS hte9) hS.2.2 dX2_at_25 hlocks

abbrev m_X2_step_rm : Room := { frames := 10, cells := 5, slots := 30, locals := 243 }
set_option maxHeartbeats 4000000 in
set_option maxRecDepth 100000 in
theorem m_X2_step (l : Launch) (hst : l.stackTraces = false) (D : va_G) (hAD : g_AD D) (σ : Nat → va_E) (Ls : Nat → g_L) (wood name up : Int32) (hC : g_C D σ Ls) (hvC : vC_ Ls) : g_X l D yX2_step cX2_step 5 (some .int) m_X2_step_rm [.ref (ad_ D 0), .int wood, .int name, .int up] σ (fun v1 σ1 => er_miles wood name = 0 ∧ (∃ w, w ≤ 1 ∧ wood = nI w ∧ nm1_ name ∧ v1 = some (.int (if up = 0 then na_ (Ls w) (nI (rk_ (Ls w) name) - nI 1) else fn_ (Ls w) (rk_ (Ls w) (name + nI 1)))) ∧ g_C D σ1 Ls) ∧ g_off 0 19 σ σ1) (fun E => (er_miles wood name = 1 ∧ E = g_E0) ∨ (er_miles wood name = 2 ∧ E = g_E1)) := by
  refine g_ofX [(0, .ref (ad_ D 0)), (1, .int wood), (2, .int name), (3, .int up)] (by decide +kernel) (Nat.le_of_ble_eq_true rfl) rfl ?_
  intro p e s m args below meth c hx hb hr hml hown hlocks hts hE hZ hP hS htab ls hl
  have hown : s.vm.findClass RX2 = some m.cls := hown
  generalize hQ : vx_MQ _ _ _ _ _ _ _ _ = Q
  obtain ⟨hc0, hcA, hcB, ⟨Lc, hcBo⟩, sz, T, hG⟩ := id hC
  refine lv_iload_n hx hb dX2_step_0 rfl (lv_at hl 1 rfl) ?_
  refine g_callSX (y := yX2_checkWood) (n := 1) (As := [.int wood]) (rest := []) hx hb hml hown hts hE hZ hP hS hl.1 (m_X2_checkWood l hst D hAD σ (wood)) k_X2_29 rfl rfl ⟨Nat.le_of_ble_eq_true rfl, Nat.le_of_ble_eq_true rfl⟩ (Nat.le_of_ble_eq_true rfl) ⟨Nat.le_of_ble_eq_true rfl, Nat.le_of_ble_eq_true rfl⟩ dX2_step_1 (fun E ce q9 H locs hq hP hS hc9 hv9 hk9 => ?_) (fun v1 σ_2 H locs hq hP hS => ?_)
  · rw [← hQ]
    exact g_out htab hlocks (Or.inl (⟨by rw [er_miles, if_neg hq.2], hq.1⟩)) hP hS hc9 hv9 hk9 (Nat.le_of_ble_eq_true rfl) (Nat.le_of_ble_eq_true rfl)
  obtain ⟨rfl, rfl, hx1⟩ := hq
  refine W.eq (g2 := F0 m 4 ls []) rfl ?_
  refine W.widen (k := 2) (n := 12) (Nat.le_of_ble_eq_true rfl) (Nat.le_of_ble_eq_true rfl) ?_
  obtain ⟨w, hw, rfl⟩ := ix_nat hx1 (by decide)
  obtain ⟨Fw, Gw, hVw⟩ := hC.wood hw
  have hvw := hvC w hw
  have hwl : wl_ Ls (nI w) = Ls w := wl_n hw
  have hot : ot_ Ls (nI w) = Ls (1 - w) := ot_n hw
  refine lv_iload_n hx hb dX2_step_4 rfl (lv_at hl 2 rfl) ?_
  refine g_callSX (y := yX2_checkName) (n := 1) (As := [.int name]) (rest := []) hx hb hml hown hts hE hZ hP hS hl.1 (m_X2_checkName l hst D hAD σ (name)) k_X2_33 rfl rfl ⟨Nat.le_of_ble_eq_true rfl, Nat.le_of_ble_eq_true rfl⟩ (Nat.le_of_ble_eq_true rfl) ⟨Nat.le_of_ble_eq_true rfl, Nat.le_of_ble_eq_true rfl⟩ dX2_step_5 (fun E ce q9 H locs hq hP hS hc9 hv9 hk9 => ?_) (fun v3 σ_4 H locs hq hP hS => ?_)
  · rw [← hQ]
    exact g_out htab hlocks (Or.inr (⟨by rw [er_miles, if_pos (ix_of hw (by decide)), if_neg hq.2], hq.1⟩)) hP hS hc9 hv9 hk9 (Nat.le_of_ble_eq_true rfl) (Nat.le_of_ble_eq_true rfl)
  obtain ⟨rfl, rfl, hx5⟩ := hq
  refine W.eq (g2 := F0 m 8 ls []) rfl ?_
  refine W.widen (k := 3) (n := 18) (Nat.le_of_ble_eq_true rfl) (Nat.le_of_ble_eq_true rfl) ?_
  refine lv_aload_n hx hb dX2_step_8 rfl (lv_at hl 0 rfl) ?_
  refine lv_iload_n hx hb dX2_step_9 rfl (lv_at hl 1 rfl) ?_
  refine g_callV0 (y := yX2_villagesOf) (n := 1) (As := [.int (nI w)]) (rest := []) hx hb hml hown hts hE hZ hP hS hl.1 (m_X2_villagesOf l D hAD σ w hw hc0) k_X2_39 (ci := 2) (by decide) hc0 rfl rfl rfl rfl rfl ⟨rfl, rfl⟩ ⟨Nat.le_of_ble_eq_true rfl, Nat.le_of_ble_eq_true rfl⟩ (Nat.le_of_ble_eq_true rfl) ⟨Nat.le_of_ble_eq_true rfl, Nat.le_of_ble_eq_true rfl⟩ dX2_step_10 (fun v5 σ_6 H locs hq hP hS => ?_)
  obtain ⟨rfl, rfl⟩ := hq
  refine W.eq (g2 := F0 m 13 ls [.ref (ad_ D (1 + 3 * w))]) rfl ?_
  refine lv_astore (lv' := [(4, .ref (ad_ D (1 + 3 * w))), (0, .ref (ad_ D 0)), (1, .int (nI w)), (2, .int name), (3, .int up)]) hx hb dX2_step_13 hl (by decide) rfl (fun ls hl => ?_)
  have hrk1 := rk_le (Ls w) (name + nI 1)
  have hrk0 := rk_le (Ls w) name
  have h24 := hvw.2
  refine lv_iload_n hx hb dX2_step_15 rfl (lv_at hl 4 rfl) ?_
  refine lv_if_eq (tgt := 33) hx hb dX2_step_16 (by decide) (fun h16 => ?_) (fun h16 => ?_)
  · refine lv_aload hx hb dX2_step_33 (lv_at hl 0 rfl) ?_
    refine lv_aload hx hb dX2_step_35 (lv_at hl 0 rfl) ?_
    refine lv_iload_n hx hb dX2_step_37 rfl (lv_at hl 3 rfl) ?_
    refine g_callV0 (y := yX1_smallerThan) (n := 1) (As := [.int name]) (rest := [.ref (ad_ D (1 + 3 * w))]) hx hb hml hown hts hE hZ hP hS hl.1 (m_X1_smallerThan l D hAD σ (1 + 3 * w) (Ls w) Fw Gw hVw (name)) k_X2_94 (ci := 1) (by omega) hVw.1 rfl rfl rfl rfl rfl ⟨rfl, rfl⟩ ⟨Nat.le_of_ble_eq_true rfl, Nat.le_of_ble_eq_true rfl⟩ (Nat.le_of_ble_eq_true rfl) ⟨Nat.le_of_ble_eq_true rfl, Nat.le_of_ble_eq_true rfl⟩ dX2_step_38 (fun v7 σ_8 H locs hq hP hS => ?_)
    obtain ⟨rfl, rfl⟩ := hq
    refine W.eq (g2 := F0 m 41 ls [.int (nI (rk_ (Ls w) (name))), .ref (ad_ D (1 + 3 * w))]) rfl ?_
    refine lv_iconst (v := nI 1) hx hb dX2_step_41 (by decide) ?_
    refine lv_isub hx hb dX2_step_42 ?_
    refine g_callV0 (y := yX1_nameAt) (n := 1) (As := [.int ((nI (rk_ (Ls w) (name))) - (nI 1))]) (rest := []) hx hb hml hown hts hE hZ hP hS hl.1 (m_X1_nameAt l D hAD σ (1 + 3 * w) (Ls w) Fw Gw hVw ((nI (rk_ (Ls w) (name))) - (nI 1))) k_X2_79 (ci := 1) (by omega) hVw.1 rfl rfl rfl rfl rfl ⟨rfl, rfl⟩ ⟨Nat.le_of_ble_eq_true rfl, Nat.le_of_ble_eq_true rfl⟩ (Nat.le_of_ble_eq_true rfl) ⟨Nat.le_of_ble_eq_true rfl, Nat.le_of_ble_eq_true rfl⟩ dX2_step_43 (fun v9 σ_10 H locs hq hP hS => ?_)
    obtain ⟨rfl, rfl⟩ := hq
    refine W.eq (g2 := F0 m 46 ls [.int (na_ (Ls w) ((nI (rk_ (Ls w) (name))) - (nI 1)))]) rfl ?_
    refine W.widen (k := 5) (n := 30) (by omega) (by omega) ?_
    rw [← hQ]
    refine vx_ret ?_
    exact W.iret (v := na_ (Ls w) ((nI (rk_ (Ls w) (name))) - (nI 1))) hx hb hr (fun te9 hte9 _ => g_fin (⟨by rw [er_miles, if_pos (ix_of hw (by decide)), if_pos hx5], ⟨w, hw, rfl, hx5, by first | rw [if_pos h16] | rw [if_neg h16], hC⟩, g_off.rf⟩) hP hS hte9) hS.2.2 dX2_step_46 hlocks
  · refine lv_aload hx hb dX2_step_19 (lv_at hl 0 rfl) ?_
    refine lv_aload hx hb dX2_step_21 (lv_at hl 0 rfl) ?_
    refine lv_iload_n hx hb dX2_step_23 rfl (lv_at hl 3 rfl) ?_
    refine lv_iconst (v := nI 1) hx hb dX2_step_24 (by decide) ?_
    refine lv_iadd hx hb dX2_step_25 ?_
    refine g_callV0 (y := yX1_smallerThan) (n := 1) (As := [.int ((name) + (nI 1))]) (rest := [.ref (ad_ D (1 + 3 * w))]) hx hb hml hown hts hE hZ hP hS hl.1 (m_X1_smallerThan l D hAD σ (1 + 3 * w) (Ls w) Fw Gw hVw ((name) + (nI 1))) k_X2_94 (ci := 1) (by omega) hVw.1 rfl rfl rfl rfl rfl ⟨rfl, rfl⟩ ⟨Nat.le_of_ble_eq_true rfl, Nat.le_of_ble_eq_true rfl⟩ (Nat.le_of_ble_eq_true rfl) ⟨Nat.le_of_ble_eq_true rfl, Nat.le_of_ble_eq_true rfl⟩ dX2_step_26 (fun v11 σ_12 H locs hq hP hS => ?_)
    obtain ⟨rfl, rfl⟩ := hq
    refine W.eq (g2 := F0 m 29 ls [.int (nI (rk_ (Ls w) ((name) + (nI 1)))), .ref (ad_ D (1 + 3 * w))]) rfl ?_
    refine g_callV0 (y := yX1_nameAt) (n := 1) (As := [.int (nI (rk_ (Ls w) ((name) + (nI 1))))]) (rest := []) hx hb hml hown hts hE hZ hP hS hl.1 (m_X1_nameAtN l D hAD σ (1 + 3 * w) (Ls w) Fw Gw hVw (rk_ (Ls w) ((name) + (nI 1))) (by omega)) k_X2_79 (ci := 1) (by omega) hVw.1 rfl rfl rfl rfl rfl ⟨rfl, rfl⟩ ⟨Nat.le_of_ble_eq_true rfl, Nat.le_of_ble_eq_true rfl⟩ (Nat.le_of_ble_eq_true rfl) ⟨Nat.le_of_ble_eq_true rfl, Nat.le_of_ble_eq_true rfl⟩ dX2_step_29 (fun v13 σ_14 H locs hq hP hS => ?_)
    obtain ⟨rfl, rfl⟩ := hq
    refine W.eq (g2 := F0 m 32 ls [.int (fn_ (Ls w) (rk_ (Ls w) ((name) + (nI 1))))]) rfl ?_
    refine W.widen (k := 5) (n := 30) (by omega) (by omega) ?_
    rw [← hQ]
    refine vx_ret ?_
    exact W.iret (v := fn_ (Ls w) (rk_ (Ls w) ((name) + (nI 1)))) hx hb hr (fun te9 hte9 _ => g_fin (⟨by rw [er_miles, if_pos (ix_of hw (by decide)), if_pos hx5], ⟨w, hw, rfl, hx5, by first | rw [if_pos h16] | rw [if_neg h16], hC⟩, g_off.rf⟩) hP hS hte9) hS.2.2 dX2_step_32 hlocks


abbrev m_X2_turn_rm : Room := { frames := 12, cells := 5, slots := 30, locals := 290 }
set_option maxHeartbeats 4000000 in
set_option maxRecDepth 100000 in
theorem m_X2_turn (l : Launch) (hst : l.stackTraces = false) (D : va_G) (hAD : g_AD D) (σ : Nat → va_E) (Ls : Nat → g_L) (wood bits : Int32) (hC : g_C D σ Ls) (hvC : vC_ Ls) : g_X l D yX2_turn cX2_turn 4 (some .int) m_X2_turn_rm [.ref (ad_ D 0), .int wood, .int bits] σ (fun v1 σ1 => er_turn Ls wood bits = 0 ∧ (∃ w, w ≤ 1 ∧ wood = nI w ∧ nm1_ bits ∧ (Ls w).length ≠ 0 ∧ v1 = some (.int (fn_ (cb_ (Ls w) bits (Ls w).length) 0)) ∧ g_C D σ1 (ul_ Ls w (cb_ (Ls w) bits (Ls w).length))) ∧ g_off 0 19 σ σ1) (fun E => (er_turn Ls wood bits = 1 ∧ E = g_E0) ∨ (er_turn Ls wood bits = 2 ∧ E = g_E1) ∨ (er_turn Ls wood bits = 3 ∧ E = g_E2)) := by
  refine g_ofX [(0, .ref (ad_ D 0)), (1, .int wood), (2, .int bits)] (by decide +kernel) (Nat.le_of_ble_eq_true rfl) rfl ?_
  intro p e s m args below meth c hx hb hr hml hown hlocks hts hE hZ hP hS htab ls hl
  have hown : s.vm.findClass RX2 = some m.cls := hown
  generalize hQ : vx_MQ _ _ _ _ _ _ _ _ = Q
  obtain ⟨hc0, hcA, hcB, ⟨Lc, hcBo⟩, sz, T, hG⟩ := id hC
  refine lv_iload_n hx hb dX2_turn_0 rfl (lv_at hl 1 rfl) ?_
  refine g_callSX (y := yX2_checkWood) (n := 1) (As := [.int wood]) (rest := []) hx hb hml hown hts hE hZ hP hS hl.1 (m_X2_checkWood l hst D hAD σ (wood)) k_X2_29 rfl rfl ⟨Nat.le_of_ble_eq_true rfl, Nat.le_of_ble_eq_true rfl⟩ (Nat.le_of_ble_eq_true rfl) ⟨Nat.le_of_ble_eq_true rfl, Nat.le_of_ble_eq_true rfl⟩ dX2_turn_1 (fun E ce q9 H locs hq hP hS hc9 hv9 hk9 => ?_) (fun v1 σ_2 H locs hq hP hS => ?_)
  · rw [← hQ]
    exact g_out htab hlocks (Or.inl (⟨by rw [er_turn, if_neg hq.2], hq.1⟩)) hP hS hc9 hv9 hk9 (Nat.le_of_ble_eq_true rfl) (Nat.le_of_ble_eq_true rfl)
  obtain ⟨rfl, rfl, hx1⟩ := hq
  refine W.eq (g2 := F0 m 4 ls []) rfl ?_
  refine W.widen (k := 2) (n := 12) (Nat.le_of_ble_eq_true rfl) (Nat.le_of_ble_eq_true rfl) ?_
  obtain ⟨w, hw, rfl⟩ := ix_nat hx1 (by decide)
  obtain ⟨Fw, Gw, hVw⟩ := hC.wood hw
  have hvw := hvC w hw
  have hwl : wl_ Ls (nI w) = Ls w := wl_n hw
  have hot : ot_ Ls (nI w) = Ls (1 - w) := ot_n hw
  refine lv_iload_n hx hb dX2_turn_4 rfl (lv_at hl 2 rfl) ?_
  refine g_callSX (y := yX2_checkName) (n := 1) (As := [.int bits]) (rest := []) hx hb hml hown hts hE hZ hP hS hl.1 (m_X2_checkName l hst D hAD σ (bits)) k_X2_33 rfl rfl ⟨Nat.le_of_ble_eq_true rfl, Nat.le_of_ble_eq_true rfl⟩ (Nat.le_of_ble_eq_true rfl) ⟨Nat.le_of_ble_eq_true rfl, Nat.le_of_ble_eq_true rfl⟩ dX2_turn_5 (fun E ce q9 H locs hq hP hS hc9 hv9 hk9 => ?_) (fun v3 σ_4 H locs hq hP hS => ?_)
  · rw [← hQ]
    exact g_out htab hlocks (Or.inr (Or.inl (⟨by rw [er_turn, if_pos (ix_of hw (by decide)), if_neg hq.2], hq.1⟩))) hP hS hc9 hv9 hk9 (Nat.le_of_ble_eq_true rfl) (Nat.le_of_ble_eq_true rfl)
  obtain ⟨rfl, rfl, hx5⟩ := hq
  refine W.eq (g2 := F0 m 8 ls []) rfl ?_
  refine W.widen (k := 3) (n := 18) (Nat.le_of_ble_eq_true rfl) (Nat.le_of_ble_eq_true rfl) ?_
  refine lv_aload_n hx hb dX2_turn_8 rfl (lv_at hl 0 rfl) ?_
  refine lv_iload_n hx hb dX2_turn_9 rfl (lv_at hl 1 rfl) ?_
  refine g_callV0 (y := yX2_villagesOf) (n := 1) (As := [.int (nI w)]) (rest := []) hx hb hml hown hts hE hZ hP hS hl.1 (m_X2_villagesOf l D hAD σ w hw hc0) k_X2_39 (ci := 2) (by decide) hc0 rfl rfl rfl rfl rfl ⟨rfl, rfl⟩ ⟨Nat.le_of_ble_eq_true rfl, Nat.le_of_ble_eq_true rfl⟩ (Nat.le_of_ble_eq_true rfl) ⟨Nat.le_of_ble_eq_true rfl, Nat.le_of_ble_eq_true rfl⟩ dX2_turn_10 (fun v5 σ_6 H locs hq hP hS => ?_)
  obtain ⟨rfl, rfl⟩ := hq
  refine W.eq (g2 := F0 m 13 ls [.ref (ad_ D (1 + 3 * w))]) rfl ?_
  refine lv_astore_n (lv' := [(3, .ref (ad_ D (1 + 3 * w))), (0, .ref (ad_ D 0)), (1, .int (nI w)), (2, .int bits)]) hx hb dX2_turn_13 rfl hl (by decide) rfl (fun ls hl => ?_)
  refine lv_aload_n hx hb dX2_turn_14 rfl (lv_at hl 0 rfl) ?_
  refine g_callSX (y := yX2_checkNotEmpty) (n := 1) (As := [.ref (ad_ D (1 + 3 * w))]) (rest := []) hx hb hml hown hts hE hZ hP hS hl.1 (m_X2_checkNotEmpty l hst D hAD σ (1 + 3 * w) (Ls w) Fw Gw hVw) k_X2_97 rfl rfl ⟨Nat.le_of_ble_eq_true rfl, Nat.le_of_ble_eq_true rfl⟩ (Nat.le_of_ble_eq_true rfl) ⟨Nat.le_of_ble_eq_true rfl, Nat.le_of_ble_eq_true rfl⟩ dX2_turn_15 (fun E ce q9 H locs hq hP hS hc9 hv9 hk9 => ?_) (fun v7 σ_8 H locs hq hP hS => ?_)
  · rw [← hQ]
    exact g_out htab hlocks (Or.inr (Or.inr (⟨by rw [er_turn, if_pos (ix_of hw (by decide)), if_pos hx5, hwl, if_pos hq.2], hq.1⟩))) hP hS hc9 hv9 hk9 (Nat.le_of_ble_eq_true rfl) (Nat.le_of_ble_eq_true rfl)
  obtain ⟨rfl, rfl, hx15⟩ := hq
  refine W.eq (g2 := F0 m 18 ls []) rfl ?_
  refine W.widen (k := 4) (n := 24) (Nat.le_of_ble_eq_true rfl) (Nat.le_of_ble_eq_true rfl) ?_
  have hnb := nm_le hx5
  have hcb : ∀ j, j < (Ls w).length → fn_ (Ls w) j ^^^ bits ≠ -1 := fun j hj => ne_m1 (xor_ok (hvw.1.2.1 j hj).1 (hvw.1.2.1 j hj).2 hnb.1 hnb.2).1
  refine lv_aload_n hx hb dX2_turn_18 rfl (lv_at hl 0 rfl) ?_
  refine lv_iload_n hx hb dX2_turn_19 rfl (lv_at hl 3 rfl) ?_
  refine g_callV0 (y := yX1_changeBits) (n := 1) (As := [.int bits]) (rest := []) hx hb hml hown hts hE hZ hP hS hl.1 (m_X1_changeBits l D hAD σ (1 + 3 * w) (Ls w) Fw Gw hVw (bits) hcb) k_X2_101 (ci := 1) (by omega) hVw.1 rfl rfl rfl rfl rfl ⟨rfl, rfl⟩ ⟨Nat.le_of_ble_eq_true rfl, Nat.le_of_ble_eq_true rfl⟩ (Nat.le_of_ble_eq_true rfl) ⟨Nat.le_of_ble_eq_true rfl, Nat.le_of_ble_eq_true rfl⟩ dX2_turn_20 (fun v9 σ_10 H locs hq hP hS => ?_)
  obtain ⟨rfl, hq2⟩ := hq
  refine W.eq (g2 := F0 m 23 ls []) rfl ?_
  obtain ⟨⟨Fr13, Gr14, hVk11⟩, hok12⟩ := hq2
  have ho15 := g_off.tr (g_off.rf (lo := 0) (hi := 19) (σ := σ)) (g_off.wd hok12 (by omega) (by omega))
  have hc16 := g_off.at0 hok12 hc0 (by omega)
  refine lv_aload_n hx hb dX2_turn_23 rfl (lv_at hl 0 rfl) ?_
  refine lv_iconst (v := nI 0) hx hb dX2_turn_24 (by decide) ?_
  refine g_callV0 (y := yX1_nameAt) (n := 1) (As := [.int (nI 0)]) (rest := []) hx hb hml hown hts hE hZ hP hS hl.1 (m_X1_nameAtN l D hAD σ_10 (1 + 3 * w) (cb_ (Ls w) (bits) (List.length (Ls w))) Fr13 Gr14 hVk11 0 (by omega)) k_X2_79 (ci := 1) (by omega) hVk11.1 rfl rfl rfl rfl rfl ⟨rfl, rfl⟩ ⟨Nat.le_of_ble_eq_true rfl, Nat.le_of_ble_eq_true rfl⟩ (Nat.le_of_ble_eq_true rfl) ⟨Nat.le_of_ble_eq_true rfl, Nat.le_of_ble_eq_true rfl⟩ dX2_turn_25 (fun v17 σ_18 H locs hq hP hS => ?_)
  obtain ⟨rfl, rfl⟩ := hq
  refine W.eq (g2 := F0 m 28 ls [.int (fn_ (cb_ (Ls w) (bits) (List.length (Ls w))) 0)]) rfl ?_
  refine W.widen (k := 5) (n := 30) (by omega) (by omega) ?_
  rw [← hQ]
  refine vx_ret ?_
  exact W.iret (v := fn_ (cb_ (Ls w) (bits) (List.length (Ls w))) 0) hx hb hr (fun te9 hte9 _ => g_fin (⟨by rw [er_turn, if_pos (ix_of hw (by decide)), if_pos hx5, hwl, if_neg hx15], ⟨w, hw, rfl, hx5, hx15, rfl, hC.upd hw hok12 ⟨_, _, hVk11⟩⟩, ho15⟩) hP hS hte9) hS.2.2 dX2_turn_28 hlocks

abbrev m_X2_merge_rm : Room := { frames := 12, cells := 5, slots := 30, locals := 288 }
set_option maxHeartbeats 4000000 in
set_option maxRecDepth 100000 in
theorem m_X2_merge (l : Launch) (hst : l.stackTraces = false) (D : va_G) (hAD : g_AD D) (σ : Nat → va_E) (Ls : Nat → g_L) (wood rule : Int32) (hC : g_C D σ Ls) (hvC : vC_ Ls) : g_X l D yX2_merge cX2_merge 8 (some .int) m_X2_merge_rm [.ref (ad_ D 0), .int wood, .int rule] σ (fun v1 σ1 => er_merge Ls wood rule = 0 ∧ (∃ w r, w ≤ 1 ∧ wood = nI w ∧ r ≤ 3 ∧ rule = nI r ∧ v1 = some (.int (nI (cm_ (Ls w) (Ls (1 - w)) (Ls w).length))) ∧ g_C D σ1 (ul_ (ul_ Ls w []) (1 - w) (mg_ r (Ls w) (Ls (1 - w)) (Ls w).length))) ∧ g_off 0 19 σ σ1) (fun E => (er_merge Ls wood rule = 1 ∧ E = g_E0) ∨ (er_merge Ls wood rule = 2 ∧ E = g_E2)) := by
  refine g_ofX [(0, .ref (ad_ D 0)), (1, .int wood), (2, .int rule)] (by decide +kernel) (Nat.le_of_ble_eq_true rfl) rfl ?_
  intro p e s m args below meth c hx hb hr hml hown hlocks hts hE hZ hP hS htab ls hl
  have hown : s.vm.findClass RX2 = some m.cls := hown
  generalize hQ : vx_MQ _ _ _ _ _ _ _ _ = Q
  obtain ⟨hc0, hcA, hcB, ⟨Lc, hcBo⟩, sz, T, hG⟩ := id hC
  refine lv_iload_n hx hb dX2_merge_0 rfl (lv_at hl 1 rfl) ?_
  refine g_callSX (y := yX2_checkWood) (n := 1) (As := [.int wood]) (rest := []) hx hb hml hown hts hE hZ hP hS hl.1 (m_X2_checkWood l hst D hAD σ (wood)) k_X2_29 rfl rfl ⟨Nat.le_of_ble_eq_true rfl, Nat.le_of_ble_eq_true rfl⟩ (Nat.le_of_ble_eq_true rfl) ⟨Nat.le_of_ble_eq_true rfl, Nat.le_of_ble_eq_true rfl⟩ dX2_merge_1 (fun E ce q9 H locs hq hP hS hc9 hv9 hk9 => ?_) (fun v1 σ_2 H locs hq hP hS => ?_)
  · rw [← hQ]
    exact g_out htab hlocks (Or.inl (⟨by rw [er_merge, if_neg (fun q => hq.2 q.1)], hq.1⟩)) hP hS hc9 hv9 hk9 (Nat.le_of_ble_eq_true rfl) (Nat.le_of_ble_eq_true rfl)
  obtain ⟨rfl, rfl, hx1⟩ := hq
  refine W.eq (g2 := F0 m 4 ls []) rfl ?_
  refine W.widen (k := 2) (n := 12) (Nat.le_of_ble_eq_true rfl) (Nat.le_of_ble_eq_true rfl) ?_
  obtain ⟨w, hw, rfl⟩ := ix_nat hx1 (by decide)
  obtain ⟨Fw, Gw, hVw⟩ := hC.wood hw
  have hvw := hvC w hw
  have hwl : wl_ Ls (nI w) = Ls w := wl_n hw
  have hot : ot_ Ls (nI w) = Ls (1 - w) := ot_n hw
  obtain ⟨Fo, Go, hVo⟩ := hC.wood2 hw
  have hvo := hvC (1 - w) (by omega)
  refine lv_iload_n hx hb dX2_merge_4 rfl (lv_at hl 2 rfl) ?_
  refine lv_iconst (v := nI 3) hx hb dX2_merge_5 (by decide) ?_
  refine g_callSX (y := yX2_checkIndex) (n := 2) (As := [.int rule, .int (nI 3)]) (rest := []) hx hb hml hown hts hE hZ hP hS hl.1 (m_X2_checkIndex l hst D hAD σ (rule) (nI 3)) k_X2_67 rfl rfl ⟨Nat.le_of_ble_eq_true rfl, Nat.le_of_ble_eq_true rfl⟩ (Nat.le_of_ble_eq_true rfl) ⟨Nat.le_of_ble_eq_true rfl, Nat.le_of_ble_eq_true rfl⟩ dX2_merge_6 (fun E ce q9 H locs hq hP hS hc9 hv9 hk9 => ?_) (fun v3 σ_4 H locs hq hP hS => ?_)
  · rw [← hQ]
    exact g_out htab hlocks (Or.inl (⟨by rw [er_merge, if_neg (fun q => hq.2 q.2)], hq.1⟩)) hP hS hc9 hv9 hk9 (Nat.le_of_ble_eq_true rfl) (Nat.le_of_ble_eq_true rfl)
  obtain ⟨rfl, rfl, hx6⟩ := hq
  refine W.eq (g2 := F0 m 9 ls []) rfl ?_
  refine W.widen (k := 3) (n := 18) (Nat.le_of_ble_eq_true rfl) (Nat.le_of_ble_eq_true rfl) ?_
  obtain ⟨r9, hr9, rfl⟩ := ix_nat hx6 (by decide)
  have hcm := cm_bd (Ls w) (Ls (1 - w))
  have h24a := hvw.2
  have h24b := hvo.2
  refine lv_aload_n hx hb dX2_merge_9 rfl (lv_at hl 0 rfl) ?_
  refine lv_iload_n hx hb dX2_merge_10 rfl (lv_at hl 1 rfl) ?_
  refine g_callV0 (y := yX2_villagesOf) (n := 1) (As := [.int (nI w)]) (rest := []) hx hb hml hown hts hE hZ hP hS hl.1 (m_X2_villagesOf l D hAD σ w hw hc0) k_X2_39 (ci := 2) (by decide) hc0 rfl rfl rfl rfl rfl ⟨rfl, rfl⟩ ⟨Nat.le_of_ble_eq_true rfl, Nat.le_of_ble_eq_true rfl⟩ (Nat.le_of_ble_eq_true rfl) ⟨Nat.le_of_ble_eq_true rfl, Nat.le_of_ble_eq_true rfl⟩ dX2_merge_11 (fun v5 σ_6 H locs hq hP hS => ?_)
  obtain ⟨rfl, rfl⟩ := hq
  refine W.eq (g2 := F0 m 14 ls [.ref (ad_ D (1 + 3 * w))]) rfl ?_
  refine lv_astore_n (lv' := [(3, .ref (ad_ D (1 + 3 * w))), (0, .ref (ad_ D 0)), (1, .int (nI w)), (2, .int (nI r9))]) hx hb dX2_merge_14 rfl hl (by decide) rfl (fun ls hl => ?_)
  refine lv_aload_n hx hb dX2_merge_15 rfl (lv_at hl 1 rfl) ?_
  refine lv_iload_n hx hb dX2_merge_16 rfl (lv_at hl 2 rfl) ?_
  refine g_callV0 (y := yX2_otherThan) (n := 1) (As := [.int (nI w)]) (rest := []) hx hb hml hown hts hE hZ hP hS hl.1 (m_X2_otherThan l D hAD σ w hw hc0) k_X2_70 (ci := 2) (by decide) hc0 rfl rfl rfl rfl rfl ⟨rfl, rfl⟩ ⟨Nat.le_of_ble_eq_true rfl, Nat.le_of_ble_eq_true rfl⟩ (Nat.le_of_ble_eq_true rfl) ⟨Nat.le_of_ble_eq_true rfl, Nat.le_of_ble_eq_true rfl⟩ dX2_merge_17 (fun v7 σ_8 H locs hq hP hS => ?_)
  obtain ⟨rfl, rfl⟩ := hq
  refine W.eq (g2 := F0 m 20 ls [.ref (ad_ D (4 - 3 * w))]) rfl ?_
  refine lv_astore (lv' := [(4, .ref (ad_ D (4 - 3 * w))), (3, .ref (ad_ D (1 + 3 * w))), (0, .ref (ad_ D 0)), (1, .int (nI w)), (2, .int (nI r9))]) hx hb dX2_merge_20 hl (by decide) rfl (fun ls hl => ?_)
  refine lv_aload_n hx hb dX2_merge_22 rfl (lv_at hl 1 rfl) ?_
  refine lv_aload hx hb dX2_merge_23 (lv_at hl 0 rfl) ?_
  refine g_callV0 (y := yX1_namesAlsoIn) (n := 1) (As := [.ref (ad_ D (4 - 3 * w))]) (rest := []) hx hb hml hown hts hE hZ hP hS hl.1 (m_X1_namesAlsoIn l D hAD σ (1 + 3 * w) (Ls w) Fw Gw hVw (4 - 3 * w) (Ls (1 - w)) Fo Go hVo) k_X2_73 (ci := 1) (by omega) hVw.1 rfl rfl rfl rfl rfl ⟨rfl, rfl⟩ ⟨Nat.le_of_ble_eq_true rfl, Nat.le_of_ble_eq_true rfl⟩ (Nat.le_of_ble_eq_true rfl) ⟨Nat.le_of_ble_eq_true rfl, Nat.le_of_ble_eq_true rfl⟩ dX2_merge_25 (fun v9 σ_10 H locs hq hP hS => ?_)
  obtain ⟨rfl, rfl⟩ := hq
  refine W.eq (g2 := F0 m 28 ls [.int (nI (cm_ (Ls w) (Ls (1 - w)) (Ls w).length))]) rfl ?_
  refine lv_istore (lv' := [(5, .int (nI (cm_ (Ls w) (Ls (1 - w)) (Ls w).length))), (4, .ref (ad_ D (4 - 3 * w))), (3, .ref (ad_ D (1 + 3 * w))), (0, .ref (ad_ D 0)), (1, .int (nI w)), (2, .int (nI r9))]) hx hb dX2_merge_28 hl (by decide) rfl (fun ls hl => ?_)
  refine lv_aload_n hx hb dX2_merge_30 rfl (lv_at hl 2 rfl) ?_
  refine g_callV0 (y := yX1_size) (n := 0) (As := []) (rest := []) hx hb hml hown hts hE hZ hP hS hl.1 (m_X1_size l D hAD σ (1 + 3 * w) (Ls w) Fw Gw hVw) k_X2_47 (ci := 1) (by omega) hVw.1 rfl rfl rfl rfl rfl ⟨rfl, rfl⟩ ⟨Nat.le_of_ble_eq_true rfl, Nat.le_of_ble_eq_true rfl⟩ (Nat.le_of_ble_eq_true rfl) ⟨Nat.le_of_ble_eq_true rfl, Nat.le_of_ble_eq_true rfl⟩ dX2_merge_31 (fun v11 σ_12 H locs hq hP hS => ?_)
  obtain ⟨rfl, rfl⟩ := hq
  refine W.eq (g2 := F0 m 34 ls [.int (nI ((Ls w).length))]) rfl ?_
  refine lv_aload hx hb dX2_merge_34 (lv_at hl 1 rfl) ?_
  refine g_callV0 (y := yX1_size) (n := 0) (As := []) (rest := [.int (nI ((Ls w).length))]) hx hb hml hown hts hE hZ hP hS hl.1 (m_X1_size l D hAD σ (4 - 3 * w) (Ls (1 - w)) Fo Go hVo) k_X2_47 (ci := 1) (by omega) hVo.1 rfl rfl rfl rfl rfl ⟨rfl, rfl⟩ ⟨Nat.le_of_ble_eq_true rfl, Nat.le_of_ble_eq_true rfl⟩ (Nat.le_of_ble_eq_true rfl) ⟨Nat.le_of_ble_eq_true rfl, Nat.le_of_ble_eq_true rfl⟩ dX2_merge_36 (fun v13 σ_14 H locs hq hP hS => ?_)
  obtain ⟨rfl, rfl⟩ := hq
  refine W.eq (g2 := F0 m 39 ls [.int (nI ((Ls (1 - w)).length)), .int (nI ((Ls w).length))]) rfl ?_
  refine lv_iadd hx hb dX2_merge_39 ?_
  refine g_top (y := nI (((Ls w).length) + ((Ls (1 - w)).length))) (nI_add ((Ls w).length) ((Ls (1 - w)).length)) ?_
  refine lv_iload hx hb dX2_merge_40 (lv_at hl 0 rfl) ?_
  refine lv_isub hx hb dX2_merge_42 ?_
  refine g_top (y := nI ((((Ls w).length) + ((Ls (1 - w)).length)) - (cm_ (Ls w) (Ls (1 - w)) (Ls w).length))) (pk_sub (by omega)) ?_
  refine lv_bipush (v := nI 24) hx hb dX2_merge_43 (by decide) ?_
  refine lv_icmp_le (tgt := 58) hx hb dX2_merge_45 (by decide) (fun h45 => ?_) (fun h45 => ?_)
  · have hb45 := g_le (a := (((Ls w).length) + ((Ls (1 - w)).length)) - (cm_ (Ls w) (Ls (1 - w)) (Ls w).length)) (b := 24) h45 (by omega) (by omega)
    refine lv_iconst (v := nI 0) hx hb dX2_merge_58 (by decide) ?_
    refine lv_istore (lv' := [(6, .int (nI 0)), (5, .int (nI (cm_ (Ls w) (Ls (1 - w)) (Ls w).length))), (4, .ref (ad_ D (4 - 3 * w))), (3, .ref (ad_ D (1 + 3 * w))), (0, .ref (ad_ D 0)), (1, .int (nI w)), (2, .int (nI r9))]) hx hb dX2_merge_59 hl (by decide) rfl (fun ls hl => ?_)
    have K61 : ∀ (fuel61 : Nat) (i : Nat) (σ2 : Nat → va_E) (F3 G3 : Nat → Int32), ((Ls w).length - i) < fuel61 → (i ≤ (Ls w).length) → (g_VF D σ2 (1 + 3 * w) (Ls w) Fw Gw) → (g_VF D σ2 (4 - 3 * w) (mg_ r9 (Ls w) (Ls (1 - w)) i) F3 G3) → (g_off 1 6 σ σ2) → ∀ (H : Heap) (locs : List Loc), va_P D vwCl (g_W D σ2) H → va_S (g_A D s.heap.size) s.heap H locs → ∀ ls : Array Slot, lv_has ls 8 [(6, .int (nI i)), (5, .int (nI (cm_ (Ls w) (Ls (1 - w)) (Ls w).length))), (4, .ref (ad_ D (4 - 3 * w))), (3, .ref (ad_ D (1 + 3 * w))), (0, .ref (ad_ D 0)), (1, .int (nI w)), (2, .int (nI r9))] → W p l e m_X2_merge_rm s m args below meth c H locs 3 18 Q (F0 m 61 ls []) := by
      intro fuel61
      induction fuel61 with
      | zero => intro i σ2 F3 G3 hf; exact absurd hf (Nat.not_lt_zero _)
      | succ fuel61 ih61 =>
        intro i σ2 F3 G3 hf61 hi iw io2 io H locs hP hS ls hl
        refine lv_iload hx hb dX2_merge_61 (lv_at hl 0 rfl) ?_
        refine lv_aload_n hx hb dX2_merge_63 rfl (lv_at hl 3 rfl) ?_
        refine g_callV0 (y := yX1_size) (n := 0) (As := []) (rest := [.int (nI i)]) hx hb hml hown hts hE hZ hP hS hl.1 (m_X1_size l D hAD σ2 (1 + 3 * w) (Ls w) Fw Gw iw) k_X2_47 (ci := 1) (by omega) iw.1 rfl rfl rfl rfl rfl ⟨rfl, rfl⟩ ⟨Nat.le_of_ble_eq_true rfl, Nat.le_of_ble_eq_true rfl⟩ (Nat.le_of_ble_eq_true rfl) ⟨Nat.le_of_ble_eq_true rfl, Nat.le_of_ble_eq_true rfl⟩ dX2_merge_64 (fun v15 σ_16 H locs hq hP hS => ?_)
        obtain ⟨rfl, rfl⟩ := hq
        refine W.eq (g2 := F0 m 67 ls [.int (nI ((Ls w).length)), .int (nI i)]) rfl ?_
        refine lv_icmp_ge (tgt := 108) hx hb dX2_merge_67 (by decide) (fun h67 => ?_) (fun h67 => ?_)
        · have hb67 := g_le (a := (Ls w).length) (b := i) h67 (by omega) (by omega)
          have hi2 : i = (Ls w).length := by omega
          refine lv_aload_n hx hb dX2_merge_108 rfl (lv_at hl 3 rfl) ?_
          refine lv_iconst (v := nI 0) hx hb dX2_merge_109 (by decide) ?_
          refine g_callV0 (y := yX1_keepFirst) (n := 1) (As := [.int (nI 0)]) (rest := []) hx hb hml hown hts hE hZ hP hS hl.1 (m_X1_keepFirst l D hAD σ2 (1 + 3 * w) (Ls w) Fw Gw iw 0 (by omega)) k_X2_89 (ci := 1) (by omega) iw.1 rfl rfl rfl rfl rfl ⟨rfl, rfl⟩ ⟨Nat.le_of_ble_eq_true rfl, Nat.le_of_ble_eq_true rfl⟩ (Nat.le_of_ble_eq_true rfl) ⟨Nat.le_of_ble_eq_true rfl, Nat.le_of_ble_eq_true rfl⟩ dX2_merge_110 (fun v17 σ_18 H locs hq hP hS => ?_)
          obtain ⟨rfl, hq2⟩ := hq
          refine W.eq (g2 := F0 m 113 ls []) rfl ?_
          obtain ⟨hVk19, hok20⟩ := hq2
          have hV21 := g_VF.off io2 hok20 (by omega)
          have ho22 := g_off.tr io (g_off.wd hok20 (by omega) (by omega))
          refine lv_iload hx hb dX2_merge_113 (lv_at hl 1 rfl) ?_
          refine W.widen (k := 5) (n := 30) (by omega) (by omega) ?_
          rw [← hQ]
          refine vx_ret ?_
          exact W.iret (v := nI (cm_ (Ls w) (Ls (1 - w)) (Ls w).length)) hx hb hr (fun te9 hte9 _ => g_fin (⟨by rw [er_merge, if_pos (⟨ix_of hw (by decide), ix_of hr9 (by decide)⟩ : wk1_ _ ∧ ix_ _ _), hwl, hot, if_neg (by omega)], ⟨w, r9, hw, rfl, hr9, rfl, rfl, hC.two hw ho22 ⟨_, _, hVk19⟩ (by rw [← hi2]; exact ⟨_, _, hV21⟩)⟩, g_off.wd ho22 (by omega) (by omega)⟩) hP hS hte9) hS.2.2 dX2_merge_115 hlocks
        · have hb67 := g_nle (a := (Ls w).length) (b := i) h67 (by omega) (by omega)
          have hml9 := mg_len r9 (Ls w) (Ls (1 - w)) i
          have hxx := vL_ne hvw.1 i (by omega)
          have hrr : fn_ (mg_ r9 (Ls w) (Ls (1 - w)) i) (rk_ (mg_ r9 (Ls w) (Ls (1 - w)) i) (fn_ (Ls w) i)) = fn_ (Ls w) i ∨ (mg_ r9 (Ls w) (Ls (1 - w)) i).length < 48 := Or.inr (by omega)
          refine lv_aload_n hx hb dX2_merge_70 rfl (lv_at hl 3 rfl) ?_
          refine lv_iload hx hb dX2_merge_71 (lv_at hl 0 rfl) ?_
          refine g_callV0 (y := yX1_nameAt) (n := 1) (As := [.int (nI i)]) (rest := []) hx hb hml hown hts hE hZ hP hS hl.1 (m_X1_nameAtN l D hAD σ2 (1 + 3 * w) (Ls w) Fw Gw iw i (by omega)) k_X2_79 (ci := 1) (by omega) iw.1 rfl rfl rfl rfl rfl ⟨rfl, rfl⟩ ⟨Nat.le_of_ble_eq_true rfl, Nat.le_of_ble_eq_true rfl⟩ (Nat.le_of_ble_eq_true rfl) ⟨Nat.le_of_ble_eq_true rfl, Nat.le_of_ble_eq_true rfl⟩ dX2_merge_73 (fun v23 σ_24 H locs hq hP hS => ?_)
          obtain ⟨rfl, rfl⟩ := hq
          refine W.eq (g2 := F0 m 76 ls [.int (fn_ (Ls w) i)]) rfl ?_
          refine lv_istore (lv' := [(7, .int (fn_ (Ls w) i)), (6, .int (nI i)), (5, .int (nI (cm_ (Ls w) (Ls (1 - w)) (Ls w).length))), (4, .ref (ad_ D (4 - 3 * w))), (3, .ref (ad_ D (1 + 3 * w))), (0, .ref (ad_ D 0)), (1, .int (nI w)), (2, .int (nI r9))]) hx hb dX2_merge_76 hl (by decide) rfl (fun ls hl => ?_)
          refine lv_aload hx hb dX2_merge_78 (lv_at hl 3 rfl) ?_
          refine lv_iload hx hb dX2_merge_80 (lv_at hl 0 rfl) ?_
          refine lv_iload_n hx hb dX2_merge_82 rfl (lv_at hl 7 rfl) ?_
          refine lv_aload_n hx hb dX2_merge_83 rfl (lv_at hl 4 rfl) ?_
          refine lv_iload hx hb dX2_merge_84 (lv_at hl 1 rfl) ?_
          refine g_callV0 (y := yX1_milesAt) (n := 1) (As := [.int (nI i)]) (rest := [.int (nI r9), .int (fn_ (Ls w) i), .ref (ad_ D (4 - 3 * w))]) hx hb hml hown hts hE hZ hP hS hl.1 (m_X1_milesAtN l D hAD σ2 (1 + 3 * w) (Ls w) Fw Gw iw i (by omega)) k_X2_82 (ci := 1) (by omega) iw.1 rfl rfl rfl rfl rfl ⟨rfl, rfl⟩ ⟨Nat.le_of_ble_eq_true rfl, Nat.le_of_ble_eq_true rfl⟩ (Nat.le_of_ble_eq_true rfl) ⟨Nat.le_of_ble_eq_true rfl, Nat.le_of_ble_eq_true rfl⟩ dX2_merge_86 (fun v25 σ_26 H locs hq hP hS => ?_)
          obtain ⟨rfl, rfl⟩ := hq
          refine W.eq (g2 := F0 m 89 ls [.int (gn_ (Ls w) i), .int (nI r9), .int (fn_ (Ls w) i), .ref (ad_ D (4 - 3 * w))]) rfl ?_
          refine lv_aload hx hb dX2_merge_89 (lv_at hl 3 rfl) ?_
          refine lv_iload hx hb dX2_merge_91 (lv_at hl 0 rfl) ?_
          refine g_callV0 (y := yX1_milesOf) (n := 1) (As := [.int (fn_ (Ls w) i)]) (rest := [.int (gn_ (Ls w) i), .int (nI r9), .int (fn_ (Ls w) i), .ref (ad_ D (4 - 3 * w))]) hx hb hml hown hts hE hZ hP hS hl.1 (m_X1_milesOf l D hAD σ2 (4 - 3 * w) (mg_ r9 (Ls w) (Ls (1 - w)) i) F3 G3 io2 (fn_ (Ls w) i)) k_X2_43 (ci := 1) (by omega) io2.1 rfl rfl rfl rfl rfl ⟨rfl, rfl⟩ ⟨Nat.le_of_ble_eq_true rfl, Nat.le_of_ble_eq_true rfl⟩ (Nat.le_of_ble_eq_true rfl) ⟨Nat.le_of_ble_eq_true rfl, Nat.le_of_ble_eq_true rfl⟩ dX2_merge_93 (fun v27 σ_28 H locs hq hP hS => ?_)
          obtain ⟨rfl, rfl⟩ := hq
          refine W.eq (g2 := F0 m 96 ls [.int (mo_ (mg_ r9 (Ls w) (Ls (1 - w)) i) (fn_ (Ls w) i)), .int (gn_ (Ls w) i), .int (nI r9), .int (fn_ (Ls w) i), .ref (ad_ D (4 - 3 * w))]) rfl ?_
          refine g_callS0 (y := yX2_mergedMiles) (n := 3) (As := [.int (nI r9), .int (gn_ (Ls w) i), .int (mo_ (mg_ r9 (Ls w) (Ls (1 - w)) i) (fn_ (Ls w) i))]) (rest := [.int (fn_ (Ls w) i), .ref (ad_ D (4 - 3 * w))]) hx hb hml hown hts hE hZ hP hS hl.1 (m_X2_mergedMiles l D hAD σ2 r9 (gn_ (Ls w) i) (mo_ (mg_ r9 (Ls w) (Ls (1 - w)) i) (fn_ (Ls w) i)) (by omega)) k_X2_85 rfl rfl ⟨rfl, rfl⟩ ⟨Nat.le_of_ble_eq_true rfl, Nat.le_of_ble_eq_true rfl⟩ (Nat.le_of_ble_eq_true rfl) ⟨Nat.le_of_ble_eq_true rfl, Nat.le_of_ble_eq_true rfl⟩ dX2_merge_96 (fun v29 σ_30 H locs hq hP hS => ?_)
          obtain ⟨rfl, rfl⟩ := hq
          refine W.eq (g2 := F0 m 99 ls [.int (mgm_ r9 (gn_ (Ls w) i) (mo_ (mg_ r9 (Ls w) (Ls (1 - w)) i) (fn_ (Ls w) i))), .int (fn_ (Ls w) i), .ref (ad_ D (4 - 3 * w))]) rfl ?_
          refine g_callV0 (y := yX1_set) (n := 2) (As := [.int (fn_ (Ls w) i), .int (mgm_ r9 (gn_ (Ls w) i) (mo_ (mg_ r9 (Ls w) (Ls (1 - w)) i) (fn_ (Ls w) i)))]) (rest := []) hx hb hml hown hts hE hZ hP hS hl.1 (m_X1_set l D hAD σ2 (4 - 3 * w) (mg_ r9 (Ls w) (Ls (1 - w)) i) F3 G3 io2 (fn_ (Ls w) i) (mgm_ r9 (gn_ (Ls w) i) (mo_ (mg_ r9 (Ls w) (Ls (1 - w)) i) (fn_ (Ls w) i))) hxx hrr) k_X2_58 (ci := 1) (by omega) io2.1 rfl rfl rfl rfl rfl ⟨rfl, rfl⟩ ⟨Nat.le_of_ble_eq_true rfl, Nat.le_of_ble_eq_true rfl⟩ (Nat.le_of_ble_eq_true rfl) ⟨Nat.le_of_ble_eq_true rfl, Nat.le_of_ble_eq_true rfl⟩ dX2_merge_99 (fun v31 σ_32 H locs hq hP hS => ?_)
          obtain ⟨rfl, hq2⟩ := hq
          refine W.eq (g2 := F0 m 102 ls []) rfl ?_
          obtain ⟨Fs33, Gs34, hVs35, hos36, hgs37⟩ := hq2
          have hV38 := g_VF.off iw hos36 (by omega)
          have ho39 := g_off.tr io (g_off.wd hos36 (by omega) (by omega))
          refine lv_iinc (v := nI (i + 1)) (lv' := [(6, .int (nI (i + 1))), (7, .int (fn_ (Ls w) i)), (5, .int (nI (cm_ (Ls w) (Ls (1 - w)) (Ls w).length))), (4, .ref (ad_ D (4 - 3 * w))), (3, .ref (ad_ D (1 + 3 * w))), (0, .ref (ad_ D 0)), (1, .int (nI w)), (2, .int (nI r9))]) hx hb dX2_merge_102 hl (k := 1) rfl (g_inc i) (by decide) rfl (fun ls hl => ?_)
          refine lv_goto (tgt := 61) hx hb dX2_merge_105 (by decide) ?_
          exact ih61 (i + 1) σ_32 Fs33 Gs34 (by omega) (by omega) hV38 hVs35 ho39 _ _ hP hS ls (lv_sub hl [0, 2, 3, 4, 5, 6, 7] rfl)
    exact K61 (((Ls w).length - 0) + 1) 0 σ Fo Go (Nat.lt_succ_self _) (Nat.zero_le _) hVw hVo g_off.rf _ _ hP hS ls (lv_sub hl [0, 1, 2, 3, 4, 5, 6] rfl)
  · have hb45 := g_nle (a := (((Ls w).length) + ((Ls (1 - w)).length)) - (cm_ (Ls w) (Ls (1 - w)) (Ls w).length)) (b := 24) h45 (by omega) (by omega)
    rw [← hQ]
    exact g_throw (cls := g_E2) (text := "these are too many for one wood") hx hb hst hown hts hE hZ hP hS (hl.1.trans hml.symm) (by decide +kernel) wl_X2_51 (g_mem 21 (by decide +kernel)) (by decide +kernel) (by decide +kernel) tw_E2.1 tw_E2.2.1 tw_E2.2.2 dX2_merge_48 dX2_merge_51 dX2_merge_52 dX2_merge_54 dX2_merge_57 htab hlocks ⟨Nat.le_of_ble_eq_true rfl, Nat.le_of_ble_eq_true rfl, Nat.le_of_ble_eq_true rfl, Nat.le_of_ble_eq_true rfl⟩ (Or.inr (⟨by rw [er_merge, if_pos (⟨ix_of hw (by decide), ix_of hr9 (by decide)⟩ : wk1_ _ ∧ ix_ _ _), hwl, hot, if_pos hb45], rfl⟩)) (Nat.le_of_ble_eq_true rfl) (Nat.le_of_ble_eq_true rfl)

abbrev m_X2_cut_rm : Room := { frames := 11, cells := 5, slots := 30, locals := 267 }
set_option maxHeartbeats 4000000 in
set_option maxRecDepth 100000 in
theorem m_X2_cut (l : Launch) (hst : l.stackTraces = false) (D : va_G) (hAD : g_AD D) (σ : Nat → va_E) (Ls : Nat → g_L) (wood name : Int32) (hC : g_C D σ Ls) (hvC : vC_ Ls) : g_X l D yX2_cut cX2_cut 7 (some .int) m_X2_cut_rm [.ref (ad_ D 0), .int wood, .int name] σ (fun v1 σ1 => er_cut Ls wood name = 0 ∧ (∃ w, w ≤ 1 ∧ wood = nI w ∧ nm1_ name ∧ (Ls (1 - w)).length = 0 ∧ v1 = some (.int (nI (ct_ (Ls w) (Ls (1 - w)) (rk_ (Ls w) name) ((Ls w).length - rk_ (Ls w) name)).length)) ∧ g_C D σ1 (ul_ (ul_ Ls w ((Ls w).take (rk_ (Ls w) name))) (1 - w) (ct_ (Ls w) (Ls (1 - w)) (rk_ (Ls w) name) ((Ls w).length - rk_ (Ls w) name)))) ∧ g_off 0 19 σ σ1) (fun E => (er_cut Ls wood name = 1 ∧ E = g_E0) ∨ (er_cut Ls wood name = 2 ∧ E = g_E1) ∨ (er_cut Ls wood name = 3 ∧ E = g_E2)) := by
  refine g_ofX [(0, .ref (ad_ D 0)), (1, .int wood), (2, .int name)] (by decide +kernel) (Nat.le_of_ble_eq_true rfl) rfl ?_
  intro p e s m args below meth c hx hb hr hml hown hlocks hts hE hZ hP hS htab ls hl
  have hown : s.vm.findClass RX2 = some m.cls := hown
  generalize hQ : vx_MQ _ _ _ _ _ _ _ _ = Q
  obtain ⟨hc0, hcA, hcB, ⟨Lc, hcBo⟩, sz, T, hG⟩ := id hC
  refine lv_iload_n hx hb dX2_cut_0 rfl (lv_at hl 1 rfl) ?_
  refine g_callSX (y := yX2_checkWood) (n := 1) (As := [.int wood]) (rest := []) hx hb hml hown hts hE hZ hP hS hl.1 (m_X2_checkWood l hst D hAD σ (wood)) k_X2_29 rfl rfl ⟨Nat.le_of_ble_eq_true rfl, Nat.le_of_ble_eq_true rfl⟩ (Nat.le_of_ble_eq_true rfl) ⟨Nat.le_of_ble_eq_true rfl, Nat.le_of_ble_eq_true rfl⟩ dX2_cut_1 (fun E ce q9 H locs hq hP hS hc9 hv9 hk9 => ?_) (fun v1 σ_2 H locs hq hP hS => ?_)
  · rw [← hQ]
    exact g_out htab hlocks (Or.inl (⟨by rw [er_cut, if_neg hq.2], hq.1⟩)) hP hS hc9 hv9 hk9 (Nat.le_of_ble_eq_true rfl) (Nat.le_of_ble_eq_true rfl)
  obtain ⟨rfl, rfl, hx1⟩ := hq
  refine W.eq (g2 := F0 m 4 ls []) rfl ?_
  refine W.widen (k := 2) (n := 12) (Nat.le_of_ble_eq_true rfl) (Nat.le_of_ble_eq_true rfl) ?_
  obtain ⟨w, hw, rfl⟩ := ix_nat hx1 (by decide)
  obtain ⟨Fw, Gw, hVw⟩ := hC.wood hw
  have hvw := hvC w hw
  have hwl : wl_ Ls (nI w) = Ls w := wl_n hw
  have hot : ot_ Ls (nI w) = Ls (1 - w) := ot_n hw
  obtain ⟨Fo, Go, hVo⟩ := hC.wood2 hw
  have hvo := hvC (1 - w) (by omega)
  refine lv_iload_n hx hb dX2_cut_4 rfl (lv_at hl 2 rfl) ?_
  refine g_callSX (y := yX2_checkName) (n := 1) (As := [.int name]) (rest := []) hx hb hml hown hts hE hZ hP hS hl.1 (m_X2_checkName l hst D hAD σ (name)) k_X2_33 rfl rfl ⟨Nat.le_of_ble_eq_true rfl, Nat.le_of_ble_eq_true rfl⟩ (Nat.le_of_ble_eq_true rfl) ⟨Nat.le_of_ble_eq_true rfl, Nat.le_of_ble_eq_true rfl⟩ dX2_cut_5 (fun E ce q9 H locs hq hP hS hc9 hv9 hk9 => ?_) (fun v3 σ_4 H locs hq hP hS => ?_)
  · rw [← hQ]
    exact g_out htab hlocks (Or.inr (Or.inl (⟨by rw [er_cut, if_pos (ix_of hw (by decide)), if_neg hq.2], hq.1⟩))) hP hS hc9 hv9 hk9 (Nat.le_of_ble_eq_true rfl) (Nat.le_of_ble_eq_true rfl)
  obtain ⟨rfl, rfl, hx5⟩ := hq
  refine W.eq (g2 := F0 m 8 ls []) rfl ?_
  refine W.widen (k := 3) (n := 18) (Nat.le_of_ble_eq_true rfl) (Nat.le_of_ble_eq_true rfl) ?_
  have h24a := hvw.2
  have h24b := hvo.2
  have hrk := rk_le (Ls w) name
  refine lv_aload_n hx hb dX2_cut_8 rfl (lv_at hl 0 rfl) ?_
  refine lv_iload_n hx hb dX2_cut_9 rfl (lv_at hl 1 rfl) ?_
  refine g_callV0 (y := yX2_villagesOf) (n := 1) (As := [.int (nI w)]) (rest := []) hx hb hml hown hts hE hZ hP hS hl.1 (m_X2_villagesOf l D hAD σ w hw hc0) k_X2_39 (ci := 2) (by decide) hc0 rfl rfl rfl rfl rfl ⟨rfl, rfl⟩ ⟨Nat.le_of_ble_eq_true rfl, Nat.le_of_ble_eq_true rfl⟩ (Nat.le_of_ble_eq_true rfl) ⟨Nat.le_of_ble_eq_true rfl, Nat.le_of_ble_eq_true rfl⟩ dX2_cut_10 (fun v5 σ_6 H locs hq hP hS => ?_)
  obtain ⟨rfl, rfl⟩ := hq
  refine W.eq (g2 := F0 m 13 ls [.ref (ad_ D (1 + 3 * w))]) rfl ?_
  refine lv_astore_n (lv' := [(3, .ref (ad_ D (1 + 3 * w))), (0, .ref (ad_ D 0)), (1, .int (nI w)), (2, .int name)]) hx hb dX2_cut_13 rfl hl (by decide) rfl (fun ls hl => ?_)
  refine lv_aload_n hx hb dX2_cut_14 rfl (lv_at hl 1 rfl) ?_
  refine lv_iload_n hx hb dX2_cut_15 rfl (lv_at hl 2 rfl) ?_
  refine g_callV0 (y := yX2_otherThan) (n := 1) (As := [.int (nI w)]) (rest := []) hx hb hml hown hts hE hZ hP hS hl.1 (m_X2_otherThan l D hAD σ w hw hc0) k_X2_70 (ci := 2) (by decide) hc0 rfl rfl rfl rfl rfl ⟨rfl, rfl⟩ ⟨Nat.le_of_ble_eq_true rfl, Nat.le_of_ble_eq_true rfl⟩ (Nat.le_of_ble_eq_true rfl) ⟨Nat.le_of_ble_eq_true rfl, Nat.le_of_ble_eq_true rfl⟩ dX2_cut_16 (fun v7 σ_8 H locs hq hP hS => ?_)
  obtain ⟨rfl, rfl⟩ := hq
  refine W.eq (g2 := F0 m 19 ls [.ref (ad_ D (4 - 3 * w))]) rfl ?_
  refine lv_astore (lv' := [(4, .ref (ad_ D (4 - 3 * w))), (3, .ref (ad_ D (1 + 3 * w))), (0, .ref (ad_ D 0)), (1, .int (nI w)), (2, .int name)]) hx hb dX2_cut_19 hl (by decide) rfl (fun ls hl => ?_)
  refine lv_aload hx hb dX2_cut_21 (lv_at hl 0 rfl) ?_
  refine g_callV0 (y := yX1_size) (n := 0) (As := []) (rest := []) hx hb hml hown hts hE hZ hP hS hl.1 (m_X1_size l D hAD σ (4 - 3 * w) (Ls (1 - w)) Fo Go hVo) k_X2_47 (ci := 1) (by omega) hVo.1 rfl rfl rfl rfl rfl ⟨rfl, rfl⟩ ⟨Nat.le_of_ble_eq_true rfl, Nat.le_of_ble_eq_true rfl⟩ (Nat.le_of_ble_eq_true rfl) ⟨Nat.le_of_ble_eq_true rfl, Nat.le_of_ble_eq_true rfl⟩ dX2_cut_23 (fun v9 σ_10 H locs hq hP hS => ?_)
  obtain ⟨rfl, rfl⟩ := hq
  refine W.eq (g2 := F0 m 26 ls [.int (nI ((Ls (1 - w)).length))]) rfl ?_
  refine lv_if_le (tgt := 39) hx hb dX2_cut_26 (by decide) (fun h26 => ?_) (fun h26 => ?_)
  · have hb26 := g_le (a := (Ls (1 - w)).length) (b := 0) h26 (by omega) (by omega)
    refine lv_aload_n hx hb dX2_cut_39 rfl (lv_at hl 1 rfl) ?_
    refine lv_iload_n hx hb dX2_cut_40 rfl (lv_at hl 4 rfl) ?_
    refine g_callV0 (y := yX1_smallerThan) (n := 1) (As := [.int name]) (rest := []) hx hb hml hown hts hE hZ hP hS hl.1 (m_X1_smallerThan l D hAD σ (1 + 3 * w) (Ls w) Fw Gw hVw (name)) k_X2_94 (ci := 1) (by omega) hVw.1 rfl rfl rfl rfl rfl ⟨rfl, rfl⟩ ⟨Nat.le_of_ble_eq_true rfl, Nat.le_of_ble_eq_true rfl⟩ (Nat.le_of_ble_eq_true rfl) ⟨Nat.le_of_ble_eq_true rfl, Nat.le_of_ble_eq_true rfl⟩ dX2_cut_41 (fun v11 σ_12 H locs hq hP hS => ?_)
    obtain ⟨rfl, rfl⟩ := hq
    refine W.eq (g2 := F0 m 44 ls [.int (nI (rk_ (Ls w) (name)))]) rfl ?_
    refine lv_istore (lv' := [(5, .int (nI (rk_ (Ls w) (name)))), (4, .ref (ad_ D (4 - 3 * w))), (3, .ref (ad_ D (1 + 3 * w))), (0, .ref (ad_ D 0)), (1, .int (nI w)), (2, .int name)]) hx hb dX2_cut_44 hl (by decide) rfl (fun ls hl => ?_)
    refine lv_iload hx hb dX2_cut_46 (lv_at hl 0 rfl) ?_
    refine lv_istore (lv' := [(6, .int (nI (rk_ (Ls w) (name)))), (5, .int (nI (rk_ (Ls w) (name)))), (4, .ref (ad_ D (4 - 3 * w))), (3, .ref (ad_ D (1 + 3 * w))), (0, .ref (ad_ D 0)), (1, .int (nI w)), (2, .int name)]) hx hb dX2_cut_48 hl (by decide) rfl (fun ls hl => ?_)
    have K50 : ∀ (fuel50 : Nat) (i : Nat) (σ2 : Nat → va_E) (F3 G3 : Nat → Int32), ((Ls w).length - i) < fuel50 → (rk_ (Ls w) name + i ≤ (Ls w).length) → (g_VF D σ2 (1 + 3 * w) (Ls w) Fw Gw) → (g_VF D σ2 (4 - 3 * w) (ct_ (Ls w) (Ls (1 - w)) (rk_ (Ls w) name) i) F3 G3) → (g_off 1 6 σ σ2) → ∀ (H : Heap) (locs : List Loc), va_P D vwCl (g_W D σ2) H → va_S (g_A D s.heap.size) s.heap H locs → ∀ ls : Array Slot, lv_has ls 7 [(6, .int (nI (rk_ (Ls w) name + i))), (5, .int (nI (rk_ (Ls w) name))), (4, .ref (ad_ D (4 - 3 * w))), (3, .ref (ad_ D (1 + 3 * w))), (0, .ref (ad_ D 0)), (1, .int (nI w)), (2, .int name)] → W p l e m_X2_cut_rm s m args below meth c H locs 3 18 Q (F0 m 50 ls []) := by
      intro fuel50
      induction fuel50 with
      | zero => intro i σ2 F3 G3 hf; exact absurd hf (Nat.not_lt_zero _)
      | succ fuel50 ih50 =>
        intro i σ2 F3 G3 hf50 hi iw io2 io H locs hP hS ls hl
        refine lv_iload hx hb dX2_cut_50 (lv_at hl 0 rfl) ?_
        refine lv_aload_n hx hb dX2_cut_52 rfl (lv_at hl 3 rfl) ?_
        refine g_callV0 (y := yX1_size) (n := 0) (As := []) (rest := [.int (nI (rk_ (Ls w) name + i))]) hx hb hml hown hts hE hZ hP hS hl.1 (m_X1_size l D hAD σ2 (1 + 3 * w) (Ls w) Fw Gw iw) k_X2_47 (ci := 1) (by omega) iw.1 rfl rfl rfl rfl rfl ⟨rfl, rfl⟩ ⟨Nat.le_of_ble_eq_true rfl, Nat.le_of_ble_eq_true rfl⟩ (Nat.le_of_ble_eq_true rfl) ⟨Nat.le_of_ble_eq_true rfl, Nat.le_of_ble_eq_true rfl⟩ dX2_cut_53 (fun v13 σ_14 H locs hq hP hS => ?_)
        obtain ⟨rfl, rfl⟩ := hq
        refine W.eq (g2 := F0 m 56 ls [.int (nI ((Ls w).length)), .int (nI (rk_ (Ls w) name + i))]) rfl ?_
        refine lv_icmp_ge (tgt := 82) hx hb dX2_cut_56 (by decide) (fun h56 => ?_) (fun h56 => ?_)
        · have hb56 := g_le (a := (Ls w).length) (b := rk_ (Ls w) name + i) h56 (by omega) (by omega)
          have hi2 : i = (Ls w).length - rk_ (Ls w) name := by omega
          refine lv_aload_n hx hb dX2_cut_82 rfl (lv_at hl 3 rfl) ?_
          refine lv_iload hx hb dX2_cut_83 (lv_at hl 1 rfl) ?_
          refine g_callV0 (y := yX1_keepFirst) (n := 1) (As := [.int (nI (rk_ (Ls w) name))]) (rest := []) hx hb hml hown hts hE hZ hP hS hl.1 (m_X1_keepFirst l D hAD σ2 (1 + 3 * w) (Ls w) Fw Gw iw (rk_ (Ls w) name) (by omega)) k_X2_89 (ci := 1) (by omega) iw.1 rfl rfl rfl rfl rfl ⟨rfl, rfl⟩ ⟨Nat.le_of_ble_eq_true rfl, Nat.le_of_ble_eq_true rfl⟩ (Nat.le_of_ble_eq_true rfl) ⟨Nat.le_of_ble_eq_true rfl, Nat.le_of_ble_eq_true rfl⟩ dX2_cut_85 (fun v15 σ_16 H locs hq hP hS => ?_)
          obtain ⟨rfl, hq2⟩ := hq
          refine W.eq (g2 := F0 m 88 ls []) rfl ?_
          obtain ⟨hVk17, hok18⟩ := hq2
          have hV19 := g_VF.off io2 hok18 (by omega)
          have ho20 := g_off.tr io (g_off.wd hok18 (by omega) (by omega))
          refine lv_aload hx hb dX2_cut_88 (lv_at hl 2 rfl) ?_
          refine g_callV0 (y := yX1_size) (n := 0) (As := []) (rest := []) hx hb hml hown hts hE hZ hP hS hl.1 (m_X1_size l D hAD σ_16 (4 - 3 * w) (ct_ (Ls w) (Ls (1 - w)) (rk_ (Ls w) name) i) F3 G3 hV19) k_X2_47 (ci := 1) (by omega) hV19.1 rfl rfl rfl rfl rfl ⟨rfl, rfl⟩ ⟨Nat.le_of_ble_eq_true rfl, Nat.le_of_ble_eq_true rfl⟩ (Nat.le_of_ble_eq_true rfl) ⟨Nat.le_of_ble_eq_true rfl, Nat.le_of_ble_eq_true rfl⟩ dX2_cut_90 (fun v21 σ_22 H locs hq hP hS => ?_)
          obtain ⟨rfl, rfl⟩ := hq
          refine W.eq (g2 := F0 m 93 ls [.int (nI ((ct_ (Ls w) (Ls (1 - w)) (rk_ (Ls w) name) i).length))]) rfl ?_
          refine W.widen (k := 5) (n := 30) (by omega) (by omega) ?_
          rw [← hQ]
          refine vx_ret ?_
          exact W.iret (v := nI ((ct_ (Ls w) (Ls (1 - w)) (rk_ (Ls w) name) i).length)) hx hb hr (fun te9 hte9 _ => g_fin (⟨by rw [er_cut, if_pos (ix_of hw (by decide)), if_pos hx5, hot, if_neg (by omega)], ⟨w, hw, rfl, hx5, by omega, by rw [← hi2], by rw [← hi2]; exact hC.two hw ho20 ⟨_, _, hVk17⟩ ⟨_, _, hV19⟩⟩, g_off.wd ho20 (by omega) (by omega)⟩) hP hS hte9) hS.2.2 dX2_cut_93 hlocks
        · have hb56 := g_nle (a := (Ls w).length) (b := rk_ (Ls w) name + i) h56 (by omega) (by omega)
          have hml9 := ct_len (Ls w) (Ls (1 - w)) (rk_ (Ls w) name) i
          have hxx := vL_ne hvw.1 (rk_ (Ls w) name + i) (by omega)
          have hrr : fn_ (ct_ (Ls w) (Ls (1 - w)) (rk_ (Ls w) name) i) (rk_ (ct_ (Ls w) (Ls (1 - w)) (rk_ (Ls w) name) i) (fn_ (Ls w) (rk_ (Ls w) name + i))) = fn_ (Ls w) (rk_ (Ls w) name + i) ∨ (ct_ (Ls w) (Ls (1 - w)) (rk_ (Ls w) name) i).length < 48 := Or.inr (by omega)
          refine lv_aload hx hb dX2_cut_59 (lv_at hl 2 rfl) ?_
          refine lv_aload_n hx hb dX2_cut_61 rfl (lv_at hl 3 rfl) ?_
          refine lv_iload hx hb dX2_cut_62 (lv_at hl 0 rfl) ?_
          refine g_callV0 (y := yX1_nameAt) (n := 1) (As := [.int (nI (rk_ (Ls w) name + i))]) (rest := [.ref (ad_ D (4 - 3 * w))]) hx hb hml hown hts hE hZ hP hS hl.1 (m_X1_nameAtN l D hAD σ2 (1 + 3 * w) (Ls w) Fw Gw iw (rk_ (Ls w) name + i) (by omega)) k_X2_79 (ci := 1) (by omega) iw.1 rfl rfl rfl rfl rfl ⟨rfl, rfl⟩ ⟨Nat.le_of_ble_eq_true rfl, Nat.le_of_ble_eq_true rfl⟩ (Nat.le_of_ble_eq_true rfl) ⟨Nat.le_of_ble_eq_true rfl, Nat.le_of_ble_eq_true rfl⟩ dX2_cut_64 (fun v23 σ_24 H locs hq hP hS => ?_)
          obtain ⟨rfl, rfl⟩ := hq
          refine W.eq (g2 := F0 m 67 ls [.int (fn_ (Ls w) (rk_ (Ls w) name + i)), .ref (ad_ D (4 - 3 * w))]) rfl ?_
          refine lv_aload_n hx hb dX2_cut_67 rfl (lv_at hl 3 rfl) ?_
          refine lv_iload hx hb dX2_cut_68 (lv_at hl 0 rfl) ?_
          refine g_callV0 (y := yX1_milesAt) (n := 1) (As := [.int (nI (rk_ (Ls w) name + i))]) (rest := [.int (fn_ (Ls w) (rk_ (Ls w) name + i)), .ref (ad_ D (4 - 3 * w))]) hx hb hml hown hts hE hZ hP hS hl.1 (m_X1_milesAtN l D hAD σ2 (1 + 3 * w) (Ls w) Fw Gw iw (rk_ (Ls w) name + i) (by omega)) k_X2_82 (ci := 1) (by omega) iw.1 rfl rfl rfl rfl rfl ⟨rfl, rfl⟩ ⟨Nat.le_of_ble_eq_true rfl, Nat.le_of_ble_eq_true rfl⟩ (Nat.le_of_ble_eq_true rfl) ⟨Nat.le_of_ble_eq_true rfl, Nat.le_of_ble_eq_true rfl⟩ dX2_cut_70 (fun v25 σ_26 H locs hq hP hS => ?_)
          obtain ⟨rfl, rfl⟩ := hq
          refine W.eq (g2 := F0 m 73 ls [.int (gn_ (Ls w) (rk_ (Ls w) name + i)), .int (fn_ (Ls w) (rk_ (Ls w) name + i)), .ref (ad_ D (4 - 3 * w))]) rfl ?_
          refine g_callV0 (y := yX1_set) (n := 2) (As := [.int (fn_ (Ls w) (rk_ (Ls w) name + i)), .int (gn_ (Ls w) (rk_ (Ls w) name + i))]) (rest := []) hx hb hml hown hts hE hZ hP hS hl.1 (m_X1_set l D hAD σ2 (4 - 3 * w) (ct_ (Ls w) (Ls (1 - w)) (rk_ (Ls w) name) i) F3 G3 io2 (fn_ (Ls w) (rk_ (Ls w) name + i)) (gn_ (Ls w) (rk_ (Ls w) name + i)) hxx hrr) k_X2_58 (ci := 1) (by omega) io2.1 rfl rfl rfl rfl rfl ⟨rfl, rfl⟩ ⟨Nat.le_of_ble_eq_true rfl, Nat.le_of_ble_eq_true rfl⟩ (Nat.le_of_ble_eq_true rfl) ⟨Nat.le_of_ble_eq_true rfl, Nat.le_of_ble_eq_true rfl⟩ dX2_cut_73 (fun v27 σ_28 H locs hq hP hS => ?_)
          obtain ⟨rfl, hq2⟩ := hq
          refine W.eq (g2 := F0 m 76 ls []) rfl ?_
          obtain ⟨Fs29, Gs30, hVs31, hos32, hgs33⟩ := hq2
          have hV34 := g_VF.off iw hos32 (by omega)
          have ho35 := g_off.tr io (g_off.wd hos32 (by omega) (by omega))
          refine lv_iinc (v := nI (rk_ (Ls w) name + i + 1)) (lv' := [(6, .int (nI (rk_ (Ls w) name + i + 1))), (5, .int (nI (rk_ (Ls w) name))), (4, .ref (ad_ D (4 - 3 * w))), (3, .ref (ad_ D (1 + 3 * w))), (0, .ref (ad_ D 0)), (1, .int (nI w)), (2, .int name)]) hx hb dX2_cut_76 hl (k := 0) rfl (g_inc (rk_ (Ls w) name + i)) (by decide) rfl (fun ls hl => ?_)
          refine lv_goto (tgt := 50) hx hb dX2_cut_79 (by decide) ?_
          exact ih50 (i + 1) σ_28 Fs29 Gs30 (by omega) (by omega) hV34 hVs31 ho35 _ _ hP hS ls (lv_sub hl [0, 1, 2, 3, 4, 5, 6] rfl)
    exact K50 (((Ls w).length - 0) + 1) 0 σ Fo Go (Nat.lt_succ_self _) (by omega) hVw hVo g_off.rf _ _ hP hS ls (lv_sub hl [0, 1, 2, 3, 4, 5, 6] rfl)
  · have hb26 := g_nle (a := (Ls (1 - w)).length) (b := 0) h26 (by omega) (by omega)
    rw [← hQ]
    exact g_throw (cls := g_E2) (text := "the other wood has a village") hx hb hst hown hts hE hZ hP hS (hl.1.trans hml.symm) (by decide +kernel) wl_X2_51 (g_mem 21 (by decide +kernel)) (by decide +kernel) (by decide +kernel) tw_E2.1 tw_E2.2.1 tw_E2.2.2 dX2_cut_29 dX2_cut_32 dX2_cut_33 dX2_cut_35 dX2_cut_38 htab hlocks ⟨Nat.le_of_ble_eq_true rfl, Nat.le_of_ble_eq_true rfl, Nat.le_of_ble_eq_true rfl, Nat.le_of_ble_eq_true rfl⟩ (Or.inr (Or.inr (⟨by rw [er_cut, if_pos (ix_of hw (by decide)), if_pos hx5, hot, if_pos hb26], rfl⟩))) (Nat.le_of_ble_eq_true rfl) (Nat.le_of_ble_eq_true rfl)
