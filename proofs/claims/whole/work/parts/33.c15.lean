abbrev m_X3_put_rm : Room := { frames := 10, cells := 0, slots := 0, locals := 248 }
set_option maxHeartbeats 4000000 in
set_option maxRecDepth 100000 in
theorem m_X3_put (l : Launch) (D : va_G) (hAD : g_AD D) (σ : Nat → va_E) (th rs sg : Int32) (S N Z R : Nat → Int32) (T : Nat → Nat → Int32) (hM : g_Mf D σ th rs sg S N Z R T) (Ls : Nat → g_L) (wood name mi : Int32) (hmr : mr_ Ls S N Z) (hvC : vC_ Ls) : g_M l D yX3_put cX3_put 6 (some .int) m_X3_put_rm [.ref (ad_ D 20), .int wood, .int name, .int mi] σ (fun v1 σ1 => ((er_put Ls wood name mi = 0 ∧ (∃ w, w ≤ 1 ∧ wood = nI w ∧ v1 = some (.int (mo_ (Ls w) name)) ∧ g_MM D σ1 (nI 0) (ul_ Ls w (st_ (Ls w) name mi)))) ∨ ∃ k9, er_put Ls wood name mi = k9 ∧ k9 ≠ 0 ∧ v1 = some (.int (nI 0)) ∧ g_MM D σ1 (nI k9) Ls) ∧ g_off 20 30 σ σ1) := by
  refine g_ofW [(0, .ref (ad_ D 20)), (1, .int wood), (2, .int name), (3, .int mi)] (by decide +kernel) (Nat.le_of_ble_eq_true rfl) rfl ?_
  intro p e s m args below meth c hx hb hr hml hown hlocks hts hE hZ hP hS hnm ls hl
  have hown : s.vm.findClass RX3 = some m.cls := hown
  generalize hQ : MQ _ _ _ _ _ _ _ = Q
  obtain ⟨k20, k21, k22, k23, k24, k25, k26, k27, k28, k29, k30⟩ := id hM
  refine lv_aload_n hx hb dX3_put_0 rfl (lv_at hl 0 rfl) ?_
  refine lv_iconst (v := nI 0) hx hb dX3_put_1 (by decide) ?_
  refine g_put hx hb hts hE hown hAD hP hS g_inX3 tyX3 tyX3_ok nmX3 rfl (by decide) k20 0 (by decide) rfl rfl (by decide +kernel) wf_X3_40 (v := nI 0) (Nat.le_of_ble_eq_true rfl) dX3_put_2 (fun H locs hP hS => ?_)
  obtain ⟨σ_1, hσ2⟩ : ∃ z : Nat → va_E, z = va_up σ 20 (.inr (3, [.int (nI 0), .ref (ad_ D 21), .ref (ad_ D 22), .ref (ad_ D 23), .ref (ad_ D 24), .int rs, .int sg, .ref (ad_ D 25), .ref (ad_ D 26), .ref (ad_ D 27), .ref (ad_ D 28), .ref (ad_ D 29), .ref (ad_ D 30)])) := ⟨_, rfl⟩
  have hP : va_P D vwCl (g_W D σ_1) H := by rw [hσ2]; exact hP
  have hc3 : σ_1 20 = .inr (3, [.int (nI 0), .ref (ad_ D 21), .ref (ad_ D 22), .ref (ad_ D 23), .ref (ad_ D 24), .int rs, .int sg, .ref (ad_ D 25), .ref (ad_ D 26), .ref (ad_ D 27), .ref (ad_ D 28), .ref (ad_ D 29), .ref (ad_ D 30)]) := by rw [hσ2]; exact g_ups
  have hc4 := (by rw [hσ2]; exact g_upn k21 (by decide) : σ_1 21 = .inl (g_cI D, 2, .inl (S)))
  have hc5 := (by rw [hσ2]; exact g_upn k22 (by decide) : σ_1 22 = .inl (g_cI D, 48, .inl (N)))
  have hc6 := (by rw [hσ2]; exact g_upn k23 (by decide) : σ_1 23 = .inl (g_cI D, 48, .inl (Z)))
  have hc7 := (by rw [hσ2]; exact g_upn k24 (by decide) : σ_1 24 = .inl (g_cI D, 48, .inl (R)))
  have hc8 := (by rw [hσ2]; exact g_upn k25 (by decide) : σ_1 25 = .inl (g_cI D, 96, .inl (T 0)))
  have hc9 := (by rw [hσ2]; exact g_upn k26 (by decide) : σ_1 26 = .inl (g_cI D, 96, .inl (T 1)))
  have hc10 := (by rw [hσ2]; exact g_upn k27 (by decide) : σ_1 27 = .inl (g_cI D, 96, .inl (T 2)))
  have hc11 := (by rw [hσ2]; exact g_upn k28 (by decide) : σ_1 28 = .inl (g_cI D, 96, .inl (T 3)))
  have hc12 := (by rw [hσ2]; exact g_upn k29 (by decide) : σ_1 29 = .inl (g_cI D, 96, .inl (T 4)))
  have hc13 := (by rw [hσ2]; exact g_upn k30 (by decide) : σ_1 30 = .inl (g_cI D, 96, .inl (T 5)))
  have ho14 : g_off 20 30 σ σ_1 := by rw [hσ2]; exact g_off.up (g_off.rf (lo := 20) (hi := 30) (σ := σ)) (by decide) (by decide)
  refine lv_iload_n hx hb dX3_put_5 rfl (lv_at hl 1 rfl) ?_
  refine g_callS0 (y := yX3_isWood) (n := 1) (As := [.int wood]) (rest := []) hx hb hml hown hts hE hZ hP hS hl.1 (m_X3_isWood l D hAD σ_1 (wood)) k_X3_94 rfl rfl ⟨rfl, rfl⟩ ⟨Nat.le_of_ble_eq_true rfl, Nat.le_of_ble_eq_true rfl⟩ (Nat.le_of_ble_eq_true rfl) ⟨Nat.le_of_ble_eq_true rfl, Nat.le_of_ble_eq_true rfl⟩ dX3_put_6 (fun v15 σ_16 H locs hq hP hS => ?_)
  obtain ⟨rfl, rfl⟩ := hq
  refine W.eq (g2 := F0 m 9 ls [.int (if wk1_ (wood) then 1 else 0)]) rfl ?_
  refine lv_if_ne (tgt := 18) hx hb dX3_put_9 (by decide) (fun h9 => ?_) (fun h9 => ?_)
  · have hq9 := g_pp1 h9
    obtain ⟨w, hw, hwe⟩ := ix_nat hq9 (by decide)
    subst hwe
    have hvw := hvC w hw
    have h24w := hvw.2
    have hvo := hvC (1 - w) (by omega)
    have h24o := hvo.2
    have hwl : wl_ Ls (nI w) = Ls w := wl_n hw
    have hot : ot_ Ls (nI w) = Ls (1 - w) := ot_n hw
    refine lv_iload_n hx hb dX3_put_18 rfl (lv_at hl 2 rfl) ?_
    refine g_callS0 (y := yX3_isName) (n := 1) (As := [.int name]) (rest := []) hx hb hml hown hts hE hZ hP hS hl.1 (m_X3_isName l D hAD σ_1 (name)) k_X3_101 rfl rfl ⟨rfl, rfl⟩ ⟨Nat.le_of_ble_eq_true rfl, Nat.le_of_ble_eq_true rfl⟩ (Nat.le_of_ble_eq_true rfl) ⟨Nat.le_of_ble_eq_true rfl, Nat.le_of_ble_eq_true rfl⟩ dX3_put_19 (fun v17 σ_18 H locs hq hP hS => ?_)
    obtain ⟨rfl, rfl⟩ := hq
    refine W.eq (g2 := F0 m 22 ls [.int (if nm1_ (name) then 1 else 0)]) rfl ?_
    refine lv_if_eq (tgt := 36) hx hb dX3_put_22 (by decide) (fun h22 => ?_) (fun h22 => ?_)
    · have hq22 := g_pp0 h22
      refine lv_aload_n hx hb dX3_put_36 rfl (lv_at hl 0 rfl) ?_
      refine lv_iconst (v := nI 2) hx hb dX3_put_37 (by decide) ?_
      have hMp19 : g_Mf D σ_1 (nI 0) rs sg S N Z R T := ⟨hc3, hc4, hc5, hc6, hc7, hc8, hc9, hc10, hc11, hc12, hc13⟩
      refine g_callV0 (y := yX3_no) (n := 1) (As := [.int (nI 2)]) (rest := []) hx hb hml hown hts hE hZ hP hS hl.1 (m_X3_no l D hAD σ_1 (nI 0) rs sg S N Z R T hMp19 (nI 2)) k_X3_98 (ci := 3) (by decide) hc3 rfl rfl rfl rfl rfl ⟨rfl, rfl⟩ ⟨Nat.le_of_ble_eq_true rfl, Nat.le_of_ble_eq_true rfl⟩ (Nat.le_of_ble_eq_true rfl) ⟨Nat.le_of_ble_eq_true rfl, Nat.le_of_ble_eq_true rfl⟩ dX3_put_38 (fun v20 σ_21 H locs hq hP hS => ?_)
      obtain ⟨rfl, hq2⟩ := hq
      refine W.eq (g2 := F0 m 41 ls [.int (nI 0)]) rfl ?_
      obtain ⟨hMn22, hon22⟩ := hq2
      obtain ⟨k23_20, k23_21, k23_22, k23_23, k23_24, k23_25, k23_26, k23_27, k23_28, k23_29, k23_30⟩ := id hMn22
      have ho24 := g_off.tr ho14 (g_off.wd hon22 (by decide) (by decide))
      have hMp25 : g_Mf D σ_21 (nI 2) rs sg S N Z R T := ⟨k23_20, k23_21, k23_22, k23_23, k23_24, k23_25, k23_26, k23_27, k23_28, k23_29, k23_30⟩
      rw [← hQ]
      exact W.iret (v := nI 0) hx hb hr (fun te9 hte9 _ => g_fin (⟨Or.inr ⟨2, by rw [er_put, if_pos (ix_of hw (by decide)), if_neg (fun q => hq22 q.1)], by decide, rfl, ⟨_, _, _, _, _, _, _, hMp25, hmr⟩⟩, ho24⟩) hP hS hte9) hS.2.2 dX3_put_41 hlocks
    · have hq22 := g_pp1 h22
      have hne22 := ne_m1 (nm_le hq22).1
      refine lv_iload_n hx hb dX3_put_25 rfl (lv_at hl 3 rfl) ?_
      refine lv_iconst (v := nI 0) hx hb dX3_put_26 (by decide) ?_
      refine lv_sipush (v := nI 999) hx hb dX3_put_27 (by decide) ?_
      refine g_callS0 (y := yX3_isIn) (n := 3) (As := [.int mi, .int (nI 0), .int (nI 999)]) (rest := []) hx hb hml hown hts hE hZ hP hS hl.1 (m_X3_isIn l D hAD σ_1 (mi) (nI 0) (nI 999)) k_X3_44 rfl rfl ⟨rfl, rfl⟩ ⟨Nat.le_of_ble_eq_true rfl, Nat.le_of_ble_eq_true rfl⟩ (Nat.le_of_ble_eq_true rfl) ⟨Nat.le_of_ble_eq_true rfl, Nat.le_of_ble_eq_true rfl⟩ dX3_put_30 (fun v26 σ_27 H locs hq hP hS => ?_)
      obtain ⟨rfl, rfl⟩ := hq
      refine W.eq (g2 := F0 m 33 ls [.int (if ¬ (mi) < (nI 0) ∧ ¬ (nI 999) < (mi) then 1 else 0)]) rfl ?_
      refine lv_if_ne (tgt := 42) hx hb dX3_put_33 (by decide) (fun h33 => ?_) (fun h33 => ?_)
      · have hq33 := g_pp1 h33
        refine lv_aload_n hx hb dX3_put_42 rfl (lv_at hl 0 rfl) ?_
        refine lv_iload_n hx hb dX3_put_43 rfl (lv_at hl 1 rfl) ?_
        refine lv_iload_n hx hb dX3_put_44 rfl (lv_at hl 2 rfl) ?_
        have hMp28 : g_Mf D σ_1 (nI 0) rs sg S N Z R T := ⟨hc3, hc4, hc5, hc6, hc7, hc8, hc9, hc10, hc11, hc12, hc13⟩
        refine g_callV0 (y := yX3_isThere) (n := 2) (As := [.int (nI w), .int name]) (rest := []) hx hb hml hown hts hE hZ hP hS hl.1 (m_X3_isThere l D hAD σ_1 (nI 0) rs sg S N Z R T hMp28 Ls w (name) hmr (by omega) hne22) k_X3_65 (ci := 3) (by decide) hc3 rfl rfl rfl rfl rfl ⟨rfl, rfl⟩ ⟨Nat.le_of_ble_eq_true rfl, Nat.le_of_ble_eq_true rfl⟩ (Nat.le_of_ble_eq_true rfl) ⟨Nat.le_of_ble_eq_true rfl, Nat.le_of_ble_eq_true rfl⟩ dX3_put_45 (fun v29 σ_30 H locs hq hP hS => ?_)
        obtain ⟨rfl, rfl⟩ := hq
        refine W.eq (g2 := F0 m 48 ls [.int (if fn_ (Ls w) (rk_ (Ls w) (name)) = name then 1 else 0)]) rfl ?_
        refine lv_if_eq (tgt := 84) hx hb dX3_put_48 (by decide) (fun h48 => ?_) (fun h48 => ?_)
        · have hq48 := g_pp0 h48
          refine lv_aload_n hx hb dX3_put_84 rfl (lv_at hl 0 rfl) ?_
          refine g_get hx hb hts hE hown hP g_inX3 rfl (by decide) hc3 1 (by decide) rfl wf_X3_9 (v := .ref (ad_ D 21)) rfl dX3_put_85 ?_
          refine lv_iload_n hx hb dX3_put_88 rfl (lv_at hl 1 rfl) ?_
          refine g_ialdN (j := w) hx hb hE hP (by decide) hc4 (by omega) (by decide) (v := nI ((Ls w).length)) (hmr.S (by omega)) dX3_put_89 ?_
          refine lv_bipush (v := nI 24) hx hb dX3_put_90 (by decide) ?_
          refine lv_icmp_ne (tgt := 101) hx hb dX3_put_92 (by decide) (fun h92 => ?_) (fun h92 => ?_)
          · have hb92 := g_ne (a := (Ls w).length) (b := 24) h92 (by omega) (by omega)
            refine lv_aload_n hx hb dX3_put_101 rfl (lv_at hl 0 rfl) ?_
            refine lv_iload_n hx hb dX3_put_102 rfl (lv_at hl 1 rfl) ?_
            refine lv_iload_n hx hb dX3_put_103 rfl (lv_at hl 2 rfl) ?_
            refine lv_iload_n hx hb dX3_put_104 rfl (lv_at hl 3 rfl) ?_
            have hMp31 : g_Mf D σ_1 (nI 0) rs sg S N Z R T := ⟨hc3, hc4, hc5, hc6, hc7, hc8, hc9, hc10, hc11, hc12, hc13⟩
            refine g_callV0 (y := yX3_insert) (n := 3) (As := [.int (nI w), .int name, .int mi]) (rest := []) hx hb hml hown hts hE hZ hP hS hl.1 (m_X3_insert l D hAD σ_1 (nI 0) rs sg S N Z R T hMp31 Ls w (name) (mi) hmr (by omega) hq48 (by omega)) k_X3_104 (ci := 3) (by decide) hc3 rfl rfl rfl rfl rfl ⟨rfl, rfl⟩ ⟨Nat.le_of_ble_eq_true rfl, Nat.le_of_ble_eq_true rfl⟩ (Nat.le_of_ble_eq_true rfl) ⟨Nat.le_of_ble_eq_true rfl, Nat.le_of_ble_eq_true rfl⟩ dX3_put_105 (fun v32 σ_33 H locs hq hP hS => ?_)
            obtain ⟨rfl, hq2⟩ := hq
            refine W.eq (g2 := F0 m 108 ls []) rfl ?_
            obtain ⟨⟨Sn34, Nn34, Qn34, hMn34, hmrn34⟩, hofn34⟩ := hq2
            obtain ⟨k35_20, k35_21, k35_22, k35_23, k35_24, k35_25, k35_26, k35_27, k35_28, k35_29, k35_30⟩ := id hMn34
            have ho36 := g_off.tr ho14 (g_off.wd hofn34 (by decide) (by decide))
            refine lv_iconst (v := (-1)) hx hb dX3_put_108 (by decide) ?_
            have hMp37 : g_Mf D σ_33 (nI 0) rs sg Sn34 Nn34 Qn34 R T := ⟨k35_20, k35_21, k35_22, k35_23, k35_24, k35_25, k35_26, k35_27, k35_28, k35_29, k35_30⟩
            rw [← hQ]
            exact W.iret (v := (-1)) hx hb hr (fun te9 hte9 _ => g_fin (⟨Or.inl ⟨by rw [er_put, if_pos (ix_of hw (by decide)), if_pos ⟨hq22, hq33⟩, hwl, if_neg (fun q => absurd q.2 (by omega))], w, hw, rfl, by rw [(mo_not hvw.1 hne22).mpr hq48], ⟨_, _, _, _, _, _, _, hMp37, hmrn34⟩⟩, ho36⟩) hP hS hte9) hS.2.2 dX3_put_109 hlocks
          · have hb92 := g_eq (a := (Ls w).length) (b := 24) h92 (by omega) (by omega)
            refine lv_aload_n hx hb dX3_put_95 rfl (lv_at hl 0 rfl) ?_
            refine lv_iconst (v := nI 3) hx hb dX3_put_96 (by decide) ?_
            have hMp38 : g_Mf D σ_1 (nI 0) rs sg S N Z R T := ⟨hc3, hc4, hc5, hc6, hc7, hc8, hc9, hc10, hc11, hc12, hc13⟩
            refine g_callV0 (y := yX3_no) (n := 1) (As := [.int (nI 3)]) (rest := []) hx hb hml hown hts hE hZ hP hS hl.1 (m_X3_no l D hAD σ_1 (nI 0) rs sg S N Z R T hMp38 (nI 3)) k_X3_98 (ci := 3) (by decide) hc3 rfl rfl rfl rfl rfl ⟨rfl, rfl⟩ ⟨Nat.le_of_ble_eq_true rfl, Nat.le_of_ble_eq_true rfl⟩ (Nat.le_of_ble_eq_true rfl) ⟨Nat.le_of_ble_eq_true rfl, Nat.le_of_ble_eq_true rfl⟩ dX3_put_97 (fun v39 σ_40 H locs hq hP hS => ?_)
            obtain ⟨rfl, hq2⟩ := hq
            refine W.eq (g2 := F0 m 100 ls [.int (nI 0)]) rfl ?_
            obtain ⟨hMn41, hon41⟩ := hq2
            obtain ⟨k42_20, k42_21, k42_22, k42_23, k42_24, k42_25, k42_26, k42_27, k42_28, k42_29, k42_30⟩ := id hMn41
            have ho43 := g_off.tr ho14 (g_off.wd hon41 (by decide) (by decide))
            have hMp44 : g_Mf D σ_40 (nI 3) rs sg S N Z R T := ⟨k42_20, k42_21, k42_22, k42_23, k42_24, k42_25, k42_26, k42_27, k42_28, k42_29, k42_30⟩
            rw [← hQ]
            exact W.iret (v := nI 0) hx hb hr (fun te9 hte9 _ => g_fin (⟨Or.inr ⟨3, by rw [er_put, if_pos (ix_of hw (by decide)), if_pos ⟨hq22, hq33⟩, hwl, if_pos ⟨(mo_not hvw.1 hne22).mpr hq48, by omega⟩], by decide, rfl, ⟨_, _, _, _, _, _, _, hMp44, hmr⟩⟩, ho43⟩) hP hS hte9) hS.2.2 dX3_put_100 hlocks
        · have hq48 := g_pp1 h48
          have hlt48 := fn_in hq48 hne22
          refine lv_bipush (v := nI 24) hx hb dX3_put_51 (by decide) ?_
          refine lv_iload_n hx hb dX3_put_53 rfl (lv_at hl 1 rfl) ?_
          refine lv_imul hx hb dX3_put_54 ?_
          refine g_top (y := nI (24 * w)) (pk_mul 24 w) ?_
          refine lv_aload_n hx hb dX3_put_55 rfl (lv_at hl 0 rfl) ?_
          refine lv_iload_n hx hb dX3_put_56 rfl (lv_at hl 1 rfl) ?_
          refine lv_iload_n hx hb dX3_put_57 rfl (lv_at hl 2 rfl) ?_
          have hMp45 : g_Mf D σ_1 (nI 0) rs sg S N Z R T := ⟨hc3, hc4, hc5, hc6, hc7, hc8, hc9, hc10, hc11, hc12, hc13⟩
          refine g_callV0 (y := yX3_smaller) (n := 2) (As := [.int (nI w), .int name]) (rest := [.int (nI (24 * w))]) hx hb hml hown hts hE hZ hP hS hl.1 (m_X3_smaller l D hAD σ_1 (nI 0) rs sg S N Z R T hMp45 Ls w (name) hmr (by omega)) k_X3_55 (ci := 3) (by decide) hc3 rfl rfl rfl rfl rfl ⟨rfl, rfl⟩ ⟨Nat.le_of_ble_eq_true rfl, Nat.le_of_ble_eq_true rfl⟩ (Nat.le_of_ble_eq_true rfl) ⟨Nat.le_of_ble_eq_true rfl, Nat.le_of_ble_eq_true rfl⟩ dX3_put_58 (fun v46 σ_47 H locs hq hP hS => ?_)
          obtain ⟨rfl, rfl⟩ := hq
          refine W.eq (g2 := F0 m 61 ls [.int (nI (rk_ (Ls w) (name))), .int (nI (24 * w))]) rfl ?_
          have hrk58 := rk_le (Ls w) (name)
          refine lv_iadd hx hb dX3_put_61 ?_
          refine g_top (y := nI ((24 * w) + (rk_ (Ls w) (name)))) (nI_add (24 * w) (rk_ (Ls w) (name))) ?_
          refine lv_istore (lv' := [(4, .int (nI ((24 * w) + (rk_ (Ls w) (name))))), (0, .ref (ad_ D 20)), (1, .int (nI w)), (2, .int name), (3, .int mi)]) hx hb dX3_put_62 hl (by decide) rfl (fun ls hl => ?_)
          refine lv_aload_n hx hb dX3_put_64 rfl (lv_at hl 1 rfl) ?_
          refine g_get hx hb hts hE hown hP g_inX3 rfl (by decide) hc3 3 (by decide) rfl wf_X3_16 (v := .ref (ad_ D 23)) rfl dX3_put_65 ?_
          refine lv_iload hx hb dX3_put_68 (lv_at hl 0 rfl) ?_
          refine g_ialdN (j := (24 * w) + (rk_ (Ls w) (name))) hx hb hE hP (by decide) hc6 (by omega) (by decide) (v := gn_ (Ls w) ((rk_ (Ls w) (name)))) (hmr.Q (by omega) (by omega)) dX3_put_70 ?_
          refine lv_istore (lv' := [(5, .int (gn_ (Ls w) ((rk_ (Ls w) (name))))), (4, .int (nI ((24 * w) + (rk_ (Ls w) (name))))), (0, .ref (ad_ D 20)), (1, .int (nI w)), (2, .int name), (3, .int mi)]) hx hb dX3_put_71 hl (by decide) rfl (fun ls hl => ?_)
          refine lv_aload_n hx hb dX3_put_73 rfl (lv_at hl 2 rfl) ?_
          refine g_get hx hb hts hE hown hP g_inX3 rfl (by decide) hc3 3 (by decide) rfl wf_X3_16 (v := .ref (ad_ D 23)) rfl dX3_put_74 ?_
          refine lv_iload hx hb dX3_put_77 (lv_at hl 1 rfl) ?_
          refine lv_iload_n hx hb dX3_put_79 rfl (lv_at hl 5 rfl) ?_
          refine g_iastN (j := (24 * w) + (rk_ (Ls w) (name))) (x := mi) hx hb hE hAD hP hS (by decide) hc6 (by omega) (by decide) dX3_put_80 (fun H locs hP hS => ?_)
          obtain ⟨σ_48, hσ49⟩ : ∃ z : Nat → va_E, z = va_up σ_1 23 (.inl (g_cI D, 48, .inl (upd Z ((24 * w) + (rk_ (Ls w) (name))) mi))) := ⟨_, rfl⟩
          have hP : va_P D vwCl (g_W D σ_48) H := by rw [hσ49]; exact hP
          have hc50 := (by rw [hσ49]; exact g_upn hc3 (by decide) : σ_48 20 = .inr (3, [.int (nI 0), .ref (ad_ D 21), .ref (ad_ D 22), .ref (ad_ D 23), .ref (ad_ D 24), .int rs, .int sg, .ref (ad_ D 25), .ref (ad_ D 26), .ref (ad_ D 27), .ref (ad_ D 28), .ref (ad_ D 29), .ref (ad_ D 30)]))
          have hc51 := (by rw [hσ49]; exact g_upn hc4 (by decide) : σ_48 21 = .inl (g_cI D, 2, .inl (S)))
          have hc52 := (by rw [hσ49]; exact g_upn hc5 (by decide) : σ_48 22 = .inl (g_cI D, 48, .inl (N)))
          have hc53 : σ_48 23 = .inl (g_cI D, 48, .inl (upd Z ((24 * w) + (rk_ (Ls w) (name))) mi)) := by rw [hσ49]; exact g_ups
          have hc54 := (by rw [hσ49]; exact g_upn hc7 (by decide) : σ_48 24 = .inl (g_cI D, 48, .inl (R)))
          have hc55 := (by rw [hσ49]; exact g_upn hc8 (by decide) : σ_48 25 = .inl (g_cI D, 96, .inl (T 0)))
          have hc56 := (by rw [hσ49]; exact g_upn hc9 (by decide) : σ_48 26 = .inl (g_cI D, 96, .inl (T 1)))
          have hc57 := (by rw [hσ49]; exact g_upn hc10 (by decide) : σ_48 27 = .inl (g_cI D, 96, .inl (T 2)))
          have hc58 := (by rw [hσ49]; exact g_upn hc11 (by decide) : σ_48 28 = .inl (g_cI D, 96, .inl (T 3)))
          have hc59 := (by rw [hσ49]; exact g_upn hc12 (by decide) : σ_48 29 = .inl (g_cI D, 96, .inl (T 4)))
          have hc60 := (by rw [hσ49]; exact g_upn hc13 (by decide) : σ_48 30 = .inl (g_cI D, 96, .inl (T 5)))
          have ho61 : g_off 20 30 σ σ_48 := by rw [hσ49]; exact g_off.up ho14 (by decide) (by decide)
          refine lv_iload hx hb dX3_put_81 (lv_at hl 0 rfl) ?_
          have hMp62 : g_Mf D σ_48 (nI 0) rs sg S N (upd Z ((24 * w) + (rk_ (Ls w) (name))) mi) R T := ⟨hc50, hc51, hc52, hc53, hc54, hc55, hc56, hc57, hc58, hc59, hc60⟩
          rw [← hQ]
          exact W.iret (v := gn_ (Ls w) ((rk_ (Ls w) (name)))) hx hb hr (fun te9 hte9 _ => g_fin (⟨Or.inl ⟨by rw [er_put, if_pos (ix_of hw (by decide)), if_pos ⟨hq22, hq33⟩, hwl, if_neg (fun q => (mo_not hvw.1 hne22).mp q.1 hq48)], w, hw, rfl, by rw [mo_, if_pos hq48], ⟨_, _, _, _, _, _, _, hMp62, (mr_set hmr hw hne22 hq48)⟩⟩, ho61⟩) hP hS hte9) hS.2.2 dX3_put_83 hlocks
      · have hq33 := g_pp0 h33
        refine lv_aload_n hx hb dX3_put_36 rfl (lv_at hl 0 rfl) ?_
        refine lv_iconst (v := nI 2) hx hb dX3_put_37 (by decide) ?_
        have hMp63 : g_Mf D σ_1 (nI 0) rs sg S N Z R T := ⟨hc3, hc4, hc5, hc6, hc7, hc8, hc9, hc10, hc11, hc12, hc13⟩
        refine g_callV0 (y := yX3_no) (n := 1) (As := [.int (nI 2)]) (rest := []) hx hb hml hown hts hE hZ hP hS hl.1 (m_X3_no l D hAD σ_1 (nI 0) rs sg S N Z R T hMp63 (nI 2)) k_X3_98 (ci := 3) (by decide) hc3 rfl rfl rfl rfl rfl ⟨rfl, rfl⟩ ⟨Nat.le_of_ble_eq_true rfl, Nat.le_of_ble_eq_true rfl⟩ (Nat.le_of_ble_eq_true rfl) ⟨Nat.le_of_ble_eq_true rfl, Nat.le_of_ble_eq_true rfl⟩ dX3_put_38 (fun v64 σ_65 H locs hq hP hS => ?_)
        obtain ⟨rfl, hq2⟩ := hq
        refine W.eq (g2 := F0 m 41 ls [.int (nI 0)]) rfl ?_
        obtain ⟨hMn66, hon66⟩ := hq2
        obtain ⟨k67_20, k67_21, k67_22, k67_23, k67_24, k67_25, k67_26, k67_27, k67_28, k67_29, k67_30⟩ := id hMn66
        have ho68 := g_off.tr ho14 (g_off.wd hon66 (by decide) (by decide))
        have hMp69 : g_Mf D σ_65 (nI 2) rs sg S N Z R T := ⟨k67_20, k67_21, k67_22, k67_23, k67_24, k67_25, k67_26, k67_27, k67_28, k67_29, k67_30⟩
        rw [← hQ]
        exact W.iret (v := nI 0) hx hb hr (fun te9 hte9 _ => g_fin (⟨Or.inr ⟨2, by rw [er_put, if_pos (ix_of hw (by decide)), if_neg (fun q => hq33 q.2)], by decide, rfl, ⟨_, _, _, _, _, _, _, hMp69, hmr⟩⟩, ho68⟩) hP hS hte9) hS.2.2 dX3_put_41 hlocks
  · have hq9 := g_pp0 h9
    refine lv_aload_n hx hb dX3_put_12 rfl (lv_at hl 0 rfl) ?_
    refine lv_iconst (v := nI 1) hx hb dX3_put_13 (by decide) ?_
    have hMp70 : g_Mf D σ_1 (nI 0) rs sg S N Z R T := ⟨hc3, hc4, hc5, hc6, hc7, hc8, hc9, hc10, hc11, hc12, hc13⟩
    refine g_callV0 (y := yX3_no) (n := 1) (As := [.int (nI 1)]) (rest := []) hx hb hml hown hts hE hZ hP hS hl.1 (m_X3_no l D hAD σ_1 (nI 0) rs sg S N Z R T hMp70 (nI 1)) k_X3_98 (ci := 3) (by decide) hc3 rfl rfl rfl rfl rfl ⟨rfl, rfl⟩ ⟨Nat.le_of_ble_eq_true rfl, Nat.le_of_ble_eq_true rfl⟩ (Nat.le_of_ble_eq_true rfl) ⟨Nat.le_of_ble_eq_true rfl, Nat.le_of_ble_eq_true rfl⟩ dX3_put_14 (fun v71 σ_72 H locs hq hP hS => ?_)
    obtain ⟨rfl, hq2⟩ := hq
    refine W.eq (g2 := F0 m 17 ls [.int (nI 0)]) rfl ?_
    obtain ⟨hMn73, hon73⟩ := hq2
    obtain ⟨k74_20, k74_21, k74_22, k74_23, k74_24, k74_25, k74_26, k74_27, k74_28, k74_29, k74_30⟩ := id hMn73
    have ho75 := g_off.tr ho14 (g_off.wd hon73 (by decide) (by decide))
    have hMp76 : g_Mf D σ_72 (nI 1) rs sg S N Z R T := ⟨k74_20, k74_21, k74_22, k74_23, k74_24, k74_25, k74_26, k74_27, k74_28, k74_29, k74_30⟩
    rw [← hQ]
    exact W.iret (v := nI 0) hx hb hr (fun te9 hte9 _ => g_fin (⟨Or.inr ⟨1, by rw [er_put, if_neg hq9], by decide, rfl, ⟨_, _, _, _, _, _, _, hMp76, hmr⟩⟩, ho75⟩) hP hS hte9) hS.2.2 dX3_put_17 hlocks

abbrev m_X3_take_rm : Room := { frames := 10, cells := 0, slots := 0, locals := 248 }
set_option maxHeartbeats 4000000 in
set_option maxRecDepth 100000 in
theorem m_X3_take (l : Launch) (D : va_G) (hAD : g_AD D) (σ : Nat → va_E) (th rs sg : Int32) (S N Z R : Nat → Int32) (T : Nat → Nat → Int32) (hM : g_Mf D σ th rs sg S N Z R T) (Ls : Nat → g_L) (wood name : Int32) (hmr : mr_ Ls S N Z) (hvC : vC_ Ls) : g_M l D yX3_take cX3_take 3 (some .int) m_X3_take_rm [.ref (ad_ D 20), .int wood, .int name] σ (fun v1 σ1 => ((er_take Ls wood name = 0 ∧ (∃ w, w ≤ 1 ∧ wood = nI w ∧ v1 = some (.int (mo_ (Ls w) name)) ∧ rk_ (Ls w) name < (Ls w).length ∧ fn_ (Ls w) (rk_ (Ls w) name) = name ∧ g_MM D σ1 (nI 0) (ul_ Ls w ((Ls w).eraseIdx (rk_ (Ls w) name))))) ∨ ∃ k9, er_take Ls wood name = k9 ∧ k9 ≠ 0 ∧ v1 = some (.int (nI 0)) ∧ g_MM D σ1 (nI k9) Ls) ∧ g_off 20 30 σ σ1) := by
  refine g_ofW [(0, .ref (ad_ D 20)), (1, .int wood), (2, .int name)] (by decide +kernel) (Nat.le_of_ble_eq_true rfl) rfl ?_
  intro p e s m args below meth c hx hb hr hml hown hlocks hts hE hZ hP hS hnm ls hl
  have hown : s.vm.findClass RX3 = some m.cls := hown
  generalize hQ : MQ _ _ _ _ _ _ _ = Q
  obtain ⟨k20, k21, k22, k23, k24, k25, k26, k27, k28, k29, k30⟩ := id hM
  refine lv_aload_n hx hb dX3_take_0 rfl (lv_at hl 0 rfl) ?_
  refine lv_iconst (v := nI 0) hx hb dX3_take_1 (by decide) ?_
  refine g_put hx hb hts hE hown hAD hP hS g_inX3 tyX3 tyX3_ok nmX3 rfl (by decide) k20 0 (by decide) rfl rfl (by decide +kernel) wf_X3_40 (v := nI 0) (Nat.le_of_ble_eq_true rfl) dX3_take_2 (fun H locs hP hS => ?_)
  obtain ⟨σ_1, hσ2⟩ : ∃ z : Nat → va_E, z = va_up σ 20 (.inr (3, [.int (nI 0), .ref (ad_ D 21), .ref (ad_ D 22), .ref (ad_ D 23), .ref (ad_ D 24), .int rs, .int sg, .ref (ad_ D 25), .ref (ad_ D 26), .ref (ad_ D 27), .ref (ad_ D 28), .ref (ad_ D 29), .ref (ad_ D 30)])) := ⟨_, rfl⟩
  have hP : va_P D vwCl (g_W D σ_1) H := by rw [hσ2]; exact hP
  have hc3 : σ_1 20 = .inr (3, [.int (nI 0), .ref (ad_ D 21), .ref (ad_ D 22), .ref (ad_ D 23), .ref (ad_ D 24), .int rs, .int sg, .ref (ad_ D 25), .ref (ad_ D 26), .ref (ad_ D 27), .ref (ad_ D 28), .ref (ad_ D 29), .ref (ad_ D 30)]) := by rw [hσ2]; exact g_ups
  have hc4 := (by rw [hσ2]; exact g_upn k21 (by decide) : σ_1 21 = .inl (g_cI D, 2, .inl (S)))
  have hc5 := (by rw [hσ2]; exact g_upn k22 (by decide) : σ_1 22 = .inl (g_cI D, 48, .inl (N)))
  have hc6 := (by rw [hσ2]; exact g_upn k23 (by decide) : σ_1 23 = .inl (g_cI D, 48, .inl (Z)))
  have hc7 := (by rw [hσ2]; exact g_upn k24 (by decide) : σ_1 24 = .inl (g_cI D, 48, .inl (R)))
  have hc8 := (by rw [hσ2]; exact g_upn k25 (by decide) : σ_1 25 = .inl (g_cI D, 96, .inl (T 0)))
  have hc9 := (by rw [hσ2]; exact g_upn k26 (by decide) : σ_1 26 = .inl (g_cI D, 96, .inl (T 1)))
  have hc10 := (by rw [hσ2]; exact g_upn k27 (by decide) : σ_1 27 = .inl (g_cI D, 96, .inl (T 2)))
  have hc11 := (by rw [hσ2]; exact g_upn k28 (by decide) : σ_1 28 = .inl (g_cI D, 96, .inl (T 3)))
  have hc12 := (by rw [hσ2]; exact g_upn k29 (by decide) : σ_1 29 = .inl (g_cI D, 96, .inl (T 4)))
  have hc13 := (by rw [hσ2]; exact g_upn k30 (by decide) : σ_1 30 = .inl (g_cI D, 96, .inl (T 5)))
  have ho14 : g_off 20 30 σ σ_1 := by rw [hσ2]; exact g_off.up (g_off.rf (lo := 20) (hi := 30) (σ := σ)) (by decide) (by decide)
  refine lv_iload_n hx hb dX3_take_5 rfl (lv_at hl 1 rfl) ?_
  refine g_callS0 (y := yX3_isWood) (n := 1) (As := [.int wood]) (rest := []) hx hb hml hown hts hE hZ hP hS hl.1 (m_X3_isWood l D hAD σ_1 (wood)) k_X3_94 rfl rfl ⟨rfl, rfl⟩ ⟨Nat.le_of_ble_eq_true rfl, Nat.le_of_ble_eq_true rfl⟩ (Nat.le_of_ble_eq_true rfl) ⟨Nat.le_of_ble_eq_true rfl, Nat.le_of_ble_eq_true rfl⟩ dX3_take_6 (fun v15 σ_16 H locs hq hP hS => ?_)
  obtain ⟨rfl, rfl⟩ := hq
  refine W.eq (g2 := F0 m 9 ls [.int (if wk1_ (wood) then 1 else 0)]) rfl ?_
  refine lv_if_ne (tgt := 18) hx hb dX3_take_9 (by decide) (fun h9 => ?_) (fun h9 => ?_)
  · have hq9 := g_pp1 h9
    obtain ⟨w, hw, hwe⟩ := ix_nat hq9 (by decide)
    subst hwe
    have hvw := hvC w hw
    have h24w := hvw.2
    have hvo := hvC (1 - w) (by omega)
    have h24o := hvo.2
    have hwl : wl_ Ls (nI w) = Ls w := wl_n hw
    have hot : ot_ Ls (nI w) = Ls (1 - w) := ot_n hw
    refine lv_iload_n hx hb dX3_take_18 rfl (lv_at hl 2 rfl) ?_
    refine g_callS0 (y := yX3_isName) (n := 1) (As := [.int name]) (rest := []) hx hb hml hown hts hE hZ hP hS hl.1 (m_X3_isName l D hAD σ_1 (name)) k_X3_101 rfl rfl ⟨rfl, rfl⟩ ⟨Nat.le_of_ble_eq_true rfl, Nat.le_of_ble_eq_true rfl⟩ (Nat.le_of_ble_eq_true rfl) ⟨Nat.le_of_ble_eq_true rfl, Nat.le_of_ble_eq_true rfl⟩ dX3_take_19 (fun v17 σ_18 H locs hq hP hS => ?_)
    obtain ⟨rfl, rfl⟩ := hq
    refine W.eq (g2 := F0 m 22 ls [.int (if nm1_ (name) then 1 else 0)]) rfl ?_
    refine lv_if_ne (tgt := 31) hx hb dX3_take_22 (by decide) (fun h22 => ?_) (fun h22 => ?_)
    · have hq22 := g_pp1 h22
      have hne22 := ne_m1 (nm_le hq22).1
      refine lv_aload_n hx hb dX3_take_31 rfl (lv_at hl 0 rfl) ?_
      refine lv_iload_n hx hb dX3_take_32 rfl (lv_at hl 1 rfl) ?_
      refine lv_iload_n hx hb dX3_take_33 rfl (lv_at hl 2 rfl) ?_
      have hMp19 : g_Mf D σ_1 (nI 0) rs sg S N Z R T := ⟨hc3, hc4, hc5, hc6, hc7, hc8, hc9, hc10, hc11, hc12, hc13⟩
      refine g_callV0 (y := yX3_isThere) (n := 2) (As := [.int (nI w), .int name]) (rest := []) hx hb hml hown hts hE hZ hP hS hl.1 (m_X3_isThere l D hAD σ_1 (nI 0) rs sg S N Z R T hMp19 Ls w (name) hmr (by omega) hne22) k_X3_65 (ci := 3) (by decide) hc3 rfl rfl rfl rfl rfl ⟨rfl, rfl⟩ ⟨Nat.le_of_ble_eq_true rfl, Nat.le_of_ble_eq_true rfl⟩ (Nat.le_of_ble_eq_true rfl) ⟨Nat.le_of_ble_eq_true rfl, Nat.le_of_ble_eq_true rfl⟩ dX3_take_34 (fun v20 σ_21 H locs hq hP hS => ?_)
      obtain ⟨rfl, rfl⟩ := hq
      refine W.eq (g2 := F0 m 37 ls [.int (if fn_ (Ls w) (rk_ (Ls w) (name)) = name then 1 else 0)]) rfl ?_
      refine lv_if_eq (tgt := 49) hx hb dX3_take_37 (by decide) (fun h37 => ?_) (fun h37 => ?_)
      · have hq37 := g_pp0 h37
        refine lv_aload_n hx hb dX3_take_49 rfl (lv_at hl 0 rfl) ?_
        refine lv_iconst (v := nI 3) hx hb dX3_take_50 (by decide) ?_
        have hMp22 : g_Mf D σ_1 (nI 0) rs sg S N Z R T := ⟨hc3, hc4, hc5, hc6, hc7, hc8, hc9, hc10, hc11, hc12, hc13⟩
        refine g_callV0 (y := yX3_no) (n := 1) (As := [.int (nI 3)]) (rest := []) hx hb hml hown hts hE hZ hP hS hl.1 (m_X3_no l D hAD σ_1 (nI 0) rs sg S N Z R T hMp22 (nI 3)) k_X3_98 (ci := 3) (by decide) hc3 rfl rfl rfl rfl rfl ⟨rfl, rfl⟩ ⟨Nat.le_of_ble_eq_true rfl, Nat.le_of_ble_eq_true rfl⟩ (Nat.le_of_ble_eq_true rfl) ⟨Nat.le_of_ble_eq_true rfl, Nat.le_of_ble_eq_true rfl⟩ dX3_take_51 (fun v23 σ_24 H locs hq hP hS => ?_)
        obtain ⟨rfl, hq2⟩ := hq
        refine W.eq (g2 := F0 m 54 ls [.int (nI 0)]) rfl ?_
        obtain ⟨hMn25, hon25⟩ := hq2
        obtain ⟨k26_20, k26_21, k26_22, k26_23, k26_24, k26_25, k26_26, k26_27, k26_28, k26_29, k26_30⟩ := id hMn25
        have ho27 := g_off.tr ho14 (g_off.wd hon25 (by decide) (by decide))
        have hMp28 : g_Mf D σ_24 (nI 3) rs sg S N Z R T := ⟨k26_20, k26_21, k26_22, k26_23, k26_24, k26_25, k26_26, k26_27, k26_28, k26_29, k26_30⟩
        rw [← hQ]
        exact W.iret (v := nI 0) hx hb hr (fun te9 hte9 _ => g_fin (⟨Or.inr ⟨3, by rw [er_take, if_pos (ix_of hw (by decide)), if_pos hq22, hwl, if_pos ((mo_not hvw.1 hne22).mpr hq37)], by decide, rfl, ⟨_, _, _, _, _, _, _, hMp28, hmr⟩⟩, ho27⟩) hP hS hte9) hS.2.2 dX3_take_54 hlocks
      · have hq37 := g_pp1 h37
        have hlt37 := fn_in hq37 hne22
        refine lv_aload_n hx hb dX3_take_40 rfl (lv_at hl 0 rfl) ?_
        refine lv_iload_n hx hb dX3_take_41 rfl (lv_at hl 1 rfl) ?_
        refine lv_iload_n hx hb dX3_take_42 rfl (lv_at hl 2 rfl) ?_
        have hMp29 : g_Mf D σ_1 (nI 0) rs sg S N Z R T := ⟨hc3, hc4, hc5, hc6, hc7, hc8, hc9, hc10, hc11, hc12, hc13⟩
        refine g_callV0 (y := yX3_remove) (n := 2) (As := [.int (nI w), .int name]) (rest := []) hx hb hml hown hts hE hZ hP hS hl.1 (m_X3_remove l D hAD σ_1 (nI 0) rs sg S N Z R T hMp29 Ls w (name) hmr (by omega) (fn_in hq37 hne22)) k_X3_108 (ci := 3) (by decide) hc3 rfl rfl rfl rfl rfl ⟨rfl, rfl⟩ ⟨Nat.le_of_ble_eq_true rfl, Nat.le_of_ble_eq_true rfl⟩ (Nat.le_of_ble_eq_true rfl) ⟨Nat.le_of_ble_eq_true rfl, Nat.le_of_ble_eq_true rfl⟩ dX3_take_43 (fun v30 σ_31 H locs hq hP hS => ?_)
        obtain ⟨rfl, hq2⟩ := hq
        refine W.eq (g2 := F0 m 46 ls [.int (gn_ (Ls w) (rk_ (Ls w) (name)))]) rfl ?_
        obtain ⟨⟨Sn32, Nn32, Qn32, hMn32, hmrn32⟩, hofn32⟩ := hq2
        obtain ⟨k33_20, k33_21, k33_22, k33_23, k33_24, k33_25, k33_26, k33_27, k33_28, k33_29, k33_30⟩ := id hMn32
        have ho34 := g_off.tr ho14 (g_off.wd hofn32 (by decide) (by decide))
        refine lv_goto (tgt := 54) hx hb dX3_take_46 (by decide) ?_
        have hMp35 : g_Mf D σ_31 (nI 0) rs sg Sn32 Nn32 Qn32 R T := ⟨k33_20, k33_21, k33_22, k33_23, k33_24, k33_25, k33_26, k33_27, k33_28, k33_29, k33_30⟩
        rw [← hQ]
        exact W.iret (v := gn_ (Ls w) (rk_ (Ls w) (name))) hx hb hr (fun te9 hte9 _ => g_fin (⟨Or.inl ⟨by rw [er_take, if_pos (ix_of hw (by decide)), if_pos hq22, hwl, if_neg (fun q => (mo_not hvw.1 hne22).mp q hq37)], w, hw, rfl, by rw [mo_, if_pos hq37], fn_in hq37 hne22, hq37, ⟨_, _, _, _, _, _, _, hMp35, hmrn32⟩⟩, ho34⟩) hP hS hte9) hS.2.2 dX3_take_54 hlocks
    · have hq22 := g_pp0 h22
      refine lv_aload_n hx hb dX3_take_25 rfl (lv_at hl 0 rfl) ?_
      refine lv_iconst (v := nI 2) hx hb dX3_take_26 (by decide) ?_
      have hMp36 : g_Mf D σ_1 (nI 0) rs sg S N Z R T := ⟨hc3, hc4, hc5, hc6, hc7, hc8, hc9, hc10, hc11, hc12, hc13⟩
      refine g_callV0 (y := yX3_no) (n := 1) (As := [.int (nI 2)]) (rest := []) hx hb hml hown hts hE hZ hP hS hl.1 (m_X3_no l D hAD σ_1 (nI 0) rs sg S N Z R T hMp36 (nI 2)) k_X3_98 (ci := 3) (by decide) hc3 rfl rfl rfl rfl rfl ⟨rfl, rfl⟩ ⟨Nat.le_of_ble_eq_true rfl, Nat.le_of_ble_eq_true rfl⟩ (Nat.le_of_ble_eq_true rfl) ⟨Nat.le_of_ble_eq_true rfl, Nat.le_of_ble_eq_true rfl⟩ dX3_take_27 (fun v37 σ_38 H locs hq hP hS => ?_)
      obtain ⟨rfl, hq2⟩ := hq
      refine W.eq (g2 := F0 m 30 ls [.int (nI 0)]) rfl ?_
      obtain ⟨hMn39, hon39⟩ := hq2
      obtain ⟨k40_20, k40_21, k40_22, k40_23, k40_24, k40_25, k40_26, k40_27, k40_28, k40_29, k40_30⟩ := id hMn39
      have ho41 := g_off.tr ho14 (g_off.wd hon39 (by decide) (by decide))
      have hMp42 : g_Mf D σ_38 (nI 2) rs sg S N Z R T := ⟨k40_20, k40_21, k40_22, k40_23, k40_24, k40_25, k40_26, k40_27, k40_28, k40_29, k40_30⟩
      rw [← hQ]
      exact W.iret (v := nI 0) hx hb hr (fun te9 hte9 _ => g_fin (⟨Or.inr ⟨2, by rw [er_take, if_pos (ix_of hw (by decide)), if_neg hq22], by decide, rfl, ⟨_, _, _, _, _, _, _, hMp42, hmr⟩⟩, ho41⟩) hP hS hte9) hS.2.2 dX3_take_30 hlocks
  · have hq9 := g_pp0 h9
    refine lv_aload_n hx hb dX3_take_12 rfl (lv_at hl 0 rfl) ?_
    refine lv_iconst (v := nI 1) hx hb dX3_take_13 (by decide) ?_
    have hMp43 : g_Mf D σ_1 (nI 0) rs sg S N Z R T := ⟨hc3, hc4, hc5, hc6, hc7, hc8, hc9, hc10, hc11, hc12, hc13⟩
    refine g_callV0 (y := yX3_no) (n := 1) (As := [.int (nI 1)]) (rest := []) hx hb hml hown hts hE hZ hP hS hl.1 (m_X3_no l D hAD σ_1 (nI 0) rs sg S N Z R T hMp43 (nI 1)) k_X3_98 (ci := 3) (by decide) hc3 rfl rfl rfl rfl rfl ⟨rfl, rfl⟩ ⟨Nat.le_of_ble_eq_true rfl, Nat.le_of_ble_eq_true rfl⟩ (Nat.le_of_ble_eq_true rfl) ⟨Nat.le_of_ble_eq_true rfl, Nat.le_of_ble_eq_true rfl⟩ dX3_take_14 (fun v44 σ_45 H locs hq hP hS => ?_)
    obtain ⟨rfl, hq2⟩ := hq
    refine W.eq (g2 := F0 m 17 ls [.int (nI 0)]) rfl ?_
    obtain ⟨hMn46, hon46⟩ := hq2
    obtain ⟨k47_20, k47_21, k47_22, k47_23, k47_24, k47_25, k47_26, k47_27, k47_28, k47_29, k47_30⟩ := id hMn46
    have ho48 := g_off.tr ho14 (g_off.wd hon46 (by decide) (by decide))
    have hMp49 : g_Mf D σ_45 (nI 1) rs sg S N Z R T := ⟨k47_20, k47_21, k47_22, k47_23, k47_24, k47_25, k47_26, k47_27, k47_28, k47_29, k47_30⟩
    rw [← hQ]
    exact W.iret (v := nI 0) hx hb hr (fun te9 hte9 _ => g_fin (⟨Or.inr ⟨1, by rw [er_take, if_neg hq9], by decide, rfl, ⟨_, _, _, _, _, _, _, hMp49, hmr⟩⟩, ho48⟩) hP hS hte9) hS.2.2 dX3_take_17 hlocks

abbrev m_X3_miles_rm : Room := { frames := 10, cells := 0, slots := 0, locals := 246 }
set_option maxHeartbeats 4000000 in
set_option maxRecDepth 100000 in
theorem m_X3_miles (l : Launch) (D : va_G) (hAD : g_AD D) (σ : Nat → va_E) (th rs sg : Int32) (S N Z R : Nat → Int32) (T : Nat → Nat → Int32) (hM : g_Mf D σ th rs sg S N Z R T) (Ls : Nat → g_L) (wood name : Int32) (hmr : mr_ Ls S N Z) (hvC : vC_ Ls) : g_M l D yX3_miles cX3_miles 3 (some .int) m_X3_miles_rm [.ref (ad_ D 20), .int wood, .int name] σ (fun v1 σ1 => ((er_miles wood name = 0 ∧ (∃ w, w ≤ 1 ∧ wood = nI w ∧ v1 = some (.int (mo_ (Ls w) name)) ∧ g_MM D σ1 (nI 0) Ls)) ∨ ∃ k9, er_miles wood name = k9 ∧ k9 ≠ 0 ∧ v1 = some (.int (nI 0)) ∧ g_MM D σ1 (nI k9) Ls) ∧ g_off 20 30 σ σ1) := by
  refine g_ofW [(0, .ref (ad_ D 20)), (1, .int wood), (2, .int name)] (by decide +kernel) (Nat.le_of_ble_eq_true rfl) rfl ?_
  intro p e s m args below meth c hx hb hr hml hown hlocks hts hE hZ hP hS hnm ls hl
  have hown : s.vm.findClass RX3 = some m.cls := hown
  generalize hQ : MQ _ _ _ _ _ _ _ = Q
  obtain ⟨k20, k21, k22, k23, k24, k25, k26, k27, k28, k29, k30⟩ := id hM
  refine lv_aload_n hx hb dX3_miles_0 rfl (lv_at hl 0 rfl) ?_
  refine lv_iconst (v := nI 0) hx hb dX3_miles_1 (by decide) ?_
  refine g_put hx hb hts hE hown hAD hP hS g_inX3 tyX3 tyX3_ok nmX3 rfl (by decide) k20 0 (by decide) rfl rfl (by decide +kernel) wf_X3_40 (v := nI 0) (Nat.le_of_ble_eq_true rfl) dX3_miles_2 (fun H locs hP hS => ?_)
  obtain ⟨σ_1, hσ2⟩ : ∃ z : Nat → va_E, z = va_up σ 20 (.inr (3, [.int (nI 0), .ref (ad_ D 21), .ref (ad_ D 22), .ref (ad_ D 23), .ref (ad_ D 24), .int rs, .int sg, .ref (ad_ D 25), .ref (ad_ D 26), .ref (ad_ D 27), .ref (ad_ D 28), .ref (ad_ D 29), .ref (ad_ D 30)])) := ⟨_, rfl⟩
  have hP : va_P D vwCl (g_W D σ_1) H := by rw [hσ2]; exact hP
  have hc3 : σ_1 20 = .inr (3, [.int (nI 0), .ref (ad_ D 21), .ref (ad_ D 22), .ref (ad_ D 23), .ref (ad_ D 24), .int rs, .int sg, .ref (ad_ D 25), .ref (ad_ D 26), .ref (ad_ D 27), .ref (ad_ D 28), .ref (ad_ D 29), .ref (ad_ D 30)]) := by rw [hσ2]; exact g_ups
  have hc4 := (by rw [hσ2]; exact g_upn k21 (by decide) : σ_1 21 = .inl (g_cI D, 2, .inl (S)))
  have hc5 := (by rw [hσ2]; exact g_upn k22 (by decide) : σ_1 22 = .inl (g_cI D, 48, .inl (N)))
  have hc6 := (by rw [hσ2]; exact g_upn k23 (by decide) : σ_1 23 = .inl (g_cI D, 48, .inl (Z)))
  have hc7 := (by rw [hσ2]; exact g_upn k24 (by decide) : σ_1 24 = .inl (g_cI D, 48, .inl (R)))
  have hc8 := (by rw [hσ2]; exact g_upn k25 (by decide) : σ_1 25 = .inl (g_cI D, 96, .inl (T 0)))
  have hc9 := (by rw [hσ2]; exact g_upn k26 (by decide) : σ_1 26 = .inl (g_cI D, 96, .inl (T 1)))
  have hc10 := (by rw [hσ2]; exact g_upn k27 (by decide) : σ_1 27 = .inl (g_cI D, 96, .inl (T 2)))
  have hc11 := (by rw [hσ2]; exact g_upn k28 (by decide) : σ_1 28 = .inl (g_cI D, 96, .inl (T 3)))
  have hc12 := (by rw [hσ2]; exact g_upn k29 (by decide) : σ_1 29 = .inl (g_cI D, 96, .inl (T 4)))
  have hc13 := (by rw [hσ2]; exact g_upn k30 (by decide) : σ_1 30 = .inl (g_cI D, 96, .inl (T 5)))
  have ho14 : g_off 20 30 σ σ_1 := by rw [hσ2]; exact g_off.up (g_off.rf (lo := 20) (hi := 30) (σ := σ)) (by decide) (by decide)
  refine lv_iload_n hx hb dX3_miles_5 rfl (lv_at hl 1 rfl) ?_
  refine g_callS0 (y := yX3_isWood) (n := 1) (As := [.int wood]) (rest := []) hx hb hml hown hts hE hZ hP hS hl.1 (m_X3_isWood l D hAD σ_1 (wood)) k_X3_94 rfl rfl ⟨rfl, rfl⟩ ⟨Nat.le_of_ble_eq_true rfl, Nat.le_of_ble_eq_true rfl⟩ (Nat.le_of_ble_eq_true rfl) ⟨Nat.le_of_ble_eq_true rfl, Nat.le_of_ble_eq_true rfl⟩ dX3_miles_6 (fun v15 σ_16 H locs hq hP hS => ?_)
  obtain ⟨rfl, rfl⟩ := hq
  refine W.eq (g2 := F0 m 9 ls [.int (if wk1_ (wood) then 1 else 0)]) rfl ?_
  refine lv_if_ne (tgt := 18) hx hb dX3_miles_9 (by decide) (fun h9 => ?_) (fun h9 => ?_)
  · have hq9 := g_pp1 h9
    obtain ⟨w, hw, hwe⟩ := ix_nat hq9 (by decide)
    subst hwe
    have hvw := hvC w hw
    have h24w := hvw.2
    have hvo := hvC (1 - w) (by omega)
    have h24o := hvo.2
    have hwl : wl_ Ls (nI w) = Ls w := wl_n hw
    have hot : ot_ Ls (nI w) = Ls (1 - w) := ot_n hw
    refine lv_iload_n hx hb dX3_miles_18 rfl (lv_at hl 2 rfl) ?_
    refine g_callS0 (y := yX3_isName) (n := 1) (As := [.int name]) (rest := []) hx hb hml hown hts hE hZ hP hS hl.1 (m_X3_isName l D hAD σ_1 (name)) k_X3_101 rfl rfl ⟨rfl, rfl⟩ ⟨Nat.le_of_ble_eq_true rfl, Nat.le_of_ble_eq_true rfl⟩ (Nat.le_of_ble_eq_true rfl) ⟨Nat.le_of_ble_eq_true rfl, Nat.le_of_ble_eq_true rfl⟩ dX3_miles_19 (fun v17 σ_18 H locs hq hP hS => ?_)
    obtain ⟨rfl, rfl⟩ := hq
    refine W.eq (g2 := F0 m 22 ls [.int (if nm1_ (name) then 1 else 0)]) rfl ?_
    refine lv_if_ne (tgt := 31) hx hb dX3_miles_22 (by decide) (fun h22 => ?_) (fun h22 => ?_)
    · have hq22 := g_pp1 h22
      have hne22 := ne_m1 (nm_le hq22).1
      refine lv_aload_n hx hb dX3_miles_31 rfl (lv_at hl 0 rfl) ?_
      refine lv_iload_n hx hb dX3_miles_32 rfl (lv_at hl 1 rfl) ?_
      refine lv_iload_n hx hb dX3_miles_33 rfl (lv_at hl 2 rfl) ?_
      have hMp19 : g_Mf D σ_1 (nI 0) rs sg S N Z R T := ⟨hc3, hc4, hc5, hc6, hc7, hc8, hc9, hc10, hc11, hc12, hc13⟩
      refine g_callV0 (y := yX3_isThere) (n := 2) (As := [.int (nI w), .int name]) (rest := []) hx hb hml hown hts hE hZ hP hS hl.1 (m_X3_isThere l D hAD σ_1 (nI 0) rs sg S N Z R T hMp19 Ls w (name) hmr (by omega) hne22) k_X3_65 (ci := 3) (by decide) hc3 rfl rfl rfl rfl rfl ⟨rfl, rfl⟩ ⟨Nat.le_of_ble_eq_true rfl, Nat.le_of_ble_eq_true rfl⟩ (Nat.le_of_ble_eq_true rfl) ⟨Nat.le_of_ble_eq_true rfl, Nat.le_of_ble_eq_true rfl⟩ dX3_miles_34 (fun v20 σ_21 H locs hq hP hS => ?_)
      obtain ⟨rfl, rfl⟩ := hq
      refine W.eq (g2 := F0 m 37 ls [.int (if fn_ (Ls w) (rk_ (Ls w) (name)) = name then 1 else 0)]) rfl ?_
      refine lv_if_eq (tgt := 59) hx hb dX3_miles_37 (by decide) (fun h37 => ?_) (fun h37 => ?_)
      · have hq37 := g_pp0 h37
        refine lv_iconst (v := (-1)) hx hb dX3_miles_59 (by decide) ?_
        have hMp22 : g_Mf D σ_1 (nI 0) rs sg S N Z R T := ⟨hc3, hc4, hc5, hc6, hc7, hc8, hc9, hc10, hc11, hc12, hc13⟩
        rw [← hQ]
        exact W.iret (v := (-1)) hx hb hr (fun te9 hte9 _ => g_fin (⟨Or.inl ⟨by rw [er_miles, if_pos (ix_of hw (by decide)), if_pos hq22], w, hw, rfl, by rw [mo_, if_neg hq37], ⟨_, _, _, _, _, _, _, hMp22, hmr⟩⟩, ho14⟩) hP hS hte9) hS.2.2 dX3_miles_60 hlocks
      · have hq37 := g_pp1 h37
        have hlt37 := fn_in hq37 hne22
        refine lv_aload_n hx hb dX3_miles_40 rfl (lv_at hl 0 rfl) ?_
        refine g_get hx hb hts hE hown hP g_inX3 rfl (by decide) hc3 3 (by decide) rfl wf_X3_16 (v := .ref (ad_ D 23)) rfl dX3_miles_41 ?_
        refine lv_bipush (v := nI 24) hx hb dX3_miles_44 (by decide) ?_
        refine lv_iload_n hx hb dX3_miles_46 rfl (lv_at hl 1 rfl) ?_
        refine lv_imul hx hb dX3_miles_47 ?_
        refine g_top (y := nI (24 * w)) (pk_mul 24 w) ?_
        refine lv_aload_n hx hb dX3_miles_48 rfl (lv_at hl 0 rfl) ?_
        refine lv_iload_n hx hb dX3_miles_49 rfl (lv_at hl 1 rfl) ?_
        refine lv_iload_n hx hb dX3_miles_50 rfl (lv_at hl 2 rfl) ?_
        have hMp23 : g_Mf D σ_1 (nI 0) rs sg S N Z R T := ⟨hc3, hc4, hc5, hc6, hc7, hc8, hc9, hc10, hc11, hc12, hc13⟩
        refine g_callV0 (y := yX3_smaller) (n := 2) (As := [.int (nI w), .int name]) (rest := [.int (nI (24 * w)), .ref (ad_ D 23)]) hx hb hml hown hts hE hZ hP hS hl.1 (m_X3_smaller l D hAD σ_1 (nI 0) rs sg S N Z R T hMp23 Ls w (name) hmr (by omega)) k_X3_55 (ci := 3) (by decide) hc3 rfl rfl rfl rfl rfl ⟨rfl, rfl⟩ ⟨Nat.le_of_ble_eq_true rfl, Nat.le_of_ble_eq_true rfl⟩ (Nat.le_of_ble_eq_true rfl) ⟨Nat.le_of_ble_eq_true rfl, Nat.le_of_ble_eq_true rfl⟩ dX3_miles_51 (fun v24 σ_25 H locs hq hP hS => ?_)
        obtain ⟨rfl, rfl⟩ := hq
        refine W.eq (g2 := F0 m 54 ls [.int (nI (rk_ (Ls w) (name))), .int (nI (24 * w)), .ref (ad_ D 23)]) rfl ?_
        have hrk51 := rk_le (Ls w) (name)
        refine lv_iadd hx hb dX3_miles_54 ?_
        refine g_top (y := nI ((24 * w) + (rk_ (Ls w) (name)))) (nI_add (24 * w) (rk_ (Ls w) (name))) ?_
        refine g_ialdN (j := (24 * w) + (rk_ (Ls w) (name))) hx hb hE hP (by decide) hc6 (by omega) (by decide) (v := gn_ (Ls w) ((rk_ (Ls w) (name)))) (hmr.Q (by omega) (by omega)) dX3_miles_55 ?_
        refine lv_goto (tgt := 60) hx hb dX3_miles_56 (by decide) ?_
        have hMp26 : g_Mf D σ_1 (nI 0) rs sg S N Z R T := ⟨hc3, hc4, hc5, hc6, hc7, hc8, hc9, hc10, hc11, hc12, hc13⟩
        rw [← hQ]
        exact W.iret (v := gn_ (Ls w) ((rk_ (Ls w) (name)))) hx hb hr (fun te9 hte9 _ => g_fin (⟨Or.inl ⟨by rw [er_miles, if_pos (ix_of hw (by decide)), if_pos hq22], w, hw, rfl, by rw [mo_, if_pos hq37], ⟨_, _, _, _, _, _, _, hMp26, hmr⟩⟩, ho14⟩) hP hS hte9) hS.2.2 dX3_miles_60 hlocks
    · have hq22 := g_pp0 h22
      refine lv_aload_n hx hb dX3_miles_25 rfl (lv_at hl 0 rfl) ?_
      refine lv_iconst (v := nI 2) hx hb dX3_miles_26 (by decide) ?_
      have hMp27 : g_Mf D σ_1 (nI 0) rs sg S N Z R T := ⟨hc3, hc4, hc5, hc6, hc7, hc8, hc9, hc10, hc11, hc12, hc13⟩
      refine g_callV0 (y := yX3_no) (n := 1) (As := [.int (nI 2)]) (rest := []) hx hb hml hown hts hE hZ hP hS hl.1 (m_X3_no l D hAD σ_1 (nI 0) rs sg S N Z R T hMp27 (nI 2)) k_X3_98 (ci := 3) (by decide) hc3 rfl rfl rfl rfl rfl ⟨rfl, rfl⟩ ⟨Nat.le_of_ble_eq_true rfl, Nat.le_of_ble_eq_true rfl⟩ (Nat.le_of_ble_eq_true rfl) ⟨Nat.le_of_ble_eq_true rfl, Nat.le_of_ble_eq_true rfl⟩ dX3_miles_27 (fun v28 σ_29 H locs hq hP hS => ?_)
      obtain ⟨rfl, hq2⟩ := hq
      refine W.eq (g2 := F0 m 30 ls [.int (nI 0)]) rfl ?_
      obtain ⟨hMn30, hon30⟩ := hq2
      obtain ⟨k31_20, k31_21, k31_22, k31_23, k31_24, k31_25, k31_26, k31_27, k31_28, k31_29, k31_30⟩ := id hMn30
      have ho32 := g_off.tr ho14 (g_off.wd hon30 (by decide) (by decide))
      have hMp33 : g_Mf D σ_29 (nI 2) rs sg S N Z R T := ⟨k31_20, k31_21, k31_22, k31_23, k31_24, k31_25, k31_26, k31_27, k31_28, k31_29, k31_30⟩
      rw [← hQ]
      exact W.iret (v := nI 0) hx hb hr (fun te9 hte9 _ => g_fin (⟨Or.inr ⟨2, by rw [er_miles, if_pos (ix_of hw (by decide)), if_neg hq22], by decide, rfl, ⟨_, _, _, _, _, _, _, hMp33, hmr⟩⟩, ho32⟩) hP hS hte9) hS.2.2 dX3_miles_30 hlocks
  · have hq9 := g_pp0 h9
    refine lv_aload_n hx hb dX3_miles_12 rfl (lv_at hl 0 rfl) ?_
    refine lv_iconst (v := nI 1) hx hb dX3_miles_13 (by decide) ?_
    have hMp34 : g_Mf D σ_1 (nI 0) rs sg S N Z R T := ⟨hc3, hc4, hc5, hc6, hc7, hc8, hc9, hc10, hc11, hc12, hc13⟩
    refine g_callV0 (y := yX3_no) (n := 1) (As := [.int (nI 1)]) (rest := []) hx hb hml hown hts hE hZ hP hS hl.1 (m_X3_no l D hAD σ_1 (nI 0) rs sg S N Z R T hMp34 (nI 1)) k_X3_98 (ci := 3) (by decide) hc3 rfl rfl rfl rfl rfl ⟨rfl, rfl⟩ ⟨Nat.le_of_ble_eq_true rfl, Nat.le_of_ble_eq_true rfl⟩ (Nat.le_of_ble_eq_true rfl) ⟨Nat.le_of_ble_eq_true rfl, Nat.le_of_ble_eq_true rfl⟩ dX3_miles_14 (fun v35 σ_36 H locs hq hP hS => ?_)
    obtain ⟨rfl, hq2⟩ := hq
    refine W.eq (g2 := F0 m 17 ls [.int (nI 0)]) rfl ?_
    obtain ⟨hMn37, hon37⟩ := hq2
    obtain ⟨k38_20, k38_21, k38_22, k38_23, k38_24, k38_25, k38_26, k38_27, k38_28, k38_29, k38_30⟩ := id hMn37
    have ho39 := g_off.tr ho14 (g_off.wd hon37 (by decide) (by decide))
    have hMp40 : g_Mf D σ_36 (nI 1) rs sg S N Z R T := ⟨k38_20, k38_21, k38_22, k38_23, k38_24, k38_25, k38_26, k38_27, k38_28, k38_29, k38_30⟩
    rw [← hQ]
    exact W.iret (v := nI 0) hx hb hr (fun te9 hte9 _ => g_fin (⟨Or.inr ⟨1, by rw [er_miles, if_neg hq9], by decide, rfl, ⟨_, _, _, _, _, _, _, hMp40, hmr⟩⟩, ho39⟩) hP hS hte9) hS.2.2 dX3_miles_17 hlocks
