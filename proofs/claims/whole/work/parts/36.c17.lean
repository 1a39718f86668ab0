abbrev m_X3_cut_rm : Room := { frames := 10, cells := 0, slots := 0, locals := 242 }
set_option maxHeartbeats 4000000 in
set_option maxRecDepth 100000 in
theorem m_X3_cut (l : Launch) (D : va_G) (hAD : g_AD D) (σ : Nat → va_E) (th rs sg : Int32) (S N Z R : Nat → Int32) (T : Nat → Nat → Int32) (hM : g_Mf D σ th rs sg S N Z R T) (Ls : Nat → g_L) (wood name : Int32) (hmr : mr_ Ls S N Z) (hvC : vC_ Ls) : g_M l D yX3_cut cX3_cut 5 (some .int) m_X3_cut_rm [.ref (ad_ D 20), .int wood, .int name] σ (fun v1 σ1 => ((er_cut Ls wood name = 0 ∧ (∃ w, w ≤ 1 ∧ wood = nI w ∧ nm1_ name ∧ (Ls (1 - w)).length = 0 ∧ v1 = some (.int (nI (ct_ (Ls w) (Ls (1 - w)) (rk_ (Ls w) name) ((Ls w).length - rk_ (Ls w) name)).length)) ∧ g_MM D σ1 (nI 0) (ul_ (ul_ Ls w ((Ls w).take (rk_ (Ls w) name))) (1 - w) (ct_ (Ls w) (Ls (1 - w)) (rk_ (Ls w) name) ((Ls w).length - rk_ (Ls w) name))))) ∨ ∃ k9, er_cut Ls wood name = k9 ∧ k9 ≠ 0 ∧ v1 = some (.int (nI 0)) ∧ g_MM D σ1 (nI k9) Ls) ∧ g_off 20 30 σ σ1) := by
  refine g_ofW [(0, .ref (ad_ D 20)), (1, .int wood), (2, .int name)] (by decide +kernel) (Nat.le_of_ble_eq_true rfl) rfl ?_
  intro p e s m args below meth c hx hb hr hml hown hlocks hts hE hZ hP hS hnm ls hl
  have hown : s.vm.findClass RX3 = some m.cls := hown
  generalize hQ : MQ _ _ _ _ _ _ _ = Q
  obtain ⟨k20, k21, k22, k23, k24, k25, k26, k27, k28, k29, k30⟩ := id hM
  refine lv_aload_n hx hb dX3_cut_0 rfl (lv_at hl 0 rfl) ?_
  refine lv_iconst (v := nI 0) hx hb dX3_cut_1 (by decide) ?_
  refine g_put hx hb hts hE hown hAD hP hS g_inX3 tyX3 tyX3_ok nmX3 rfl (by decide) k20 0 (by decide) rfl rfl (by decide +kernel) wf_X3_40 (v := nI 0) (Nat.le_of_ble_eq_true rfl) dX3_cut_2 (fun H locs hP hS => ?_)
  obtain ⟨σ_1, hσ2⟩ : ∃ z : Nat → va_E, z = va_up σ 20 (.inr (3, [.int (nI 0), .ref (ad_ D 21), .ref (ad_ D 22), .ref (ad_ D 23), .ref (ad_ D 24), .int rs, .int sg, .ref (ad_ D 25), .ref (ad_ D 26), .ref (ad_ D 27), .ref (ad_ D 28), .ref (ad_ D 29), .ref (ad_ D 30)])) := ⟨_, rfl⟩
  have hP : va_P D vwCl (g_W D σ_1) H := by rw [hσ2]; exact hP
  have hc3 : σ_1 20 = .inr (3, [.int (nI 0), .ref (ad_ D 21), .ref (ad_ D 22), .ref (ad_ D 23), .ref (ad_ D 24), .int rs, .int sg, .ref (ad_ D 25), .ref (ad_ D 26), .ref (ad_ D 27), .ref (ad_ D 28), .ref (ad_ D 29), .ref (ad_ D 30)]) := by rw [hσ2]; exact g_ups
  have hc4 := (by rw [hσ2]; exact g_upn k21 (by decide) : σ_1 21 = .inl (g_cI D, 2, .inl (S)))
  have hc5 := (by rw [hσ2]; exact g_upn k22 (by decide) : σ_1 22 = .inl (g_cI D, 48, .inl (N)))
  have hc6 := (by rw [hσ2]; exact g_upn k23 (by decide) : σ_1 23 = .inl (g_cI D, 48, .inl (Z)))
  have hc7 := (by rw [hσ2]; exact g_upn k24 (by decide) : σ_1 24 = .inl (g_cI D, 48, .inl (R)))
  have hc8 := (by rw [hσ2]; exact g_upn k25 (by decide) : σ_1 25 = .inl (g_cI D, 96, .inl (T 0)))
  have hc9 := (by rw [hσ2]; exact g_upn k26 (by decide) : σ_1 26 = .inl (g_cI D, 96, .inl (T 1)))
  have hc10 := (by rw [hσ2]; exact g_upn k27 (by decide) : σ_1 27 = .inl (g_cI D, 96, .inl (T 2)))
  have hc11 := (by rw [hσ2]; exact g_upn k28 (by decide) : σ_1 28 = .inl (g_cI D, 96, .inl (T 3)))
  have hc12 := (by rw [hσ2]; exact g_upn k29 (by decide) : σ_1 29 = .inl (g_cI D, 96, .inl (T 4)))
  have hc13 := (by rw [hσ2]; exact g_upn k30 (by decide) : σ_1 30 = .inl (g_cI D, 96, .inl (T 5)))
  have ho14 : g_off 20 30 σ σ_1 := by rw [hσ2]; exact g_off.up (g_off.rf (lo := 20) (hi := 30) (σ := σ)) (by decide) (by decide)
  refine lv_iload_n hx hb dX3_cut_5 rfl (lv_at hl 1 rfl) ?_
  refine g_callS0 (y := yX3_isWood) (n := 1) (As := [.int wood]) (rest := []) hx hb hml hown hts hE hZ hP hS hl.1 (m_X3_isWood l D hAD σ_1 (wood)) k_X3_94 rfl rfl ⟨rfl, rfl⟩ ⟨Nat.le_of_ble_eq_true rfl, Nat.le_of_ble_eq_true rfl⟩ (Nat.le_of_ble_eq_true rfl) ⟨Nat.le_of_ble_eq_true rfl, Nat.le_of_ble_eq_true rfl⟩ dX3_cut_6 (fun v15 σ_16 H locs hq hP hS => ?_)
  obtain ⟨rfl, rfl⟩ := hq
  refine W.eq (g2 := F0 m 9 ls [.int (if wk1_ (wood) then 1 else 0)]) rfl ?_
  refine lv_if_ne (tgt := 18) hx hb dX3_cut_9 (by decide) (fun h9 => ?_) (fun h9 => ?_)
  · have hq9 := g_pp1 h9
    obtain ⟨w, hw, hwe⟩ := ix_nat hq9 (by decide)
    subst hwe
    have hvw := hvC w hw
    have h24w := hvw.2
    have hvo := hvC (1 - w) (by omega)
    have h24o := hvo.2
    have hwl : wl_ Ls (nI w) = Ls w := wl_n hw
    have hot : ot_ Ls (nI w) = Ls (1 - w) := ot_n hw
    refine lv_iload_n hx hb dX3_cut_18 rfl (lv_at hl 2 rfl) ?_
    refine g_callS0 (y := yX3_isName) (n := 1) (As := [.int name]) (rest := []) hx hb hml hown hts hE hZ hP hS hl.1 (m_X3_isName l D hAD σ_1 (name)) k_X3_101 rfl rfl ⟨rfl, rfl⟩ ⟨Nat.le_of_ble_eq_true rfl, Nat.le_of_ble_eq_true rfl⟩ (Nat.le_of_ble_eq_true rfl) ⟨Nat.le_of_ble_eq_true rfl, Nat.le_of_ble_eq_true rfl⟩ dX3_cut_19 (fun v17 σ_18 H locs hq hP hS => ?_)
    obtain ⟨rfl, rfl⟩ := hq
    refine W.eq (g2 := F0 m 22 ls [.int (if nm1_ (name) then 1 else 0)]) rfl ?_
    refine lv_if_ne (tgt := 31) hx hb dX3_cut_22 (by decide) (fun h22 => ?_) (fun h22 => ?_)
    · have hq22 := g_pp1 h22
      have hne22 := ne_m1 (nm_le hq22).1
      refine lv_aload_n hx hb dX3_cut_31 rfl (lv_at hl 0 rfl) ?_
      refine g_get hx hb hts hE hown hP g_inX3 rfl (by decide) hc3 1 (by decide) rfl wf_X3_9 (v := .ref (ad_ D 21)) rfl dX3_cut_32 ?_
      refine lv_iconst (v := nI 1) hx hb dX3_cut_35 (by decide) ?_
      refine lv_iload_n hx hb dX3_cut_36 rfl (lv_at hl 1 rfl) ?_
      refine lv_isub hx hb dX3_cut_37 ?_
      refine g_top (y := nI (1 - w)) (pk_sub (by omega)) ?_
      refine g_ialdN (j := 1 - w) hx hb hE hP (by decide) hc4 (by omega) (by decide) (v := nI ((Ls (1 - w)).length)) (hmr.S (by omega)) dX3_cut_38 ?_
      refine lv_if_le (tgt := 48) hx hb dX3_cut_39 (by decide) (fun h39 => ?_) (fun h39 => ?_)
      · have hb39 := g_le (a := (Ls (1 - w)).length) (b := 0) h39 (by omega) (by omega)
        refine lv_aload_n hx hb dX3_cut_48 rfl (lv_at hl 0 rfl) ?_
        refine lv_iload_n hx hb dX3_cut_49 rfl (lv_at hl 1 rfl) ?_
        refine lv_iload_n hx hb dX3_cut_50 rfl (lv_at hl 2 rfl) ?_
        have hMp19 : g_Mf D σ_1 (nI 0) rs sg S N Z R T := ⟨hc3, hc4, hc5, hc6, hc7, hc8, hc9, hc10, hc11, hc12, hc13⟩
        refine g_callV0 (y := yX3_smaller) (n := 2) (As := [.int (nI w), .int name]) (rest := []) hx hb hml hown hts hE hZ hP hS hl.1 (m_X3_smaller l D hAD σ_1 (nI 0) rs sg S N Z R T hMp19 Ls w (name) hmr (by omega)) k_X3_55 (ci := 3) (by decide) hc3 rfl rfl rfl rfl rfl ⟨rfl, rfl⟩ ⟨Nat.le_of_ble_eq_true rfl, Nat.le_of_ble_eq_true rfl⟩ (Nat.le_of_ble_eq_true rfl) ⟨Nat.le_of_ble_eq_true rfl, Nat.le_of_ble_eq_true rfl⟩ dX3_cut_51 (fun v20 σ_21 H locs hq hP hS => ?_)
        obtain ⟨rfl, rfl⟩ := hq
        refine W.eq (g2 := F0 m 54 ls [.int (nI (rk_ (Ls w) (name)))]) rfl ?_
        have hrk51 := rk_le (Ls w) (name)
        refine lv_istore_n (lv' := [(3, .int (nI (rk_ (Ls w) (name)))), (0, .ref (ad_ D 20)), (1, .int (nI w)), (2, .int name)]) hx hb dX3_cut_54 rfl hl (by decide) rfl (fun ls hl => ?_)
        refine lv_aload_n hx hb dX3_cut_55 rfl (lv_at hl 1 rfl) ?_
        refine g_get hx hb hts hE hown hP g_inX3 rfl (by decide) hc3 1 (by decide) rfl wf_X3_9 (v := .ref (ad_ D 21)) rfl dX3_cut_56 ?_
        refine lv_iload_n hx hb dX3_cut_59 rfl (lv_at hl 2 rfl) ?_
        refine g_ialdN (j := w) hx hb hE hP (by decide) hc4 (by omega) (by decide) (v := nI ((Ls w).length)) (hmr.S (by omega)) dX3_cut_60 ?_
        refine lv_iload_n hx hb dX3_cut_61 rfl (lv_at hl 0 rfl) ?_
        refine lv_isub hx hb dX3_cut_62 ?_
        refine g_top (y := nI (((Ls w).length) - (rk_ (Ls w) (name)))) (pk_sub (by omega)) ?_
        refine lv_istore (lv' := [(4, .int (nI (((Ls w).length) - (rk_ (Ls w) (name))))), (3, .int (nI (rk_ (Ls w) (name)))), (0, .ref (ad_ D 20)), (1, .int (nI w)), (2, .int name)]) hx hb dX3_cut_63 hl (by decide) rfl (fun ls hl => ?_)
        refine lv_aload_n hx hb dX3_cut_65 rfl (lv_at hl 2 rfl) ?_
        refine g_get hx hb hts hE hown hP g_inX3 rfl (by decide) hc3 2 (by decide) rfl wf_X3_13 (v := .ref (ad_ D 22)) rfl dX3_cut_66 ?_
        refine lv_bipush (v := nI 24) hx hb dX3_cut_69 (by decide) ?_
        refine lv_iload_n hx hb dX3_cut_71 rfl (lv_at hl 3 rfl) ?_
        refine lv_imul hx hb dX3_cut_72 ?_
        refine g_top (y := nI (24 * w)) (pk_mul 24 w) ?_
        refine lv_iload_n hx hb dX3_cut_73 rfl (lv_at hl 1 rfl) ?_
        refine lv_iadd hx hb dX3_cut_74 ?_
        refine g_top (y := nI ((24 * w) + (rk_ (Ls w) (name)))) (nI_add (24 * w) (rk_ (Ls w) (name))) ?_
        refine lv_aload_n hx hb dX3_cut_75 rfl (lv_at hl 2 rfl) ?_
        refine g_get hx hb hts hE hown hP g_inX3 rfl (by decide) hc3 2 (by decide) rfl wf_X3_13 (v := .ref (ad_ D 22)) rfl dX3_cut_76 ?_
        refine lv_bipush (v := nI 24) hx hb dX3_cut_79 (by decide) ?_
        refine lv_iconst (v := nI 1) hx hb dX3_cut_81 (by decide) ?_
        refine lv_iload_n hx hb dX3_cut_82 rfl (lv_at hl 3 rfl) ?_
        refine lv_isub hx hb dX3_cut_83 ?_
        refine g_top (y := nI (1 - w)) (pk_sub (by omega)) ?_
        refine lv_imul hx hb dX3_cut_84 ?_
        refine g_top (y := nI (24 * (1 - w))) (pk_mul 24 (1 - w)) ?_
        refine lv_iload hx hb dX3_cut_85 (lv_at hl 0 rfl) ?_
        refine g_copy (sp := (24 * w) + (rk_ (Ls w) (name))) (dp := 24 * (1 - w)) (n := ((Ls w).length) - (rk_ (Ls w) (name))) hx hb (hml.trans hl.1.symm) hown hts k_X3_59 k_copy hE hAD hP hS (by decide) (by decide) hc5 hc5 ⟨by omega, by omega, by omega⟩ (by omega) (by omega) ⟨Nat.le_of_ble_eq_true rfl, Nat.le_of_ble_eq_true rfl⟩ dX3_cut_87 (fun H locs hP hS => ?_)
        obtain ⟨σ_22, hσ23⟩ : ∃ z : Nat → va_E, z = va_up σ_1 22 (.inl (g_cI D, 48, .inl (va_cpy N N ((24 * w) + (rk_ (Ls w) (name))) (24 * (1 - w)) (((Ls w).length) - (rk_ (Ls w) (name)))))) := ⟨_, rfl⟩
        have hP : va_P D vwCl (g_W D σ_22) H := by rw [hσ23]; exact hP
        have hc24 := (by rw [hσ23]; exact g_upn hc3 (by decide) : σ_22 20 = .inr (3, [.int (nI 0), .ref (ad_ D 21), .ref (ad_ D 22), .ref (ad_ D 23), .ref (ad_ D 24), .int rs, .int sg, .ref (ad_ D 25), .ref (ad_ D 26), .ref (ad_ D 27), .ref (ad_ D 28), .ref (ad_ D 29), .ref (ad_ D 30)]))
        have hc25 := (by rw [hσ23]; exact g_upn hc4 (by decide) : σ_22 21 = .inl (g_cI D, 2, .inl (S)))
        have hc26 : σ_22 22 = .inl (g_cI D, 48, .inl (va_cpy N N ((24 * w) + (rk_ (Ls w) (name))) (24 * (1 - w)) (((Ls w).length) - (rk_ (Ls w) (name))))) := by rw [hσ23]; exact g_ups
        have hc27 := (by rw [hσ23]; exact g_upn hc6 (by decide) : σ_22 23 = .inl (g_cI D, 48, .inl (Z)))
        have hc28 := (by rw [hσ23]; exact g_upn hc7 (by decide) : σ_22 24 = .inl (g_cI D, 48, .inl (R)))
        have hc29 := (by rw [hσ23]; exact g_upn hc8 (by decide) : σ_22 25 = .inl (g_cI D, 96, .inl (T 0)))
        have hc30 := (by rw [hσ23]; exact g_upn hc9 (by decide) : σ_22 26 = .inl (g_cI D, 96, .inl (T 1)))
        have hc31 := (by rw [hσ23]; exact g_upn hc10 (by decide) : σ_22 27 = .inl (g_cI D, 96, .inl (T 2)))
        have hc32 := (by rw [hσ23]; exact g_upn hc11 (by decide) : σ_22 28 = .inl (g_cI D, 96, .inl (T 3)))
        have hc33 := (by rw [hσ23]; exact g_upn hc12 (by decide) : σ_22 29 = .inl (g_cI D, 96, .inl (T 4)))
        have hc34 := (by rw [hσ23]; exact g_upn hc13 (by decide) : σ_22 30 = .inl (g_cI D, 96, .inl (T 5)))
        have ho35 : g_off 20 30 σ σ_22 := by rw [hσ23]; exact g_off.up ho14 (by decide) (by decide)
        refine lv_aload_n hx hb dX3_cut_90 rfl (lv_at hl 2 rfl) ?_
        refine g_get hx hb hts hE hown hP g_inX3 rfl (by decide) hc24 3 (by decide) rfl wf_X3_16 (v := .ref (ad_ D 23)) rfl dX3_cut_91 ?_
        refine lv_bipush (v := nI 24) hx hb dX3_cut_94 (by decide) ?_
        refine lv_iload_n hx hb dX3_cut_96 rfl (lv_at hl 3 rfl) ?_
        refine lv_imul hx hb dX3_cut_97 ?_
        refine g_top (y := nI (24 * w)) (pk_mul 24 w) ?_
        refine lv_iload_n hx hb dX3_cut_98 rfl (lv_at hl 1 rfl) ?_
        refine lv_iadd hx hb dX3_cut_99 ?_
        refine g_top (y := nI ((24 * w) + (rk_ (Ls w) (name)))) (nI_add (24 * w) (rk_ (Ls w) (name))) ?_
        refine lv_aload_n hx hb dX3_cut_100 rfl (lv_at hl 2 rfl) ?_
        refine g_get hx hb hts hE hown hP g_inX3 rfl (by decide) hc24 3 (by decide) rfl wf_X3_16 (v := .ref (ad_ D 23)) rfl dX3_cut_101 ?_
        refine lv_bipush (v := nI 24) hx hb dX3_cut_104 (by decide) ?_
        refine lv_iconst (v := nI 1) hx hb dX3_cut_106 (by decide) ?_
        refine lv_iload_n hx hb dX3_cut_107 rfl (lv_at hl 3 rfl) ?_
        refine lv_isub hx hb dX3_cut_108 ?_
        refine g_top (y := nI (1 - w)) (pk_sub (by omega)) ?_
        refine lv_imul hx hb dX3_cut_109 ?_
        refine g_top (y := nI (24 * (1 - w))) (pk_mul 24 (1 - w)) ?_
        refine lv_iload hx hb dX3_cut_110 (lv_at hl 0 rfl) ?_
        refine g_copy (sp := (24 * w) + (rk_ (Ls w) (name))) (dp := 24 * (1 - w)) (n := ((Ls w).length) - (rk_ (Ls w) (name))) hx hb (hml.trans hl.1.symm) hown hts k_X3_59 k_copy hE hAD hP hS (by decide) (by decide) hc27 hc27 ⟨by omega, by omega, by omega⟩ (by omega) (by omega) ⟨Nat.le_of_ble_eq_true rfl, Nat.le_of_ble_eq_true rfl⟩ dX3_cut_112 (fun H locs hP hS => ?_)
        obtain ⟨σ_36, hσ37⟩ : ∃ z : Nat → va_E, z = va_up σ_22 23 (.inl (g_cI D, 48, .inl (va_cpy Z Z ((24 * w) + (rk_ (Ls w) (name))) (24 * (1 - w)) (((Ls w).length) - (rk_ (Ls w) (name)))))) := ⟨_, rfl⟩
        have hP : va_P D vwCl (g_W D σ_36) H := by rw [hσ37]; exact hP
        have hc38 := (by rw [hσ37]; exact g_upn hc24 (by decide) : σ_36 20 = .inr (3, [.int (nI 0), .ref (ad_ D 21), .ref (ad_ D 22), .ref (ad_ D 23), .ref (ad_ D 24), .int rs, .int sg, .ref (ad_ D 25), .ref (ad_ D 26), .ref (ad_ D 27), .ref (ad_ D 28), .ref (ad_ D 29), .ref (ad_ D 30)]))
        have hc39 := (by rw [hσ37]; exact g_upn hc25 (by decide) : σ_36 21 = .inl (g_cI D, 2, .inl (S)))
        have hc40 := (by rw [hσ37]; exact g_upn hc26 (by decide) : σ_36 22 = .inl (g_cI D, 48, .inl (va_cpy N N ((24 * w) + (rk_ (Ls w) (name))) (24 * (1 - w)) (((Ls w).length) - (rk_ (Ls w) (name))))))
        have hc41 : σ_36 23 = .inl (g_cI D, 48, .inl (va_cpy Z Z ((24 * w) + (rk_ (Ls w) (name))) (24 * (1 - w)) (((Ls w).length) - (rk_ (Ls w) (name))))) := by rw [hσ37]; exact g_ups
        have hc42 := (by rw [hσ37]; exact g_upn hc28 (by decide) : σ_36 24 = .inl (g_cI D, 48, .inl (R)))
        have hc43 := (by rw [hσ37]; exact g_upn hc29 (by decide) : σ_36 25 = .inl (g_cI D, 96, .inl (T 0)))
        have hc44 := (by rw [hσ37]; exact g_upn hc30 (by decide) : σ_36 26 = .inl (g_cI D, 96, .inl (T 1)))
        have hc45 := (by rw [hσ37]; exact g_upn hc31 (by decide) : σ_36 27 = .inl (g_cI D, 96, .inl (T 2)))
        have hc46 := (by rw [hσ37]; exact g_upn hc32 (by decide) : σ_36 28 = .inl (g_cI D, 96, .inl (T 3)))
        have hc47 := (by rw [hσ37]; exact g_upn hc33 (by decide) : σ_36 29 = .inl (g_cI D, 96, .inl (T 4)))
        have hc48 := (by rw [hσ37]; exact g_upn hc34 (by decide) : σ_36 30 = .inl (g_cI D, 96, .inl (T 5)))
        have ho49 : g_off 20 30 σ σ_36 := by rw [hσ37]; exact g_off.up ho35 (by decide) (by decide)
        refine lv_aload_n hx hb dX3_cut_115 rfl (lv_at hl 2 rfl) ?_
        refine g_get hx hb hts hE hown hP g_inX3 rfl (by decide) hc38 1 (by decide) rfl wf_X3_9 (v := .ref (ad_ D 21)) rfl dX3_cut_116 ?_
        refine lv_iload_n hx hb dX3_cut_119 rfl (lv_at hl 3 rfl) ?_
        refine lv_iload_n hx hb dX3_cut_120 rfl (lv_at hl 1 rfl) ?_
        refine g_iastN (j := w) (x := nI (rk_ (Ls w) (name))) hx hb hE hAD hP hS (by decide) hc39 (by omega) (by decide) dX3_cut_121 (fun H locs hP hS => ?_)
        obtain ⟨σ_50, hσ51⟩ : ∃ z : Nat → va_E, z = va_up σ_36 21 (.inl (g_cI D, 2, .inl (upd S w (nI (rk_ (Ls w) (name)))))) := ⟨_, rfl⟩
        have hP : va_P D vwCl (g_W D σ_50) H := by rw [hσ51]; exact hP
        have hc52 := (by rw [hσ51]; exact g_upn hc38 (by decide) : σ_50 20 = .inr (3, [.int (nI 0), .ref (ad_ D 21), .ref (ad_ D 22), .ref (ad_ D 23), .ref (ad_ D 24), .int rs, .int sg, .ref (ad_ D 25), .ref (ad_ D 26), .ref (ad_ D 27), .ref (ad_ D 28), .ref (ad_ D 29), .ref (ad_ D 30)]))
        have hc53 : σ_50 21 = .inl (g_cI D, 2, .inl (upd S w (nI (rk_ (Ls w) (name))))) := by rw [hσ51]; exact g_ups
        have hc54 := (by rw [hσ51]; exact g_upn hc40 (by decide) : σ_50 22 = .inl (g_cI D, 48, .inl (va_cpy N N ((24 * w) + (rk_ (Ls w) (name))) (24 * (1 - w)) (((Ls w).length) - (rk_ (Ls w) (name))))))
        have hc55 := (by rw [hσ51]; exact g_upn hc41 (by decide) : σ_50 23 = .inl (g_cI D, 48, .inl (va_cpy Z Z ((24 * w) + (rk_ (Ls w) (name))) (24 * (1 - w)) (((Ls w).length) - (rk_ (Ls w) (name))))))
        have hc56 := (by rw [hσ51]; exact g_upn hc42 (by decide) : σ_50 24 = .inl (g_cI D, 48, .inl (R)))
        have hc57 := (by rw [hσ51]; exact g_upn hc43 (by decide) : σ_50 25 = .inl (g_cI D, 96, .inl (T 0)))
        have hc58 := (by rw [hσ51]; exact g_upn hc44 (by decide) : σ_50 26 = .inl (g_cI D, 96, .inl (T 1)))
        have hc59 := (by rw [hσ51]; exact g_upn hc45 (by decide) : σ_50 27 = .inl (g_cI D, 96, .inl (T 2)))
        have hc60 := (by rw [hσ51]; exact g_upn hc46 (by decide) : σ_50 28 = .inl (g_cI D, 96, .inl (T 3)))
        have hc61 := (by rw [hσ51]; exact g_upn hc47 (by decide) : σ_50 29 = .inl (g_cI D, 96, .inl (T 4)))
        have hc62 := (by rw [hσ51]; exact g_upn hc48 (by decide) : σ_50 30 = .inl (g_cI D, 96, .inl (T 5)))
        have ho63 : g_off 20 30 σ σ_50 := by rw [hσ51]; exact g_off.up ho49 (by decide) (by decide)
        refine lv_aload_n hx hb dX3_cut_122 rfl (lv_at hl 2 rfl) ?_
        refine g_get hx hb hts hE hown hP g_inX3 rfl (by decide) hc52 1 (by decide) rfl wf_X3_9 (v := .ref (ad_ D 21)) rfl dX3_cut_123 ?_
        refine lv_iconst (v := nI 1) hx hb dX3_cut_126 (by decide) ?_
        refine lv_iload_n hx hb dX3_cut_127 rfl (lv_at hl 3 rfl) ?_
        refine lv_isub hx hb dX3_cut_128 ?_
        refine g_top (y := nI (1 - w)) (pk_sub (by omega)) ?_
        refine lv_iload hx hb dX3_cut_129 (lv_at hl 0 rfl) ?_
        refine g_iastN (j := 1 - w) (x := nI (((Ls w).length) - (rk_ (Ls w) (name)))) hx hb hE hAD hP hS (by decide) hc53 (by omega) (by decide) dX3_cut_131 (fun H locs hP hS => ?_)
        obtain ⟨σ_64, hσ65⟩ : ∃ z : Nat → va_E, z = va_up σ_50 21 (.inl (g_cI D, 2, .inl (upd (upd S w (nI (rk_ (Ls w) (name)))) (1 - w) (nI (((Ls w).length) - (rk_ (Ls w) (name))))))) := ⟨_, rfl⟩
        have hP : va_P D vwCl (g_W D σ_64) H := by rw [hσ65]; exact hP
        have hc66 := (by rw [hσ65]; exact g_upn hc52 (by decide) : σ_64 20 = .inr (3, [.int (nI 0), .ref (ad_ D 21), .ref (ad_ D 22), .ref (ad_ D 23), .ref (ad_ D 24), .int rs, .int sg, .ref (ad_ D 25), .ref (ad_ D 26), .ref (ad_ D 27), .ref (ad_ D 28), .ref (ad_ D 29), .ref (ad_ D 30)]))
        have hc67 : σ_64 21 = .inl (g_cI D, 2, .inl (upd (upd S w (nI (rk_ (Ls w) (name)))) (1 - w) (nI (((Ls w).length) - (rk_ (Ls w) (name)))))) := by rw [hσ65]; exact g_ups
        have hc68 := (by rw [hσ65]; exact g_upn hc54 (by decide) : σ_64 22 = .inl (g_cI D, 48, .inl (va_cpy N N ((24 * w) + (rk_ (Ls w) (name))) (24 * (1 - w)) (((Ls w).length) - (rk_ (Ls w) (name))))))
        have hc69 := (by rw [hσ65]; exact g_upn hc55 (by decide) : σ_64 23 = .inl (g_cI D, 48, .inl (va_cpy Z Z ((24 * w) + (rk_ (Ls w) (name))) (24 * (1 - w)) (((Ls w).length) - (rk_ (Ls w) (name))))))
        have hc70 := (by rw [hσ65]; exact g_upn hc56 (by decide) : σ_64 24 = .inl (g_cI D, 48, .inl (R)))
        have hc71 := (by rw [hσ65]; exact g_upn hc57 (by decide) : σ_64 25 = .inl (g_cI D, 96, .inl (T 0)))
        have hc72 := (by rw [hσ65]; exact g_upn hc58 (by decide) : σ_64 26 = .inl (g_cI D, 96, .inl (T 1)))
        have hc73 := (by rw [hσ65]; exact g_upn hc59 (by decide) : σ_64 27 = .inl (g_cI D, 96, .inl (T 2)))
        have hc74 := (by rw [hσ65]; exact g_upn hc60 (by decide) : σ_64 28 = .inl (g_cI D, 96, .inl (T 3)))
        have hc75 := (by rw [hσ65]; exact g_upn hc61 (by decide) : σ_64 29 = .inl (g_cI D, 96, .inl (T 4)))
        have hc76 := (by rw [hσ65]; exact g_upn hc62 (by decide) : σ_64 30 = .inl (g_cI D, 96, .inl (T 5)))
        have ho77 : g_off 20 30 σ σ_64 := by rw [hσ65]; exact g_off.up ho63 (by decide) (by decide)
        refine lv_iload hx hb dX3_cut_132 (lv_at hl 0 rfl) ?_
        have hMp78 : g_Mf D σ_64 (nI 0) rs sg (upd (upd S w (nI (rk_ (Ls w) (name)))) (1 - w) (nI (((Ls w).length) - (rk_ (Ls w) (name))))) (va_cpy N N ((24 * w) + (rk_ (Ls w) (name))) (24 * (1 - w)) (((Ls w).length) - (rk_ (Ls w) (name)))) (va_cpy Z Z ((24 * w) + (rk_ (Ls w) (name))) (24 * (1 - w)) (((Ls w).length) - (rk_ (Ls w) (name)))) R T := ⟨hc66, hc67, hc68, hc69, hc70, hc71, hc72, hc73, hc74, hc75, hc76⟩
        have ho0 : (Ls (1 - w)).length = 0 := by omega
        have hct := ct_drop (T := Ls (1 - w)) hvw.1 hrk51 ho0
        have hlen9 : (Ls w).length - rk_ (Ls w) name = ((Ls w).drop (rk_ (Ls w) name)).length := by rw [List.length_drop]
        rw [← hQ]
        exact W.iret (v := nI (((Ls w).length) - (rk_ (Ls w) (name)))) hx hb hr (fun te9 hte9 _ => g_fin (⟨Or.inl ⟨by rw [er_cut, if_pos (ix_of hw (by decide)), if_pos hq22, hot, if_neg (by omega)], w, hw, rfl, hq22, ho0, by rw [hct, ← hlen9], by rw [hct]; exact ⟨_, _, _, _, _, _, _, hMp78, (mr_cut hmr hw hrk51)⟩⟩, ho77⟩) hP hS hte9) hS.2.2 dX3_cut_134 hlocks
      · have hb39 := g_nle (a := (Ls (1 - w)).length) (b := 0) h39 (by omega) (by omega)
        refine lv_aload_n hx hb dX3_cut_42 rfl (lv_at hl 0 rfl) ?_
        refine lv_iconst (v := nI 3) hx hb dX3_cut_43 (by decide) ?_
        have hMp79 : g_Mf D σ_1 (nI 0) rs sg S N Z R T := ⟨hc3, hc4, hc5, hc6, hc7, hc8, hc9, hc10, hc11, hc12, hc13⟩
        refine g_callV0 (y := yX3_no) (n := 1) (As := [.int (nI 3)]) (rest := []) hx hb hml hown hts hE hZ hP hS hl.1 (m_X3_no l D hAD σ_1 (nI 0) rs sg S N Z R T hMp79 (nI 3)) k_X3_98 (ci := 3) (by decide) hc3 rfl rfl rfl rfl rfl ⟨rfl, rfl⟩ ⟨Nat.le_of_ble_eq_true rfl, Nat.le_of_ble_eq_true rfl⟩ (Nat.le_of_ble_eq_true rfl) ⟨Nat.le_of_ble_eq_true rfl, Nat.le_of_ble_eq_true rfl⟩ dX3_cut_44 (fun v80 σ_81 H locs hq hP hS => ?_)
        obtain ⟨rfl, hq2⟩ := hq
        refine W.eq (g2 := F0 m 47 ls [.int (nI 0)]) rfl ?_
        obtain ⟨hMn82, hon82⟩ := hq2
        obtain ⟨k83_20, k83_21, k83_22, k83_23, k83_24, k83_25, k83_26, k83_27, k83_28, k83_29, k83_30⟩ := id hMn82
        have ho84 := g_off.tr ho14 (g_off.wd hon82 (by decide) (by decide))
        have hMp85 : g_Mf D σ_81 (nI 3) rs sg S N Z R T := ⟨k83_20, k83_21, k83_22, k83_23, k83_24, k83_25, k83_26, k83_27, k83_28, k83_29, k83_30⟩
        rw [← hQ]
        exact W.iret (v := nI 0) hx hb hr (fun te9 hte9 _ => g_fin (⟨Or.inr ⟨3, by rw [er_cut, if_pos (ix_of hw (by decide)), if_pos hq22, hot, if_pos (by omega)], by decide, rfl, ⟨_, _, _, _, _, _, _, hMp85, hmr⟩⟩, ho84⟩) hP hS hte9) hS.2.2 dX3_cut_47 hlocks
    · have hq22 := g_pp0 h22
      refine lv_aload_n hx hb dX3_cut_25 rfl (lv_at hl 0 rfl) ?_
      refine lv_iconst (v := nI 2) hx hb dX3_cut_26 (by decide) ?_
      have hMp86 : g_Mf D σ_1 (nI 0) rs sg S N Z R T := ⟨hc3, hc4, hc5, hc6, hc7, hc8, hc9, hc10, hc11, hc12, hc13⟩
      refine g_callV0 (y := yX3_no) (n := 1) (As := [.int (nI 2)]) (rest := []) hx hb hml hown hts hE hZ hP hS hl.1 (m_X3_no l D hAD σ_1 (nI 0) rs sg S N Z R T hMp86 (nI 2)) k_X3_98 (ci := 3) (by decide) hc3 rfl rfl rfl rfl rfl ⟨rfl, rfl⟩ ⟨Nat.le_of_ble_eq_true rfl, Nat.le_of_ble_eq_true rfl⟩ (Nat.le_of_ble_eq_true rfl) ⟨Nat.le_of_ble_eq_true rfl, Nat.le_of_ble_eq_true rfl⟩ dX3_cut_27 (fun v87 σ_88 H locs hq hP hS => ?_)
      obtain ⟨rfl, hq2⟩ := hq
      refine W.eq (g2 := F0 m 30 ls [.int (nI 0)]) rfl ?_
      obtain ⟨hMn89, hon89⟩ := hq2
      obtain ⟨k90_20, k90_21, k90_22, k90_23, k90_24, k90_25, k90_26, k90_27, k90_28, k90_29, k90_30⟩ := id hMn89
      have ho91 := g_off.tr ho14 (g_off.wd hon89 (by decide) (by decide))
      have hMp92 : g_Mf D σ_88 (nI 2) rs sg S N Z R T := ⟨k90_20, k90_21, k90_22, k90_23, k90_24, k90_25, k90_26, k90_27, k90_28, k90_29, k90_30⟩
      rw [← hQ]
      exact W.iret (v := nI 0) hx hb hr (fun te9 hte9 _ => g_fin (⟨Or.inr ⟨2, by rw [er_cut, if_pos (ix_of hw (by decide)), if_neg hq22], by decide, rfl, ⟨_, _, _, _, _, _, _, hMp92, hmr⟩⟩, ho91⟩) hP hS hte9) hS.2.2 dX3_cut_30 hlocks
  · have hq9 := g_pp0 h9
    refine lv_aload_n hx hb dX3_cut_12 rfl (lv_at hl 0 rfl) ?_
    refine lv_iconst (v := nI 1) hx hb dX3_cut_13 (by decide) ?_
    have hMp93 : g_Mf D σ_1 (nI 0) rs sg S N Z R T := ⟨hc3, hc4, hc5, hc6, hc7, hc8, hc9, hc10, hc11, hc12, hc13⟩
    refine g_callV0 (y := yX3_no) (n := 1) (As := [.int (nI 1)]) (rest := []) hx hb hml hown hts hE hZ hP hS hl.1 (m_X3_no l D hAD σ_1 (nI 0) rs sg S N Z R T hMp93 (nI 1)) k_X3_98 (ci := 3) (by decide) hc3 rfl rfl rfl rfl rfl ⟨rfl, rfl⟩ ⟨Nat.le_of_ble_eq_true rfl, Nat.le_of_ble_eq_true rfl⟩ (Nat.le_of_ble_eq_true rfl) ⟨Nat.le_of_ble_eq_true rfl, Nat.le_of_ble_eq_true rfl⟩ dX3_cut_14 (fun v94 σ_95 H locs hq hP hS => ?_)
    obtain ⟨rfl, hq2⟩ := hq
    refine W.eq (g2 := F0 m 17 ls [.int (nI 0)]) rfl ?_
    obtain ⟨hMn96, hon96⟩ := hq2
    obtain ⟨k97_20, k97_21, k97_22, k97_23, k97_24, k97_25, k97_26, k97_27, k97_28, k97_29, k97_30⟩ := id hMn96
    have ho98 := g_off.tr ho14 (g_off.wd hon96 (by decide) (by decide))
    have hMp99 : g_Mf D σ_95 (nI 1) rs sg S N Z R T := ⟨k97_20, k97_21, k97_22, k97_23, k97_24, k97_25, k97_26, k97_27, k97_28, k97_29, k97_30⟩
    rw [← hQ]
    exact W.iret (v := nI 0) hx hb hr (fun te9 hte9 _ => g_fin (⟨Or.inr ⟨1, by rw [er_cut, if_neg hq9], by decide, rfl, ⟨_, _, _, _, _, _, _, hMp99, hmr⟩⟩, ho98⟩) hP hS hte9) hS.2.2 dX3_cut_17 hlocks
