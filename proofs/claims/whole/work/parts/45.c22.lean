abbrev m_X3_advise_rm : Room := { frames := 63, cells := 0, slots := 0, locals := 1567 }
set_option maxHeartbeats 4000000 in
set_option maxRecDepth 100000 in
theorem m_X3_advise (l : Launch) (D : va_G) (hAD : g_AD D) (σ : Nat → va_E) (th rs sg : Int32) (S N Z R : Nat → Int32) (T : Nat → Nat → Int32) (hM : g_Mf D σ th rs sg S N Z R T) (Ls : Nat → g_L) (wood : Int32) (hmr : mr_ Ls S N Z) (hvC : vC_ Ls) : g_M l D yX3_advise cX3_advise 5 (some .int) m_X3_advise_rm [.ref (ad_ D 20), .int wood] σ (fun v1 σ1 => ((er_wood wood = 0 ∧ (∃ w, w ≤ 1 ∧ wood = nI w ∧ v1 = some (.int (bs_ (tb_ (Ls w)) (zs_ (Ls w).length)).1) ∧ g_MM D σ1 (nI 0) Ls)) ∨ ∃ k9, er_wood wood = k9 ∧ k9 ≠ 0 ∧ v1 = some (.int (nI 0)) ∧ g_MM D σ1 (nI k9) Ls) ∧ g_off 20 30 σ σ1) := by
  refine g_ofW [(0, .ref (ad_ D 20)), (1, .int wood)] (by decide +kernel) (Nat.le_of_ble_eq_true rfl) rfl ?_
  intro p e s m args below meth c hx hb hr hml hown hlocks hts hE hZ hP hS hnm ls hl
  have hown : s.vm.findClass RX3 = some m.cls := hown
  generalize hQ : MQ _ _ _ _ _ _ _ = Q
  obtain ⟨k20, k21, k22, k23, k24, k25, k26, k27, k28, k29, k30⟩ := id hM
  refine lv_aload_n hx hb dX3_advise_0 rfl (lv_at hl 0 rfl) ?_
  refine lv_iconst (v := nI 0) hx hb dX3_advise_1 (by decide) ?_
  refine g_put hx hb hts hE hown hAD hP hS g_inX3 tyX3 tyX3_ok nmX3 rfl (by decide) k20 0 (by decide) rfl rfl (by decide +kernel) wf_X3_40 (v := nI 0) (Nat.le_of_ble_eq_true rfl) dX3_advise_2 (fun H locs hP hS => ?_)
  obtain ⟨σ_1, hσ2⟩ : ∃ z : Nat → va_E, z = va_up σ 20 (.inr (3, [.int (nI 0), .ref (ad_ D 21), .ref (ad_ D 22), .ref (ad_ D 23), .ref (ad_ D 24), .int rs, .int sg, .ref (ad_ D 25), .ref (ad_ D 26), .ref (ad_ D 27), .ref (ad_ D 28), .ref (ad_ D 29), .ref (ad_ D 30)])) := ⟨_, rfl⟩
  have hP : va_P D vwCl (g_W D σ_1) H := by rw [hσ2]; exact hP
  have hc3 : σ_1 20 = .inr (3, [.int (nI 0), .ref (ad_ D 21), .ref (ad_ D 22), .ref (ad_ D 23), .ref (ad_ D 24), .int rs, .int sg, .ref (ad_ D 25), .ref (ad_ D 26), .ref (ad_ D 27), .ref (ad_ D 28), .ref (ad_ D 29), .ref (ad_ D 30)]) := by rw [hσ2]; exact g_ups
  have hc4 := (by rw [hσ2]; exact g_upn k21 (by decide) : σ_1 21 = .inl (g_cI D, 2, .inl (S)))
  have hc5 := (by rw [hσ2]; exact g_upn k22 (by decide) : σ_1 22 = .inl (g_cI D, 48, .inl (N)))
  have hc6 := (by rw [hσ2]; exact g_upn k23 (by decide) : σ_1 23 = .inl (g_cI D, 48, .inl (Z)))
  have hc7 := (by rw [hσ2]; exact g_upn k24 (by decide) : σ_1 24 = .inl (g_cI D, 48, .inl (R)))
  have hc8 := (by rw [hσ2]; exact g_upn k25 (by decide) : σ_1 25 = .inl (g_cI D, 96, .inl (T 0)))
  have hc9 := (by rw [hσ2]; exact g_upn k26 (by decide) : σ_1 26 = .inl (g_cI D, 96, .inl (T 1)))
  have hc10 := (by rw [hσ2]; exact g_upn k27 (by decide) : σ_1 27 = .inl (g_cI D, 96, .inl (T 2)))
  have hc11 := (by rw [hσ2]; exact g_upn k28 (by decide) : σ_1 28 = .inl (g_cI D, 96, .inl (T 3)))
  have hc12 := (by rw [hσ2]; exact g_upn k29 (by decide) : σ_1 29 = .inl (g_cI D, 96, .inl (T 4)))
  have hc13 := (by rw [hσ2]; exact g_upn k30 (by decide) : σ_1 30 = .inl (g_cI D, 96, .inl (T 5)))
  have ho14 : g_off 20 30 σ σ_1 := by rw [hσ2]; exact g_off.up (g_off.rf (lo := 20) (hi := 30) (σ := σ)) (by decide) (by decide)
  refine lv_iload_n hx hb dX3_advise_5 rfl (lv_at hl 1 rfl) ?_
  refine g_callS0 (y := yX3_isWood) (n := 1) (As := [.int wood]) (rest := []) hx hb hml hown hts hE hZ hP hS hl.1 (m_X3_isWood l D hAD σ_1 (wood)) k_X3_94 rfl rfl ⟨rfl, rfl⟩ ⟨Nat.le_of_ble_eq_true rfl, Nat.le_of_ble_eq_true rfl⟩ (Nat.le_of_ble_eq_true rfl) ⟨Nat.le_of_ble_eq_true rfl, Nat.le_of_ble_eq_true rfl⟩ dX3_advise_6 (fun v15 σ_16 H locs hq hP hS => ?_)
  obtain ⟨rfl, rfl⟩ := hq
  refine W.eq (g2 := F0 m 9 ls [.int (if wk1_ (wood) then 1 else 0)]) rfl ?_
  refine lv_if_ne (tgt := 18) hx hb dX3_advise_9 (by decide) (fun h9 => ?_) (fun h9 => ?_)
  · have hq9 := g_pp1 h9
    obtain ⟨w, hw, hwe⟩ := ix_nat hq9 (by decide)
    subst hwe
    have hvw := hvC w hw
    have h24w := hvw.2
    have hvo := hvC (1 - w) (by omega)
    have h24o := hvo.2
    have hwl : wl_ Ls (nI w) = Ls w := wl_n hw
    have hot : ot_ Ls (nI w) = Ls (1 - w) := ot_n hw
    refine lv_iconst (v := (-1)) hx hb dX3_advise_18 (by decide) ?_
    refine lv_istore_n (lv' := [(2, .int ((-1))), (0, .ref (ad_ D 20)), (1, .int (nI w))]) hx hb dX3_advise_19 rfl hl (by decide) rfl (fun ls hl => ?_)
    refine lv_iconst (v := nI 0) hx hb dX3_advise_20 (by decide) ?_
    refine lv_istore_n (lv' := [(3, .int (nI 0)), (2, .int ((-1))), (0, .ref (ad_ D 20)), (1, .int (nI w))]) hx hb dX3_advise_21 rfl hl (by decide) rfl (fun ls hl => ?_)
    refine lv_iconst (v := nI 0) hx hb dX3_advise_22 (by decide) ?_
    refine lv_istore (lv' := [(4, .int (nI 0)), (3, .int (nI 0)), (2, .int ((-1))), (0, .ref (ad_ D 20)), (1, .int (nI w))]) hx hb dX3_advise_23 hl (by decide) rfl (fun ls hl => ?_)
    have K25 : ∀ (fuel25 : Nat) (i : Nat) (σ3 : Nat → va_E) (rs3 sg3 : Int32) (R3 : Nat → Int32) (T3 : Nat → Nat → Int32), ((Ls w).length - i) < fuel25 → (i ≤ (Ls w).length) → (g_Mf D σ3 (nI 0) rs3 sg3 S N Z R3 T3) → (g_off 20 30 σ σ3) → ∀ (H : Heap) (locs : List Loc), va_P D vwCl (g_W D σ3) H → va_S (g_A D s.heap.size) s.heap H locs → ∀ ls : Array Slot, lv_has ls 5 [(4, .int (nI i)), (2, .int ((md_ (fun k => aP_ ((Ls w).eraseIdx k)) (fn_ (Ls w)) i).1)), (3, .int ((md_ (fun k => aP_ ((Ls w).eraseIdx k)) (fn_ (Ls w)) i).2)), (0, .ref (ad_ D 20)), (1, .int (nI w))] → W p l e m_X3_advise_rm s m args below meth c H locs 0 0 Q (F0 m 25 ls []) := by
      intro fuel25
      induction fuel25 with
      | zero => intro i σ3 rs3 sg3 R3 T3 hf; exact absurd hf (Nat.not_lt_zero _)
      | succ fuel25 ih25 =>
        intro i σ3 rs3 sg3 R3 T3 hf25 hi hM3 ho3 H locs hP hS ls hl
        obtain ⟨t3_20, t3_21, t3_22, t3_23, t3_24, t3_25, t3_26, t3_27, t3_28, t3_29, t3_30⟩ := id hM3
        refine lv_iload hx hb dX3_advise_25 (lv_at hl 0 rfl) ?_
        refine lv_aload_n hx hb dX3_advise_27 rfl (lv_at hl 3 rfl) ?_
        refine g_get hx hb hts hE hown hP g_inX3 rfl (by decide) t3_20 1 (by decide) rfl wf_X3_9 (v := .ref (ad_ D 21)) rfl dX3_advise_28 ?_
        refine lv_iload_n hx hb dX3_advise_31 rfl (lv_at hl 4 rfl) ?_
        refine g_ialdN (j := w) hx hb hE hP (by decide) t3_21 (by omega) (by decide) (v := nI ((Ls w).length)) (hmr.S (by omega)) dX3_advise_32 ?_
        refine lv_icmp_ge (tgt := 83) hx hb dX3_advise_33 (by decide) (fun h33 => ?_) (fun h33 => ?_)
        · have hb33 := g_le (a := (Ls w).length) (b := i) h33 (by omega) (by omega)
          have hi2 : i = (Ls w).length := by omega
          refine lv_iload_n hx hb dX3_advise_83 rfl (lv_at hl 1 rfl) ?_
          have hMp17 : g_Mf D σ3 (nI 0) rs3 sg3 S N Z R3 T3 := ⟨t3_20, t3_21, t3_22, t3_23, t3_24, t3_25, t3_26, t3_27, t3_28, t3_29, t3_30⟩
          rw [← hQ]
          exact W.iret (v := (md_ (fun k => aP_ ((Ls w).eraseIdx k)) (fn_ (Ls w)) i).1) hx hb hr (fun te9 hte9 _ => g_fin (⟨Or.inl ⟨by rw [er_wood, if_pos (ix_of hw (by decide))], w, hw, rfl, by rw [adv_eq hvw.1 (by omega), ← hi2], ⟨_, _, _, _, _, _, _, hMp17, hmr⟩⟩, ho3⟩) hP hS hte9) hS.2.2 dX3_advise_84 hlocks
        · have hb33 := g_nle (a := (Ls w).length) (b := i) h33 (by omega) (by omega)
          have hel9 := List.length_eraseIdx_of_lt (show i < (Ls w).length by omega)
          refine lv_aload_n hx hb dX3_advise_36 rfl (lv_at hl 3 rfl) ?_
          refine lv_iload_n hx hb dX3_advise_37 rfl (lv_at hl 4 rfl) ?_
          refine lv_iload hx hb dX3_advise_38 (lv_at hl 0 rfl) ?_
          have hMp18 : g_Mf D σ3 (nI 0) rs3 sg3 S N Z R3 T3 := ⟨t3_20, t3_21, t3_22, t3_23, t3_24, t3_25, t3_26, t3_27, t3_28, t3_29, t3_30⟩
          refine g_callV0 (y := yX3_lookWithout) (n := 2) (As := [.int (nI w), .int (nI i)]) (rest := []) hx hb hml hown hts hE hZ hP hS hl.1 (m_X3_lookWithout l D hAD σ3 (nI 0) rs3 sg3 S N Z R3 T3 hMp18 Ls w i hmr (by omega) hvw.1 (by omega)) k_X3_156 (ci := 3) (by decide) t3_20 rfl rfl rfl rfl rfl ⟨rfl, rfl⟩ ⟨Nat.le_of_ble_eq_true rfl, Nat.le_of_ble_eq_true rfl⟩ (Nat.le_of_ble_eq_true rfl) ⟨Nat.le_of_ble_eq_true rfl, Nat.le_of_ble_eq_true rfl⟩ dX3_advise_40 (fun v19 σ_20 H locs hq hP hS => ?_)
          obtain ⟨rfl, hq2⟩ := hq
          refine W.eq (g2 := F0 m 43 ls []) rfl ?_
          obtain ⟨⟨Rn21, Tn21, hMn21, hRln21, hTln21⟩, hofn21⟩ := hq2
          obtain ⟨k22_20, k22_21, k22_22, k22_23, k22_24, k22_25, k22_26, k22_27, k22_28, k22_29, k22_30⟩ := id hMn21
          have ho23 := g_off.tr ho3 (g_off.wd hofn21 (by decide) (by decide))
          refine lv_iload_n hx hb dX3_advise_43 rfl (lv_at hl 1 rfl) ?_
          refine lv_iconst (v := (-1)) hx hb dX3_advise_44 (by decide) ?_
          refine lv_icmp_eq (tgt := 59) hx hb dX3_advise_45 (by decide) (fun h45 => ?_) (fun h45 => ?_)
          · refine lv_aload_n hx hb dX3_advise_59 rfl (lv_at hl 3 rfl) ?_
            refine g_get hx hb hts hE hown hP g_inX3 rfl (by decide) k22_20 2 (by decide) rfl wf_X3_13 (v := .ref (ad_ D 22)) rfl dX3_advise_60 ?_
            refine lv_bipush (v := nI 24) hx hb dX3_advise_63 (by decide) ?_
            refine lv_iload_n hx hb dX3_advise_65 rfl (lv_at hl 4 rfl) ?_
            refine lv_imul hx hb dX3_advise_66 ?_
            refine g_top (y := nI (24 * w)) (pk_mul 24 w) ?_
            refine lv_iload hx hb dX3_advise_67 (lv_at hl 0 rfl) ?_
            refine lv_iadd hx hb dX3_advise_69 ?_
            refine g_top (y := nI ((24 * w) + i)) (nI_add (24 * w) i) ?_
            refine g_ialdN (j := (24 * w) + i) hx hb hE hP (by decide) k22_22 (by omega) (by decide) (v := fn_ (Ls w) i) (hmr.N (by omega) (by omega)) dX3_advise_70 ?_
            refine lv_istore_n (lv' := [(2, .int (fn_ (Ls w) i)), (4, .int (nI i)), (3, .int ((md_ (fun k => aP_ ((Ls w).eraseIdx k)) (fn_ (Ls w)) i).2)), (0, .ref (ad_ D 20)), (1, .int (nI w))]) hx hb dX3_advise_71 rfl hl (by decide) rfl (fun ls hl => ?_)
            refine lv_aload_n hx hb dX3_advise_72 rfl (lv_at hl 3 rfl) ?_
            have hMp24 : g_Mf D σ_20 (nI 0) (nI ((List.eraseIdx (Ls w) i).length)) (nI (zs_ (List.eraseIdx (Ls w) i).length)) S N Z Rn21 Tn21 := ⟨k22_20, k22_21, k22_22, k22_23, k22_24, k22_25, k22_26, k22_27, k22_28, k22_29, k22_30⟩
            refine g_callV0 (y := yX3_allPaths) (n := 0) (As := []) (rest := []) hx hb hml hown hts hE hZ hP hS hl.1 (m_X3_allPaths l D hAD σ_20 (nI 0) S N Z Rn21 Tn21 (List.eraseIdx (Ls w) i) hMp24 (vL_er hvw.1) (by omega) hRln21 hTln21) k_X3_125 (ci := 3) (by decide) k22_20 rfl rfl rfl rfl rfl ⟨rfl, rfl⟩ ⟨Nat.le_of_ble_eq_true rfl, Nat.le_of_ble_eq_true rfl⟩ (Nat.le_of_ble_eq_true rfl) ⟨Nat.le_of_ble_eq_true rfl, Nat.le_of_ble_eq_true rfl⟩ dX3_advise_73 (fun v25 σ_26 H locs hq hP hS => ?_)
            obtain ⟨rfl, rfl⟩ := hq
            refine W.eq (g2 := F0 m 76 ls [.int (ap_ (tb_ (List.eraseIdx (Ls w) i) 0) (tb_ (List.eraseIdx (Ls w) i) 7) (zs_ (List.length (List.eraseIdx (Ls w) i))))]) rfl ?_
            refine lv_istore_n (lv' := [(3, .int (ap_ (tb_ (List.eraseIdx (Ls w) i) 0) (tb_ (List.eraseIdx (Ls w) i) 7) (zs_ (List.length (List.eraseIdx (Ls w) i))))), (2, .int (fn_ (Ls w) i)), (4, .int (nI i)), (0, .ref (ad_ D 20)), (1, .int (nI w))]) hx hb dX3_advise_76 rfl hl (by decide) rfl (fun ls hl => ?_)
            have hmd : md_ (fun k => aP_ ((Ls w).eraseIdx k)) (fn_ (Ls w)) (i + 1) = (fn_ (Ls w) i, aP_ ((Ls w).eraseIdx i)) := by rw [md_]; exact if_neg (fun z => z.1 h45)
            have hmd1 : fn_ (Ls w) i = (md_ (fun k => aP_ ((Ls w).eraseIdx k)) (fn_ (Ls w)) (i + 1)).1 := by rw [hmd]
            have hmd2 : aP_ ((Ls w).eraseIdx i) = (md_ (fun k => aP_ ((Ls w).eraseIdx k)) (fn_ (Ls w)) (i + 1)).2 := by rw [hmd]
            have hl := lv_sub hl [1, 0, 2, 3, 4] (l' := [(2, .int (md_ (fun k => aP_ ((Ls w).eraseIdx k)) (fn_ (Ls w)) (i + 1)).1), (3, .int (md_ (fun k => aP_ ((Ls w).eraseIdx k)) (fn_ (Ls w)) (i + 1)).2), (4, .int (nI i)), (0, .ref (ad_ D 20)), (1, .int (nI w))]) (by rw [← hmd1, ← hmd2]; rfl)
            refine lv_iinc (v := nI (i + 1)) (lv' := [(4, .int (nI (i + 1))), (2, .int ((md_ (fun k => aP_ ((Ls w).eraseIdx k)) (fn_ (Ls w)) (i + 1)).1)), (3, .int ((md_ (fun k => aP_ ((Ls w).eraseIdx k)) (fn_ (Ls w)) (i + 1)).2)), (0, .ref (ad_ D 20)), (1, .int (nI w))]) hx hb dX3_advise_77 hl (k := 2) rfl (g_inc i) (by decide) rfl (fun ls hl => ?_)
            refine lv_goto (tgt := 25) hx hb dX3_advise_80 (by decide) ?_
            have hMp27 : g_Mf D σ_20 (nI 0) (nI ((List.eraseIdx (Ls w) i).length)) (nI (zs_ (List.eraseIdx (Ls w) i).length)) S N Z Rn21 Tn21 := ⟨k22_20, k22_21, k22_22, k22_23, k22_24, k22_25, k22_26, k22_27, k22_28, k22_29, k22_30⟩
            exact ih25 (i + 1) σ_20 (nI ((List.eraseIdx (Ls w) i).length)) (nI (zs_ (List.eraseIdx (Ls w) i).length)) Rn21 Tn21 (by omega) (by omega) hMp27 ho23 _ _ hP hS ls (lv_sub hl [0, 1, 2, 3, 4] rfl)
          · refine lv_aload_n hx hb dX3_advise_48 rfl (lv_at hl 3 rfl) ?_
            have hMp28 : g_Mf D σ_20 (nI 0) (nI ((List.eraseIdx (Ls w) i).length)) (nI (zs_ (List.eraseIdx (Ls w) i).length)) S N Z Rn21 Tn21 := ⟨k22_20, k22_21, k22_22, k22_23, k22_24, k22_25, k22_26, k22_27, k22_28, k22_29, k22_30⟩
            refine g_callV0 (y := yX3_allPaths) (n := 0) (As := []) (rest := []) hx hb hml hown hts hE hZ hP hS hl.1 (m_X3_allPaths l D hAD σ_20 (nI 0) S N Z Rn21 Tn21 (List.eraseIdx (Ls w) i) hMp28 (vL_er hvw.1) (by omega) hRln21 hTln21) k_X3_125 (ci := 3) (by decide) k22_20 rfl rfl rfl rfl rfl ⟨rfl, rfl⟩ ⟨Nat.le_of_ble_eq_true rfl, Nat.le_of_ble_eq_true rfl⟩ (Nat.le_of_ble_eq_true rfl) ⟨Nat.le_of_ble_eq_true rfl, Nat.le_of_ble_eq_true rfl⟩ dX3_advise_49 (fun v29 σ_30 H locs hq hP hS => ?_)
            obtain ⟨rfl, rfl⟩ := hq
            refine W.eq (g2 := F0 m 52 ls [.int (ap_ (tb_ (List.eraseIdx (Ls w) i) 0) (tb_ (List.eraseIdx (Ls w) i) 7) (zs_ (List.length (List.eraseIdx (Ls w) i))))]) rfl ?_
            refine lv_iload_n hx hb dX3_advise_52 rfl (lv_at hl 2 rfl) ?_
            refine lv_icmp_lt (tgt := 59) hx hb dX3_advise_53 (by decide) (fun h53 => ?_) (fun h53 => ?_)
            · refine lv_aload_n hx hb dX3_advise_59 rfl (lv_at hl 3 rfl) ?_
              refine g_get hx hb hts hE hown hP g_inX3 rfl (by decide) k22_20 2 (by decide) rfl wf_X3_13 (v := .ref (ad_ D 22)) rfl dX3_advise_60 ?_
              refine lv_bipush (v := nI 24) hx hb dX3_advise_63 (by decide) ?_
              refine lv_iload_n hx hb dX3_advise_65 rfl (lv_at hl 4 rfl) ?_
              refine lv_imul hx hb dX3_advise_66 ?_
              refine g_top (y := nI (24 * w)) (pk_mul 24 w) ?_
              refine lv_iload hx hb dX3_advise_67 (lv_at hl 0 rfl) ?_
              refine lv_iadd hx hb dX3_advise_69 ?_
              refine g_top (y := nI ((24 * w) + i)) (nI_add (24 * w) i) ?_
              refine g_ialdN (j := (24 * w) + i) hx hb hE hP (by decide) k22_22 (by omega) (by decide) (v := fn_ (Ls w) i) (hmr.N (by omega) (by omega)) dX3_advise_70 ?_
              refine lv_istore_n (lv' := [(2, .int (fn_ (Ls w) i)), (4, .int (nI i)), (3, .int ((md_ (fun k => aP_ ((Ls w).eraseIdx k)) (fn_ (Ls w)) i).2)), (0, .ref (ad_ D 20)), (1, .int (nI w))]) hx hb dX3_advise_71 rfl hl (by decide) rfl (fun ls hl => ?_)
              refine lv_aload_n hx hb dX3_advise_72 rfl (lv_at hl 3 rfl) ?_
              have hMp31 : g_Mf D σ_20 (nI 0) (nI ((List.eraseIdx (Ls w) i).length)) (nI (zs_ (List.eraseIdx (Ls w) i).length)) S N Z Rn21 Tn21 := ⟨k22_20, k22_21, k22_22, k22_23, k22_24, k22_25, k22_26, k22_27, k22_28, k22_29, k22_30⟩
              refine g_callV0 (y := yX3_allPaths) (n := 0) (As := []) (rest := []) hx hb hml hown hts hE hZ hP hS hl.1 (m_X3_allPaths l D hAD σ_20 (nI 0) S N Z Rn21 Tn21 (List.eraseIdx (Ls w) i) hMp31 (vL_er hvw.1) (by omega) hRln21 hTln21) k_X3_125 (ci := 3) (by decide) k22_20 rfl rfl rfl rfl rfl ⟨rfl, rfl⟩ ⟨Nat.le_of_ble_eq_true rfl, Nat.le_of_ble_eq_true rfl⟩ (Nat.le_of_ble_eq_true rfl) ⟨Nat.le_of_ble_eq_true rfl, Nat.le_of_ble_eq_true rfl⟩ dX3_advise_73 (fun v32 σ_33 H locs hq hP hS => ?_)
              obtain ⟨rfl, rfl⟩ := hq
              refine W.eq (g2 := F0 m 76 ls [.int (ap_ (tb_ (List.eraseIdx (Ls w) i) 0) (tb_ (List.eraseIdx (Ls w) i) 7) (zs_ (List.length (List.eraseIdx (Ls w) i))))]) rfl ?_
              refine lv_istore_n (lv' := [(3, .int (ap_ (tb_ (List.eraseIdx (Ls w) i) 0) (tb_ (List.eraseIdx (Ls w) i) 7) (zs_ (List.length (List.eraseIdx (Ls w) i))))), (2, .int (fn_ (Ls w) i)), (4, .int (nI i)), (0, .ref (ad_ D 20)), (1, .int (nI w))]) hx hb dX3_advise_76 rfl hl (by decide) rfl (fun ls hl => ?_)
              have hmd : md_ (fun k => aP_ ((Ls w).eraseIdx k)) (fn_ (Ls w)) (i + 1) = (fn_ (Ls w) i, aP_ ((Ls w).eraseIdx i)) := by rw [md_]; exact if_neg (fun z => z.2 h53)
              have hmd1 : fn_ (Ls w) i = (md_ (fun k => aP_ ((Ls w).eraseIdx k)) (fn_ (Ls w)) (i + 1)).1 := by rw [hmd]
              have hmd2 : aP_ ((Ls w).eraseIdx i) = (md_ (fun k => aP_ ((Ls w).eraseIdx k)) (fn_ (Ls w)) (i + 1)).2 := by rw [hmd]
              have hl := lv_sub hl [1, 0, 2, 3, 4] (l' := [(2, .int (md_ (fun k => aP_ ((Ls w).eraseIdx k)) (fn_ (Ls w)) (i + 1)).1), (3, .int (md_ (fun k => aP_ ((Ls w).eraseIdx k)) (fn_ (Ls w)) (i + 1)).2), (4, .int (nI i)), (0, .ref (ad_ D 20)), (1, .int (nI w))]) (by rw [← hmd1, ← hmd2]; rfl)
              refine lv_iinc (v := nI (i + 1)) (lv' := [(4, .int (nI (i + 1))), (2, .int ((md_ (fun k => aP_ ((Ls w).eraseIdx k)) (fn_ (Ls w)) (i + 1)).1)), (3, .int ((md_ (fun k => aP_ ((Ls w).eraseIdx k)) (fn_ (Ls w)) (i + 1)).2)), (0, .ref (ad_ D 20)), (1, .int (nI w))]) hx hb dX3_advise_77 hl (k := 2) rfl (g_inc i) (by decide) rfl (fun ls hl => ?_)
              refine lv_goto (tgt := 25) hx hb dX3_advise_80 (by decide) ?_
              have hMp34 : g_Mf D σ_20 (nI 0) (nI ((List.eraseIdx (Ls w) i).length)) (nI (zs_ (List.eraseIdx (Ls w) i).length)) S N Z Rn21 Tn21 := ⟨k22_20, k22_21, k22_22, k22_23, k22_24, k22_25, k22_26, k22_27, k22_28, k22_29, k22_30⟩
              exact ih25 (i + 1) σ_20 (nI ((List.eraseIdx (Ls w) i).length)) (nI (zs_ (List.eraseIdx (Ls w) i).length)) Rn21 Tn21 (by omega) (by omega) hMp34 ho23 _ _ hP hS ls (lv_sub hl [0, 1, 2, 3, 4] rfl)
            · refine lv_goto (tgt := 77) hx hb dX3_advise_56 (by decide) ?_
              have hmd : md_ (fun k => aP_ ((Ls w).eraseIdx k)) (fn_ (Ls w)) (i + 1) = md_ (fun k => aP_ ((Ls w).eraseIdx k)) (fn_ (Ls w)) i := by rw [md_]; exact if_pos ⟨h45, h53⟩
              rw [← hmd] at hl
              refine lv_iinc (v := nI (i + 1)) (lv' := [(4, .int (nI (i + 1))), (2, .int ((md_ (fun k => aP_ ((Ls w).eraseIdx k)) (fn_ (Ls w)) (i + 1)).1)), (3, .int ((md_ (fun k => aP_ ((Ls w).eraseIdx k)) (fn_ (Ls w)) (i + 1)).2)), (0, .ref (ad_ D 20)), (1, .int (nI w))]) hx hb dX3_advise_77 hl (k := 0) rfl (g_inc i) (by decide) rfl (fun ls hl => ?_)
              refine lv_goto (tgt := 25) hx hb dX3_advise_80 (by decide) ?_
              have hMp35 : g_Mf D σ_20 (nI 0) (nI ((List.eraseIdx (Ls w) i).length)) (nI (zs_ (List.eraseIdx (Ls w) i).length)) S N Z Rn21 Tn21 := ⟨k22_20, k22_21, k22_22, k22_23, k22_24, k22_25, k22_26, k22_27, k22_28, k22_29, k22_30⟩
              exact ih25 (i + 1) σ_20 (nI ((List.eraseIdx (Ls w) i).length)) (nI (zs_ (List.eraseIdx (Ls w) i).length)) Rn21 Tn21 (by omega) (by omega) hMp35 ho23 _ _ hP hS ls (lv_sub hl [0, 1, 2, 3, 4] rfl)
    have hMp36 : g_Mf D σ_1 (nI 0) rs sg S N Z R T := ⟨hc3, hc4, hc5, hc6, hc7, hc8, hc9, hc10, hc11, hc12, hc13⟩
    exact K25 (((Ls w).length - 0) + 1) 0 σ_1 rs sg R T (Nat.lt_succ_self _) (Nat.zero_le _) hMp36 ho14 _ _ hP hS ls (lv_sub hl [0, 2, 1, 3, 4] rfl)
  · have hq9 := g_pp0 h9
    refine lv_aload_n hx hb dX3_advise_12 rfl (lv_at hl 0 rfl) ?_
    refine lv_iconst (v := nI 1) hx hb dX3_advise_13 (by decide) ?_
    have hMp37 : g_Mf D σ_1 (nI 0) rs sg S N Z R T := ⟨hc3, hc4, hc5, hc6, hc7, hc8, hc9, hc10, hc11, hc12, hc13⟩
    refine g_callV0 (y := yX3_no) (n := 1) (As := [.int (nI 1)]) (rest := []) hx hb hml hown hts hE hZ hP hS hl.1 (m_X3_no l D hAD σ_1 (nI 0) rs sg S N Z R T hMp37 (nI 1)) k_X3_98 (ci := 3) (by decide) hc3 rfl rfl rfl rfl rfl ⟨rfl, rfl⟩ ⟨Nat.le_of_ble_eq_true rfl, Nat.le_of_ble_eq_true rfl⟩ (Nat.le_of_ble_eq_true rfl) ⟨Nat.le_of_ble_eq_true rfl, Nat.le_of_ble_eq_true rfl⟩ dX3_advise_14 (fun v38 σ_39 H locs hq hP hS => ?_)
    obtain ⟨rfl, hq2⟩ := hq
    refine W.eq (g2 := F0 m 17 ls [.int (nI 0)]) rfl ?_
    obtain ⟨hMn40, hon40⟩ := hq2
    obtain ⟨k41_20, k41_21, k41_22, k41_23, k41_24, k41_25, k41_26, k41_27, k41_28, k41_29, k41_30⟩ := id hMn40
    have ho42 := g_off.tr ho14 (g_off.wd hon40 (by decide) (by decide))
    have hMp43 : g_Mf D σ_39 (nI 1) rs sg S N Z R T := ⟨k41_20, k41_21, k41_22, k41_23, k41_24, k41_25, k41_26, k41_27, k41_28, k41_29, k41_30⟩
    rw [← hQ]
    exact W.iret (v := nI 0) hx hb hr (fun te9 hte9 _ => g_fin (⟨Or.inr ⟨1, by rw [er_wood, if_neg hq9], by decide, rfl, ⟨_, _, _, _, _, _, _, hMp43, hmr⟩⟩, ho42⟩) hP hS hte9) hS.2.2 dX3_advise_17 hlocks
