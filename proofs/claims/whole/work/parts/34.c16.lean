theorem mgx {Ls Ls2 : Nat → g_L} {w v : Nat} {M : g_L} (hw : w ≤ 1) (hv : v ≤ 1) (hA : Ls2 w = Ls w) (hB : Ls2 (1 - w) = M) : ul_ (ul_ Ls w []) (1 - w) M v = ul_ Ls2 w [] v := by
  by_cases e : v = w
  · subst e; rw [ul_ne (by omega), ul_at, ul_at]
  · have e2 : v = 1 - w := by omega
    subst e2; rw [ul_at, ul_ne e, hB]
abbrev m_X3_merge_rm : Room := { frames := 11, cells := 0, slots := 0, locals := 268 }
set_option maxHeartbeats 4000000 in
set_option maxRecDepth 100000 in
theorem m_X3_merge (l : Launch) (D : va_G) (hAD : g_AD D) (σ : Nat → va_E) (th rs sg : Int32) (S N Z R : Nat → Int32) (T : Nat → Nat → Int32) (hM : g_Mf D σ th rs sg S N Z R T) (Ls : Nat → g_L) (wood rule : Int32) (hmr : mr_ Ls S N Z) (hvC : vC_ Ls) : g_M l D yX3_merge cX3_merge 7 (some .int) m_X3_merge_rm [.ref (ad_ D 20), .int wood, .int rule] σ (fun v1 σ1 => ((er_merge Ls wood rule = 0 ∧ (∃ w r9, w ≤ 1 ∧ wood = nI w ∧ r9 ≤ 3 ∧ rule = nI r9 ∧ v1 = some (.int (nI (cm_ (Ls w) (Ls (1 - w)) (Ls w).length))) ∧ g_MM D σ1 (nI 0) (ul_ (ul_ Ls w []) (1 - w) (mg_ r9 (Ls w) (Ls (1 - w)) (Ls w).length)))) ∨ ∃ k9, er_merge Ls wood rule = k9 ∧ k9 ≠ 0 ∧ v1 = some (.int (nI 0)) ∧ g_MM D σ1 (nI k9) Ls) ∧ g_off 20 30 σ σ1) := by
  refine g_ofW [(0, .ref (ad_ D 20)), (1, .int wood), (2, .int rule)] (by decide +kernel) (Nat.le_of_ble_eq_true rfl) rfl ?_
  intro p e s m args below meth c hx hb hr hml hown hlocks hts hE hZ hP hS hnm ls hl
  have hown : s.vm.findClass RX3 = some m.cls := hown
  generalize hQ : MQ _ _ _ _ _ _ _ = Q
  obtain ⟨k20, k21, k22, k23, k24, k25, k26, k27, k28, k29, k30⟩ := id hM
  refine lv_aload_n hx hb dX3_merge_0 rfl (lv_at hl 0 rfl) ?_
  refine lv_iconst (v := nI 0) hx hb dX3_merge_1 (by decide) ?_
  refine g_put hx hb hts hE hown hAD hP hS g_inX3 tyX3 tyX3_ok nmX3 rfl (by decide) k20 0 (by decide) rfl rfl (by decide +kernel) wf_X3_40 (v := nI 0) (Nat.le_of_ble_eq_true rfl) dX3_merge_2 (fun H locs hP hS => ?_)
  obtain ⟨σ_1, hσ2⟩ : ∃ z : Nat → va_E, z = va_up σ 20 (.inr (3, [.int (nI 0), .ref (ad_ D 21), .ref (ad_ D 22), .ref (ad_ D 23), .ref (ad_ D 24), .int rs, .int sg, .ref (ad_ D 25), .ref (ad_ D 26), .ref (ad_ D 27), .ref (ad_ D 28), .ref (ad_ D 29), .ref (ad_ D 30)])) := ⟨_, rfl⟩
  have hP : va_P D vwCl (g_W D σ_1) H := by rw [hσ2]; exact hP
  have hc3 : σ_1 20 = .inr (3, [.int (nI 0), .ref (ad_ D 21), .ref (ad_ D 22), .ref (ad_ D 23), .ref (ad_ D 24), .int rs, .int sg, .ref (ad_ D 25), .ref (ad_ D 26), .ref (ad_ D 27), .ref (ad_ D 28), .ref (ad_ D 29), .ref (ad_ D 30)]) := by rw [hσ2]; exact g_ups
  have hc4 := (by rw [hσ2]; exact g_upn k21 (by decide) : σ_1 21 = .inl (g_cI D, 2, .inl (S)))
  have hc5 := (by rw [hσ2]; exact g_upn k22 (by decide) : σ_1 22 = .inl (g_cI D, 48, .inl (N)))
  have hc6 := (by rw [hσ2]; exact g_upn k23 (by decide) : σ_1 23 = .inl (g_cI D, 48, .inl (Z)))
  have hc7 := (by rw [hσ2]; exact g_upn k24 (by decide) : σ_1 24 = .inl (g_cI D, 48, .inl (R)))
  have hc8 := (by rw [hσ2]; exact g_upn k25 (by decide) : σ_1 25 = .inl (g_cI D, 96, .inl (T 0)))
  have hc9 := (by rw [hσ2]; exact g_upn k26 (by decide) : σ_1 26 = .inl (g_cI D, 96, .inl (T 1)))
  have hc10 := (by rw [hσ2]; exact g_upn k27 (by decide) : σ_1 27 = .inl (g_cI D, 96, .inl (T 2)))
  have hc11 := (by rw [hσ2]; exact g_upn k28 (by decide) : σ_1 28 = .inl (g_cI D, 96, .inl (T 3)))
  have hc12 := (by rw [hσ2]; exact g_upn k29 (by decide) : σ_1 29 = .inl (g_cI D, 96, .inl (T 4)))
  have hc13 := (by rw [hσ2]; exact g_upn k30 (by decide) : σ_1 30 = .inl (g_cI D, 96, .inl (T 5)))
  have ho14 : g_off 20 30 σ σ_1 := by rw [hσ2]; exact g_off.up (g_off.rf (lo := 20) (hi := 30) (σ := σ)) (by decide) (by decide)
  refine lv_iload_n hx hb dX3_merge_5 rfl (lv_at hl 1 rfl) ?_
  refine g_callS0 (y := yX3_isWood) (n := 1) (As := [.int wood]) (rest := []) hx hb hml hown hts hE hZ hP hS hl.1 (m_X3_isWood l D hAD σ_1 (wood)) k_X3_94 rfl rfl ⟨rfl, rfl⟩ ⟨Nat.le_of_ble_eq_true rfl, Nat.le_of_ble_eq_true rfl⟩ (Nat.le_of_ble_eq_true rfl) ⟨Nat.le_of_ble_eq_true rfl, Nat.le_of_ble_eq_true rfl⟩ dX3_merge_6 (fun v15 σ_16 H locs hq hP hS => ?_)
  obtain ⟨rfl, rfl⟩ := hq
  refine W.eq (g2 := F0 m 9 ls [.int (if wk1_ (wood) then 1 else 0)]) rfl ?_
  refine lv_if_eq (tgt := 21) hx hb dX3_merge_9 (by decide) (fun h9 => ?_) (fun h9 => ?_)
  · have hq9 := g_pp0 h9
    refine lv_aload_n hx hb dX3_merge_21 rfl (lv_at hl 0 rfl) ?_
    refine lv_iconst (v := nI 1) hx hb dX3_merge_22 (by decide) ?_
    have hMp17 : g_Mf D σ_1 (nI 0) rs sg S N Z R T := ⟨hc3, hc4, hc5, hc6, hc7, hc8, hc9, hc10, hc11, hc12, hc13⟩
    refine g_callV0 (y := yX3_no) (n := 1) (As := [.int (nI 1)]) (rest := []) hx hb hml hown hts hE hZ hP hS hl.1 (m_X3_no l D hAD σ_1 (nI 0) rs sg S N Z R T hMp17 (nI 1)) k_X3_98 (ci := 3) (by decide) hc3 rfl rfl rfl rfl rfl ⟨rfl, rfl⟩ ⟨Nat.le_of_ble_eq_true rfl, Nat.le_of_ble_eq_true rfl⟩ (Nat.le_of_ble_eq_true rfl) ⟨Nat.le_of_ble_eq_true rfl, Nat.le_of_ble_eq_true rfl⟩ dX3_merge_23 (fun v18 σ_19 H locs hq hP hS => ?_)
    obtain ⟨rfl, hq2⟩ := hq
    refine W.eq (g2 := F0 m 26 ls [.int (nI 0)]) rfl ?_
    obtain ⟨hMn20, hon20⟩ := hq2
    obtain ⟨k21_20, k21_21, k21_22, k21_23, k21_24, k21_25, k21_26, k21_27, k21_28, k21_29, k21_30⟩ := id hMn20
    have ho22 := g_off.tr ho14 (g_off.wd hon20 (by decide) (by decide))
    have hMp23 : g_Mf D σ_19 (nI 1) rs sg S N Z R T := ⟨k21_20, k21_21, k21_22, k21_23, k21_24, k21_25, k21_26, k21_27, k21_28, k21_29, k21_30⟩
    have hMp24 : g_Mf D σ_19 (nI 1) rs sg S N Z R T := ⟨k21_20, k21_21, k21_22, k21_23, k21_24, k21_25, k21_26, k21_27, k21_28, k21_29, k21_30⟩
    rw [← hQ]
    exact W.iret (v := nI 0) hx hb hr (fun te9 hte9 _ => g_fin (⟨Or.inr ⟨1, by rw [er_merge, if_neg (fun q => hq9 q.1)], by decide, rfl, ⟨_, _, _, _, _, _, _, hMp24, hmr⟩⟩, ho22⟩) hP hS hte9) hS.2.2 dX3_merge_26 hlocks
  · have hq9 := g_pp1 h9
    obtain ⟨w, hw, hwe⟩ := ix_nat hq9 (by decide)
    subst hwe
    have hvw := hvC w hw
    have h24w := hvw.2
    have hvo := hvC (1 - w) (by omega)
    have h24o := hvo.2
    have hwl : wl_ Ls (nI w) = Ls w := wl_n hw
    have hot : ot_ Ls (nI w) = Ls (1 - w) := ot_n hw
    refine lv_iload_n hx hb dX3_merge_12 rfl (lv_at hl 2 rfl) ?_
    refine lv_iconst (v := nI 0) hx hb dX3_merge_13 (by decide) ?_
    refine lv_iconst (v := nI 3) hx hb dX3_merge_14 (by decide) ?_
    refine g_callS0 (y := yX3_isIn) (n := 3) (As := [.int rule, .int (nI 0), .int (nI 3)]) (rest := []) hx hb hml hown hts hE hZ hP hS hl.1 (m_X3_isIn l D hAD σ_1 (rule) (nI 0) (nI 3)) k_X3_44 rfl rfl ⟨rfl, rfl⟩ ⟨Nat.le_of_ble_eq_true rfl, Nat.le_of_ble_eq_true rfl⟩ (Nat.le_of_ble_eq_true rfl) ⟨Nat.le_of_ble_eq_true rfl, Nat.le_of_ble_eq_true rfl⟩ dX3_merge_15 (fun v25 σ_26 H locs hq hP hS => ?_)
    obtain ⟨rfl, rfl⟩ := hq
    refine W.eq (g2 := F0 m 18 ls [.int (if ¬ (rule) < (nI 0) ∧ ¬ (nI 3) < (rule) then 1 else 0)]) rfl ?_
    refine lv_if_ne (tgt := 27) hx hb dX3_merge_18 (by decide) (fun h18 => ?_) (fun h18 => ?_)
    · have hq18 := g_pp1 h18
      obtain ⟨r9, hr9, r9e⟩ := ix_nat (g := 3) hq18 (by decide)
      subst r9e
      refine lv_aload_n hx hb dX3_merge_27 rfl (lv_at hl 0 rfl) ?_
      have hMp27 : g_Mf D σ_1 (nI 0) rs sg S N Z R T := ⟨hc3, hc4, hc5, hc6, hc7, hc8, hc9, hc10, hc11, hc12, hc13⟩
      refine g_callV0 (y := yX3_common) (n := 0) (As := []) (rest := []) hx hb hml hown hts hE hZ hP hS hl.1 (m_X3_common l D hAD σ_1 (nI 0) rs sg S N Z R T hMp27 Ls hmr hvC) k_X3_111 (ci := 3) (by decide) hc3 rfl rfl rfl rfl rfl ⟨rfl, rfl⟩ ⟨Nat.le_of_ble_eq_true rfl, Nat.le_of_ble_eq_true rfl⟩ (Nat.le_of_ble_eq_true rfl) ⟨Nat.le_of_ble_eq_true rfl, Nat.le_of_ble_eq_true rfl⟩ dX3_merge_28 (fun v28 σ_29 H locs hq hP hS => ?_)
      obtain ⟨rfl, rfl⟩ := hq
      refine W.eq (g2 := F0 m 31 ls [.int (nI (cm_ (Ls 0) (Ls 1) (Ls 0).length))]) rfl ?_
      refine lv_istore_n (lv' := [(3, .int (nI (cm_ (Ls 0) (Ls 1) (Ls 0).length))), (0, .ref (ad_ D 20)), (1, .int (nI w)), (2, .int (nI r9))]) hx hb dX3_merge_31 rfl hl (by decide) rfl (fun ls hl => ?_)
      have hcw := cm_w hvC hw
      rw [hcw] at hl
      have hcm := cm_bd (Ls w) (Ls (1 - w))
      have hsz2 : (Ls 0).length + (Ls 1).length = (Ls w).length + (Ls (1 - w)).length := by rcases (show w = 0 ∨ w = 1 by omega) with rfl | rfl; rfl; exact Nat.add_comm _ _
      refine lv_aload_n hx hb dX3_merge_32 rfl (lv_at hl 1 rfl) ?_
      refine g_get hx hb hts hE hown hP g_inX3 rfl (by decide) hc3 1 (by decide) rfl wf_X3_9 (v := .ref (ad_ D 21)) rfl dX3_merge_33 ?_
      refine lv_iconst (v := nI 0) hx hb dX3_merge_36 (by decide) ?_
      refine g_ialdN (j := 0) hx hb hE hP (by decide) hc4 (by omega) (by decide) (v := nI ((Ls 0).length)) (hmr.S (by omega)) dX3_merge_37 ?_
      refine lv_aload_n hx hb dX3_merge_38 rfl (lv_at hl 1 rfl) ?_
      refine g_get hx hb hts hE hown hP g_inX3 rfl (by decide) hc3 1 (by decide) rfl wf_X3_9 (v := .ref (ad_ D 21)) rfl dX3_merge_39 ?_
      refine lv_iconst (v := nI 1) hx hb dX3_merge_42 (by decide) ?_
      refine g_ialdN (j := 1) hx hb hE hP (by decide) hc4 (by omega) (by decide) (v := nI ((Ls 1).length)) (hmr.S (by omega)) dX3_merge_43 ?_
      refine lv_iadd hx hb dX3_merge_44 ?_
      refine g_top (y := nI (((Ls 0).length) + ((Ls 1).length))) (nI_add ((Ls 0).length) ((Ls 1).length)) ?_
      refine lv_iload_n hx hb dX3_merge_45 rfl (lv_at hl 0 rfl) ?_
      refine lv_isub hx hb dX3_merge_46 ?_
      refine g_top (y := nI ((((Ls 0).length) + ((Ls 1).length)) - (cm_ (Ls w) (Ls (1 - w)) (Ls w).length))) (pk_sub (by omega)) ?_
      refine lv_bipush (v := nI 24) hx hb dX3_merge_47 (by decide) ?_
      refine lv_icmp_le (tgt := 58) hx hb dX3_merge_49 (by decide) (fun h49 => ?_) (fun h49 => ?_)
      · have hb49 := g_le (a := (((Ls 0).length) + ((Ls 1).length)) - (cm_ (Ls w) (Ls (1 - w)) (Ls w).length)) (b := 24) h49 (by omega) (by omega)
        refine lv_iconst (v := nI 1) hx hb dX3_merge_58 (by decide) ?_
        refine lv_iload_n hx hb dX3_merge_59 rfl (lv_at hl 2 rfl) ?_
        refine lv_isub hx hb dX3_merge_60 ?_
        refine g_top (y := nI (1 - w)) (pk_sub (by omega)) ?_
        refine lv_istore (lv' := [(4, .int (nI (1 - w))), (3, .int (nI (cm_ (Ls w) (Ls (1 - w)) (Ls w).length))), (0, .ref (ad_ D 20)), (1, .int (nI w)), (2, .int (nI r9))]) hx hb dX3_merge_61 hl (by decide) rfl (fun ls hl => ?_)
        refine lv_bipush (v := nI 24) hx hb dX3_merge_63 (by decide) ?_
        refine lv_iload_n hx hb dX3_merge_65 rfl (lv_at hl 3 rfl) ?_
        refine lv_imul hx hb dX3_merge_66 ?_
        refine g_top (y := nI (24 * w)) (pk_mul 24 w) ?_
        refine lv_istore (lv' := [(5, .int (nI (24 * w))), (4, .int (nI (1 - w))), (3, .int (nI (cm_ (Ls w) (Ls (1 - w)) (Ls w).length))), (0, .ref (ad_ D 20)), (1, .int (nI w)), (2, .int (nI r9))]) hx hb dX3_merge_67 hl (by decide) rfl (fun ls hl => ?_)
        have K69 : ∀ (fuel69 : Nat) (i : Nat) (σ2 : Nat → va_E) (Ls2 : Nat → g_L) (S2 N2 Z2 : Nat → Int32), ((Ls w).length - i) < fuel69 → (i ≤ (Ls w).length) → (g_Mf D σ2 (nI 0) rs sg S2 N2 Z2 R T) → (mr_ Ls2 S2 N2 Z2) → (Ls2 w = Ls w) → (Ls2 (1 - w) = mg_ r9 (Ls w) (Ls (1 - w)) i) → (g_off 20 30 σ σ2) → ∀ (H : Heap) (locs : List Loc), va_P D vwCl (g_W D σ2) H → va_S (g_A D s.heap.size) s.heap H locs → ∀ ls : Array Slot, lv_has ls 7 [(5, .int (nI ((24 * w) + i))), (4, .int (nI (1 - w))), (3, .int (nI (cm_ (Ls w) (Ls (1 - w)) (Ls w).length))), (0, .ref (ad_ D 20)), (1, .int (nI w)), (2, .int (nI r9))] → W p l e m_X3_merge_rm s m args below meth c H locs 0 0 Q (F0 m 69 ls []) := by
          intro fuel69
          induction fuel69 with
          | zero => intro i σ2 Ls2 S2 N2 Z2 hf; exact absurd hf (Nat.not_lt_zero _)
          | succ fuel69 ih69 =>
            intro i σ2 Ls2 S2 N2 Z2 hf69 hi hM2 hmr2 hA2 hB2 ho2 H locs hP hS ls hl
            obtain ⟨t_20, t_21, t_22, t_23, t_24, t_25, t_26, t_27, t_28, t_29, t_30⟩ := id hM2
            have hlA2 := congrArg List.length hA2
            have h24m := (hmr2 (1 - w) (by omega)).2.1
            refine lv_iload hx hb dX3_merge_69 (lv_at hl 0 rfl) ?_
            refine lv_bipush (v := nI 24) hx hb dX3_merge_71 (by decide) ?_
            refine lv_iload_n hx hb dX3_merge_73 rfl (lv_at hl 4 rfl) ?_
            refine lv_imul hx hb dX3_merge_74 ?_
            refine g_top (y := nI (24 * w)) (pk_mul 24 w) ?_
            refine lv_aload_n hx hb dX3_merge_75 rfl (lv_at hl 3 rfl) ?_
            refine g_get hx hb hts hE hown hP g_inX3 rfl (by decide) t_20 1 (by decide) rfl wf_X3_9 (v := .ref (ad_ D 21)) rfl dX3_merge_76 ?_
            refine lv_iload_n hx hb dX3_merge_79 rfl (lv_at hl 4 rfl) ?_
            refine g_ialdN (j := w) hx hb hE hP (by decide) t_21 (by omega) (by decide) (v := nI ((Ls w).length)) ((hmr2.S hw).trans (by rw [hA2])) dX3_merge_80 ?_
            refine lv_iadd hx hb dX3_merge_81 ?_
            refine g_top (y := nI ((24 * w) + ((Ls w).length))) (nI_add (24 * w) ((Ls w).length)) ?_
            refine lv_icmp_ge (tgt := 176) hx hb dX3_merge_82 (by decide) (fun h82 => ?_) (fun h82 => ?_)
            · have hb82 := g_le (a := (24 * w) + ((Ls w).length)) (b := (24 * w) + i) h82 (by omega) (by omega)
              have hi2 : i = (Ls w).length := by omega
              refine lv_aload_n hx hb dX3_merge_176 rfl (lv_at hl 3 rfl) ?_
              refine g_get hx hb hts hE hown hP g_inX3 rfl (by decide) t_20 1 (by decide) rfl wf_X3_9 (v := .ref (ad_ D 21)) rfl dX3_merge_177 ?_
              refine lv_iload_n hx hb dX3_merge_180 rfl (lv_at hl 4 rfl) ?_
              refine lv_iconst (v := nI 0) hx hb dX3_merge_181 (by decide) ?_
              refine g_iastN (j := w) (x := nI 0) hx hb hE hAD hP hS (by decide) t_21 (by omega) (by decide) dX3_merge_182 (fun H locs hP hS => ?_)
              obtain ⟨σ_30, hσ31⟩ : ∃ z : Nat → va_E, z = va_up σ2 21 (.inl (g_cI D, 2, .inl (upd S2 w (nI 0)))) := ⟨_, rfl⟩
              have hP : va_P D vwCl (g_W D σ_30) H := by rw [hσ31]; exact hP
              have hc32 := (by rw [hσ31]; exact g_upn t_20 (by decide) : σ_30 20 = .inr (3, [.int (nI 0), .ref (ad_ D 21), .ref (ad_ D 22), .ref (ad_ D 23), .ref (ad_ D 24), .int rs, .int sg, .ref (ad_ D 25), .ref (ad_ D 26), .ref (ad_ D 27), .ref (ad_ D 28), .ref (ad_ D 29), .ref (ad_ D 30)]))
              have hc33 : σ_30 21 = .inl (g_cI D, 2, .inl (upd S2 w (nI 0))) := by rw [hσ31]; exact g_ups
              have hc34 := (by rw [hσ31]; exact g_upn t_22 (by decide) : σ_30 22 = .inl (g_cI D, 48, .inl (N2)))
              have hc35 := (by rw [hσ31]; exact g_upn t_23 (by decide) : σ_30 23 = .inl (g_cI D, 48, .inl (Z2)))
              have hc36 := (by rw [hσ31]; exact g_upn t_24 (by decide) : σ_30 24 = .inl (g_cI D, 48, .inl (R)))
              have hc37 := (by rw [hσ31]; exact g_upn t_25 (by decide) : σ_30 25 = .inl (g_cI D, 96, .inl (T 0)))
              have hc38 := (by rw [hσ31]; exact g_upn t_26 (by decide) : σ_30 26 = .inl (g_cI D, 96, .inl (T 1)))
              have hc39 := (by rw [hσ31]; exact g_upn t_27 (by decide) : σ_30 27 = .inl (g_cI D, 96, .inl (T 2)))
              have hc40 := (by rw [hσ31]; exact g_upn t_28 (by decide) : σ_30 28 = .inl (g_cI D, 96, .inl (T 3)))
              have hc41 := (by rw [hσ31]; exact g_upn t_29 (by decide) : σ_30 29 = .inl (g_cI D, 96, .inl (T 4)))
              have hc42 := (by rw [hσ31]; exact g_upn t_30 (by decide) : σ_30 30 = .inl (g_cI D, 96, .inl (T 5)))
              have ho43 : g_off 20 30 σ σ_30 := by rw [hσ31]; exact g_off.up ho2 (by decide) (by decide)
              refine lv_iload_n hx hb dX3_merge_183 rfl (lv_at hl 2 rfl) ?_
              have hMp44 : g_Mf D σ_30 (nI 0) rs sg (upd S2 w (nI 0)) N2 Z2 R T := ⟨hc32, hc33, hc34, hc35, hc36, hc37, hc38, hc39, hc40, hc41, hc42⟩
              rw [← hQ]
              exact W.iret (v := nI (cm_ (Ls w) (Ls (1 - w)) (Ls w).length)) hx hb hr (fun te9 hte9 _ => g_fin (⟨Or.inl ⟨by rw [er_merge, if_pos (⟨ix_of hw (by decide), ix_of hr9 (by decide)⟩ : wk1_ _ ∧ ix_ _ _), hwl, hot, if_neg (by omega)], w, r9, hw, rfl, hr9, rfl, rfl, _, _, _, _, _, _, _, hMp44, mr_ext (mr_clear hmr2 hw) (fun v hv => mgx hw hv hA2 (by rw [hB2, hi2]))⟩, ho43⟩) hP hS hte9) hS.2.2 dX3_merge_184 hlocks
            · have hb82 := g_nle (a := (24 * w) + ((Ls w).length)) (b := (24 * w) + i) h82 (by omega) (by omega)
              have hil : i < (Ls w).length := by omega
              have hne9 := vL_ne hvw.1 i hil
              have hvm : vL_ (Ls2 (1 - w)) := by rw [hB2]; exact vL_mg hvw.1 hvo.1 i (by omega)
              refine lv_aload_n hx hb dX3_merge_85 rfl (lv_at hl 3 rfl) ?_
              refine lv_iload hx hb dX3_merge_86 (lv_at hl 1 rfl) ?_
              refine lv_aload_n hx hb dX3_merge_88 rfl (lv_at hl 3 rfl) ?_
              refine g_get hx hb hts hE hown hP g_inX3 rfl (by decide) t_20 2 (by decide) rfl wf_X3_13 (v := .ref (ad_ D 22)) rfl dX3_merge_89 ?_
              refine lv_iload hx hb dX3_merge_92 (lv_at hl 0 rfl) ?_
              refine g_ialdN (j := (24 * w) + i) hx hb hE hP (by decide) t_22 (by omega) (by decide) (v := fn_ (Ls w) i) ((hmr2.N hw (by omega)).trans (by rw [hA2])) dX3_merge_94 ?_
              have hMp45 : g_Mf D σ2 (nI 0) rs sg S2 N2 Z2 R T := ⟨t_20, t_21, t_22, t_23, t_24, t_25, t_26, t_27, t_28, t_29, t_30⟩
              refine g_callV0 (y := yX3_isThere) (n := 2) (As := [.int (nI (1 - w)), .int (fn_ (Ls w) i)]) (rest := []) hx hb hml hown hts hE hZ hP hS hl.1 (m_X3_isThere l D hAD σ2 (nI 0) rs sg S2 N2 Z2 R T hMp45 Ls2 (1 - w) (fn_ (Ls w) i) hmr2 (by omega) hne9) k_X3_65 (ci := 3) (by decide) t_20 rfl rfl rfl rfl rfl ⟨rfl, rfl⟩ ⟨Nat.le_of_ble_eq_true rfl, Nat.le_of_ble_eq_true rfl⟩ (Nat.le_of_ble_eq_true rfl) ⟨Nat.le_of_ble_eq_true rfl, Nat.le_of_ble_eq_true rfl⟩ dX3_merge_95 (fun v46 σ_47 H locs hq hP hS => ?_)
              obtain ⟨rfl, rfl⟩ := hq
              refine W.eq (g2 := F0 m 98 ls [.int (if fn_ (Ls2 (1 - w)) (rk_ (Ls2 (1 - w)) (fn_ (Ls w) i)) = fn_ (Ls w) i then 1 else 0)]) rfl ?_
              refine lv_if_ne (tgt := 124) hx hb dX3_merge_98 (by decide) (fun h98 => ?_) (fun h98 => ?_)
              · have hq98 := g_pp1 h98
                have hlt98 := fn_in hq98 hne9
                refine lv_bipush (v := nI 24) hx hb dX3_merge_124 (by decide) ?_
                refine lv_iload hx hb dX3_merge_126 (lv_at hl 1 rfl) ?_
                refine lv_imul hx hb dX3_merge_128 ?_
                refine g_top (y := nI (24 * (1 - w))) (pk_mul 24 (1 - w)) ?_
                refine lv_aload_n hx hb dX3_merge_129 rfl (lv_at hl 3 rfl) ?_
                refine lv_iload hx hb dX3_merge_130 (lv_at hl 1 rfl) ?_
                refine lv_aload_n hx hb dX3_merge_132 rfl (lv_at hl 3 rfl) ?_
                refine g_get hx hb hts hE hown hP g_inX3 rfl (by decide) t_20 2 (by decide) rfl wf_X3_13 (v := .ref (ad_ D 22)) rfl dX3_merge_133 ?_
                refine lv_iload hx hb dX3_merge_136 (lv_at hl 0 rfl) ?_
                refine g_ialdN (j := (24 * w) + i) hx hb hE hP (by decide) t_22 (by omega) (by decide) (v := fn_ (Ls w) i) ((hmr2.N hw (by omega)).trans (by rw [hA2])) dX3_merge_138 ?_
                have hMp48 : g_Mf D σ2 (nI 0) rs sg S2 N2 Z2 R T := ⟨t_20, t_21, t_22, t_23, t_24, t_25, t_26, t_27, t_28, t_29, t_30⟩
                refine g_callV0 (y := yX3_smaller) (n := 2) (As := [.int (nI (1 - w)), .int (fn_ (Ls w) i)]) (rest := [.int (nI (24 * (1 - w)))]) hx hb hml hown hts hE hZ hP hS hl.1 (m_X3_smaller l D hAD σ2 (nI 0) rs sg S2 N2 Z2 R T hMp48 Ls2 (1 - w) (fn_ (Ls w) i) hmr2 (by omega)) k_X3_55 (ci := 3) (by decide) t_20 rfl rfl rfl rfl rfl ⟨rfl, rfl⟩ ⟨Nat.le_of_ble_eq_true rfl, Nat.le_of_ble_eq_true rfl⟩ (Nat.le_of_ble_eq_true rfl) ⟨Nat.le_of_ble_eq_true rfl, Nat.le_of_ble_eq_true rfl⟩ dX3_merge_139 (fun v49 σ_50 H locs hq hP hS => ?_)
                obtain ⟨rfl, rfl⟩ := hq
                refine W.eq (g2 := F0 m 142 ls [.int (nI (rk_ (Ls2 (1 - w)) (fn_ (Ls w) i))), .int (nI (24 * (1 - w)))]) rfl ?_
                have hrk139 := rk_le (Ls2 (1 - w)) (fn_ (Ls w) i)
                refine lv_iadd hx hb dX3_merge_142 ?_
                refine g_top (y := nI ((24 * (1 - w)) + (rk_ (Ls2 (1 - w)) (fn_ (Ls w) i)))) (nI_add (24 * (1 - w)) (rk_ (Ls2 (1 - w)) (fn_ (Ls w) i))) ?_
                refine lv_istore (lv' := [(6, .int (nI ((24 * (1 - w)) + (rk_ (Ls2 (1 - w)) (fn_ (Ls w) i))))), (5, .int (nI ((24 * w) + i))), (4, .int (nI (1 - w))), (3, .int (nI (cm_ (Ls w) (Ls (1 - w)) (Ls w).length))), (0, .ref (ad_ D 20)), (1, .int (nI w)), (2, .int (nI r9))]) hx hb dX3_merge_143 hl (by decide) rfl (fun ls hl => ?_)
                refine lv_aload_n hx hb dX3_merge_145 rfl (lv_at hl 4 rfl) ?_
                refine g_get hx hb hts hE hown hP g_inX3 rfl (by decide) t_20 3 (by decide) rfl wf_X3_16 (v := .ref (ad_ D 23)) rfl dX3_merge_146 ?_
                refine lv_iload hx hb dX3_merge_149 (lv_at hl 0 rfl) ?_
                refine lv_iload_n hx hb dX3_merge_151 rfl (lv_at hl 6 rfl) ?_
                refine lv_aload_n hx hb dX3_merge_152 rfl (lv_at hl 4 rfl) ?_
                refine g_get hx hb hts hE hown hP g_inX3 rfl (by decide) t_20 3 (by decide) rfl wf_X3_16 (v := .ref (ad_ D 23)) rfl dX3_merge_153 ?_
                refine lv_iload hx hb dX3_merge_156 (lv_at hl 1 rfl) ?_
                refine g_ialdN (j := (24 * w) + i) hx hb hE hP (by decide) t_23 (by omega) (by decide) (v := gn_ (Ls w) i) ((hmr2.Q hw (by omega)).trans (by rw [hA2])) dX3_merge_158 ?_
                refine lv_aload_n hx hb dX3_merge_159 rfl (lv_at hl 4 rfl) ?_
                refine g_get hx hb hts hE hown hP g_inX3 rfl (by decide) t_20 3 (by decide) rfl wf_X3_16 (v := .ref (ad_ D 23)) rfl dX3_merge_160 ?_
                refine lv_iload hx hb dX3_merge_163 (lv_at hl 0 rfl) ?_
                refine g_ialdN (j := (24 * (1 - w)) + (rk_ (Ls2 (1 - w)) (fn_ (Ls w) i))) hx hb hE hP (by decide) t_23 (by omega) (by decide) (v := gn_ (Ls2 ((1 - w))) ((rk_ (Ls2 (1 - w)) (fn_ (Ls w) i)))) (hmr2.Q (by omega) (by omega)) dX3_merge_165 ?_
                refine g_callS0 (y := yX3_joined) (n := 3) (As := [.int (nI r9), .int (gn_ (Ls w) i), .int (gn_ (Ls2 ((1 - w))) ((rk_ (Ls2 (1 - w)) (fn_ (Ls w) i))))]) (rest := [.int (nI ((24 * (1 - w)) + (rk_ (Ls2 (1 - w)) (fn_ (Ls w) i)))), .ref (ad_ D 23)]) hx hb hml hown hts hE hZ hP hS hl.1 (m_X3_joined l D hAD σ2 r9 (gn_ (Ls w) i) (gn_ (Ls2 ((1 - w))) ((rk_ (Ls2 (1 - w)) (fn_ (Ls w) i)))) (by omega) (ne_m1 (hvm.2.2 _ hlt98).1)) k_X3_115 rfl rfl ⟨rfl, rfl⟩ ⟨Nat.le_of_ble_eq_true rfl, Nat.le_of_ble_eq_true rfl⟩ (Nat.le_of_ble_eq_true rfl) ⟨Nat.le_of_ble_eq_true rfl, Nat.le_of_ble_eq_true rfl⟩ dX3_merge_166 (fun v51 σ_52 H locs hq hP hS => ?_)
                obtain ⟨rfl, rfl⟩ := hq
                refine W.eq (g2 := F0 m 169 ls [.int (mgm_ r9 (gn_ (Ls w) i) (gn_ (Ls2 ((1 - w))) ((rk_ (Ls2 (1 - w)) (fn_ (Ls w) i))))), .int (nI ((24 * (1 - w)) + (rk_ (Ls2 (1 - w)) (fn_ (Ls w) i)))), .ref (ad_ D 23)]) rfl ?_
                refine g_iastN (j := (24 * (1 - w)) + (rk_ (Ls2 (1 - w)) (fn_ (Ls w) i))) (x := mgm_ r9 (gn_ (Ls w) i) (gn_ (Ls2 ((1 - w))) ((rk_ (Ls2 (1 - w)) (fn_ (Ls w) i))))) hx hb hE hAD hP hS (by decide) t_23 (by omega) (by decide) dX3_merge_169 (fun H locs hP hS => ?_)
                obtain ⟨σ_53, hσ54⟩ : ∃ z : Nat → va_E, z = va_up σ2 23 (.inl (g_cI D, 48, .inl (upd Z2 ((24 * (1 - w)) + (rk_ (Ls2 (1 - w)) (fn_ (Ls w) i))) (mgm_ r9 (gn_ (Ls w) i) (gn_ (Ls2 ((1 - w))) ((rk_ (Ls2 (1 - w)) (fn_ (Ls w) i)))))))) := ⟨_, rfl⟩
                have hP : va_P D vwCl (g_W D σ_53) H := by rw [hσ54]; exact hP
                have hc55 := (by rw [hσ54]; exact g_upn t_20 (by decide) : σ_53 20 = .inr (3, [.int (nI 0), .ref (ad_ D 21), .ref (ad_ D 22), .ref (ad_ D 23), .ref (ad_ D 24), .int rs, .int sg, .ref (ad_ D 25), .ref (ad_ D 26), .ref (ad_ D 27), .ref (ad_ D 28), .ref (ad_ D 29), .ref (ad_ D 30)]))
                have hc56 := (by rw [hσ54]; exact g_upn t_21 (by decide) : σ_53 21 = .inl (g_cI D, 2, .inl (S2)))
                have hc57 := (by rw [hσ54]; exact g_upn t_22 (by decide) : σ_53 22 = .inl (g_cI D, 48, .inl (N2)))
                have hc58 : σ_53 23 = .inl (g_cI D, 48, .inl (upd Z2 ((24 * (1 - w)) + (rk_ (Ls2 (1 - w)) (fn_ (Ls w) i))) (mgm_ r9 (gn_ (Ls w) i) (gn_ (Ls2 ((1 - w))) ((rk_ (Ls2 (1 - w)) (fn_ (Ls w) i))))))) := by rw [hσ54]; exact g_ups
                have hc59 := (by rw [hσ54]; exact g_upn t_24 (by decide) : σ_53 24 = .inl (g_cI D, 48, .inl (R)))
                have hc60 := (by rw [hσ54]; exact g_upn t_25 (by decide) : σ_53 25 = .inl (g_cI D, 96, .inl (T 0)))
                have hc61 := (by rw [hσ54]; exact g_upn t_26 (by decide) : σ_53 26 = .inl (g_cI D, 96, .inl (T 1)))
                have hc62 := (by rw [hσ54]; exact g_upn t_27 (by decide) : σ_53 27 = .inl (g_cI D, 96, .inl (T 2)))
                have hc63 := (by rw [hσ54]; exact g_upn t_28 (by decide) : σ_53 28 = .inl (g_cI D, 96, .inl (T 3)))
                have hc64 := (by rw [hσ54]; exact g_upn t_29 (by decide) : σ_53 29 = .inl (g_cI D, 96, .inl (T 4)))
                have hc65 := (by rw [hσ54]; exact g_upn t_30 (by decide) : σ_53 30 = .inl (g_cI D, 96, .inl (T 5)))
                have ho66 : g_off 20 30 σ σ_53 := by rw [hσ54]; exact g_off.up ho2 (by decide) (by decide)
                refine lv_iinc (v := nI ((24 * w) + i + 1)) (lv' := [(5, .int (nI ((24 * w) + i + 1))), (6, .int (nI ((24 * (1 - w)) + (rk_ (Ls2 (1 - w)) (fn_ (Ls w) i))))), (4, .int (nI (1 - w))), (3, .int (nI (cm_ (Ls w) (Ls (1 - w)) (Ls w).length))), (0, .ref (ad_ D 20)), (1, .int (nI w)), (2, .int (nI r9))]) hx hb dX3_merge_170 hl (k := 1) rfl (g_inc ((24 * w) + i)) (by decide) rfl (fun ls hl => ?_)
                refine lv_goto (tgt := 69) hx hb dX3_merge_173 (by decide) ?_
                have hMp67 : g_Mf D σ_53 (nI 0) rs sg S2 N2 (upd Z2 ((24 * (1 - w)) + (rk_ (Ls2 (1 - w)) (fn_ (Ls w) i))) (mgm_ r9 (gn_ (Ls w) i) (gn_ (Ls2 ((1 - w))) ((rk_ (Ls2 (1 - w)) (fn_ (Ls w) i)))))) R T := ⟨hc55, hc56, hc57, hc58, hc59, hc60, hc61, hc62, hc63, hc64, hc65⟩
                exact ih69 (i + 1) σ_53 (ul_ Ls2 (1 - w) (st_ (Ls2 (1 - w)) (fn_ (Ls w) i) (mgm_ r9 (gn_ (Ls w) i) (gn_ (Ls2 (1 - w)) (rk_ (Ls2 (1 - w)) (fn_ (Ls w) i)))))) S2 N2 (upd Z2 ((24 * (1 - w)) + (rk_ (Ls2 (1 - w)) (fn_ (Ls w) i))) (mgm_ r9 (gn_ (Ls w) i) (gn_ (Ls2 ((1 - w))) ((rk_ (Ls2 (1 - w)) (fn_ (Ls w) i)))))) (by omega) (by omega) hMp67 ((mr_set hmr2 (by omega) hne9 hq98)) (by rw [ul_ne (by omega)]; exact hA2) (by rw [ul_at]; exact mg_old hB2 hq98) ho66 _ _ hP hS ls (lv_sub hl [0, 2, 3, 4, 5, 6] rfl)
              · have hq98 := g_pp0 h98
                have hl24m : (Ls2 (1 - w)).length < 24 := by rw [hB2]; exact mg_room hvw.1 hvo.1 hil (by omega) (by rw [← hB2]; exact hq98)
                refine lv_aload_n hx hb dX3_merge_101 rfl (lv_at hl 3 rfl) ?_
                refine lv_iload hx hb dX3_merge_102 (lv_at hl 1 rfl) ?_
                refine lv_aload_n hx hb dX3_merge_104 rfl (lv_at hl 3 rfl) ?_
                refine g_get hx hb hts hE hown hP g_inX3 rfl (by decide) t_20 2 (by decide) rfl wf_X3_13 (v := .ref (ad_ D 22)) rfl dX3_merge_105 ?_
                refine lv_iload hx hb dX3_merge_108 (lv_at hl 0 rfl) ?_
                refine g_ialdN (j := (24 * w) + i) hx hb hE hP (by decide) t_22 (by omega) (by decide) (v := fn_ (Ls w) i) ((hmr2.N hw (by omega)).trans (by rw [hA2])) dX3_merge_110 ?_
                refine lv_aload_n hx hb dX3_merge_111 rfl (lv_at hl 3 rfl) ?_
                refine g_get hx hb hts hE hown hP g_inX3 rfl (by decide) t_20 3 (by decide) rfl wf_X3_16 (v := .ref (ad_ D 23)) rfl dX3_merge_112 ?_
                refine lv_iload hx hb dX3_merge_115 (lv_at hl 0 rfl) ?_
                refine g_ialdN (j := (24 * w) + i) hx hb hE hP (by decide) t_23 (by omega) (by decide) (v := gn_ (Ls w) i) ((hmr2.Q hw (by omega)).trans (by rw [hA2])) dX3_merge_117 ?_
                have hMp68 : g_Mf D σ2 (nI 0) rs sg S2 N2 Z2 R T := ⟨t_20, t_21, t_22, t_23, t_24, t_25, t_26, t_27, t_28, t_29, t_30⟩
                refine g_callV0 (y := yX3_insert) (n := 3) (As := [.int (nI (1 - w)), .int (fn_ (Ls w) i), .int (gn_ (Ls w) i)]) (rest := []) hx hb hml hown hts hE hZ hP hS hl.1 (m_X3_insert l D hAD σ2 (nI 0) rs sg S2 N2 Z2 R T hMp68 Ls2 (1 - w) (fn_ (Ls w) i) (gn_ (Ls w) i) hmr2 (by omega) hq98 hl24m) k_X3_104 (ci := 3) (by decide) t_20 rfl rfl rfl rfl rfl ⟨rfl, rfl⟩ ⟨Nat.le_of_ble_eq_true rfl, Nat.le_of_ble_eq_true rfl⟩ (Nat.le_of_ble_eq_true rfl) ⟨Nat.le_of_ble_eq_true rfl, Nat.le_of_ble_eq_true rfl⟩ dX3_merge_118 (fun v69 σ_70 H locs hq hP hS => ?_)
                obtain ⟨rfl, hq2⟩ := hq
                refine W.eq (g2 := F0 m 121 ls []) rfl ?_
                obtain ⟨⟨Sn71, Nn71, Qn71, hMn71, hmrn71⟩, hofn71⟩ := hq2
                obtain ⟨k72_20, k72_21, k72_22, k72_23, k72_24, k72_25, k72_26, k72_27, k72_28, k72_29, k72_30⟩ := id hMn71
                have ho73 := g_off.tr ho2 (g_off.wd hofn71 (by decide) (by decide))
                refine lv_goto (tgt := 170) hx hb dX3_merge_121 (by decide) ?_
                refine lv_iinc (v := nI ((24 * w) + i + 1)) (lv' := [(5, .int (nI ((24 * w) + i + 1))), (4, .int (nI (1 - w))), (3, .int (nI (cm_ (Ls w) (Ls (1 - w)) (Ls w).length))), (0, .ref (ad_ D 20)), (1, .int (nI w)), (2, .int (nI r9))]) hx hb dX3_merge_170 hl (k := 0) rfl (g_inc ((24 * w) + i)) (by decide) rfl (fun ls hl => ?_)
                refine lv_goto (tgt := 69) hx hb dX3_merge_173 (by decide) ?_
                have hMp74 : g_Mf D σ_70 (nI 0) rs sg Sn71 Nn71 Qn71 R T := ⟨k72_20, k72_21, k72_22, k72_23, k72_24, k72_25, k72_26, k72_27, k72_28, k72_29, k72_30⟩
                exact ih69 (i + 1) σ_70 ((ul_ Ls2 (1 - w) (st_ (Ls2 (1 - w)) (fn_ (Ls w) i) (gn_ (Ls w) i)))) Sn71 Nn71 Qn71 (by omega) (by omega) hMp74 hmrn71 (by rw [ul_ne (by omega)]; exact hA2) (by rw [ul_at]; exact mg_new hB2 ((mo_not hvm hne9).mpr hq98)) ho73 _ _ hP hS ls (lv_sub hl [0, 1, 2, 3, 4, 5] rfl)
        have hMp75 : g_Mf D σ_1 (nI 0) rs sg S N Z R T := ⟨hc3, hc4, hc5, hc6, hc7, hc8, hc9, hc10, hc11, hc12, hc13⟩
        exact K69 (((Ls w).length - 0) + 1) 0 σ_1 Ls S N Z (Nat.lt_succ_self _) (Nat.zero_le _) hMp75 hmr rfl rfl ho14 _ _ hP hS ls (lv_sub hl [0, 1, 2, 3, 4, 5] rfl)
      · have hb49 := g_nle (a := (((Ls 0).length) + ((Ls 1).length)) - (cm_ (Ls w) (Ls (1 - w)) (Ls w).length)) (b := 24) h49 (by omega) (by omega)
        refine lv_aload_n hx hb dX3_merge_52 rfl (lv_at hl 1 rfl) ?_
        refine lv_iconst (v := nI 2) hx hb dX3_merge_53 (by decide) ?_
        have hMp76 : g_Mf D σ_1 (nI 0) rs sg S N Z R T := ⟨hc3, hc4, hc5, hc6, hc7, hc8, hc9, hc10, hc11, hc12, hc13⟩
        refine g_callV0 (y := yX3_no) (n := 1) (As := [.int (nI 2)]) (rest := []) hx hb hml hown hts hE hZ hP hS hl.1 (m_X3_no l D hAD σ_1 (nI 0) rs sg S N Z R T hMp76 (nI 2)) k_X3_98 (ci := 3) (by decide) hc3 rfl rfl rfl rfl rfl ⟨rfl, rfl⟩ ⟨Nat.le_of_ble_eq_true rfl, Nat.le_of_ble_eq_true rfl⟩ (Nat.le_of_ble_eq_true rfl) ⟨Nat.le_of_ble_eq_true rfl, Nat.le_of_ble_eq_true rfl⟩ dX3_merge_54 (fun v77 σ_78 H locs hq hP hS => ?_)
        obtain ⟨rfl, hq2⟩ := hq
        refine W.eq (g2 := F0 m 57 ls [.int (nI 0)]) rfl ?_
        obtain ⟨hMn79, hon79⟩ := hq2
        obtain ⟨k80_20, k80_21, k80_22, k80_23, k80_24, k80_25, k80_26, k80_27, k80_28, k80_29, k80_30⟩ := id hMn79
        have ho81 := g_off.tr ho14 (g_off.wd hon79 (by decide) (by decide))
        have hMp82 : g_Mf D σ_78 (nI 2) rs sg S N Z R T := ⟨k80_20, k80_21, k80_22, k80_23, k80_24, k80_25, k80_26, k80_27, k80_28, k80_29, k80_30⟩
        have hMp83 : g_Mf D σ_78 (nI 2) rs sg S N Z R T := ⟨k80_20, k80_21, k80_22, k80_23, k80_24, k80_25, k80_26, k80_27, k80_28, k80_29, k80_30⟩
        rw [← hQ]
        exact W.iret (v := nI 0) hx hb hr (fun te9 hte9 _ => g_fin (⟨Or.inr ⟨2, by rw [er_merge, if_pos (⟨ix_of hw (by decide), ix_of hr9 (by decide)⟩ : wk1_ _ ∧ ix_ _ _), hwl, hot, if_pos (by omega)], by decide, rfl, ⟨_, _, _, _, _, _, _, hMp83, hmr⟩⟩, ho81⟩) hP hS hte9) hS.2.2 dX3_merge_57 hlocks
    · have hq18 := g_pp0 h18
      refine lv_aload_n hx hb dX3_merge_21 rfl (lv_at hl 0 rfl) ?_
      refine lv_iconst (v := nI 1) hx hb dX3_merge_22 (by decide) ?_
      have hMp84 : g_Mf D σ_1 (nI 0) rs sg S N Z R T := ⟨hc3, hc4, hc5, hc6, hc7, hc8, hc9, hc10, hc11, hc12, hc13⟩
      refine g_callV0 (y := yX3_no) (n := 1) (As := [.int (nI 1)]) (rest := []) hx hb hml hown hts hE hZ hP hS hl.1 (m_X3_no l D hAD σ_1 (nI 0) rs sg S N Z R T hMp84 (nI 1)) k_X3_98 (ci := 3) (by decide) hc3 rfl rfl rfl rfl rfl ⟨rfl, rfl⟩ ⟨Nat.le_of_ble_eq_true rfl, Nat.le_of_ble_eq_true rfl⟩ (Nat.le_of_ble_eq_true rfl) ⟨Nat.le_of_ble_eq_true rfl, Nat.le_of_ble_eq_true rfl⟩ dX3_merge_23 (fun v85 σ_86 H locs hq hP hS => ?_)
      obtain ⟨rfl, hq2⟩ := hq
      refine W.eq (g2 := F0 m 26 ls [.int (nI 0)]) rfl ?_
      obtain ⟨hMn87, hon87⟩ := hq2
      obtain ⟨k88_20, k88_21, k88_22, k88_23, k88_24, k88_25, k88_26, k88_27, k88_28, k88_29, k88_30⟩ := id hMn87
      have ho89 := g_off.tr ho14 (g_off.wd hon87 (by decide) (by decide))
      have hMp90 : g_Mf D σ_86 (nI 1) rs sg S N Z R T := ⟨k88_20, k88_21, k88_22, k88_23, k88_24, k88_25, k88_26, k88_27, k88_28, k88_29, k88_30⟩
      have hMp91 : g_Mf D σ_86 (nI 1) rs sg S N Z R T := ⟨k88_20, k88_21, k88_22, k88_23, k88_24, k88_25, k88_26, k88_27, k88_28, k88_29, k88_30⟩
      rw [← hQ]
      exact W.iret (v := nI 0) hx hb hr (fun te9 hte9 _ => g_fin (⟨Or.inr ⟨1, by rw [er_merge, if_neg (fun q => hq18 q.2)], by decide, rfl, ⟨_, _, _, _, _, _, _, hMp91, hmr⟩⟩, ho89⟩) hP hS hte9) hS.2.2 dX3_merge_26 hlocks
