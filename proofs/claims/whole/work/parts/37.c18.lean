abbrev m_X3_counted_rm : Room := { frames := 63, cells := 0, slots := 0, locals := 1566 }
set_option maxHeartbeats 4000000 in
set_option maxRecDepth 100000 in
theorem m_X3_counted (l : Launch) (D : va_G) (hAD : g_AD D) (σ : Nat → va_E) (th rs sg : Int32) (S N Z R : Nat → Int32) (T : Nat → Nat → Int32) (hM : g_Mf D σ th rs sg S N Z R T) (Ls : Nat → g_L) (w t : Nat) (hmr : mr_ Ls S N Z) (hw : w ≤ 1) (ht : t ≤ 6) (hvw : vL_ (Ls w)) : g_M l D yX3_counted cX3_counted 5 (some .int) m_X3_counted_rm [.ref (ad_ D 20), .int (nI w), .int (nI t)] σ (fun v1 σ1 => v1 = some (.int (cn_ (Ls w) t)) ∧ (∃ R1 T1, g_Mf D σ1 th (nI (Ls w).length) (nI (zs_ (Ls w).length)) S N Z R1 T1 ∧ (∀ j, j < (Ls w).length → R1 j = fn_ (Ls w) j) ∧ mB_ (fn_ (Ls w)) (Ls w).length T1) ∧ g_off 20 30 σ σ1) := by
  refine g_ofW [(0, .ref (ad_ D 20)), (1, .int (nI w)), (2, .int (nI t))] (by decide +kernel) (Nat.le_of_ble_eq_true rfl) rfl ?_
  intro p e s m args below meth c hx hb hr hml hown hlocks hts hE hZ hP hS hnm ls hl
  have hown : s.vm.findClass RX3 = some m.cls := hown
  generalize hQ : MQ _ _ _ _ _ _ _ = Q
  obtain ⟨k20, k21, k22, k23, k24, k25, k26, k27, k28, k29, k30⟩ := id hM
  have h24w := (hmr w hw).2.1
  have hpc := pc_n hvw
  refine lv_aload_n hx hb dX3_counted_0 rfl (lv_at hl 0 rfl) ?_
  refine lv_iload_n hx hb dX3_counted_1 rfl (lv_at hl 1 rfl) ?_
  have hMp1 : g_Mf D σ th rs sg S N Z R T := ⟨k20, k21, k22, k23, k24, k25, k26, k27, k28, k29, k30⟩
  refine g_callV0 (y := yX3_look) (n := 1) (As := [.int (nI w)]) (rest := []) hx hb hml hown hts hE hZ hP hS hl.1 (m_X3_look l D hAD σ th rs sg S N Z R T hMp1 Ls w hmr (by omega) hvw) k_X3_118 (ci := 3) (by decide) k20 rfl rfl rfl rfl rfl ⟨rfl, rfl⟩ ⟨Nat.le_of_ble_eq_true rfl, Nat.le_of_ble_eq_true rfl⟩ (Nat.le_of_ble_eq_true rfl) ⟨Nat.le_of_ble_eq_true rfl, Nat.le_of_ble_eq_true rfl⟩ dX3_counted_2 (fun v2 σ_3 H locs hq hP hS => ?_)
  obtain ⟨rfl, hq2⟩ := hq
  refine W.eq (g2 := F0 m 5 ls []) rfl ?_
  obtain ⟨⟨Rn4, Tn4, hMn4, hRln4, hTln4⟩, hofn4⟩ := hq2
  obtain ⟨k5_20, k5_21, k5_22, k5_23, k5_24, k5_25, k5_26, k5_27, k5_28, k5_29, k5_30⟩ := id hMn4
  have ho6 := g_off.tr (g_off.rf (lo := 20) (hi := 30) (σ := σ)) (g_off.wd hofn4 (by decide) (by decide))
  refine lv_iconst (v := nI 0) hx hb dX3_counted_5 (by decide) ?_
  refine lv_istore_n (lv' := [(3, .int (nI 0)), (0, .ref (ad_ D 20)), (1, .int (nI w)), (2, .int (nI t))]) hx hb dX3_counted_6 rfl hl (by decide) rfl (fun ls hl => ?_)
  refine lv_iload_n hx hb dX3_counted_7 rfl (lv_at hl 3 rfl) ?_
  rcases (show t = 0 ∨ t = 1 ∨ t = 2 ∨ t = 3 ∨ t = 4 ∨ t = 5 ∨ t = 6 by omega) with rfl | rfl | rfl | rfl | rfl | rfl | rfl
  · refine lv_tableIn (x := nI 0) (off := 40) (tgt := 48) hx hb dX3_counted_8 (by decide) (by decide) rfl (by decide) ?_
    refine lv_aload_n hx hb dX3_counted_48 rfl (lv_at hl 1 rfl) ?_
    refine g_get hx hb hts hE hown hP g_inX3 rfl (by decide) k5_20 5 (by decide) rfl wf_X3_79 (v := .int (nI ((Ls w).length))) rfl dX3_counted_49 ?_
    have hMp7 : g_Mf D σ_3 th (nI ((Ls w).length)) (nI (zs_ (Ls w).length)) S N Z Rn4 Tn4 := ⟨k5_20, k5_21, k5_22, k5_23, k5_24, k5_25, k5_26, k5_27, k5_28, k5_29, k5_30⟩
    rw [← hQ]
    exact W.iret (v := nI ((Ls w).length)) hx hb hr (fun te9 hte9 _ => g_fin (⟨rfl, ⟨_, _, hMp7, hRln4, hTln4⟩, ho6⟩) hP hS hte9) hS.2.2 dX3_counted_52 hlocks
  · refine lv_tableIn (x := nI 1) (off := 45) (tgt := 53) hx hb dX3_counted_8 (by decide) (by decide) rfl (by decide) ?_
    refine lv_iconst (v := nI 0) hx hb dX3_counted_53 (by decide) ?_
    refine lv_aload_n hx hb dX3_counted_54 rfl (lv_at hl 1 rfl) ?_
    refine g_get hx hb hts hE hown hP g_inX3 rfl (by decide) k5_20 5 (by decide) rfl wf_X3_79 (v := .int (nI ((Ls w).length))) rfl dX3_counted_55 ?_
    refine lv_iconst (v := nI 1) hx hb dX3_counted_58 (by decide) ?_
    refine lv_isub hx hb dX3_counted_59 ?_
    refine g_mmax hx hb (hml.trans hl.1.symm) hown hts k_X3_91 k_max ⟨Nat.le_of_ble_eq_true rfl, Nat.le_of_ble_eq_true rfl, by omega, by omega⟩ dX3_counted_60 ?_
    have hMp8 : g_Mf D σ_3 th (nI ((Ls w).length)) (nI (zs_ (Ls w).length)) S N Z Rn4 Tn4 := ⟨k5_20, k5_21, k5_22, k5_23, k5_24, k5_25, k5_26, k5_27, k5_28, k5_29, k5_30⟩
    rw [← hQ]
    exact W.iret (v := if nI 0 < (nI ((Ls w).length)) - (nI 1) then (nI ((Ls w).length)) - (nI 1) else nI 0) hx hb hr (fun te9 hte9 _ => g_fin (⟨by rw [mx1 (by omega), ← hpc]; rfl, ⟨_, _, hMp8, hRln4, hTln4⟩, ho6⟩) hP hS hte9) hS.2.2 dX3_counted_63 hlocks
  · refine lv_tableIn (x := nI 2) (off := 56) (tgt := 64) hx hb dX3_counted_8 (by decide) (by decide) rfl (by decide) ?_
    refine lv_aload_n hx hb dX3_counted_64 rfl (lv_at hl 1 rfl) ?_
    have hMp9 : g_Mf D σ_3 th (nI ((Ls w).length)) (nI (zs_ (Ls w).length)) S N Z Rn4 Tn4 := ⟨k5_20, k5_21, k5_22, k5_23, k5_24, k5_25, k5_26, k5_27, k5_28, k5_29, k5_30⟩
    refine g_callV0 (y := yX3_longest) (n := 0) (As := []) (rest := []) hx hb hml hown hts hE hZ hP hS hl.1 (m_X3_longest l D hAD σ_3 th S N Z Rn4 Tn4 (Ls w) hMp9 hvw (by omega) hRln4 hTln4) k_X3_122 (ci := 3) (by decide) k5_20 rfl rfl rfl rfl rfl ⟨rfl, rfl⟩ ⟨Nat.le_of_ble_eq_true rfl, Nat.le_of_ble_eq_true rfl⟩ (Nat.le_of_ble_eq_true rfl) ⟨Nat.le_of_ble_eq_true rfl, Nat.le_of_ble_eq_true rfl⟩ dX3_counted_65 (fun v10 σ_11 H locs hq hP hS => ?_)
    obtain ⟨rfl, rfl⟩ := hq
    refine W.eq (g2 := F0 m 68 ls [.int (lg_ (tb_ (Ls w) 7) (zs_ (List.length (Ls w))))]) rfl ?_
    have hMp12 : g_Mf D σ_3 th (nI ((Ls w).length)) (nI (zs_ (Ls w).length)) S N Z Rn4 Tn4 := ⟨k5_20, k5_21, k5_22, k5_23, k5_24, k5_25, k5_26, k5_27, k5_28, k5_29, k5_30⟩
    rw [← hQ]
    exact W.iret (v := lg_ (tb_ (Ls w) 7) (zs_ (List.length (Ls w)))) hx hb hr (fun te9 hte9 _ => g_fin (⟨rfl, ⟨_, _, hMp12, hRln4, hTln4⟩, ho6⟩) hP hS hte9) hS.2.2 dX3_counted_68 hlocks
  · refine lv_tableIn (x := nI 3) (off := 61) (tgt := 69) hx hb dX3_counted_8 (by decide) (by decide) rfl (by decide) ?_
    refine lv_aload_n hx hb dX3_counted_69 rfl (lv_at hl 1 rfl) ?_
    have hMp13 : g_Mf D σ_3 th (nI ((Ls w).length)) (nI (zs_ (Ls w).length)) S N Z Rn4 Tn4 := ⟨k5_20, k5_21, k5_22, k5_23, k5_24, k5_25, k5_26, k5_27, k5_28, k5_29, k5_30⟩
    refine g_callV0 (y := yX3_allPaths) (n := 0) (As := []) (rest := []) hx hb hml hown hts hE hZ hP hS hl.1 (m_X3_allPaths l D hAD σ_3 th S N Z Rn4 Tn4 (Ls w) hMp13 hvw (by omega) hRln4 hTln4) k_X3_125 (ci := 3) (by decide) k5_20 rfl rfl rfl rfl rfl ⟨rfl, rfl⟩ ⟨Nat.le_of_ble_eq_true rfl, Nat.le_of_ble_eq_true rfl⟩ (Nat.le_of_ble_eq_true rfl) ⟨Nat.le_of_ble_eq_true rfl, Nat.le_of_ble_eq_true rfl⟩ dX3_counted_70 (fun v14 σ_15 H locs hq hP hS => ?_)
    obtain ⟨rfl, rfl⟩ := hq
    refine W.eq (g2 := F0 m 73 ls [.int (ap_ (tb_ (Ls w) 0) (tb_ (Ls w) 7) (zs_ (List.length (Ls w))))]) rfl ?_
    have hMp16 : g_Mf D σ_3 th (nI ((Ls w).length)) (nI (zs_ (Ls w).length)) S N Z Rn4 Tn4 := ⟨k5_20, k5_21, k5_22, k5_23, k5_24, k5_25, k5_26, k5_27, k5_28, k5_29, k5_30⟩
    rw [← hQ]
    exact W.iret (v := ap_ (tb_ (Ls w) 0) (tb_ (Ls w) 7) (zs_ (List.length (Ls w)))) hx hb hr (fun te9 hte9 _ => g_fin (⟨rfl, ⟨_, _, hMp16, hRln4, hTln4⟩, ho6⟩) hP hS hte9) hS.2.2 dX3_counted_73 hlocks
  · refine lv_tableIn (x := nI 4) (off := 66) (tgt := 74) hx hb dX3_counted_8 (by decide) (by decide) rfl (by decide) ?_
    refine lv_aload_n hx hb dX3_counted_74 rfl (lv_at hl 1 rfl) ?_
    refine g_get hx hb hts hE hown hP g_inX3 rfl (by decide) k5_20 5 (by decide) rfl wf_X3_79 (v := .int (nI ((Ls w).length))) rfl dX3_counted_75 ?_
    refine lv_if_ne (tgt := 85) hx hb dX3_counted_78 (by decide) (fun h78 => ?_) (fun h78 => ?_)
    · have hb78 := g_ne (a := (Ls w).length) (b := 0) h78 (by omega) (by omega)
      have hne78 := hb78
      refine lv_aload_n hx hb dX3_counted_85 rfl (lv_at hl 1 rfl) ?_
      refine g_get hx hb hts hE hown hP g_inX3 rfl (by decide) k5_20 4 (by decide) rfl wf_X3_19 (v := .ref (ad_ D 24)) rfl dX3_counted_86 ?_
      refine lv_iconst (v := nI 0) hx hb dX3_counted_89 (by decide) ?_
      refine g_ialdN (j := 0) hx hb hE hP (by decide) k5_24 (by omega) (by decide) (v := fn_ (Ls w) 0) (hRln4 _ (by omega)) dX3_counted_90 ?_
      refine lv_aload_n hx hb dX3_counted_91 rfl (lv_at hl 1 rfl) ?_
      refine g_get hx hb hts hE hown hP g_inX3 rfl (by decide) k5_20 4 (by decide) rfl wf_X3_19 (v := .ref (ad_ D 24)) rfl dX3_counted_92 ?_
      refine lv_aload_n hx hb dX3_counted_95 rfl (lv_at hl 1 rfl) ?_
      refine g_get hx hb hts hE hown hP g_inX3 rfl (by decide) k5_20 5 (by decide) rfl wf_X3_79 (v := .int (nI ((Ls w).length))) rfl dX3_counted_96 ?_
      refine lv_iconst (v := nI 1) hx hb dX3_counted_99 (by decide) ?_
      refine lv_isub hx hb dX3_counted_100 ?_
      refine g_top (y := nI (((Ls w).length) - 1)) (pk_sub (by omega)) ?_
      refine g_ialdN (j := ((Ls w).length) - 1) hx hb hE hP (by decide) k5_24 (by omega) (by decide) (v := fn_ (Ls w) ((Ls w).length - 1)) (hRln4 _ (by omega)) dX3_counted_101 ?_
      refine g_callS0 (y := yX3_shared) (n := 2) (As := [.int (fn_ (Ls w) 0), .int (fn_ (Ls w) ((Ls w).length - 1))]) (rest := []) hx hb hml hown hts hE hZ hP hS hl.1 (m_X3_shared l D hAD σ_3 (fn_ (Ls w) 0) (fn_ (Ls w) ((Ls w).length - 1)) (hvw.2.1 0 (by omega)) (hvw.2.1 ((Ls w).length - 1) (by omega))) k_X3_128 rfl rfl ⟨rfl, rfl⟩ ⟨Nat.le_of_ble_eq_true rfl, Nat.le_of_ble_eq_true rfl⟩ (Nat.le_of_ble_eq_true rfl) ⟨Nat.le_of_ble_eq_true rfl, Nat.le_of_ble_eq_true rfl⟩ dX3_counted_102 (fun v17 σ_18 H locs hq hP hS => ?_)
      obtain ⟨rfl, rfl⟩ := hq
      refine W.eq (g2 := F0 m 105 ls [.int (nI 15 - fub_ (fn_ (Ls w) 0) (fn_ (Ls w) ((Ls w).length - 1)))]) rfl ?_
      have hMp19 : g_Mf D σ_3 th (nI ((Ls w).length)) (nI (zs_ (Ls w).length)) S N Z Rn4 Tn4 := ⟨k5_20, k5_21, k5_22, k5_23, k5_24, k5_25, k5_26, k5_27, k5_28, k5_29, k5_30⟩
      rw [← hQ]
      exact W.iret (v := nI 15 - fub_ (fn_ (Ls w) 0) (fn_ (Ls w) ((Ls w).length - 1))) hx hb hr (fun te9 hte9 _ => g_fin (⟨by rw [show (nI 15 - fub_ (fn_ (Ls w) 0) (fn_ (Ls w) ((Ls w).length - 1))) = cn_ (Ls w) 4 from (if_pos (by omega : 0 < (Ls w).length)).symm], ⟨_, _, hMp19, hRln4, hTln4⟩, ho6⟩) hP hS hte9) hS.2.2 dX3_counted_105 hlocks
    · have hb78 := g_eq (a := (Ls w).length) (b := 0) h78 (by omega) (by omega)
      have he78 := hb78
      refine lv_iconst (v := nI 0) hx hb dX3_counted_81 (by decide) ?_
      refine lv_goto (tgt := 105) hx hb dX3_counted_82 (by decide) ?_
      have hMp20 : g_Mf D σ_3 th (nI ((Ls w).length)) (nI (zs_ (Ls w).length)) S N Z Rn4 Tn4 := ⟨k5_20, k5_21, k5_22, k5_23, k5_24, k5_25, k5_26, k5_27, k5_28, k5_29, k5_30⟩
      rw [← hQ]
      exact W.iret (v := nI 0) hx hb hr (fun te9 hte9 _ => g_fin (⟨by rw [show nI 0 = cn_ (Ls w) 4 from (if_neg (by omega : ¬ 0 < (Ls w).length)).symm], ⟨_, _, hMp20, hRln4, hTln4⟩, ho6⟩) hP hS hte9) hS.2.2 dX3_counted_105 hlocks
  · refine lv_tableIn (x := nI 5) (off := 98) (tgt := 106) hx hb dX3_counted_8 (by decide) (by decide) rfl (by decide) ?_
    refine lv_aload_n hx hb dX3_counted_106 rfl (lv_at hl 1 rfl) ?_
    have hMp21 : g_Mf D σ_3 th (nI ((Ls w).length)) (nI (zs_ (Ls w).length)) S N Z Rn4 Tn4 := ⟨k5_20, k5_21, k5_22, k5_23, k5_24, k5_25, k5_26, k5_27, k5_28, k5_29, k5_30⟩
    refine g_callV0 (y := yX3_bitsOfPosts) (n := 0) (As := []) (rest := []) hx hb hml hown hts hE hZ hP hS hl.1 (m_X3_bitsOfPosts l D hAD σ_3 th S N Z Rn4 Tn4 (Ls w) hMp21 hvw (by omega) hRln4 hTln4) k_X3_131 (ci := 3) (by decide) k5_20 rfl rfl rfl rfl rfl ⟨rfl, rfl⟩ ⟨Nat.le_of_ble_eq_true rfl, Nat.le_of_ble_eq_true rfl⟩ (Nat.le_of_ble_eq_true rfl) ⟨Nat.le_of_ble_eq_true rfl, Nat.le_of_ble_eq_true rfl⟩ dX3_counted_107 (fun v22 σ_23 H locs hq hP hS => ?_)
    obtain ⟨rfl, rfl⟩ := hq
    refine W.eq (g2 := F0 m 110 ls [.int (pb_ (tb_ (Ls w) 0) (zs_ (List.length (Ls w))))]) rfl ?_
    have hMp24 : g_Mf D σ_3 th (nI ((Ls w).length)) (nI (zs_ (Ls w).length)) S N Z Rn4 Tn4 := ⟨k5_20, k5_21, k5_22, k5_23, k5_24, k5_25, k5_26, k5_27, k5_28, k5_29, k5_30⟩
    rw [← hQ]
    exact W.iret (v := pb_ (tb_ (Ls w) 0) (zs_ (List.length (Ls w)))) hx hb hr (fun te9 hte9 _ => g_fin (⟨rfl, ⟨_, _, hMp24, hRln4, hTln4⟩, ho6⟩) hP hS hte9) hS.2.2 dX3_counted_110 hlocks
  · refine lv_tableOut (x := nI 6) (tgt := 111) hx hb dX3_counted_8 (by decide) (by decide) ?_
    refine lv_iconst (v := nI 0) hx hb dX3_counted_111 (by decide) ?_
    refine lv_istore (lv' := [(4, .int (nI 0)), (3, .int (nI 0)), (0, .ref (ad_ D 20)), (1, .int (nI w)), (2, .int (nI 6))]) hx hb dX3_counted_112 hl (by decide) rfl (fun ls hl => ?_)
    have K114 : ∀ (fuel114 : Nat) (i : Nat), ((Ls w).length - i) < fuel114 → (i ≤ (Ls w).length) → ∀ (H : Heap) (locs : List Loc), va_P D vwCl (g_W D σ_3) H → va_S (g_A D s.heap.size) s.heap H locs → ∀ ls : Array Slot, lv_has ls 5 [(4, .int (nI i)), (3, .int (sm_ (Ls w) 0 i)), (0, .ref (ad_ D 20)), (1, .int (nI w))] → W p l e m_X3_counted_rm s m args below meth c H locs 0 0 Q (F0 m 114 ls []) := by
      intro fuel114
      induction fuel114 with
      | zero => intro i hf; exact absurd hf (Nat.not_lt_zero _)
      | succ fuel114 ih114 =>
        intro i hf114 hi H locs hP hS ls hl
        refine lv_iload hx hb dX3_counted_114 (lv_at hl 0 rfl) ?_
        refine lv_aload_n hx hb dX3_counted_116 rfl (lv_at hl 2 rfl) ?_
        refine g_get hx hb hts hE hown hP g_inX3 rfl (by decide) k5_20 5 (by decide) rfl wf_X3_79 (v := .int (nI ((Ls w).length))) rfl dX3_counted_117 ?_
        refine lv_icmp_ge (tgt := 144) hx hb dX3_counted_120 (by decide) (fun h120 => ?_) (fun h120 => ?_)
        · have hb120 := g_le (a := (Ls w).length) (b := i) h120 (by omega) (by omega)
          have hi2 : i = (Ls w).length - 0 := by omega
          refine lv_iload_n hx hb dX3_counted_144 rfl (lv_at hl 1 rfl) ?_
          have hMp25 : g_Mf D σ_3 th (nI ((Ls w).length)) (nI (zs_ (Ls w).length)) S N Z Rn4 Tn4 := ⟨k5_20, k5_21, k5_22, k5_23, k5_24, k5_25, k5_26, k5_27, k5_28, k5_29, k5_30⟩
          rw [← hQ]
          exact W.iret (v := sm_ (Ls w) 0 i) hx hb hr (fun te9 hte9 _ => g_fin (⟨by rw [show sm_ (Ls w) 0 i = cn_ (Ls w) 6 by rw [hi2]; rfl], ⟨_, _, hMp25, hRln4, hTln4⟩, ho6⟩) hP hS hte9) hS.2.2 dX3_counted_145 hlocks
        · have hb120 := g_nle (a := (Ls w).length) (b := i) h120 (by omega) (by omega)
          refine lv_iload_n hx hb dX3_counted_123 rfl (lv_at hl 1 rfl) ?_
          refine lv_aload_n hx hb dX3_counted_124 rfl (lv_at hl 2 rfl) ?_
          refine g_get hx hb hts hE hown hP g_inX3 rfl (by decide) k5_20 3 (by decide) rfl wf_X3_16 (v := .ref (ad_ D 23)) rfl dX3_counted_125 ?_
          refine lv_bipush (v := nI 24) hx hb dX3_counted_128 (by decide) ?_
          refine lv_iload_n hx hb dX3_counted_130 rfl (lv_at hl 3 rfl) ?_
          refine lv_imul hx hb dX3_counted_131 ?_
          refine g_top (y := nI (24 * w)) (pk_mul 24 w) ?_
          refine lv_iload hx hb dX3_counted_132 (lv_at hl 0 rfl) ?_
          refine lv_iadd hx hb dX3_counted_134 ?_
          refine g_top (y := nI ((24 * w) + i)) (nI_add (24 * w) i) ?_
          refine g_ialdN (j := (24 * w) + i) hx hb hE hP (by decide) k5_23 (by omega) (by decide) (v := gn_ (Ls w) i) (hmr.Q (by omega) (by omega)) dX3_counted_135 ?_
          refine lv_iadd hx hb dX3_counted_136 ?_
          refine lv_istore_n (lv' := [(3, .int ((sm_ (Ls w) 0 i) + (gn_ (Ls w) i))), (4, .int (nI i)), (0, .ref (ad_ D 20)), (1, .int (nI w))]) hx hb dX3_counted_137 rfl hl (by decide) rfl (fun ls hl => ?_)
          have hfx26 : (sm_ (Ls w) 0 i) + (gn_ (Ls w) i) = sm_ (Ls w) 0 (i + 1) := by rw [sm_, Nat.zero_add]
          rw [hfx26] at hl
          refine lv_iinc (v := nI (i + 1)) (lv' := [(4, .int (nI (i + 1))), (3, .int (sm_ (Ls w) 0 (i + 1))), (0, .ref (ad_ D 20)), (1, .int (nI w))]) hx hb dX3_counted_138 hl (k := 1) rfl (g_inc i) (by decide) rfl (fun ls hl => ?_)
          refine lv_goto (tgt := 114) hx hb dX3_counted_141 (by decide) ?_
          exact ih114 (i + 1) (by omega) (by omega) _ _ hP hS ls (lv_sub hl [0, 1, 2, 3] rfl)
    exact K114 (((Ls w).length - 0) + 1) 0 (Nat.lt_succ_self _) (Nat.zero_le _) _ _ hP hS ls (lv_sub hl [0, 1, 2, 3] rfl)

abbrev m_X3_count_rm : Room := { frames := 64, cells := 0, slots := 0, locals := 1590 }
set_option maxHeartbeats 4000000 in
set_option maxRecDepth 100000 in
theorem m_X3_count (l : Launch) (D : va_G) (hAD : g_AD D) (σ : Nat → va_E) (th rs sg : Int32) (S N Z R : Nat → Int32) (T : Nat → Nat → Int32) (hM : g_Mf D σ th rs sg S N Z R T) (Ls : Nat → g_L) (wood what : Int32) (hmr : mr_ Ls S N Z) (hvC : vC_ Ls) : g_M l D yX3_count cX3_count 3 (some .int) m_X3_count_rm [.ref (ad_ D 20), .int wood, .int what] σ (fun v1 σ1 => ((er_count wood what = 0 ∧ (∃ w t, w ≤ 1 ∧ wood = nI w ∧ t ≤ 6 ∧ what = nI t ∧ v1 = some (.int (cn_ (Ls w) t)) ∧ g_MM D σ1 (nI 0) Ls)) ∨ ∃ k9, er_count wood what = k9 ∧ k9 ≠ 0 ∧ v1 = some (.int (nI 0)) ∧ g_MM D σ1 (nI k9) Ls) ∧ g_off 20 30 σ σ1) := by
  refine g_ofW [(0, .ref (ad_ D 20)), (1, .int wood), (2, .int what)] (by decide +kernel) (Nat.le_of_ble_eq_true rfl) rfl ?_
  intro p e s m args below meth c hx hb hr hml hown hlocks hts hE hZ hP hS hnm ls hl
  have hown : s.vm.findClass RX3 = some m.cls := hown
  generalize hQ : MQ _ _ _ _ _ _ _ = Q
  obtain ⟨k20, k21, k22, k23, k24, k25, k26, k27, k28, k29, k30⟩ := id hM
  refine lv_aload_n hx hb dX3_count_0 rfl (lv_at hl 0 rfl) ?_
  refine lv_iconst (v := nI 0) hx hb dX3_count_1 (by decide) ?_
  refine g_put hx hb hts hE hown hAD hP hS g_inX3 tyX3 tyX3_ok nmX3 rfl (by decide) k20 0 (by decide) rfl rfl (by decide +kernel) wf_X3_40 (v := nI 0) (Nat.le_of_ble_eq_true rfl) dX3_count_2 (fun H locs hP hS => ?_)
  obtain ⟨σ_1, hσ2⟩ : ∃ z : Nat → va_E, z = va_up σ 20 (.inr (3, [.int (nI 0), .ref (ad_ D 21), .ref (ad_ D 22), .ref (ad_ D 23), .ref (ad_ D 24), .int rs, .int sg, .ref (ad_ D 25), .ref (ad_ D 26), .ref (ad_ D 27), .ref (ad_ D 28), .ref (ad_ D 29), .ref (ad_ D 30)])) := ⟨_, rfl⟩
  have hP : va_P D vwCl (g_W D σ_1) H := by rw [hσ2]; exact hP
  have hc3 : σ_1 20 = .inr (3, [.int (nI 0), .ref (ad_ D 21), .ref (ad_ D 22), .ref (ad_ D 23), .ref (ad_ D 24), .int rs, .int sg, .ref (ad_ D 25), .ref (ad_ D 26), .ref (ad_ D 27), .ref (ad_ D 28), .ref (ad_ D 29), .ref (ad_ D 30)]) := by rw [hσ2]; exact g_ups
  have hc4 := (by rw [hσ2]; exact g_upn k21 (by decide) : σ_1 21 = .inl (g_cI D, 2, .inl (S)))
  have hc5 := (by rw [hσ2]; exact g_upn k22 (by decide) : σ_1 22 = .inl (g_cI D, 48, .inl (N)))
  have hc6 := (by rw [hσ2]; exact g_upn k23 (by decide) : σ_1 23 = .inl (g_cI D, 48, .inl (Z)))
  have hc7 := (by rw [hσ2]; exact g_upn k24 (by decide) : σ_1 24 = .inl (g_cI D, 48, .inl (R)))
  have hc8 := (by rw [hσ2]; exact g_upn k25 (by decide) : σ_1 25 = .inl (g_cI D, 96, .inl (T 0)))
  have hc9 := (by rw [hσ2]; exact g_upn k26 (by decide) : σ_1 26 = .inl (g_cI D, 96, .inl (T 1)))
  have hc10 := (by rw [hσ2]; exact g_upn k27 (by decide) : σ_1 27 = .inl (g_cI D, 96, .inl (T 2)))
  have hc11 := (by rw [hσ2]; exact g_upn k28 (by decide) : σ_1 28 = .inl (g_cI D, 96, .inl (T 3)))
  have hc12 := (by rw [hσ2]; exact g_upn k29 (by decide) : σ_1 29 = .inl (g_cI D, 96, .inl (T 4)))
  have hc13 := (by rw [hσ2]; exact g_upn k30 (by decide) : σ_1 30 = .inl (g_cI D, 96, .inl (T 5)))
  have ho14 : g_off 20 30 σ σ_1 := by rw [hσ2]; exact g_off.up (g_off.rf (lo := 20) (hi := 30) (σ := σ)) (by decide) (by decide)
  refine lv_iload_n hx hb dX3_count_5 rfl (lv_at hl 1 rfl) ?_
  refine g_callS0 (y := yX3_isWood) (n := 1) (As := [.int wood]) (rest := []) hx hb hml hown hts hE hZ hP hS hl.1 (m_X3_isWood l D hAD σ_1 (wood)) k_X3_94 rfl rfl ⟨rfl, rfl⟩ ⟨Nat.le_of_ble_eq_true rfl, Nat.le_of_ble_eq_true rfl⟩ (Nat.le_of_ble_eq_true rfl) ⟨Nat.le_of_ble_eq_true rfl, Nat.le_of_ble_eq_true rfl⟩ dX3_count_6 (fun v15 σ_16 H locs hq hP hS => ?_)
  obtain ⟨rfl, rfl⟩ := hq
  refine W.eq (g2 := F0 m 9 ls [.int (if wk1_ (wood) then 1 else 0)]) rfl ?_
  refine lv_if_eq (tgt := 31) hx hb dX3_count_9 (by decide) (fun h9 => ?_) (fun h9 => ?_)
  · have hq9 := g_pp0 h9
    refine lv_aload_n hx hb dX3_count_31 rfl (lv_at hl 0 rfl) ?_
    refine lv_iconst (v := nI 1) hx hb dX3_count_32 (by decide) ?_
    have hMp17 : g_Mf D σ_1 (nI 0) rs sg S N Z R T := ⟨hc3, hc4, hc5, hc6, hc7, hc8, hc9, hc10, hc11, hc12, hc13⟩
    refine g_callV0 (y := yX3_no) (n := 1) (As := [.int (nI 1)]) (rest := []) hx hb hml hown hts hE hZ hP hS hl.1 (m_X3_no l D hAD σ_1 (nI 0) rs sg S N Z R T hMp17 (nI 1)) k_X3_98 (ci := 3) (by decide) hc3 rfl rfl rfl rfl rfl ⟨rfl, rfl⟩ ⟨Nat.le_of_ble_eq_true rfl, Nat.le_of_ble_eq_true rfl⟩ (Nat.le_of_ble_eq_true rfl) ⟨Nat.le_of_ble_eq_true rfl, Nat.le_of_ble_eq_true rfl⟩ dX3_count_33 (fun v18 σ_19 H locs hq hP hS => ?_)
    obtain ⟨rfl, hq2⟩ := hq
    refine W.eq (g2 := F0 m 36 ls [.int (nI 0)]) rfl ?_
    obtain ⟨hMn20, hon20⟩ := hq2
    obtain ⟨k21_20, k21_21, k21_22, k21_23, k21_24, k21_25, k21_26, k21_27, k21_28, k21_29, k21_30⟩ := id hMn20
    have ho22 := g_off.tr ho14 (g_off.wd hon20 (by decide) (by decide))
    have hMp23 : g_Mf D σ_19 (nI 1) rs sg S N Z R T := ⟨k21_20, k21_21, k21_22, k21_23, k21_24, k21_25, k21_26, k21_27, k21_28, k21_29, k21_30⟩
    rw [← hQ]
    exact W.iret (v := nI 0) hx hb hr (fun te9 hte9 _ => g_fin (⟨Or.inr ⟨1, by rw [er_count, if_neg (fun q => hq9 q.1)], by decide, rfl, ⟨_, _, _, _, _, _, _, hMp23, hmr⟩⟩, ho22⟩) hP hS hte9) hS.2.2 dX3_count_36 hlocks
  · have hq9 := g_pp1 h9
    obtain ⟨w, hw, hwe⟩ := ix_nat hq9 (by decide)
    subst hwe
    have hvw := hvC w hw
    have h24w := hvw.2
    have hvo := hvC (1 - w) (by omega)
    have h24o := hvo.2
    have hwl : wl_ Ls (nI w) = Ls w := wl_n hw
    have hot : ot_ Ls (nI w) = Ls (1 - w) := ot_n hw
    refine lv_iload_n hx hb dX3_count_12 rfl (lv_at hl 2 rfl) ?_
    refine lv_iconst (v := nI 0) hx hb dX3_count_13 (by decide) ?_
    refine lv_bipush (v := nI 6) hx hb dX3_count_14 (by decide) ?_
    refine g_callS0 (y := yX3_isIn) (n := 3) (As := [.int what, .int (nI 0), .int (nI 6)]) (rest := []) hx hb hml hown hts hE hZ hP hS hl.1 (m_X3_isIn l D hAD σ_1 (what) (nI 0) (nI 6)) k_X3_44 rfl rfl ⟨rfl, rfl⟩ ⟨Nat.le_of_ble_eq_true rfl, Nat.le_of_ble_eq_true rfl⟩ (Nat.le_of_ble_eq_true rfl) ⟨Nat.le_of_ble_eq_true rfl, Nat.le_of_ble_eq_true rfl⟩ dX3_count_16 (fun v24 σ_25 H locs hq hP hS => ?_)
    obtain ⟨rfl, rfl⟩ := hq
    refine W.eq (g2 := F0 m 19 ls [.int (if ¬ (what) < (nI 0) ∧ ¬ (nI 6) < (what) then 1 else 0)]) rfl ?_
    refine lv_if_eq (tgt := 31) hx hb dX3_count_19 (by decide) (fun h19 => ?_) (fun h19 => ?_)
    · have hq19 := g_pp0 h19
      refine lv_aload_n hx hb dX3_count_31 rfl (lv_at hl 0 rfl) ?_
      refine lv_iconst (v := nI 1) hx hb dX3_count_32 (by decide) ?_
      have hMp26 : g_Mf D σ_1 (nI 0) rs sg S N Z R T := ⟨hc3, hc4, hc5, hc6, hc7, hc8, hc9, hc10, hc11, hc12, hc13⟩
      refine g_callV0 (y := yX3_no) (n := 1) (As := [.int (nI 1)]) (rest := []) hx hb hml hown hts hE hZ hP hS hl.1 (m_X3_no l D hAD σ_1 (nI 0) rs sg S N Z R T hMp26 (nI 1)) k_X3_98 (ci := 3) (by decide) hc3 rfl rfl rfl rfl rfl ⟨rfl, rfl⟩ ⟨Nat.le_of_ble_eq_true rfl, Nat.le_of_ble_eq_true rfl⟩ (Nat.le_of_ble_eq_true rfl) ⟨Nat.le_of_ble_eq_true rfl, Nat.le_of_ble_eq_true rfl⟩ dX3_count_33 (fun v27 σ_28 H locs hq hP hS => ?_)
      obtain ⟨rfl, hq2⟩ := hq
      refine W.eq (g2 := F0 m 36 ls [.int (nI 0)]) rfl ?_
      obtain ⟨hMn29, hon29⟩ := hq2
      obtain ⟨k30_20, k30_21, k30_22, k30_23, k30_24, k30_25, k30_26, k30_27, k30_28, k30_29, k30_30⟩ := id hMn29
      have ho31 := g_off.tr ho14 (g_off.wd hon29 (by decide) (by decide))
      have hMp32 : g_Mf D σ_28 (nI 1) rs sg S N Z R T := ⟨k30_20, k30_21, k30_22, k30_23, k30_24, k30_25, k30_26, k30_27, k30_28, k30_29, k30_30⟩
      rw [← hQ]
      exact W.iret (v := nI 0) hx hb hr (fun te9 hte9 _ => g_fin (⟨Or.inr ⟨1, by rw [er_count, if_neg (fun q => hq19 q.2)], by decide, rfl, ⟨_, _, _, _, _, _, _, hMp32, hmr⟩⟩, ho31⟩) hP hS hte9) hS.2.2 dX3_count_36 hlocks
    · have hq19 := g_pp1 h19
      obtain ⟨t, ht, te⟩ := ix_nat (g := 6) hq19 (by decide)
      subst te
      refine lv_aload_n hx hb dX3_count_22 rfl (lv_at hl 0 rfl) ?_
      refine lv_iload_n hx hb dX3_count_23 rfl (lv_at hl 1 rfl) ?_
      refine lv_iload_n hx hb dX3_count_24 rfl (lv_at hl 2 rfl) ?_
      have hMp33 : g_Mf D σ_1 (nI 0) rs sg S N Z R T := ⟨hc3, hc4, hc5, hc6, hc7, hc8, hc9, hc10, hc11, hc12, hc13⟩
      refine g_callV0 (y := yX3_counted) (n := 2) (As := [.int (nI w), .int (nI t)]) (rest := []) hx hb hml hown hts hE hZ hP hS hl.1 (m_X3_counted l D hAD σ_1 (nI 0) rs sg S N Z R T hMp33 Ls w t hmr (by omega) (by omega) hvw.1) k_X3_134 (ci := 3) (by decide) hc3 rfl rfl rfl rfl rfl ⟨rfl, rfl⟩ ⟨Nat.le_of_ble_eq_true rfl, Nat.le_of_ble_eq_true rfl⟩ (Nat.le_of_ble_eq_true rfl) ⟨Nat.le_of_ble_eq_true rfl, Nat.le_of_ble_eq_true rfl⟩ dX3_count_25 (fun v34 σ_35 H locs hq hP hS => ?_)
      obtain ⟨rfl, hq2⟩ := hq
      refine W.eq (g2 := F0 m 28 ls [.int (cn_ (Ls w) t)]) rfl ?_
      obtain ⟨⟨Rn36, Tn36, hMn36, hRln36, hTln36⟩, hofn36⟩ := hq2
      obtain ⟨k37_20, k37_21, k37_22, k37_23, k37_24, k37_25, k37_26, k37_27, k37_28, k37_29, k37_30⟩ := id hMn36
      have ho38 := g_off.tr ho14 (g_off.wd hofn36 (by decide) (by decide))
      refine lv_goto (tgt := 36) hx hb dX3_count_28 (by decide) ?_
      have hMp39 : g_Mf D σ_35 (nI 0) (nI ((Ls w).length)) (nI (zs_ (Ls w).length)) S N Z Rn36 Tn36 := ⟨k37_20, k37_21, k37_22, k37_23, k37_24, k37_25, k37_26, k37_27, k37_28, k37_29, k37_30⟩
      rw [← hQ]
      exact W.iret (v := cn_ (Ls w) t) hx hb hr (fun te9 hte9 _ => g_fin (⟨Or.inl ⟨by rw [er_count, if_pos ⟨ix_of hw (by decide), ix_of ht (by decide)⟩], w, t, hw, rfl, ht, rfl, rfl, ⟨_, _, _, _, _, _, _, hMp39, hmr⟩⟩, ho38⟩) hP hS hte9) hS.2.2 dX3_count_36 hlocks

abbrev m_X3_signTold_rm : Room := { frames := 8, cells := 0, slots := 0, locals := 200 }
set_option maxHeartbeats 4000000 in
set_option maxRecDepth 100000 in
theorem m_X3_signTold (l : Launch) (D : va_G) (hAD : g_AD D) (σ : Nat → va_E) (th : Int32) (S N Z R : Nat → Int32) (T : Nat → Nat → Int32) (L : g_L) (hM : g_Mf D σ th (nI L.length) (nI (zs_ L.length)) S N Z R T) (p9 t : Nat) (hv : vL_ L) (h48 : L.length ≤ 48) (hRl : ∀ j, j < L.length → R j = fn_ L j) (hTl : mB_ (fn_ L) L.length T) (hp9 : p9 < zs_ L.length) (ht : t ≤ 6) : g_M l D yX3_signTold cX3_signTold 3 (some .int) m_X3_signTold_rm [.ref (ad_ D 20), .int (nI p9), .int (nI t)] σ (fun v1 σ1 => v1 = some (.int (tel_ (tb_ L) t p9)) ∧ σ = σ1) := by
  refine g_ofW [(0, .ref (ad_ D 20)), (1, .int (nI p9)), (2, .int (nI t))] (by decide +kernel) (Nat.le_of_ble_eq_true rfl) rfl ?_
  intro p e s m args below meth c hx hb hr hml hown hlocks hts hE hZ hP hS hnm ls hl
  have hown : s.vm.findClass RX3 = some m.cls := hown
  generalize hQ : MQ _ _ _ _ _ _ _ = Q
  obtain ⟨k20, k21, k22, k23, k24, k25, k26, k27, k28, k29, k30⟩ := id hM
  have hz95 := zs_le h48
  obtain ⟨a9, c9, hc9, hac9, e1, e2, e3, e4, e5⟩ := mB_nd hv hTl hp9
  refine lv_iload_n hx hb dX3_signTold_0 rfl (lv_at hl 2 rfl) ?_
  rcases (show t = 0 ∨ t = 1 ∨ t = 2 ∨ t = 3 ∨ t = 4 ∨ t = 5 ∨ t = 6 by omega) with rfl | rfl | rfl | rfl | rfl | rfl | rfl
  · refine lv_tableIn (x := nI 0) (off := 39) (tgt := 40) hx hb dX3_signTold_1 (by decide) (by decide) rfl (by decide) ?_
    refine lv_aload_n hx hb dX3_signTold_40 rfl (lv_at hl 0 rfl) ?_
    refine g_get hx hb hts hE hown hP g_inX3 rfl (by decide) k20 7 (by decide) rfl wf_X3_22 (v := .ref (ad_ D 25)) rfl dX3_signTold_41 ?_
    refine lv_iload_n hx hb dX3_signTold_44 rfl (lv_at hl 1 rfl) ?_
    refine g_ialdN (j := p9) hx hb hE hP (by decide) k25 (by omega) (by decide) (v := tb_ L 0 p9) (mB_0 hv hTl hp9) dX3_signTold_45 ?_
    rw [← hQ]
    exact W.iret (v := tb_ L 0 p9) hx hb hr (fun te9 hte9 _ => g_fin (⟨rfl, rfl⟩) hP hS hte9) hS.2.2 dX3_signTold_46 hlocks
  · refine lv_tableIn (x := nI 1) (off := 46) (tgt := 47) hx hb dX3_signTold_1 (by decide) (by decide) rfl (by decide) ?_
    refine lv_aload_n hx hb dX3_signTold_47 rfl (lv_at hl 0 rfl) ?_
    refine g_get hx hb hts hE hown hP g_inX3 rfl (by decide) k20 9 (by decide) rfl wf_X3_28 (v := .ref (ad_ D 27)) rfl dX3_signTold_48 ?_
    refine lv_iload_n hx hb dX3_signTold_51 rfl (lv_at hl 1 rfl) ?_
    refine g_ialdN (j := p9) hx hb hE hP (by decide) k27 (by omega) (by decide) (v := nI (a9 + c9)) (e2) dX3_signTold_52 ?_
    refine lv_aload_n hx hb dX3_signTold_53 rfl (lv_at hl 0 rfl) ?_
    refine g_get hx hb hts hE hown hP g_inX3 rfl (by decide) k20 8 (by decide) rfl wf_X3_25 (v := .ref (ad_ D 26)) rfl dX3_signTold_54 ?_
    refine lv_iload_n hx hb dX3_signTold_57 rfl (lv_at hl 1 rfl) ?_
    refine g_ialdN (j := p9) hx hb hE hP (by decide) k26 (by omega) (by decide) (v := nI a9) (e1) dX3_signTold_58 ?_
    refine lv_isub hx hb dX3_signTold_59 ?_
    refine g_top (y := nI c9) ((pk_sub (by omega)).trans (congrArg nI (by omega))) ?_
    rw [← hQ]
    exact W.iret (v := nI c9) hx hb hr (fun te9 hte9 _ => g_fin (⟨by rw [← e3]; rfl, rfl⟩) hP hS hte9) hS.2.2 dX3_signTold_60 hlocks
  · refine lv_tableIn (x := nI 2) (off := 60) (tgt := 61) hx hb dX3_signTold_1 (by decide) (by decide) rfl (by decide) ?_
    refine lv_aload_n hx hb dX3_signTold_61 rfl (lv_at hl 0 rfl) ?_
    refine g_get hx hb hts hE hown hP g_inX3 rfl (by decide) k20 4 (by decide) rfl wf_X3_19 (v := .ref (ad_ D 24)) rfl dX3_signTold_62 ?_
    refine lv_aload_n hx hb dX3_signTold_65 rfl (lv_at hl 0 rfl) ?_
    refine g_get hx hb hts hE hown hP g_inX3 rfl (by decide) k20 8 (by decide) rfl wf_X3_25 (v := .ref (ad_ D 26)) rfl dX3_signTold_66 ?_
    refine lv_iload_n hx hb dX3_signTold_69 rfl (lv_at hl 1 rfl) ?_
    refine g_ialdN (j := p9) hx hb hE hP (by decide) k26 (by omega) (by decide) (v := nI a9) (e1) dX3_signTold_70 ?_
    refine g_ialdN (j := a9) hx hb hE hP (by decide) k24 (by omega) (by decide) (v := fn_ L a9) (hRl _ (by omega)) dX3_signTold_71 ?_
    rw [← hQ]
    exact W.iret (v := fn_ L a9) hx hb hr (fun te9 hte9 _ => g_fin (⟨by rw [← e4]; rfl, rfl⟩) hP hS hte9) hS.2.2 dX3_signTold_72 hlocks
  · refine lv_tableIn (x := nI 3) (off := 72) (tgt := 73) hx hb dX3_signTold_1 (by decide) (by decide) rfl (by decide) ?_
    refine lv_aload_n hx hb dX3_signTold_73 rfl (lv_at hl 0 rfl) ?_
    refine g_get hx hb hts hE hown hP g_inX3 rfl (by decide) k20 4 (by decide) rfl wf_X3_19 (v := .ref (ad_ D 24)) rfl dX3_signTold_74 ?_
    refine lv_aload_n hx hb dX3_signTold_77 rfl (lv_at hl 0 rfl) ?_
    refine g_get hx hb hts hE hown hP g_inX3 rfl (by decide) k20 9 (by decide) rfl wf_X3_28 (v := .ref (ad_ D 27)) rfl dX3_signTold_78 ?_
    refine lv_iload_n hx hb dX3_signTold_81 rfl (lv_at hl 1 rfl) ?_
    refine g_ialdN (j := p9) hx hb hE hP (by decide) k27 (by omega) (by decide) (v := nI (a9 + c9)) (e2) dX3_signTold_82 ?_
    refine lv_iconst (v := nI 1) hx hb dX3_signTold_83 (by decide) ?_
    refine lv_isub hx hb dX3_signTold_84 ?_
    refine g_top (y := nI ((a9 + c9) - 1)) (pk_sub (by omega)) ?_
    refine g_ialdN (j := (a9 + c9) - 1) hx hb hE hP (by decide) k24 (by omega) (by decide) (v := fn_ L (a9 + c9 - 1)) (hRl _ (by omega)) dX3_signTold_85 ?_
    rw [← hQ]
    exact W.iret (v := fn_ L (a9 + c9 - 1)) hx hb hr (fun te9 hte9 _ => g_fin (⟨by rw [← e5]; rfl, rfl⟩) hP hS hte9) hS.2.2 dX3_signTold_86 hlocks
  · refine lv_tableIn (x := nI 4) (off := 86) (tgt := 87) hx hb dX3_signTold_1 (by decide) (by decide) rfl (by decide) ?_
    refine lv_aload_n hx hb dX3_signTold_87 rfl (lv_at hl 0 rfl) ?_
    refine g_get hx hb hts hE hown hP g_inX3 rfl (by decide) k20 10 (by decide) rfl wf_X3_31 (v := .ref (ad_ D 28)) rfl dX3_signTold_88 ?_
    refine lv_iload_n hx hb dX3_signTold_91 rfl (lv_at hl 1 rfl) ?_
    refine g_ialdN (j := p9) hx hb hE hP (by decide) k28 (by omega) (by decide) (v := tb_ L 5 p9) (mB_3 hv hTl hp9) dX3_signTold_92 ?_
    rw [← hQ]
    exact W.iret (v := tb_ L 5 p9) hx hb hr (fun te9 hte9 _ => g_fin (⟨rfl, rfl⟩) hP hS hte9) hS.2.2 dX3_signTold_93 hlocks
  · refine lv_tableIn (x := nI 5) (off := 93) (tgt := 94) hx hb dX3_signTold_1 (by decide) (by decide) rfl (by decide) ?_
    refine lv_aload_n hx hb dX3_signTold_94 rfl (lv_at hl 0 rfl) ?_
    refine g_get hx hb hts hE hown hP g_inX3 rfl (by decide) k20 11 (by decide) rfl wf_X3_34 (v := .ref (ad_ D 29)) rfl dX3_signTold_95 ?_
    refine lv_iload_n hx hb dX3_signTold_98 rfl (lv_at hl 1 rfl) ?_
    refine g_ialdN (j := p9) hx hb hE hP (by decide) k29 (by omega) (by decide) (v := tb_ L 6 p9) (mB_4 hv hTl hp9) dX3_signTold_99 ?_
    rw [← hQ]
    exact W.iret (v := tb_ L 6 p9) hx hb hr (fun te9 hte9 _ => g_fin (⟨rfl, rfl⟩) hP hS hte9) hS.2.2 dX3_signTold_100 hlocks
  · refine lv_tableOut (x := nI 6) (tgt := 101) hx hb dX3_signTold_1 (by decide) (by decide) ?_
    refine lv_aload_n hx hb dX3_signTold_101 rfl (lv_at hl 0 rfl) ?_
    refine g_get hx hb hts hE hown hP g_inX3 rfl (by decide) k20 12 (by decide) rfl wf_X3_37 (v := .ref (ad_ D 30)) rfl dX3_signTold_102 ?_
    refine lv_iload_n hx hb dX3_signTold_105 rfl (lv_at hl 1 rfl) ?_
    refine g_ialdN (j := p9) hx hb hE hP (by decide) k30 (by omega) (by decide) (v := tb_ L 7 p9) (mB_5 hv hTl hp9) dX3_signTold_106 ?_
    rw [← hQ]
    exact W.iret (v := tb_ L 7 p9) hx hb hr (fun te9 hte9 _ => g_fin (⟨rfl, rfl⟩) hP hS hte9) hS.2.2 dX3_signTold_107 hlocks

abbrev m_X3_sign_rm : Room := { frames := 63, cells := 0, slots := 0, locals := 1566 }
set_option maxHeartbeats 4000000 in
set_option maxRecDepth 100000 in
theorem m_X3_sign (l : Launch) (D : va_G) (hAD : g_AD D) (σ : Nat → va_E) (th rs sg : Int32) (S N Z R : Nat → Int32) (T : Nat → Nat → Int32) (hM : g_Mf D σ th rs sg S N Z R T) (Ls : Nat → g_L) (wood place what : Int32) (hmr : mr_ Ls S N Z) (hvC : vC_ Ls) : g_M l D yX3_sign cX3_sign 4 (some .int) m_X3_sign_rm [.ref (ad_ D 20), .int wood, .int place, .int what] σ (fun v1 σ1 => ((er_sign Ls wood place what = 0 ∧ (∃ w p9 t, w ≤ 1 ∧ wood = nI w ∧ p9 < zs_ (Ls w).length ∧ place = nI p9 ∧ t ≤ 6 ∧ what = nI t ∧ v1 = some (.int (tel_ (tb_ (Ls w)) t p9)) ∧ g_MM D σ1 (nI 0) Ls)) ∨ ∃ k9, er_sign Ls wood place what = k9 ∧ k9 ≠ 0 ∧ v1 = some (.int (nI 0)) ∧ g_MM D σ1 (nI k9) Ls) ∧ g_off 20 30 σ σ1) := by
  refine g_ofW [(0, .ref (ad_ D 20)), (1, .int wood), (2, .int place), (3, .int what)] (by decide +kernel) (Nat.le_of_ble_eq_true rfl) rfl ?_
  intro p e s m args below meth c hx hb hr hml hown hlocks hts hE hZ hP hS hnm ls hl
  have hown : s.vm.findClass RX3 = some m.cls := hown
  generalize hQ : MQ _ _ _ _ _ _ _ = Q
  obtain ⟨k20, k21, k22, k23, k24, k25, k26, k27, k28, k29, k30⟩ := id hM
  refine lv_aload_n hx hb dX3_sign_0 rfl (lv_at hl 0 rfl) ?_
  refine lv_iconst (v := nI 0) hx hb dX3_sign_1 (by decide) ?_
  refine g_put hx hb hts hE hown hAD hP hS g_inX3 tyX3 tyX3_ok nmX3 rfl (by decide) k20 0 (by decide) rfl rfl (by decide +kernel) wf_X3_40 (v := nI 0) (Nat.le_of_ble_eq_true rfl) dX3_sign_2 (fun H locs hP hS => ?_)
  obtain ⟨σ_1, hσ2⟩ : ∃ z : Nat → va_E, z = va_up σ 20 (.inr (3, [.int (nI 0), .ref (ad_ D 21), .ref (ad_ D 22), .ref (ad_ D 23), .ref (ad_ D 24), .int rs, .int sg, .ref (ad_ D 25), .ref (ad_ D 26), .ref (ad_ D 27), .ref (ad_ D 28), .ref (ad_ D 29), .ref (ad_ D 30)])) := ⟨_, rfl⟩
  have hP : va_P D vwCl (g_W D σ_1) H := by rw [hσ2]; exact hP
  have hc3 : σ_1 20 = .inr (3, [.int (nI 0), .ref (ad_ D 21), .ref (ad_ D 22), .ref (ad_ D 23), .ref (ad_ D 24), .int rs, .int sg, .ref (ad_ D 25), .ref (ad_ D 26), .ref (ad_ D 27), .ref (ad_ D 28), .ref (ad_ D 29), .ref (ad_ D 30)]) := by rw [hσ2]; exact g_ups
  have hc4 := (by rw [hσ2]; exact g_upn k21 (by decide) : σ_1 21 = .inl (g_cI D, 2, .inl (S)))
  have hc5 := (by rw [hσ2]; exact g_upn k22 (by decide) : σ_1 22 = .inl (g_cI D, 48, .inl (N)))
  have hc6 := (by rw [hσ2]; exact g_upn k23 (by decide) : σ_1 23 = .inl (g_cI D, 48, .inl (Z)))
  have hc7 := (by rw [hσ2]; exact g_upn k24 (by decide) : σ_1 24 = .inl (g_cI D, 48, .inl (R)))
  have hc8 := (by rw [hσ2]; exact g_upn k25 (by decide) : σ_1 25 = .inl (g_cI D, 96, .inl (T 0)))
  have hc9 := (by rw [hσ2]; exact g_upn k26 (by decide) : σ_1 26 = .inl (g_cI D, 96, .inl (T 1)))
  have hc10 := (by rw [hσ2]; exact g_upn k27 (by decide) : σ_1 27 = .inl (g_cI D, 96, .inl (T 2)))
  have hc11 := (by rw [hσ2]; exact g_upn k28 (by decide) : σ_1 28 = .inl (g_cI D, 96, .inl (T 3)))
  have hc12 := (by rw [hσ2]; exact g_upn k29 (by decide) : σ_1 29 = .inl (g_cI D, 96, .inl (T 4)))
  have hc13 := (by rw [hσ2]; exact g_upn k30 (by decide) : σ_1 30 = .inl (g_cI D, 96, .inl (T 5)))
  have ho14 : g_off 20 30 σ σ_1 := by rw [hσ2]; exact g_off.up (g_off.rf (lo := 20) (hi := 30) (σ := σ)) (by decide) (by decide)
  refine lv_iload_n hx hb dX3_sign_5 rfl (lv_at hl 1 rfl) ?_
  refine g_callS0 (y := yX3_isWood) (n := 1) (As := [.int wood]) (rest := []) hx hb hml hown hts hE hZ hP hS hl.1 (m_X3_isWood l D hAD σ_1 (wood)) k_X3_94 rfl rfl ⟨rfl, rfl⟩ ⟨Nat.le_of_ble_eq_true rfl, Nat.le_of_ble_eq_true rfl⟩ (Nat.le_of_ble_eq_true rfl) ⟨Nat.le_of_ble_eq_true rfl, Nat.le_of_ble_eq_true rfl⟩ dX3_sign_6 (fun v15 σ_16 H locs hq hP hS => ?_)
  obtain ⟨rfl, rfl⟩ := hq
  refine W.eq (g2 := F0 m 9 ls [.int (if wk1_ (wood) then 1 else 0)]) rfl ?_
  refine lv_if_eq (tgt := 22) hx hb dX3_sign_9 (by decide) (fun h9 => ?_) (fun h9 => ?_)
  · have hq9 := g_pp0 h9
    refine lv_aload_n hx hb dX3_sign_22 rfl (lv_at hl 0 rfl) ?_
    refine lv_iconst (v := nI 1) hx hb dX3_sign_23 (by decide) ?_
    have hMp17 : g_Mf D σ_1 (nI 0) rs sg S N Z R T := ⟨hc3, hc4, hc5, hc6, hc7, hc8, hc9, hc10, hc11, hc12, hc13⟩
    refine g_callV0 (y := yX3_no) (n := 1) (As := [.int (nI 1)]) (rest := []) hx hb hml hown hts hE hZ hP hS hl.1 (m_X3_no l D hAD σ_1 (nI 0) rs sg S N Z R T hMp17 (nI 1)) k_X3_98 (ci := 3) (by decide) hc3 rfl rfl rfl rfl rfl ⟨rfl, rfl⟩ ⟨Nat.le_of_ble_eq_true rfl, Nat.le_of_ble_eq_true rfl⟩ (Nat.le_of_ble_eq_true rfl) ⟨Nat.le_of_ble_eq_true rfl, Nat.le_of_ble_eq_true rfl⟩ dX3_sign_24 (fun v18 σ_19 H locs hq hP hS => ?_)
    obtain ⟨rfl, hq2⟩ := hq
    refine W.eq (g2 := F0 m 27 ls [.int (nI 0)]) rfl ?_
    obtain ⟨hMn20, hon20⟩ := hq2
    obtain ⟨k21_20, k21_21, k21_22, k21_23, k21_24, k21_25, k21_26, k21_27, k21_28, k21_29, k21_30⟩ := id hMn20
    have ho22 := g_off.tr ho14 (g_off.wd hon20 (by decide) (by decide))
    have hMp23 : g_Mf D σ_19 (nI 1) rs sg S N Z R T := ⟨k21_20, k21_21, k21_22, k21_23, k21_24, k21_25, k21_26, k21_27, k21_28, k21_29, k21_30⟩
    rw [← hQ]
    exact W.iret (v := nI 0) hx hb hr (fun te9 hte9 _ => g_fin (⟨Or.inr ⟨1, by rw [er_sign, if_neg (fun q => hq9 q.1)], by decide, rfl, ⟨_, _, _, _, _, _, _, hMp23, hmr⟩⟩, ho22⟩) hP hS hte9) hS.2.2 dX3_sign_27 hlocks
  · have hq9 := g_pp1 h9
    obtain ⟨w, hw, hwe⟩ := ix_nat hq9 (by decide)
    subst hwe
    have hvw := hvC w hw
    have h24w := hvw.2
    have hvo := hvC (1 - w) (by omega)
    have h24o := hvo.2
    have hwl : wl_ Ls (nI w) = Ls w := wl_n hw
    have hot : ot_ Ls (nI w) = Ls (1 - w) := ot_n hw
    refine lv_iload_n hx hb dX3_sign_12 rfl (lv_at hl 3 rfl) ?_
    refine lv_iconst (v := nI 0) hx hb dX3_sign_13 (by decide) ?_
    refine lv_bipush (v := nI 6) hx hb dX3_sign_14 (by decide) ?_
    refine g_callS0 (y := yX3_isIn) (n := 3) (As := [.int what, .int (nI 0), .int (nI 6)]) (rest := []) hx hb hml hown hts hE hZ hP hS hl.1 (m_X3_isIn l D hAD σ_1 (what) (nI 0) (nI 6)) k_X3_44 rfl rfl ⟨rfl, rfl⟩ ⟨Nat.le_of_ble_eq_true rfl, Nat.le_of_ble_eq_true rfl⟩ (Nat.le_of_ble_eq_true rfl) ⟨Nat.le_of_ble_eq_true rfl, Nat.le_of_ble_eq_true rfl⟩ dX3_sign_16 (fun v24 σ_25 H locs hq hP hS => ?_)
    obtain ⟨rfl, rfl⟩ := hq
    refine W.eq (g2 := F0 m 19 ls [.int (if ¬ (what) < (nI 0) ∧ ¬ (nI 6) < (what) then 1 else 0)]) rfl ?_
    refine lv_if_ne (tgt := 28) hx hb dX3_sign_19 (by decide) (fun h19 => ?_) (fun h19 => ?_)
    · have hq19 := g_pp1 h19
      obtain ⟨t, ht, te⟩ := ix_nat (g := 6) hq19 (by decide)
      subst te
      refine lv_aload_n hx hb dX3_sign_28 rfl (lv_at hl 0 rfl) ?_
      refine lv_iload_n hx hb dX3_sign_29 rfl (lv_at hl 1 rfl) ?_
      have hMp26 : g_Mf D σ_1 (nI 0) rs sg S N Z R T := ⟨hc3, hc4, hc5, hc6, hc7, hc8, hc9, hc10, hc11, hc12, hc13⟩
      refine g_callV0 (y := yX3_look) (n := 1) (As := [.int (nI w)]) (rest := []) hx hb hml hown hts hE hZ hP hS hl.1 (m_X3_look l D hAD σ_1 (nI 0) rs sg S N Z R T hMp26 Ls w hmr (by omega) hvw.1) k_X3_118 (ci := 3) (by decide) hc3 rfl rfl rfl rfl rfl ⟨rfl, rfl⟩ ⟨Nat.le_of_ble_eq_true rfl, Nat.le_of_ble_eq_true rfl⟩ (Nat.le_of_ble_eq_true rfl) ⟨Nat.le_of_ble_eq_true rfl, Nat.le_of_ble_eq_true rfl⟩ dX3_sign_30 (fun v27 σ_28 H locs hq hP hS => ?_)
      obtain ⟨rfl, hq2⟩ := hq
      refine W.eq (g2 := F0 m 33 ls []) rfl ?_
      obtain ⟨⟨Rn29, Tn29, hMn29, hRln29, hTln29⟩, hofn29⟩ := hq2
      obtain ⟨k30_20, k30_21, k30_22, k30_23, k30_24, k30_25, k30_26, k30_27, k30_28, k30_29, k30_30⟩ := id hMn29
      have ho31 := g_off.tr ho14 (g_off.wd hofn29 (by decide) (by decide))
      have hz95 := zs_le (show (Ls w).length ≤ 48 by omega)
      refine lv_iload_n hx hb dX3_sign_33 rfl (lv_at hl 2 rfl) ?_
      refine lv_iconst (v := nI 0) hx hb dX3_sign_34 (by decide) ?_
      refine lv_aload_n hx hb dX3_sign_35 rfl (lv_at hl 0 rfl) ?_
      refine g_get hx hb hts hE hown hP g_inX3 rfl (by decide) k30_20 6 (by decide) rfl wf_X3_69 (v := .int (nI (zs_ (Ls w).length))) rfl dX3_sign_36 ?_
      refine lv_iconst (v := nI 1) hx hb dX3_sign_39 (by decide) ?_
      refine lv_isub hx hb dX3_sign_40 ?_
      refine g_callS0 (y := yX3_isIn) (n := 3) (As := [.int place, .int (nI 0), .int ((nI (zs_ (Ls w).length)) - (nI 1))]) (rest := []) hx hb hml hown hts hE hZ hP hS hl.1 (m_X3_isIn l D hAD σ_28 (place) (nI 0) ((nI (zs_ (Ls w).length)) - (nI 1))) k_X3_44 rfl rfl ⟨rfl, rfl⟩ ⟨Nat.le_of_ble_eq_true rfl, Nat.le_of_ble_eq_true rfl⟩ (Nat.le_of_ble_eq_true rfl) ⟨Nat.le_of_ble_eq_true rfl, Nat.le_of_ble_eq_true rfl⟩ dX3_sign_41 (fun v32 σ_33 H locs hq hP hS => ?_)
      obtain ⟨rfl, rfl⟩ := hq
      refine W.eq (g2 := F0 m 44 ls [.int (if ¬ (place) < (nI 0) ∧ ¬ ((nI (zs_ (Ls w).length)) - (nI 1)) < (place) then 1 else 0)]) rfl ?_
      refine lv_if_eq (tgt := 56) hx hb dX3_sign_44 (by decide) (fun h44 => ?_) (fun h44 => ?_)
      · have hq44 := g_pp0 h44
        refine lv_aload_n hx hb dX3_sign_56 rfl (lv_at hl 0 rfl) ?_
        refine lv_iconst (v := nI 1) hx hb dX3_sign_57 (by decide) ?_
        have hMp34 : g_Mf D σ_28 (nI 0) (nI ((Ls w).length)) (nI (zs_ (Ls w).length)) S N Z Rn29 Tn29 := ⟨k30_20, k30_21, k30_22, k30_23, k30_24, k30_25, k30_26, k30_27, k30_28, k30_29, k30_30⟩
        refine g_callV0 (y := yX3_no) (n := 1) (As := [.int (nI 1)]) (rest := []) hx hb hml hown hts hE hZ hP hS hl.1 (m_X3_no l D hAD σ_28 (nI 0) (nI ((Ls w).length)) (nI (zs_ (Ls w).length)) S N Z Rn29 Tn29 hMp34 (nI 1)) k_X3_98 (ci := 3) (by decide) k30_20 rfl rfl rfl rfl rfl ⟨rfl, rfl⟩ ⟨Nat.le_of_ble_eq_true rfl, Nat.le_of_ble_eq_true rfl⟩ (Nat.le_of_ble_eq_true rfl) ⟨Nat.le_of_ble_eq_true rfl, Nat.le_of_ble_eq_true rfl⟩ dX3_sign_58 (fun v35 σ_36 H locs hq hP hS => ?_)
        obtain ⟨rfl, hq2⟩ := hq
        refine W.eq (g2 := F0 m 61 ls [.int (nI 0)]) rfl ?_
        obtain ⟨hMn37, hon37⟩ := hq2
        obtain ⟨k38_20, k38_21, k38_22, k38_23, k38_24, k38_25, k38_26, k38_27, k38_28, k38_29, k38_30⟩ := id hMn37
        have ho39 := g_off.tr ho31 (g_off.wd hon37 (by decide) (by decide))
        have hMp40 : g_Mf D σ_36 (nI 1) (nI ((Ls w).length)) (nI (zs_ (Ls w).length)) S N Z Rn29 Tn29 := ⟨k38_20, k38_21, k38_22, k38_23, k38_24, k38_25, k38_26, k38_27, k38_28, k38_29, k38_30⟩
        rw [← hQ]
        exact W.iret (v := nI 0) hx hb hr (fun te9 hte9 _ => g_fin (⟨Or.inr ⟨1, by rw [er_sign, hwl, if_neg (fun q => hq44 q.2.1)], by decide, rfl, ⟨_, _, _, _, _, _, _, hMp40, hmr⟩⟩, ho39⟩) hP hS hte9) hS.2.2 dX3_sign_61 hlocks
      · have hq44 := g_pp1 h44
        obtain ⟨p9, hp9, p9e⟩ := sz_ix (by omega) hq44
        subst p9e
        refine lv_aload_n hx hb dX3_sign_47 rfl (lv_at hl 0 rfl) ?_
        refine lv_iload_n hx hb dX3_sign_48 rfl (lv_at hl 2 rfl) ?_
        refine lv_iload_n hx hb dX3_sign_49 rfl (lv_at hl 3 rfl) ?_
        have hMp41 : g_Mf D σ_28 (nI 0) (nI ((Ls w).length)) (nI (zs_ (Ls w).length)) S N Z Rn29 Tn29 := ⟨k30_20, k30_21, k30_22, k30_23, k30_24, k30_25, k30_26, k30_27, k30_28, k30_29, k30_30⟩
        refine g_callV0 (y := yX3_signTold) (n := 2) (As := [.int (nI p9), .int (nI t)]) (rest := []) hx hb hml hown hts hE hZ hP hS hl.1 (m_X3_signTold l D hAD σ_28 (nI 0) S N Z Rn29 Tn29 (Ls w) hMp41 p9 t hvw.1 (by omega) hRln29 hTln29 (by omega) (by omega)) k_X3_137 (ci := 3) (by decide) k30_20 rfl rfl rfl rfl rfl ⟨rfl, rfl⟩ ⟨Nat.le_of_ble_eq_true rfl, Nat.le_of_ble_eq_true rfl⟩ (Nat.le_of_ble_eq_true rfl) ⟨Nat.le_of_ble_eq_true rfl, Nat.le_of_ble_eq_true rfl⟩ dX3_sign_50 (fun v42 σ_43 H locs hq hP hS => ?_)
        obtain ⟨rfl, rfl⟩ := hq
        refine W.eq (g2 := F0 m 53 ls [.int (tel_ (tb_ (Ls w)) t p9)]) rfl ?_
        refine lv_goto (tgt := 61) hx hb dX3_sign_53 (by decide) ?_
        have hMp44 : g_Mf D σ_28 (nI 0) (nI ((Ls w).length)) (nI (zs_ (Ls w).length)) S N Z Rn29 Tn29 := ⟨k30_20, k30_21, k30_22, k30_23, k30_24, k30_25, k30_26, k30_27, k30_28, k30_29, k30_30⟩
        rw [← hQ]
        exact W.iret (v := tel_ (tb_ (Ls w)) t p9) hx hb hr (fun te9 hte9 _ => g_fin (⟨Or.inl ⟨by rw [er_sign, hwl, if_pos ⟨ix_of hw (by decide), hq44, ix_of ht (by decide)⟩], w, p9, t, hw, rfl, hp9, rfl, ht, rfl, rfl, ⟨_, _, _, _, _, _, _, hMp44, hmr⟩⟩, ho31⟩) hP hS hte9) hS.2.2 dX3_sign_61 hlocks
    · have hq19 := g_pp0 h19
      refine lv_aload_n hx hb dX3_sign_22 rfl (lv_at hl 0 rfl) ?_
      refine lv_iconst (v := nI 1) hx hb dX3_sign_23 (by decide) ?_
      have hMp45 : g_Mf D σ_1 (nI 0) rs sg S N Z R T := ⟨hc3, hc4, hc5, hc6, hc7, hc8, hc9, hc10, hc11, hc12, hc13⟩
      refine g_callV0 (y := yX3_no) (n := 1) (As := [.int (nI 1)]) (rest := []) hx hb hml hown hts hE hZ hP hS hl.1 (m_X3_no l D hAD σ_1 (nI 0) rs sg S N Z R T hMp45 (nI 1)) k_X3_98 (ci := 3) (by decide) hc3 rfl rfl rfl rfl rfl ⟨rfl, rfl⟩ ⟨Nat.le_of_ble_eq_true rfl, Nat.le_of_ble_eq_true rfl⟩ (Nat.le_of_ble_eq_true rfl) ⟨Nat.le_of_ble_eq_true rfl, Nat.le_of_ble_eq_true rfl⟩ dX3_sign_24 (fun v46 σ_47 H locs hq hP hS => ?_)
      obtain ⟨rfl, hq2⟩ := hq
      refine W.eq (g2 := F0 m 27 ls [.int (nI 0)]) rfl ?_
      obtain ⟨hMn48, hon48⟩ := hq2
      obtain ⟨k49_20, k49_21, k49_22, k49_23, k49_24, k49_25, k49_26, k49_27, k49_28, k49_29, k49_30⟩ := id hMn48
      have ho50 := g_off.tr ho14 (g_off.wd hon48 (by decide) (by decide))
      have hMp51 : g_Mf D σ_47 (nI 1) rs sg S N Z R T := ⟨k49_20, k49_21, k49_22, k49_23, k49_24, k49_25, k49_26, k49_27, k49_28, k49_29, k49_30⟩
      rw [← hQ]
      exact W.iret (v := nI 0) hx hb hr (fun te9 hte9 _ => g_fin (⟨Or.inr ⟨1, by rw [er_sign, if_neg (fun q => hq19 q.2.2)], by decide, rfl, ⟨_, _, _, _, _, _, _, hMp51, hmr⟩⟩, ho50⟩) hP hS hte9) hS.2.2 dX3_sign_27 hlocks

abbrev m_X3_walk_rm : Room := { frames := 63, cells := 0, slots := 0, locals := 1566 }
set_option maxHeartbeats 4000000 in
set_option maxRecDepth 100000 in
theorem m_X3_walk (l : Launch) (D : va_G) (hAD : g_AD D) (σ : Nat → va_E) (th rs sg : Int32) (S N Z R : Nat → Int32) (T : Nat → Nat → Int32) (hM : g_Mf D σ th rs sg S N Z R T) (Ls : Nat → g_L) (wood name what : Int32) (hmr : mr_ Ls S N Z) (hvC : vC_ Ls) : g_M l D yX3_walk cX3_walk 6 (some .int) m_X3_walk_rm [.ref (ad_ D 20), .int wood, .int name, .int what] σ (fun v1 σ1 => ((er_walk Ls wood name what = 0 ∧ (∃ w t, w ≤ 1 ∧ wood = nI w ∧ t ≤ 2 ∧ what = nI t ∧ nm1_ name ∧ (Ls w).length ≠ 0 ∧ v1 = some (.int (tw_ (tb_ (Ls w)) name t)) ∧ g_MM D σ1 (nI 0) Ls)) ∨ ∃ k9, er_walk Ls wood name what = k9 ∧ k9 ≠ 0 ∧ v1 = some (.int (nI 0)) ∧ g_MM D σ1 (nI k9) Ls) ∧ g_off 20 30 σ σ1) := by
  refine g_ofW [(0, .ref (ad_ D 20)), (1, .int wood), (2, .int name), (3, .int what)] (by decide +kernel) (Nat.le_of_ble_eq_true rfl) rfl ?_
  intro p e s m args below meth c hx hb hr hml hown hlocks hts hE hZ hP hS hnm ls hl
  have hown : s.vm.findClass RX3 = some m.cls := hown
  generalize hQ : MQ _ _ _ _ _ _ _ = Q
  obtain ⟨k20, k21, k22, k23, k24, k25, k26, k27, k28, k29, k30⟩ := id hM
  refine lv_aload_n hx hb dX3_walk_0 rfl (lv_at hl 0 rfl) ?_
  refine lv_iconst (v := nI 0) hx hb dX3_walk_1 (by decide) ?_
  refine g_put hx hb hts hE hown hAD hP hS g_inX3 tyX3 tyX3_ok nmX3 rfl (by decide) k20 0 (by decide) rfl rfl (by decide +kernel) wf_X3_40 (v := nI 0) (Nat.le_of_ble_eq_true rfl) dX3_walk_2 (fun H locs hP hS => ?_)
  obtain ⟨σ_1, hσ2⟩ : ∃ z : Nat → va_E, z = va_up σ 20 (.inr (3, [.int (nI 0), .ref (ad_ D 21), .ref (ad_ D 22), .ref (ad_ D 23), .ref (ad_ D 24), .int rs, .int sg, .ref (ad_ D 25), .ref (ad_ D 26), .ref (ad_ D 27), .ref (ad_ D 28), .ref (ad_ D 29), .ref (ad_ D 30)])) := ⟨_, rfl⟩
  have hP : va_P D vwCl (g_W D σ_1) H := by rw [hσ2]; exact hP
  have hc3 : σ_1 20 = .inr (3, [.int (nI 0), .ref (ad_ D 21), .ref (ad_ D 22), .ref (ad_ D 23), .ref (ad_ D 24), .int rs, .int sg, .ref (ad_ D 25), .ref (ad_ D 26), .ref (ad_ D 27), .ref (ad_ D 28), .ref (ad_ D 29), .ref (ad_ D 30)]) := by rw [hσ2]; exact g_ups
  have hc4 := (by rw [hσ2]; exact g_upn k21 (by decide) : σ_1 21 = .inl (g_cI D, 2, .inl (S)))
  have hc5 := (by rw [hσ2]; exact g_upn k22 (by decide) : σ_1 22 = .inl (g_cI D, 48, .inl (N)))
  have hc6 := (by rw [hσ2]; exact g_upn k23 (by decide) : σ_1 23 = .inl (g_cI D, 48, .inl (Z)))
  have hc7 := (by rw [hσ2]; exact g_upn k24 (by decide) : σ_1 24 = .inl (g_cI D, 48, .inl (R)))
  have hc8 := (by rw [hσ2]; exact g_upn k25 (by decide) : σ_1 25 = .inl (g_cI D, 96, .inl (T 0)))
  have hc9 := (by rw [hσ2]; exact g_upn k26 (by decide) : σ_1 26 = .inl (g_cI D, 96, .inl (T 1)))
  have hc10 := (by rw [hσ2]; exact g_upn k27 (by decide) : σ_1 27 = .inl (g_cI D, 96, .inl (T 2)))
  have hc11 := (by rw [hσ2]; exact g_upn k28 (by decide) : σ_1 28 = .inl (g_cI D, 96, .inl (T 3)))
  have hc12 := (by rw [hσ2]; exact g_upn k29 (by decide) : σ_1 29 = .inl (g_cI D, 96, .inl (T 4)))
  have hc13 := (by rw [hσ2]; exact g_upn k30 (by decide) : σ_1 30 = .inl (g_cI D, 96, .inl (T 5)))
  have ho14 : g_off 20 30 σ σ_1 := by rw [hσ2]; exact g_off.up (g_off.rf (lo := 20) (hi := 30) (σ := σ)) (by decide) (by decide)
  refine lv_iload_n hx hb dX3_walk_5 rfl (lv_at hl 1 rfl) ?_
  refine g_callS0 (y := yX3_isWood) (n := 1) (As := [.int wood]) (rest := []) hx hb hml hown hts hE hZ hP hS hl.1 (m_X3_isWood l D hAD σ_1 (wood)) k_X3_94 rfl rfl ⟨rfl, rfl⟩ ⟨Nat.le_of_ble_eq_true rfl, Nat.le_of_ble_eq_true rfl⟩ (Nat.le_of_ble_eq_true rfl) ⟨Nat.le_of_ble_eq_true rfl, Nat.le_of_ble_eq_true rfl⟩ dX3_walk_6 (fun v15 σ_16 H locs hq hP hS => ?_)
  obtain ⟨rfl, rfl⟩ := hq
  refine W.eq (g2 := F0 m 9 ls [.int (if wk1_ (wood) then 1 else 0)]) rfl ?_
  refine lv_if_eq (tgt := 21) hx hb dX3_walk_9 (by decide) (fun h9 => ?_) (fun h9 => ?_)
  · have hq9 := g_pp0 h9
    refine lv_aload_n hx hb dX3_walk_21 rfl (lv_at hl 0 rfl) ?_
    refine lv_iconst (v := nI 1) hx hb dX3_walk_22 (by decide) ?_
    have hMp17 : g_Mf D σ_1 (nI 0) rs sg S N Z R T := ⟨hc3, hc4, hc5, hc6, hc7, hc8, hc9, hc10, hc11, hc12, hc13⟩
    refine g_callV0 (y := yX3_no) (n := 1) (As := [.int (nI 1)]) (rest := []) hx hb hml hown hts hE hZ hP hS hl.1 (m_X3_no l D hAD σ_1 (nI 0) rs sg S N Z R T hMp17 (nI 1)) k_X3_98 (ci := 3) (by decide) hc3 rfl rfl rfl rfl rfl ⟨rfl, rfl⟩ ⟨Nat.le_of_ble_eq_true rfl, Nat.le_of_ble_eq_true rfl⟩ (Nat.le_of_ble_eq_true rfl) ⟨Nat.le_of_ble_eq_true rfl, Nat.le_of_ble_eq_true rfl⟩ dX3_walk_23 (fun v18 σ_19 H locs hq hP hS => ?_)
    obtain ⟨rfl, hq2⟩ := hq
    refine W.eq (g2 := F0 m 26 ls [.int (nI 0)]) rfl ?_
    obtain ⟨hMn20, hon20⟩ := hq2
    obtain ⟨k21_20, k21_21, k21_22, k21_23, k21_24, k21_25, k21_26, k21_27, k21_28, k21_29, k21_30⟩ := id hMn20
    have ho22 := g_off.tr ho14 (g_off.wd hon20 (by decide) (by decide))
    have hMp23 : g_Mf D σ_19 (nI 1) rs sg S N Z R T := ⟨k21_20, k21_21, k21_22, k21_23, k21_24, k21_25, k21_26, k21_27, k21_28, k21_29, k21_30⟩
    rw [← hQ]
    exact W.iret (v := nI 0) hx hb hr (fun te9 hte9 _ => g_fin (⟨Or.inr ⟨1, by rw [er_walk, if_neg (fun q => hq9 q.1)], by decide, rfl, ⟨_, _, _, _, _, _, _, hMp23, hmr⟩⟩, ho22⟩) hP hS hte9) hS.2.2 dX3_walk_26 hlocks
  · have hq9 := g_pp1 h9
    obtain ⟨w, hw, hwe⟩ := ix_nat hq9 (by decide)
    subst hwe
    have hvw := hvC w hw
    have h24w := hvw.2
    have hvo := hvC (1 - w) (by omega)
    have h24o := hvo.2
    have hwl : wl_ Ls (nI w) = Ls w := wl_n hw
    have hot : ot_ Ls (nI w) = Ls (1 - w) := ot_n hw
    refine lv_iload_n hx hb dX3_walk_12 rfl (lv_at hl 3 rfl) ?_
    refine lv_iconst (v := nI 0) hx hb dX3_walk_13 (by decide) ?_
    refine lv_iconst (v := nI 2) hx hb dX3_walk_14 (by decide) ?_
    refine g_callS0 (y := yX3_isIn) (n := 3) (As := [.int what, .int (nI 0), .int (nI 2)]) (rest := []) hx hb hml hown hts hE hZ hP hS hl.1 (m_X3_isIn l D hAD σ_1 (what) (nI 0) (nI 2)) k_X3_44 rfl rfl ⟨rfl, rfl⟩ ⟨Nat.le_of_ble_eq_true rfl, Nat.le_of_ble_eq_true rfl⟩ (Nat.le_of_ble_eq_true rfl) ⟨Nat.le_of_ble_eq_true rfl, Nat.le_of_ble_eq_true rfl⟩ dX3_walk_15 (fun v24 σ_25 H locs hq hP hS => ?_)
    obtain ⟨rfl, rfl⟩ := hq
    refine W.eq (g2 := F0 m 18 ls [.int (if ¬ (what) < (nI 0) ∧ ¬ (nI 2) < (what) then 1 else 0)]) rfl ?_
    refine lv_if_ne (tgt := 27) hx hb dX3_walk_18 (by decide) (fun h18 => ?_) (fun h18 => ?_)
    · have hq18 := g_pp1 h18
      obtain ⟨t, ht, te⟩ := ix_nat (g := 2) hq18 (by decide)
      subst te
      refine lv_iload_n hx hb dX3_walk_27 rfl (lv_at hl 2 rfl) ?_
      refine g_callS0 (y := yX3_isName) (n := 1) (As := [.int name]) (rest := []) hx hb hml hown hts hE hZ hP hS hl.1 (m_X3_isName l D hAD σ_1 (name)) k_X3_101 rfl rfl ⟨rfl, rfl⟩ ⟨Nat.le_of_ble_eq_true rfl, Nat.le_of_ble_eq_true rfl⟩ (Nat.le_of_ble_eq_true rfl) ⟨Nat.le_of_ble_eq_true rfl, Nat.le_of_ble_eq_true rfl⟩ dX3_walk_28 (fun v26 σ_27 H locs hq hP hS => ?_)
      obtain ⟨rfl, rfl⟩ := hq
      refine W.eq (g2 := F0 m 31 ls [.int (if nm1_ (name) then 1 else 0)]) rfl ?_
      refine lv_if_ne (tgt := 40) hx hb dX3_walk_31 (by decide) (fun h31 => ?_) (fun h31 => ?_)
      · have hq31 := g_pp1 h31
        have hne31 := ne_m1 (nm_le hq31).1
        refine lv_aload_n hx hb dX3_walk_40 rfl (lv_at hl 0 rfl) ?_
        refine g_get hx hb hts hE hown hP g_inX3 rfl (by decide) hc3 1 (by decide) rfl wf_X3_9 (v := .ref (ad_ D 21)) rfl dX3_walk_41 ?_
        refine lv_iload_n hx hb dX3_walk_44 rfl (lv_at hl 1 rfl) ?_
        refine g_ialdN (j := w) hx hb hE hP (by decide) hc4 (by omega) (by decide) (v := nI ((Ls w).length)) (hmr.S (by omega)) dX3_walk_45 ?_
        refine lv_if_ne (tgt := 55) hx hb dX3_walk_46 (by decide) (fun h46 => ?_) (fun h46 => ?_)
        · have hb46 := g_ne (a := (Ls w).length) (b := 0) h46 (by omega) (by omega)
          refine lv_aload_n hx hb dX3_walk_55 rfl (lv_at hl 0 rfl) ?_
          refine lv_iload_n hx hb dX3_walk_56 rfl (lv_at hl 1 rfl) ?_
          have hMp28 : g_Mf D σ_1 (nI 0) rs sg S N Z R T := ⟨hc3, hc4, hc5, hc6, hc7, hc8, hc9, hc10, hc11, hc12, hc13⟩
          refine g_callV0 (y := yX3_look) (n := 1) (As := [.int (nI w)]) (rest := []) hx hb hml hown hts hE hZ hP hS hl.1 (m_X3_look l D hAD σ_1 (nI 0) rs sg S N Z R T hMp28 Ls w hmr (by omega) hvw.1) k_X3_118 (ci := 3) (by decide) hc3 rfl rfl rfl rfl rfl ⟨rfl, rfl⟩ ⟨Nat.le_of_ble_eq_true rfl, Nat.le_of_ble_eq_true rfl⟩ (Nat.le_of_ble_eq_true rfl) ⟨Nat.le_of_ble_eq_true rfl, Nat.le_of_ble_eq_true rfl⟩ dX3_walk_57 (fun v29 σ_30 H locs hq hP hS => ?_)
          obtain ⟨rfl, hq2⟩ := hq
          refine W.eq (g2 := F0 m 60 ls []) rfl ?_
          obtain ⟨⟨Rn31, Tn31, hMn31, hRln31, hTln31⟩, hofn31⟩ := hq2
          obtain ⟨k32_20, k32_21, k32_22, k32_23, k32_24, k32_25, k32_26, k32_27, k32_28, k32_29, k32_30⟩ := id hMn31
          have ho33 := g_off.tr ho14 (g_off.wd hofn31 (by decide) (by decide))
          refine lv_aload_n hx hb dX3_walk_60 rfl (lv_at hl 0 rfl) ?_
          refine lv_iload_n hx hb dX3_walk_61 rfl (lv_at hl 2 rfl) ?_
          have hMp34 : g_Mf D σ_30 (nI 0) (nI ((Ls w).length)) (nI (zs_ (Ls w).length)) S N Z Rn31 Tn31 := ⟨k32_20, k32_21, k32_22, k32_23, k32_24, k32_25, k32_26, k32_27, k32_28, k32_29, k32_30⟩
          refine g_callV0 (y := yX3_walkTo) (n := 1) (As := [.int name]) (rest := []) hx hb hml hown hts hE hZ hP hS hl.1 (m_X3_walkTo l D hAD σ_30 (nI 0) S N Z Rn31 Tn31 (Ls w) hMp34 (name) hvw.1 (by omega) hRln31 hTln31 (by omega)) k_X3_140 (ci := 3) (by decide) k32_20 rfl rfl rfl rfl rfl ⟨rfl, rfl⟩ ⟨Nat.le_of_ble_eq_true rfl, Nat.le_of_ble_eq_true rfl⟩ (Nat.le_of_ble_eq_true rfl) ⟨Nat.le_of_ble_eq_true rfl, Nat.le_of_ble_eq_true rfl⟩ dX3_walk_62 (fun v35 σ_36 H locs hq hP hS => ?_)
          obtain ⟨rfl, rfl⟩ := hq
          refine W.eq (g2 := F0 m 65 ls [.int (nI (wk_ (tb_ (Ls w)) (name) 16 0))]) rfl ?_
          have hch9 := tB_ch hvw.1 (tb_T hvw.1)
          have h0z := zs_pos (Nat.pos_of_ne_zero hb46)
          have hz95 := zs_le (show (Ls w).length ≤ 48 by omega)
          have hwk9 := wk_lt (x := name) hz95 hch9 16 0 h0z
          obtain ⟨a9, c9, hc9, hac9, e1, e2, e3, e4, e5⟩ := mB_nd hvw.1 hTln31 hwk9
          have hbd9 : 0 ≤ tb_ (Ls w) 3 (wk_ (tb_ (Ls w)) name 16 0) ∧ tb_ (Ls w) 3 (wk_ (tb_ (Ls w)) name 16 0) ≤ 65535 := by rw [e4]; exact hvw.1.2.1 a9 (by omega)
          refine lv_istore (lv' := [(4, .int (nI (wk_ (tb_ (Ls w)) (name) 16 0))), (0, .ref (ad_ D 20)), (1, .int (nI w)), (2, .int name), (3, .int (nI t))]) hx hb dX3_walk_65 hl (by decide) rfl (fun ls hl => ?_)
          refine lv_aload_n hx hb dX3_walk_67 rfl (lv_at hl 1 rfl) ?_
          refine g_get hx hb hts hE hown hP g_inX3 rfl (by decide) k32_20 4 (by decide) rfl wf_X3_19 (v := .ref (ad_ D 24)) rfl dX3_walk_68 ?_
          refine lv_aload_n hx hb dX3_walk_71 rfl (lv_at hl 1 rfl) ?_
          refine g_get hx hb hts hE hown hP g_inX3 rfl (by decide) k32_20 8 (by decide) rfl wf_X3_25 (v := .ref (ad_ D 26)) rfl dX3_walk_72 ?_
          refine lv_iload hx hb dX3_walk_75 (lv_at hl 0 rfl) ?_
          refine g_ialdN (j := wk_ (tb_ (Ls w)) (name) 16 0) hx hb hE hP (by decide) k32_26 (by omega) (by decide) (v := nI a9) (e1) dX3_walk_77 ?_
          refine g_ialdN (j := a9) hx hb hE hP (by decide) k32_24 (by omega) (by decide) (v := tb_ (Ls w) 3 (wk_ (tb_ (Ls w)) name 16 0)) ((hRln31 _ (by omega)).trans e4.symm) dX3_walk_78 ?_
          refine lv_istore (lv' := [(5, .int (tb_ (Ls w) 3 (wk_ (tb_ (Ls w)) name 16 0))), (4, .int (nI (wk_ (tb_ (Ls w)) (name) 16 0))), (0, .ref (ad_ D 20)), (1, .int (nI w)), (2, .int name), (3, .int (nI t))]) hx hb dX3_walk_79 hl (by decide) rfl (fun ls hl => ?_)
          refine lv_iload_n hx hb dX3_walk_81 rfl (lv_at hl 5 rfl) ?_
          refine lv_if_ne (tgt := 95) hx hb dX3_walk_82 (by decide) (fun h82 => ?_) (fun h82 => ?_)
          · have hb82 := g_ne (a := t) (b := 0) h82 (by omega) (by omega)
            refine lv_iload_n hx hb dX3_walk_95 rfl (lv_at hl 5 rfl) ?_
            refine lv_iconst (v := nI 1) hx hb dX3_walk_96 (by decide) ?_
            refine lv_icmp_ne (tgt := 105) hx hb dX3_walk_97 (by decide) (fun h97 => ?_) (fun h97 => ?_)
            · have hb97 := g_ne (a := t) (b := 1) h97 (by omega) (by omega)
              refine lv_iload hx hb dX3_walk_105 (lv_at hl 0 rfl) ?_
              refine lv_iload_n hx hb dX3_walk_107 rfl (lv_at hl 4 rfl) ?_
              refine lv_ixor hx hb dX3_walk_108 ?_
              obtain ⟨u37, hu37, eu37⟩ := xor_nat hbd9 (nm_le hq31)
              rw [eu37]
              refine g_callS0 (y := yX3_topBit) (n := 1) (As := [.int (nI u37)]) (rest := []) hx hb hml hown hts hE hZ hP hS hl.1 (m_X3_topBit l D hAD σ_30 u37 hu37) k_X3_72 rfl rfl ⟨rfl, rfl⟩ ⟨Nat.le_of_ble_eq_true rfl, Nat.le_of_ble_eq_true rfl⟩ (Nat.le_of_ble_eq_true rfl) ⟨Nat.le_of_ble_eq_true rfl, Nat.le_of_ble_eq_true rfl⟩ dX3_walk_109 (fun v38 σ_39 H locs hq hP hS => ?_)
              obtain ⟨rfl, rfl⟩ := hq
              refine W.eq (g2 := F0 m 112 ls [.int (tp_ (nI u37))]) rfl ?_
              refine g_top (y := tp_ ((tb_ (Ls w) 3 (wk_ (tb_ (Ls w)) name 16 0)) ^^^ name)) (by rw [eu37]) ?_
              have hMp40 : g_Mf D σ_30 (nI 0) (nI ((Ls w).length)) (nI (zs_ (Ls w).length)) S N Z Rn31 Tn31 := ⟨k32_20, k32_21, k32_22, k32_23, k32_24, k32_25, k32_26, k32_27, k32_28, k32_29, k32_30⟩
              rw [← hQ]
              exact W.iret (v := tp_ ((tb_ (Ls w) 3 (wk_ (tb_ (Ls w)) name 16 0)) ^^^ name)) hx hb hr (fun te9 hte9 _ => g_fin (⟨Or.inl ⟨by rw [er_walk, if_pos (⟨ix_of hw (by decide), ix_of ht (by decide)⟩ : wk1_ _ ∧ ix_ _ _), if_pos hq31, hwl, if_neg hb46], w, t, hw, rfl, ht, rfl, hq31, hb46, by rw [show t = 2 by omega]; rfl, ⟨_, _, _, _, _, _, _, hMp40, hmr⟩⟩, ho33⟩) hP hS hte9) hS.2.2 dX3_walk_112 hlocks
            · have hb97 := g_eq (a := t) (b := 1) h97 (by omega) (by omega)
              refine lv_iload hx hb dX3_walk_100 (lv_at hl 0 rfl) ?_
              refine lv_goto (tgt := 112) hx hb dX3_walk_102 (by decide) ?_
              have hMp41 : g_Mf D σ_30 (nI 0) (nI ((Ls w).length)) (nI (zs_ (Ls w).length)) S N Z Rn31 Tn31 := ⟨k32_20, k32_21, k32_22, k32_23, k32_24, k32_25, k32_26, k32_27, k32_28, k32_29, k32_30⟩
              rw [← hQ]
              exact W.iret (v := tb_ (Ls w) 3 (wk_ (tb_ (Ls w)) name 16 0)) hx hb hr (fun te9 hte9 _ => g_fin (⟨Or.inl ⟨by rw [er_walk, if_pos (⟨ix_of hw (by decide), ix_of ht (by decide)⟩ : wk1_ _ ∧ ix_ _ _), if_pos hq31, hwl, if_neg hb46], w, t, hw, rfl, ht, rfl, hq31, hb46, by rw [show t = 1 by omega]; rfl, ⟨_, _, _, _, _, _, _, hMp41, hmr⟩⟩, ho33⟩) hP hS hte9) hS.2.2 dX3_walk_112 hlocks
          · have hb82 := g_eq (a := t) (b := 0) h82 (by omega) (by omega)
            refine lv_aload_n hx hb dX3_walk_85 rfl (lv_at hl 2 rfl) ?_
            refine g_get hx hb hts hE hown hP g_inX3 rfl (by decide) k32_20 12 (by decide) rfl wf_X3_37 (v := .ref (ad_ D 30)) rfl dX3_walk_86 ?_
            refine lv_iload hx hb dX3_walk_89 (lv_at hl 1 rfl) ?_
            refine g_ialdN (j := wk_ (tb_ (Ls w)) (name) 16 0) hx hb hE hP (by decide) k32_30 (by omega) (by decide) (v := tb_ (Ls w) 7 (wk_ (tb_ (Ls w)) name 16 0)) (mB_5 hvw.1 hTln31 hwk9) dX3_walk_91 ?_
            refine lv_goto (tgt := 112) hx hb dX3_walk_92 (by decide) ?_
            have hMp42 : g_Mf D σ_30 (nI 0) (nI ((Ls w).length)) (nI (zs_ (Ls w).length)) S N Z Rn31 Tn31 := ⟨k32_20, k32_21, k32_22, k32_23, k32_24, k32_25, k32_26, k32_27, k32_28, k32_29, k32_30⟩
            rw [← hQ]
            exact W.iret (v := tb_ (Ls w) 7 (wk_ (tb_ (Ls w)) name 16 0)) hx hb hr (fun te9 hte9 _ => g_fin (⟨Or.inl ⟨by rw [er_walk, if_pos (⟨ix_of hw (by decide), ix_of ht (by decide)⟩ : wk1_ _ ∧ ix_ _ _), if_pos hq31, hwl, if_neg hb46], w, t, hw, rfl, ht, rfl, hq31, hb46, by rw [show t = 0 by omega]; rfl, ⟨_, _, _, _, _, _, _, hMp42, hmr⟩⟩, ho33⟩) hP hS hte9) hS.2.2 dX3_walk_112 hlocks
        · have hb46 := g_eq (a := (Ls w).length) (b := 0) h46 (by omega) (by omega)
          refine lv_aload_n hx hb dX3_walk_49 rfl (lv_at hl 0 rfl) ?_
          refine lv_iconst (v := nI 3) hx hb dX3_walk_50 (by decide) ?_
          have hMp43 : g_Mf D σ_1 (nI 0) rs sg S N Z R T := ⟨hc3, hc4, hc5, hc6, hc7, hc8, hc9, hc10, hc11, hc12, hc13⟩
          refine g_callV0 (y := yX3_no) (n := 1) (As := [.int (nI 3)]) (rest := []) hx hb hml hown hts hE hZ hP hS hl.1 (m_X3_no l D hAD σ_1 (nI 0) rs sg S N Z R T hMp43 (nI 3)) k_X3_98 (ci := 3) (by decide) hc3 rfl rfl rfl rfl rfl ⟨rfl, rfl⟩ ⟨Nat.le_of_ble_eq_true rfl, Nat.le_of_ble_eq_true rfl⟩ (Nat.le_of_ble_eq_true rfl) ⟨Nat.le_of_ble_eq_true rfl, Nat.le_of_ble_eq_true rfl⟩ dX3_walk_51 (fun v44 σ_45 H locs hq hP hS => ?_)
          obtain ⟨rfl, hq2⟩ := hq
          refine W.eq (g2 := F0 m 54 ls [.int (nI 0)]) rfl ?_
          obtain ⟨hMn46, hon46⟩ := hq2
          obtain ⟨k47_20, k47_21, k47_22, k47_23, k47_24, k47_25, k47_26, k47_27, k47_28, k47_29, k47_30⟩ := id hMn46
          have ho48 := g_off.tr ho14 (g_off.wd hon46 (by decide) (by decide))
          have hMp49 : g_Mf D σ_45 (nI 3) rs sg S N Z R T := ⟨k47_20, k47_21, k47_22, k47_23, k47_24, k47_25, k47_26, k47_27, k47_28, k47_29, k47_30⟩
          rw [← hQ]
          exact W.iret (v := nI 0) hx hb hr (fun te9 hte9 _ => g_fin (⟨Or.inr ⟨3, by rw [er_walk, if_pos (⟨ix_of hw (by decide), ix_of ht (by decide)⟩ : wk1_ _ ∧ ix_ _ _), if_pos hq31, hwl, if_pos hb46], by decide, rfl, ⟨_, _, _, _, _, _, _, hMp49, hmr⟩⟩, ho48⟩) hP hS hte9) hS.2.2 dX3_walk_54 hlocks
      · have hq31 := g_pp0 h31
        refine lv_aload_n hx hb dX3_walk_34 rfl (lv_at hl 0 rfl) ?_
        refine lv_iconst (v := nI 2) hx hb dX3_walk_35 (by decide) ?_
        have hMp50 : g_Mf D σ_1 (nI 0) rs sg S N Z R T := ⟨hc3, hc4, hc5, hc6, hc7, hc8, hc9, hc10, hc11, hc12, hc13⟩
        refine g_callV0 (y := yX3_no) (n := 1) (As := [.int (nI 2)]) (rest := []) hx hb hml hown hts hE hZ hP hS hl.1 (m_X3_no l D hAD σ_1 (nI 0) rs sg S N Z R T hMp50 (nI 2)) k_X3_98 (ci := 3) (by decide) hc3 rfl rfl rfl rfl rfl ⟨rfl, rfl⟩ ⟨Nat.le_of_ble_eq_true rfl, Nat.le_of_ble_eq_true rfl⟩ (Nat.le_of_ble_eq_true rfl) ⟨Nat.le_of_ble_eq_true rfl, Nat.le_of_ble_eq_true rfl⟩ dX3_walk_36 (fun v51 σ_52 H locs hq hP hS => ?_)
        obtain ⟨rfl, hq2⟩ := hq
        refine W.eq (g2 := F0 m 39 ls [.int (nI 0)]) rfl ?_
        obtain ⟨hMn53, hon53⟩ := hq2
        obtain ⟨k54_20, k54_21, k54_22, k54_23, k54_24, k54_25, k54_26, k54_27, k54_28, k54_29, k54_30⟩ := id hMn53
        have ho55 := g_off.tr ho14 (g_off.wd hon53 (by decide) (by decide))
        have hMp56 : g_Mf D σ_52 (nI 2) rs sg S N Z R T := ⟨k54_20, k54_21, k54_22, k54_23, k54_24, k54_25, k54_26, k54_27, k54_28, k54_29, k54_30⟩
        rw [← hQ]
        exact W.iret (v := nI 0) hx hb hr (fun te9 hte9 _ => g_fin (⟨Or.inr ⟨2, by rw [er_walk, if_pos (⟨ix_of hw (by decide), ix_of ht (by decide)⟩ : wk1_ _ ∧ ix_ _ _), if_neg hq31], by decide, rfl, ⟨_, _, _, _, _, _, _, hMp56, hmr⟩⟩, ho55⟩) hP hS hte9) hS.2.2 dX3_walk_39 hlocks
    · have hq18 := g_pp0 h18
      refine lv_aload_n hx hb dX3_walk_21 rfl (lv_at hl 0 rfl) ?_
      refine lv_iconst (v := nI 1) hx hb dX3_walk_22 (by decide) ?_
      have hMp57 : g_Mf D σ_1 (nI 0) rs sg S N Z R T := ⟨hc3, hc4, hc5, hc6, hc7, hc8, hc9, hc10, hc11, hc12, hc13⟩
      refine g_callV0 (y := yX3_no) (n := 1) (As := [.int (nI 1)]) (rest := []) hx hb hml hown hts hE hZ hP hS hl.1 (m_X3_no l D hAD σ_1 (nI 0) rs sg S N Z R T hMp57 (nI 1)) k_X3_98 (ci := 3) (by decide) hc3 rfl rfl rfl rfl rfl ⟨rfl, rfl⟩ ⟨Nat.le_of_ble_eq_true rfl, Nat.le_of_ble_eq_true rfl⟩ (Nat.le_of_ble_eq_true rfl) ⟨Nat.le_of_ble_eq_true rfl, Nat.le_of_ble_eq_true rfl⟩ dX3_walk_23 (fun v58 σ_59 H locs hq hP hS => ?_)
      obtain ⟨rfl, hq2⟩ := hq
      refine W.eq (g2 := F0 m 26 ls [.int (nI 0)]) rfl ?_
      obtain ⟨hMn60, hon60⟩ := hq2
      obtain ⟨k61_20, k61_21, k61_22, k61_23, k61_24, k61_25, k61_26, k61_27, k61_28, k61_29, k61_30⟩ := id hMn60
      have ho62 := g_off.tr ho14 (g_off.wd hon60 (by decide) (by decide))
      have hMp63 : g_Mf D σ_59 (nI 1) rs sg S N Z R T := ⟨k61_20, k61_21, k61_22, k61_23, k61_24, k61_25, k61_26, k61_27, k61_28, k61_29, k61_30⟩
      rw [← hQ]
      exact W.iret (v := nI 0) hx hb hr (fun te9 hte9 _ => g_fin (⟨Or.inr ⟨1, by rw [er_walk, if_neg (fun q => hq18 q.2)], by decide, rfl, ⟨_, _, _, _, _, _, _, hMp63, hmr⟩⟩, ho62⟩) hP hS hte9) hS.2.2 dX3_walk_26 hlocks

abbrev m_X3_at_rm : Room := { frames := 10, cells := 0, slots := 0, locals := 242 }
set_option maxHeartbeats 4000000 in
set_option maxRecDepth 100000 in
theorem m_X3_at (l : Launch) (D : va_G) (hAD : g_AD D) (σ : Nat → va_E) (th rs sg : Int32) (S N Z R : Nat → Int32) (T : Nat → Nat → Int32) (hM : g_Mf D σ th rs sg S N Z R T) (Ls : Nat → g_L) (wood k : Int32) (hmr : mr_ Ls S N Z) (hvC : vC_ Ls) : g_M l D yX3_at cX3_at 3 (some .int) m_X3_at_rm [.ref (ad_ D 20), .int wood, .int k] σ (fun v1 σ1 => ((er_at Ls wood k = 0 ∧ (∃ w j, w ≤ 1 ∧ wood = nI w ∧ j < (Ls w).length ∧ k = nI j ∧ v1 = some (.int (fn_ (Ls w) j)) ∧ g_MM D σ1 (nI 0) Ls)) ∨ ∃ k9, er_at Ls wood k = k9 ∧ k9 ≠ 0 ∧ v1 = some (.int (nI 0)) ∧ g_MM D σ1 (nI k9) Ls) ∧ g_off 20 30 σ σ1) := by
  refine g_ofW [(0, .ref (ad_ D 20)), (1, .int wood), (2, .int k)] (by decide +kernel) (Nat.le_of_ble_eq_true rfl) rfl ?_
  intro p e s m args below meth c hx hb hr hml hown hlocks hts hE hZ hP hS hnm ls hl
  have hown : s.vm.findClass RX3 = some m.cls := hown
  generalize hQ : MQ _ _ _ _ _ _ _ = Q
  obtain ⟨k20, k21, k22, k23, k24, k25, k26, k27, k28, k29, k30⟩ := id hM
  refine lv_aload_n hx hb dX3_at_0 rfl (lv_at hl 0 rfl) ?_
  refine lv_iconst (v := nI 0) hx hb dX3_at_1 (by decide) ?_
  refine g_put hx hb hts hE hown hAD hP hS g_inX3 tyX3 tyX3_ok nmX3 rfl (by decide) k20 0 (by decide) rfl rfl (by decide +kernel) wf_X3_40 (v := nI 0) (Nat.le_of_ble_eq_true rfl) dX3_at_2 (fun H locs hP hS => ?_)
  obtain ⟨σ_1, hσ2⟩ : ∃ z : Nat → va_E, z = va_up σ 20 (.inr (3, [.int (nI 0), .ref (ad_ D 21), .ref (ad_ D 22), .ref (ad_ D 23), .ref (ad_ D 24), .int rs, .int sg, .ref (ad_ D 25), .ref (ad_ D 26), .ref (ad_ D 27), .ref (ad_ D 28), .ref (ad_ D 29), .ref (ad_ D 30)])) := ⟨_, rfl⟩
  have hP : va_P D vwCl (g_W D σ_1) H := by rw [hσ2]; exact hP
  have hc3 : σ_1 20 = .inr (3, [.int (nI 0), .ref (ad_ D 21), .ref (ad_ D 22), .ref (ad_ D 23), .ref (ad_ D 24), .int rs, .int sg, .ref (ad_ D 25), .ref (ad_ D 26), .ref (ad_ D 27), .ref (ad_ D 28), .ref (ad_ D 29), .ref (ad_ D 30)]) := by rw [hσ2]; exact g_ups
  have hc4 := (by rw [hσ2]; exact g_upn k21 (by decide) : σ_1 21 = .inl (g_cI D, 2, .inl (S)))
  have hc5 := (by rw [hσ2]; exact g_upn k22 (by decide) : σ_1 22 = .inl (g_cI D, 48, .inl (N)))
  have hc6 := (by rw [hσ2]; exact g_upn k23 (by decide) : σ_1 23 = .inl (g_cI D, 48, .inl (Z)))
  have hc7 := (by rw [hσ2]; exact g_upn k24 (by decide) : σ_1 24 = .inl (g_cI D, 48, .inl (R)))
  have hc8 := (by rw [hσ2]; exact g_upn k25 (by decide) : σ_1 25 = .inl (g_cI D, 96, .inl (T 0)))
  have hc9 := (by rw [hσ2]; exact g_upn k26 (by decide) : σ_1 26 = .inl (g_cI D, 96, .inl (T 1)))
  have hc10 := (by rw [hσ2]; exact g_upn k27 (by decide) : σ_1 27 = .inl (g_cI D, 96, .inl (T 2)))
  have hc11 := (by rw [hσ2]; exact g_upn k28 (by decide) : σ_1 28 = .inl (g_cI D, 96, .inl (T 3)))
  have hc12 := (by rw [hσ2]; exact g_upn k29 (by decide) : σ_1 29 = .inl (g_cI D, 96, .inl (T 4)))
  have hc13 := (by rw [hσ2]; exact g_upn k30 (by decide) : σ_1 30 = .inl (g_cI D, 96, .inl (T 5)))
  have ho14 : g_off 20 30 σ σ_1 := by rw [hσ2]; exact g_off.up (g_off.rf (lo := 20) (hi := 30) (σ := σ)) (by decide) (by decide)
  refine lv_iload_n hx hb dX3_at_5 rfl (lv_at hl 1 rfl) ?_
  refine g_callS0 (y := yX3_isWood) (n := 1) (As := [.int wood]) (rest := []) hx hb hml hown hts hE hZ hP hS hl.1 (m_X3_isWood l D hAD σ_1 (wood)) k_X3_94 rfl rfl ⟨rfl, rfl⟩ ⟨Nat.le_of_ble_eq_true rfl, Nat.le_of_ble_eq_true rfl⟩ (Nat.le_of_ble_eq_true rfl) ⟨Nat.le_of_ble_eq_true rfl, Nat.le_of_ble_eq_true rfl⟩ dX3_at_6 (fun v15 σ_16 H locs hq hP hS => ?_)
  obtain ⟨rfl, rfl⟩ := hq
  refine W.eq (g2 := F0 m 9 ls [.int (if wk1_ (wood) then 1 else 0)]) rfl ?_
  refine lv_if_eq (tgt := 42) hx hb dX3_at_9 (by decide) (fun h9 => ?_) (fun h9 => ?_)
  · have hq9 := g_pp0 h9
    refine lv_aload_n hx hb dX3_at_42 rfl (lv_at hl 0 rfl) ?_
    refine lv_iconst (v := nI 1) hx hb dX3_at_43 (by decide) ?_
    have hMp17 : g_Mf D σ_1 (nI 0) rs sg S N Z R T := ⟨hc3, hc4, hc5, hc6, hc7, hc8, hc9, hc10, hc11, hc12, hc13⟩
    refine g_callV0 (y := yX3_no) (n := 1) (As := [.int (nI 1)]) (rest := []) hx hb hml hown hts hE hZ hP hS hl.1 (m_X3_no l D hAD σ_1 (nI 0) rs sg S N Z R T hMp17 (nI 1)) k_X3_98 (ci := 3) (by decide) hc3 rfl rfl rfl rfl rfl ⟨rfl, rfl⟩ ⟨Nat.le_of_ble_eq_true rfl, Nat.le_of_ble_eq_true rfl⟩ (Nat.le_of_ble_eq_true rfl) ⟨Nat.le_of_ble_eq_true rfl, Nat.le_of_ble_eq_true rfl⟩ dX3_at_44 (fun v18 σ_19 H locs hq hP hS => ?_)
    obtain ⟨rfl, hq2⟩ := hq
    refine W.eq (g2 := F0 m 47 ls [.int (nI 0)]) rfl ?_
    obtain ⟨hMn20, hon20⟩ := hq2
    obtain ⟨k21_20, k21_21, k21_22, k21_23, k21_24, k21_25, k21_26, k21_27, k21_28, k21_29, k21_30⟩ := id hMn20
    have ho22 := g_off.tr ho14 (g_off.wd hon20 (by decide) (by decide))
    have hMp23 : g_Mf D σ_19 (nI 1) rs sg S N Z R T := ⟨k21_20, k21_21, k21_22, k21_23, k21_24, k21_25, k21_26, k21_27, k21_28, k21_29, k21_30⟩
    rw [← hQ]
    exact W.iret (v := nI 0) hx hb hr (fun te9 hte9 _ => g_fin (⟨Or.inr ⟨1, by rw [er_at, if_neg (fun q => hq9 q.1)], by decide, rfl, ⟨_, _, _, _, _, _, _, hMp23, hmr⟩⟩, ho22⟩) hP hS hte9) hS.2.2 dX3_at_47 hlocks
  · have hq9 := g_pp1 h9
    obtain ⟨w, hw, hwe⟩ := ix_nat hq9 (by decide)
    subst hwe
    have hvw := hvC w hw
    have h24w := hvw.2
    have hvo := hvC (1 - w) (by omega)
    have h24o := hvo.2
    have hwl : wl_ Ls (nI w) = Ls w := wl_n hw
    have hot : ot_ Ls (nI w) = Ls (1 - w) := ot_n hw
    refine lv_iload_n hx hb dX3_at_12 rfl (lv_at hl 2 rfl) ?_
    refine lv_iconst (v := nI 0) hx hb dX3_at_13 (by decide) ?_
    refine lv_aload_n hx hb dX3_at_14 rfl (lv_at hl 0 rfl) ?_
    refine g_get hx hb hts hE hown hP g_inX3 rfl (by decide) hc3 1 (by decide) rfl wf_X3_9 (v := .ref (ad_ D 21)) rfl dX3_at_15 ?_
    refine lv_iload_n hx hb dX3_at_18 rfl (lv_at hl 1 rfl) ?_
    refine g_ialdN (j := w) hx hb hE hP (by decide) hc4 (by omega) (by decide) (v := nI ((Ls w).length)) (hmr.S (by omega)) dX3_at_19 ?_
    refine lv_iconst (v := nI 1) hx hb dX3_at_20 (by decide) ?_
    refine lv_isub hx hb dX3_at_21 ?_
    refine g_callS0 (y := yX3_isIn) (n := 3) (As := [.int k, .int (nI 0), .int ((nI ((Ls w).length)) - (nI 1))]) (rest := []) hx hb hml hown hts hE hZ hP hS hl.1 (m_X3_isIn l D hAD σ_1 (k) (nI 0) ((nI ((Ls w).length)) - (nI 1))) k_X3_44 rfl rfl ⟨rfl, rfl⟩ ⟨Nat.le_of_ble_eq_true rfl, Nat.le_of_ble_eq_true rfl⟩ (Nat.le_of_ble_eq_true rfl) ⟨Nat.le_of_ble_eq_true rfl, Nat.le_of_ble_eq_true rfl⟩ dX3_at_22 (fun v24 σ_25 H locs hq hP hS => ?_)
    obtain ⟨rfl, rfl⟩ := hq
    refine W.eq (g2 := F0 m 25 ls [.int (if ¬ (k) < (nI 0) ∧ ¬ ((nI ((Ls w).length)) - (nI 1)) < (k) then 1 else 0)]) rfl ?_
    refine lv_if_eq (tgt := 42) hx hb dX3_at_25 (by decide) (fun h25 => ?_) (fun h25 => ?_)
    · have hq25 := g_pp0 h25
      refine lv_aload_n hx hb dX3_at_42 rfl (lv_at hl 0 rfl) ?_
      refine lv_iconst (v := nI 1) hx hb dX3_at_43 (by decide) ?_
      have hMp26 : g_Mf D σ_1 (nI 0) rs sg S N Z R T := ⟨hc3, hc4, hc5, hc6, hc7, hc8, hc9, hc10, hc11, hc12, hc13⟩
      refine g_callV0 (y := yX3_no) (n := 1) (As := [.int (nI 1)]) (rest := []) hx hb hml hown hts hE hZ hP hS hl.1 (m_X3_no l D hAD σ_1 (nI 0) rs sg S N Z R T hMp26 (nI 1)) k_X3_98 (ci := 3) (by decide) hc3 rfl rfl rfl rfl rfl ⟨rfl, rfl⟩ ⟨Nat.le_of_ble_eq_true rfl, Nat.le_of_ble_eq_true rfl⟩ (Nat.le_of_ble_eq_true rfl) ⟨Nat.le_of_ble_eq_true rfl, Nat.le_of_ble_eq_true rfl⟩ dX3_at_44 (fun v27 σ_28 H locs hq hP hS => ?_)
      obtain ⟨rfl, hq2⟩ := hq
      refine W.eq (g2 := F0 m 47 ls [.int (nI 0)]) rfl ?_
      obtain ⟨hMn29, hon29⟩ := hq2
      obtain ⟨k30_20, k30_21, k30_22, k30_23, k30_24, k30_25, k30_26, k30_27, k30_28, k30_29, k30_30⟩ := id hMn29
      have ho31 := g_off.tr ho14 (g_off.wd hon29 (by decide) (by decide))
      have hMp32 : g_Mf D σ_28 (nI 1) rs sg S N Z R T := ⟨k30_20, k30_21, k30_22, k30_23, k30_24, k30_25, k30_26, k30_27, k30_28, k30_29, k30_30⟩
      rw [← hQ]
      exact W.iret (v := nI 0) hx hb hr (fun te9 hte9 _ => g_fin (⟨Or.inr ⟨1, by rw [er_at, hwl, if_neg (fun q => hq25 q.2)], by decide, rfl, ⟨_, _, _, _, _, _, _, hMp32, hmr⟩⟩, ho31⟩) hP hS hte9) hS.2.2 dX3_at_47 hlocks
    · have hq25 := g_pp1 h25
      obtain ⟨p9, hp9, p9e⟩ := sz_ix (by omega) hq25
      subst p9e
      refine lv_aload_n hx hb dX3_at_28 rfl (lv_at hl 0 rfl) ?_
      refine g_get hx hb hts hE hown hP g_inX3 rfl (by decide) hc3 2 (by decide) rfl wf_X3_13 (v := .ref (ad_ D 22)) rfl dX3_at_29 ?_
      refine lv_bipush (v := nI 24) hx hb dX3_at_32 (by decide) ?_
      refine lv_iload_n hx hb dX3_at_34 rfl (lv_at hl 1 rfl) ?_
      refine lv_imul hx hb dX3_at_35 ?_
      refine g_top (y := nI (24 * w)) (pk_mul 24 w) ?_
      refine lv_iload_n hx hb dX3_at_36 rfl (lv_at hl 2 rfl) ?_
      refine lv_iadd hx hb dX3_at_37 ?_
      refine g_top (y := nI ((24 * w) + p9)) (nI_add (24 * w) p9) ?_
      refine g_ialdN (j := (24 * w) + p9) hx hb hE hP (by decide) hc5 (by omega) (by decide) (v := fn_ (Ls w) p9) (hmr.N (by omega) (by omega)) dX3_at_38 ?_
      refine lv_goto (tgt := 47) hx hb dX3_at_39 (by decide) ?_
      have hMp33 : g_Mf D σ_1 (nI 0) rs sg S N Z R T := ⟨hc3, hc4, hc5, hc6, hc7, hc8, hc9, hc10, hc11, hc12, hc13⟩
      rw [← hQ]
      exact W.iret (v := fn_ (Ls w) p9) hx hb hr (fun te9 hte9 _ => g_fin (⟨Or.inl ⟨by rw [er_at, hwl, if_pos ⟨ix_of hw (by decide), hq25⟩], w, p9, hw, rfl, hp9, rfl, rfl, ⟨_, _, _, _, _, _, _, hMp33, hmr⟩⟩, ho14⟩) hP hS hte9) hS.2.2 dX3_at_47 hlocks

abbrev m_X3_step_rm : Room := { frames := 10, cells := 0, slots := 0, locals := 242 }
set_option maxHeartbeats 4000000 in
set_option maxRecDepth 100000 in
theorem m_X3_step (l : Launch) (D : va_G) (hAD : g_AD D) (σ : Nat → va_E) (th rs sg : Int32) (S N Z R : Nat → Int32) (T : Nat → Nat → Int32) (hM : g_Mf D σ th rs sg S N Z R T) (Ls : Nat → g_L) (wood name up : Int32) (hmr : mr_ Ls S N Z) (hvC : vC_ Ls) : g_M l D yX3_step cX3_step 5 (some .int) m_X3_step_rm [.ref (ad_ D 20), .int wood, .int name, .int up] σ (fun v1 σ1 => ((er_miles wood name = 0 ∧ (∃ w, w ≤ 1 ∧ wood = nI w ∧ nm1_ name ∧ v1 = some (.int (if up = 0 then na_ (Ls w) (nI (rk_ (Ls w) name) - nI 1) else fn_ (Ls w) (rk_ (Ls w) (name + nI 1)))) ∧ g_MM D σ1 (nI 0) Ls)) ∨ ∃ k9, er_miles wood name = k9 ∧ k9 ≠ 0 ∧ v1 = some (.int (nI 0)) ∧ g_MM D σ1 (nI k9) Ls) ∧ g_off 20 30 σ σ1) := by
  refine g_ofW [(0, .ref (ad_ D 20)), (1, .int wood), (2, .int name), (3, .int up)] (by decide +kernel) (Nat.le_of_ble_eq_true rfl) rfl ?_
  intro p e s m args below meth c hx hb hr hml hown hlocks hts hE hZ hP hS hnm ls hl
  have hown : s.vm.findClass RX3 = some m.cls := hown
  generalize hQ : MQ _ _ _ _ _ _ _ = Q
  obtain ⟨k20, k21, k22, k23, k24, k25, k26, k27, k28, k29, k30⟩ := id hM
  refine lv_aload_n hx hb dX3_step_0 rfl (lv_at hl 0 rfl) ?_
  refine lv_iconst (v := nI 0) hx hb dX3_step_1 (by decide) ?_
  refine g_put hx hb hts hE hown hAD hP hS g_inX3 tyX3 tyX3_ok nmX3 rfl (by decide) k20 0 (by decide) rfl rfl (by decide +kernel) wf_X3_40 (v := nI 0) (Nat.le_of_ble_eq_true rfl) dX3_step_2 (fun H locs hP hS => ?_)
  obtain ⟨σ_1, hσ2⟩ : ∃ z : Nat → va_E, z = va_up σ 20 (.inr (3, [.int (nI 0), .ref (ad_ D 21), .ref (ad_ D 22), .ref (ad_ D 23), .ref (ad_ D 24), .int rs, .int sg, .ref (ad_ D 25), .ref (ad_ D 26), .ref (ad_ D 27), .ref (ad_ D 28), .ref (ad_ D 29), .ref (ad_ D 30)])) := ⟨_, rfl⟩
  have hP : va_P D vwCl (g_W D σ_1) H := by rw [hσ2]; exact hP
  have hc3 : σ_1 20 = .inr (3, [.int (nI 0), .ref (ad_ D 21), .ref (ad_ D 22), .ref (ad_ D 23), .ref (ad_ D 24), .int rs, .int sg, .ref (ad_ D 25), .ref (ad_ D 26), .ref (ad_ D 27), .ref (ad_ D 28), .ref (ad_ D 29), .ref (ad_ D 30)]) := by rw [hσ2]; exact g_ups
  have hc4 := (by rw [hσ2]; exact g_upn k21 (by decide) : σ_1 21 = .inl (g_cI D, 2, .inl (S)))
  have hc5 := (by rw [hσ2]; exact g_upn k22 (by decide) : σ_1 22 = .inl (g_cI D, 48, .inl (N)))
  have hc6 := (by rw [hσ2]; exact g_upn k23 (by decide) : σ_1 23 = .inl (g_cI D, 48, .inl (Z)))
  have hc7 := (by rw [hσ2]; exact g_upn k24 (by decide) : σ_1 24 = .inl (g_cI D, 48, .inl (R)))
  have hc8 := (by rw [hσ2]; exact g_upn k25 (by decide) : σ_1 25 = .inl (g_cI D, 96, .inl (T 0)))
  have hc9 := (by rw [hσ2]; exact g_upn k26 (by decide) : σ_1 26 = .inl (g_cI D, 96, .inl (T 1)))
  have hc10 := (by rw [hσ2]; exact g_upn k27 (by decide) : σ_1 27 = .inl (g_cI D, 96, .inl (T 2)))
  have hc11 := (by rw [hσ2]; exact g_upn k28 (by decide) : σ_1 28 = .inl (g_cI D, 96, .inl (T 3)))
  have hc12 := (by rw [hσ2]; exact g_upn k29 (by decide) : σ_1 29 = .inl (g_cI D, 96, .inl (T 4)))
  have hc13 := (by rw [hσ2]; exact g_upn k30 (by decide) : σ_1 30 = .inl (g_cI D, 96, .inl (T 5)))
  have ho14 : g_off 20 30 σ σ_1 := by rw [hσ2]; exact g_off.up (g_off.rf (lo := 20) (hi := 30) (σ := σ)) (by decide) (by decide)
  refine lv_iload_n hx hb dX3_step_5 rfl (lv_at hl 1 rfl) ?_
  refine g_callS0 (y := yX3_isWood) (n := 1) (As := [.int wood]) (rest := []) hx hb hml hown hts hE hZ hP hS hl.1 (m_X3_isWood l D hAD σ_1 (wood)) k_X3_94 rfl rfl ⟨rfl, rfl⟩ ⟨Nat.le_of_ble_eq_true rfl, Nat.le_of_ble_eq_true rfl⟩ (Nat.le_of_ble_eq_true rfl) ⟨Nat.le_of_ble_eq_true rfl, Nat.le_of_ble_eq_true rfl⟩ dX3_step_6 (fun v15 σ_16 H locs hq hP hS => ?_)
  obtain ⟨rfl, rfl⟩ := hq
  refine W.eq (g2 := F0 m 9 ls [.int (if wk1_ (wood) then 1 else 0)]) rfl ?_
  refine lv_if_ne (tgt := 18) hx hb dX3_step_9 (by decide) (fun h9 => ?_) (fun h9 => ?_)
  · have hq9 := g_pp1 h9
    obtain ⟨w, hw, hwe⟩ := ix_nat hq9 (by decide)
    subst hwe
    have hvw := hvC w hw
    have h24w := hvw.2
    have hvo := hvC (1 - w) (by omega)
    have h24o := hvo.2
    have hwl : wl_ Ls (nI w) = Ls w := wl_n hw
    have hot : ot_ Ls (nI w) = Ls (1 - w) := ot_n hw
    refine lv_iload_n hx hb dX3_step_18 rfl (lv_at hl 2 rfl) ?_
    refine g_callS0 (y := yX3_isName) (n := 1) (As := [.int name]) (rest := []) hx hb hml hown hts hE hZ hP hS hl.1 (m_X3_isName l D hAD σ_1 (name)) k_X3_101 rfl rfl ⟨rfl, rfl⟩ ⟨Nat.le_of_ble_eq_true rfl, Nat.le_of_ble_eq_true rfl⟩ (Nat.le_of_ble_eq_true rfl) ⟨Nat.le_of_ble_eq_true rfl, Nat.le_of_ble_eq_true rfl⟩ dX3_step_19 (fun v17 σ_18 H locs hq hP hS => ?_)
    obtain ⟨rfl, rfl⟩ := hq
    refine W.eq (g2 := F0 m 22 ls [.int (if nm1_ (name) then 1 else 0)]) rfl ?_
    refine lv_if_ne (tgt := 31) hx hb dX3_step_22 (by decide) (fun h22 => ?_) (fun h22 => ?_)
    · have hq22 := g_pp1 h22
      have hne22 := ne_m1 (nm_le hq22).1
      refine lv_iload_n hx hb dX3_step_31 rfl (lv_at hl 3 rfl) ?_
      refine lv_if_eq (tgt := 46) hx hb dX3_step_32 (by decide) (fun h32 => ?_) (fun h32 => ?_)
      · refine lv_aload_n hx hb dX3_step_46 rfl (lv_at hl 0 rfl) ?_
        refine lv_iload_n hx hb dX3_step_47 rfl (lv_at hl 1 rfl) ?_
        refine lv_iload_n hx hb dX3_step_48 rfl (lv_at hl 2 rfl) ?_
        have hMp19 : g_Mf D σ_1 (nI 0) rs sg S N Z R T := ⟨hc3, hc4, hc5, hc6, hc7, hc8, hc9, hc10, hc11, hc12, hc13⟩
        refine g_callV0 (y := yX3_smaller) (n := 2) (As := [.int (nI w), .int name]) (rest := []) hx hb hml hown hts hE hZ hP hS hl.1 (m_X3_smaller l D hAD σ_1 (nI 0) rs sg S N Z R T hMp19 Ls w (name) hmr (by omega)) k_X3_55 (ci := 3) (by decide) hc3 rfl rfl rfl rfl rfl ⟨rfl, rfl⟩ ⟨Nat.le_of_ble_eq_true rfl, Nat.le_of_ble_eq_true rfl⟩ (Nat.le_of_ble_eq_true rfl) ⟨Nat.le_of_ble_eq_true rfl, Nat.le_of_ble_eq_true rfl⟩ dX3_step_49 (fun v20 σ_21 H locs hq hP hS => ?_)
        obtain ⟨rfl, rfl⟩ := hq
        refine W.eq (g2 := F0 m 52 ls [.int (nI (rk_ (Ls w) (name)))]) rfl ?_
        have hrk49 := rk_le (Ls w) (name)
        refine lv_iconst (v := nI 1) hx hb dX3_step_52 (by decide) ?_
        refine lv_isub hx hb dX3_step_53 ?_
        refine lv_istore (lv' := [(4, .int ((nI (rk_ (Ls w) (name))) - (nI 1))), (0, .ref (ad_ D 20)), (1, .int (nI w)), (2, .int name), (3, .int up)]) hx hb dX3_step_54 hl (by decide) rfl (fun ls hl => ?_)
        refine lv_iload hx hb dX3_step_56 (lv_at hl 0 rfl) ?_
        refine lv_iconst (v := nI 0) hx hb dX3_step_58 (by decide) ?_
        refine lv_aload_n hx hb dX3_step_59 rfl (lv_at hl 1 rfl) ?_
        refine g_get hx hb hts hE hown hP g_inX3 rfl (by decide) hc3 1 (by decide) rfl wf_X3_9 (v := .ref (ad_ D 21)) rfl dX3_step_60 ?_
        refine lv_iload_n hx hb dX3_step_63 rfl (lv_at hl 2 rfl) ?_
        refine g_ialdN (j := w) hx hb hE hP (by decide) hc4 (by omega) (by decide) (v := nI ((Ls w).length)) (hmr.S (by omega)) dX3_step_64 ?_
        refine lv_iconst (v := nI 1) hx hb dX3_step_65 (by decide) ?_
        refine lv_isub hx hb dX3_step_66 ?_
        refine g_callS0 (y := yX3_isIn) (n := 3) (As := [.int ((nI (rk_ (Ls w) (name))) - (nI 1)), .int (nI 0), .int ((nI ((Ls w).length)) - (nI 1))]) (rest := []) hx hb hml hown hts hE hZ hP hS hl.1 (m_X3_isIn l D hAD σ_1 ((nI (rk_ (Ls w) (name))) - (nI 1)) (nI 0) ((nI ((Ls w).length)) - (nI 1))) k_X3_44 rfl rfl ⟨rfl, rfl⟩ ⟨Nat.le_of_ble_eq_true rfl, Nat.le_of_ble_eq_true rfl⟩ (Nat.le_of_ble_eq_true rfl) ⟨Nat.le_of_ble_eq_true rfl, Nat.le_of_ble_eq_true rfl⟩ dX3_step_67 (fun v22 σ_23 H locs hq hP hS => ?_)
        obtain ⟨rfl, rfl⟩ := hq
        refine W.eq (g2 := F0 m 70 ls [.int (if ¬ ((nI (rk_ (Ls w) (name))) - (nI 1)) < (nI 0) ∧ ¬ ((nI ((Ls w).length)) - (nI 1)) < ((nI (rk_ (Ls w) (name))) - (nI 1)) then 1 else 0)]) rfl ?_
        refine lv_if_eq (tgt := 88) hx hb dX3_step_70 (by decide) (fun h70 => ?_) (fun h70 => ?_)
        · have hq70 := g_pp0 h70
          refine lv_iconst (v := (-1)) hx hb dX3_step_88 (by decide) ?_
          have hMp24 : g_Mf D σ_1 (nI 0) rs sg S N Z R T := ⟨hc3, hc4, hc5, hc6, hc7, hc8, hc9, hc10, hc11, hc12, hc13⟩
          rw [← hQ]
          exact W.iret (v := (-1)) hx hb hr (fun te9 hte9 _ => g_fin (⟨Or.inl ⟨by rw [er_miles, if_pos (ix_of hw (by decide)), if_pos hq22], w, hw, rfl, hq22, by rw [if_pos h32, st_lo (by omega) hrk49 hq70], ⟨_, _, _, _, _, _, _, hMp24, hmr⟩⟩, ho14⟩) hP hS hte9) hS.2.2 dX3_step_89 hlocks
        · have hq70 := g_pp1 h70
          obtain ⟨j9, hj9, hje⟩ := sz_ix (by omega) hq70
          rw [hje] at hl
          refine lv_aload_n hx hb dX3_step_73 rfl (lv_at hl 1 rfl) ?_
          refine g_get hx hb hts hE hown hP g_inX3 rfl (by decide) hc3 2 (by decide) rfl wf_X3_13 (v := .ref (ad_ D 22)) rfl dX3_step_74 ?_
          refine lv_bipush (v := nI 24) hx hb dX3_step_77 (by decide) ?_
          refine lv_iload_n hx hb dX3_step_79 rfl (lv_at hl 2 rfl) ?_
          refine lv_imul hx hb dX3_step_80 ?_
          refine g_top (y := nI (24 * w)) (pk_mul 24 w) ?_
          refine lv_iload hx hb dX3_step_81 (lv_at hl 0 rfl) ?_
          refine lv_iadd hx hb dX3_step_83 ?_
          refine g_top (y := nI ((24 * w) + j9)) (nI_add (24 * w) j9) ?_
          refine g_ialdN (j := (24 * w) + j9) hx hb hE hP (by decide) hc5 (by omega) (by decide) (v := fn_ (Ls w) j9) (hmr.N (by omega) (by omega)) dX3_step_84 ?_
          refine lv_goto (tgt := 89) hx hb dX3_step_85 (by decide) ?_
          have hMp25 : g_Mf D σ_1 (nI 0) rs sg S N Z R T := ⟨hc3, hc4, hc5, hc6, hc7, hc8, hc9, hc10, hc11, hc12, hc13⟩
          rw [← hQ]
          exact W.iret (v := fn_ (Ls w) j9) hx hb hr (fun te9 hte9 _ => g_fin (⟨Or.inl ⟨by rw [er_miles, if_pos (ix_of hw (by decide)), if_pos hq22], w, hw, rfl, hq22, by rw [if_pos h32, hje, na_n (by omega)], ⟨_, _, _, _, _, _, _, hMp25, hmr⟩⟩, ho14⟩) hP hS hte9) hS.2.2 dX3_step_89 hlocks
      · refine lv_aload_n hx hb dX3_step_35 rfl (lv_at hl 0 rfl) ?_
        refine lv_iload_n hx hb dX3_step_36 rfl (lv_at hl 1 rfl) ?_
        refine lv_iload_n hx hb dX3_step_37 rfl (lv_at hl 2 rfl) ?_
        refine lv_iconst (v := nI 1) hx hb dX3_step_38 (by decide) ?_
        refine lv_iadd hx hb dX3_step_39 ?_
        have hMp26 : g_Mf D σ_1 (nI 0) rs sg S N Z R T := ⟨hc3, hc4, hc5, hc6, hc7, hc8, hc9, hc10, hc11, hc12, hc13⟩
        refine g_callV0 (y := yX3_smaller) (n := 2) (As := [.int (nI w), .int ((name) + (nI 1))]) (rest := []) hx hb hml hown hts hE hZ hP hS hl.1 (m_X3_smaller l D hAD σ_1 (nI 0) rs sg S N Z R T hMp26 Ls w ((name) + (nI 1)) hmr (by omega)) k_X3_55 (ci := 3) (by decide) hc3 rfl rfl rfl rfl rfl ⟨rfl, rfl⟩ ⟨Nat.le_of_ble_eq_true rfl, Nat.le_of_ble_eq_true rfl⟩ (Nat.le_of_ble_eq_true rfl) ⟨Nat.le_of_ble_eq_true rfl, Nat.le_of_ble_eq_true rfl⟩ dX3_step_40 (fun v27 σ_28 H locs hq hP hS => ?_)
        obtain ⟨rfl, rfl⟩ := hq
        refine W.eq (g2 := F0 m 43 ls [.int (nI (rk_ (Ls w) ((name) + (nI 1))))]) rfl ?_
        have hrk40 := rk_le (Ls w) ((name) + (nI 1))
        refine lv_goto (tgt := 54) hx hb dX3_step_43 (by decide) ?_
        refine lv_istore (lv' := [(4, .int (nI (rk_ (Ls w) ((name) + (nI 1))))), (0, .ref (ad_ D 20)), (1, .int (nI w)), (2, .int name), (3, .int up)]) hx hb dX3_step_54 hl (by decide) rfl (fun ls hl => ?_)
        refine lv_iload hx hb dX3_step_56 (lv_at hl 0 rfl) ?_
        refine lv_iconst (v := nI 0) hx hb dX3_step_58 (by decide) ?_
        refine lv_aload_n hx hb dX3_step_59 rfl (lv_at hl 1 rfl) ?_
        refine g_get hx hb hts hE hown hP g_inX3 rfl (by decide) hc3 1 (by decide) rfl wf_X3_9 (v := .ref (ad_ D 21)) rfl dX3_step_60 ?_
        refine lv_iload_n hx hb dX3_step_63 rfl (lv_at hl 2 rfl) ?_
        refine g_ialdN (j := w) hx hb hE hP (by decide) hc4 (by omega) (by decide) (v := nI ((Ls w).length)) (hmr.S (by omega)) dX3_step_64 ?_
        refine lv_iconst (v := nI 1) hx hb dX3_step_65 (by decide) ?_
        refine lv_isub hx hb dX3_step_66 ?_
        refine g_callS0 (y := yX3_isIn) (n := 3) (As := [.int (nI (rk_ (Ls w) ((name) + (nI 1)))), .int (nI 0), .int ((nI ((Ls w).length)) - (nI 1))]) (rest := []) hx hb hml hown hts hE hZ hP hS hl.1 (m_X3_isIn l D hAD σ_1 (nI (rk_ (Ls w) ((name) + (nI 1)))) (nI 0) ((nI ((Ls w).length)) - (nI 1))) k_X3_44 rfl rfl ⟨rfl, rfl⟩ ⟨Nat.le_of_ble_eq_true rfl, Nat.le_of_ble_eq_true rfl⟩ (Nat.le_of_ble_eq_true rfl) ⟨Nat.le_of_ble_eq_true rfl, Nat.le_of_ble_eq_true rfl⟩ dX3_step_67 (fun v29 σ_30 H locs hq hP hS => ?_)
        obtain ⟨rfl, rfl⟩ := hq
        refine W.eq (g2 := F0 m 70 ls [.int (if ¬ (nI (rk_ (Ls w) ((name) + (nI 1)))) < (nI 0) ∧ ¬ ((nI ((Ls w).length)) - (nI 1)) < (nI (rk_ (Ls w) ((name) + (nI 1)))) then 1 else 0)]) rfl ?_
        refine lv_if_eq (tgt := 88) hx hb dX3_step_70 (by decide) (fun h70 => ?_) (fun h70 => ?_)
        · have hq70 := g_pp0 h70
          refine lv_iconst (v := (-1)) hx hb dX3_step_88 (by decide) ?_
          have hMp31 : g_Mf D σ_1 (nI 0) rs sg S N Z R T := ⟨hc3, hc4, hc5, hc6, hc7, hc8, hc9, hc10, hc11, hc12, hc13⟩
          rw [← hQ]
          exact W.iret (v := (-1)) hx hb hr (fun te9 hte9 _ => g_fin (⟨Or.inl ⟨by rw [er_miles, if_pos (ix_of hw (by decide)), if_pos hq22], w, hw, rfl, hq22, by rw [if_neg h32, fn_out (Nat.not_lt.mp (fun q => hq70 (sz_ixo (by omega) q)))], ⟨_, _, _, _, _, _, _, hMp31, hmr⟩⟩, ho14⟩) hP hS hte9) hS.2.2 dX3_step_89 hlocks
        · have hq70 := g_pp1 h70
          have hj9 := sz_ixn (by omega) (by omega) hq70
          refine lv_aload_n hx hb dX3_step_73 rfl (lv_at hl 1 rfl) ?_
          refine g_get hx hb hts hE hown hP g_inX3 rfl (by decide) hc3 2 (by decide) rfl wf_X3_13 (v := .ref (ad_ D 22)) rfl dX3_step_74 ?_
          refine lv_bipush (v := nI 24) hx hb dX3_step_77 (by decide) ?_
          refine lv_iload_n hx hb dX3_step_79 rfl (lv_at hl 2 rfl) ?_
          refine lv_imul hx hb dX3_step_80 ?_
          refine g_top (y := nI (24 * w)) (pk_mul 24 w) ?_
          refine lv_iload hx hb dX3_step_81 (lv_at hl 0 rfl) ?_
          refine lv_iadd hx hb dX3_step_83 ?_
          refine g_top (y := nI ((24 * w) + (rk_ (Ls w) ((name) + (nI 1))))) (nI_add (24 * w) (rk_ (Ls w) ((name) + (nI 1)))) ?_
          refine g_ialdN (j := (24 * w) + (rk_ (Ls w) ((name) + (nI 1)))) hx hb hE hP (by decide) hc5 (by omega) (by decide) (v := fn_ (Ls w) ((rk_ (Ls w) ((name) + (nI 1))))) (hmr.N (by omega) (by omega)) dX3_step_84 ?_
          refine lv_goto (tgt := 89) hx hb dX3_step_85 (by decide) ?_
          have hMp32 : g_Mf D σ_1 (nI 0) rs sg S N Z R T := ⟨hc3, hc4, hc5, hc6, hc7, hc8, hc9, hc10, hc11, hc12, hc13⟩
          rw [← hQ]
          exact W.iret (v := fn_ (Ls w) ((rk_ (Ls w) ((name) + (nI 1))))) hx hb hr (fun te9 hte9 _ => g_fin (⟨Or.inl ⟨by rw [er_miles, if_pos (ix_of hw (by decide)), if_pos hq22], w, hw, rfl, hq22, by rw [if_neg h32], ⟨_, _, _, _, _, _, _, hMp32, hmr⟩⟩, ho14⟩) hP hS hte9) hS.2.2 dX3_step_89 hlocks
    · have hq22 := g_pp0 h22
      refine lv_aload_n hx hb dX3_step_25 rfl (lv_at hl 0 rfl) ?_
      refine lv_iconst (v := nI 2) hx hb dX3_step_26 (by decide) ?_
      have hMp33 : g_Mf D σ_1 (nI 0) rs sg S N Z R T := ⟨hc3, hc4, hc5, hc6, hc7, hc8, hc9, hc10, hc11, hc12, hc13⟩
      refine g_callV0 (y := yX3_no) (n := 1) (As := [.int (nI 2)]) (rest := []) hx hb hml hown hts hE hZ hP hS hl.1 (m_X3_no l D hAD σ_1 (nI 0) rs sg S N Z R T hMp33 (nI 2)) k_X3_98 (ci := 3) (by decide) hc3 rfl rfl rfl rfl rfl ⟨rfl, rfl⟩ ⟨Nat.le_of_ble_eq_true rfl, Nat.le_of_ble_eq_true rfl⟩ (Nat.le_of_ble_eq_true rfl) ⟨Nat.le_of_ble_eq_true rfl, Nat.le_of_ble_eq_true rfl⟩ dX3_step_27 (fun v34 σ_35 H locs hq hP hS => ?_)
      obtain ⟨rfl, hq2⟩ := hq
      refine W.eq (g2 := F0 m 30 ls [.int (nI 0)]) rfl ?_
      obtain ⟨hMn36, hon36⟩ := hq2
      obtain ⟨k37_20, k37_21, k37_22, k37_23, k37_24, k37_25, k37_26, k37_27, k37_28, k37_29, k37_30⟩ := id hMn36
      have ho38 := g_off.tr ho14 (g_off.wd hon36 (by decide) (by decide))
      have hMp39 : g_Mf D σ_35 (nI 2) rs sg S N Z R T := ⟨k37_20, k37_21, k37_22, k37_23, k37_24, k37_25, k37_26, k37_27, k37_28, k37_29, k37_30⟩
      rw [← hQ]
      exact W.iret (v := nI 0) hx hb hr (fun te9 hte9 _ => g_fin (⟨Or.inr ⟨2, by rw [er_miles, if_pos (ix_of hw (by decide)), if_neg hq22], by decide, rfl, ⟨_, _, _, _, _, _, _, hMp39, hmr⟩⟩, ho38⟩) hP hS hte9) hS.2.2 dX3_step_30 hlocks
  · have hq9 := g_pp0 h9
    refine lv_aload_n hx hb dX3_step_12 rfl (lv_at hl 0 rfl) ?_
    refine lv_iconst (v := nI 1) hx hb dX3_step_13 (by decide) ?_
    have hMp40 : g_Mf D σ_1 (nI 0) rs sg S N Z R T := ⟨hc3, hc4, hc5, hc6, hc7, hc8, hc9, hc10, hc11, hc12, hc13⟩
    refine g_callV0 (y := yX3_no) (n := 1) (As := [.int (nI 1)]) (rest := []) hx hb hml hown hts hE hZ hP hS hl.1 (m_X3_no l D hAD σ_1 (nI 0) rs sg S N Z R T hMp40 (nI 1)) k_X3_98 (ci := 3) (by decide) hc3 rfl rfl rfl rfl rfl ⟨rfl, rfl⟩ ⟨Nat.le_of_ble_eq_true rfl, Nat.le_of_ble_eq_true rfl⟩ (Nat.le_of_ble_eq_true rfl) ⟨Nat.le_of_ble_eq_true rfl, Nat.le_of_ble_eq_true rfl⟩ dX3_step_14 (fun v41 σ_42 H locs hq hP hS => ?_)
    obtain ⟨rfl, hq2⟩ := hq
    refine W.eq (g2 := F0 m 17 ls [.int (nI 0)]) rfl ?_
    obtain ⟨hMn43, hon43⟩ := hq2
    obtain ⟨k44_20, k44_21, k44_22, k44_23, k44_24, k44_25, k44_26, k44_27, k44_28, k44_29, k44_30⟩ := id hMn43
    have ho45 := g_off.tr ho14 (g_off.wd hon43 (by decide) (by decide))
    have hMp46 : g_Mf D σ_42 (nI 1) rs sg S N Z R T := ⟨k44_20, k44_21, k44_22, k44_23, k44_24, k44_25, k44_26, k44_27, k44_28, k44_29, k44_30⟩
    rw [← hQ]
    exact W.iret (v := nI 0) hx hb hr (fun te9 hte9 _ => g_fin (⟨Or.inr ⟨1, by rw [er_miles, if_neg hq9], by decide, rfl, ⟨_, _, _, _, _, _, _, hMp46, hmr⟩⟩, ho45⟩) hP hS hte9) hS.2.2 dX3_step_17 hlocks
