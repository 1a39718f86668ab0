set_option maxHeartbeats 4000000 in
set_option maxRecDepth 100000 in
theorem m_L_act (l : Launch) (hst : l.stackTraces = false) (D : va_G) (hAD : g_AD D) (σ : Nat → va_E) (Ls : Nat → g_L) (q : Nat → Nat) (Z : g_Z) (hC : g_C D σ Ls) (hvC : vC_ Ls) (hSZ : SZ_ Ls Z) (x : Int32) (hD0 : va_D (fun _ => True) (g_W D σ ++ h_SW D q (nZ Z) (mZ Z))) : h_H l D yL_act cL_act 15 (some .boolean) [(97, 106, 109, 40), (241, 250, 253, 40), (538, 560, 561, 40), (672, 694, 695, 40), (788, 799, 802, 40)] m_L_act_rm [.ref (ad_ D 0), .ref (q 0), .int x] none [] (g_W D σ ++ h_SW D q (nZ Z) (mZ Z)) (fun v1 w1 => v1 = some (.int (nI 1)) ∧ ∃ (σ1 : Nat → va_E) (q1 : Nat → Nat) (Z1 : g_Z) (Ls1 : Nat → g_L), w1 = g_W D σ1 ++ h_SW D q1 (nZ Z1) (mZ Z1) ∧ q1 0 = q 0 ∧ g_C D σ1 Ls1 ∧ vC_ Ls1 ∧ SZ_ Ls1 Z1) := by
  refine h_ofH [(0, .ref (ad_ D 0)), (1, .ref (q 0)), (2, .int x)] (by decide +kernel) (Nat.le_of_ble_eq_true rfl) rfl ?_
  intro p e s m args below meth c hx hb hr hml hown hlocks hts hE hZ hR hP hS hX htab ls hl
  have hown : s.vm.findClass RL = some m.cls := hown
  generalize hQ : MQ _ _ _ _ _ _ _ = Q
  have hD : va_D (va_A (((g_W D σ) ++ (h_SW D q ((nZ Z)) ((mZ Z))))) s.heap.size) (g_W D σ ++ h_SW D q (nZ Z) (mZ Z)) := va_D.self hD0
  refine lv_iload_n hx hb dL_act_0 rfl (lv_at hl 2 rfl) ?_
  refine lv_iconst (v := nI 2) hx hb dL_act_1 (by decide) ?_
  refine lv_ishr hx hb dL_act_2 ?_
  refine lv_iconst (v := nI 2) hx hb dL_act_3 (by decide) ?_
  refine h_callS (y := yL_below) (n := 2) (As := [.int (x >>> ((nI 2) &&& 31)), .int (nI 2)]) (rest := []) hx hb hml hown hts hE hZ hS hl.1 (m_L_below l D (x >>> ((nI 2) &&& 31)) 2 (by decide) (by decide)) h_P0 h_P0 (h_Anil hS h_Asz) (fun _ _ _ => trivial) (h_jR hP hD (h_Anil hS h_Asz)) k_L_9 rfl rfl ⟨Nat.le_of_ble_eq_true rfl, Nat.le_of_ble_eq_true rfl⟩ (Nat.le_of_ble_eq_true rfl) ⟨Nat.le_of_ble_eq_true rfl, Nat.le_of_ble_eq_true rfl⟩ dL_act_4 (fun v2 w1 H locs hq hP hD hS => ?_)
  obtain ⟨bk1, hbk1, rfl, rfl⟩ := hq
  rw [List.append_nil] at hP hD
  have hP : va_P D vwCl ((g_W D σ) ++ (h_SW D q ((nZ Z)) ((mZ Z)))) H := hP
  have hD : va_D (va_A (((g_W D σ) ++ (h_SW D q ((nZ Z)) ((mZ Z))))) s.heap.size) ((g_W D σ) ++ (h_SW D q ((nZ Z)) ((mZ Z)))) := hD
  refine W.widen (k := 0) (n := 0) (Nat.le_of_ble_eq_true rfl) (Nat.le_of_ble_eq_true rfl) ?_
  refine W.eq (g2 := F0 m 7 ls [.int (nI bk1)]) rfl ?_
  refine lv_istore_n (lv' := [(3, .int (nI bk1)), (0, .ref (ad_ D 0)), (1, .ref (q 0)), (2, .int x)]) hx hb dL_act_7 rfl hl (by decide) rfl (fun ls hl => ?_)
  refine lv_aload_n hx hb dL_act_8 rfl (lv_at hl 2 rfl) ?_
  refine lv_iload_n hx hb dL_act_9 rfl (lv_at hl 3 rfl) ?_
  refine lv_iconst (v := nI 3) hx hb dL_act_10 (by decide) ?_
  refine lv_ishr hx hb dL_act_11 ?_
  refine h_callS (y := yL_name) (n := 2) (As := [.ref (q 0), .int (x >>> ((nI 3) &&& 31))]) (rest := []) hx hb hml hown hts hE hZ hS hl.1 (m_L_name l D q Z (x >>> ((nI 3) &&& 31)) (fun v hv => by rw [SZ_len hSZ hv]; exact (hvC v hv).2) (fun v hv => SR_rn hvC (SZ_R hSZ) hv)) (h_suf (w := (g_W D σ)) hP) h_P0 (h_Anil hS h_Asz) (fun _ _ _ => trivial) (h_jR hP hD (h_Anil hS h_Asz)) k_L_22 rfl rfl ⟨Nat.le_of_ble_eq_true rfl, Nat.le_of_ble_eq_true rfl⟩ (Nat.le_of_ble_eq_true rfl) ⟨Nat.le_of_ble_eq_true rfl, Nat.le_of_ble_eq_true rfl⟩ dL_act_12 (fun v4 w1 H locs hq hP hD hS => ?_)
  obtain ⟨nm3, rfl, hnm3, rfl⟩ := hq
  rw [List.append_nil] at hP hD
  have hP : va_P D vwCl ((g_W D σ) ++ (h_SW D q ((nZ Z)) ((mZ Z)))) H := hP
  have hD : va_D (va_A (((g_W D σ) ++ (h_SW D q ((nZ Z)) ((mZ Z))))) s.heap.size) ((g_W D σ) ++ (h_SW D q ((nZ Z)) ((mZ Z)))) := hD
  refine W.widen (k := 0) (n := 0) (Nat.le_of_ble_eq_true rfl) (Nat.le_of_ble_eq_true rfl) ?_
  refine W.eq (g2 := F0 m 15 ls [.int nm3]) rfl ?_
  refine lv_istore (lv' := [(4, .int nm3), (3, .int (nI bk1)), (0, .ref (ad_ D 0)), (1, .ref (q 0)), (2, .int x)]) hx hb dL_act_15 hl (by decide) rfl (fun ls hl => ?_)
  refine lv_aload_n hx hb dL_act_17 rfl (lv_at hl 3 rfl) ?_
  refine lv_iload_n hx hb dL_act_18 rfl (lv_at hl 1 rfl) ?_
  refine lv_iload hx hb dL_act_19 (lv_at hl 0 rfl) ?_
  refine h_callV (y := yX3_find) (n := 2) (As := [.int (nI bk1), .int nm3]) (rest := []) hx hb hml hown hts hE hZ hS hl.1 (m_X3_find l D q ((nZ Z)) ((mZ Z)) bk1 (nm3) (by omega) (by rw [nZ_len, SZ_len hSZ (by omega)]; have := (hvC bk1 (by omega)).2; omega)) (h_suf (w := (g_W D σ)) hP) h_P0 (h_Anil hS h_Asz) (fun _ _ _ => trivial) (h_jR hP hD (h_Anil hS h_Asz)) k_L_26 (wr := h_SW D q ((nZ Z)) ((mZ Z))) (q0 := 0) (ci := 3) (h_suf (w := (g_W D σ)) hP) (rfl) rfl rfl rfl rfl ⟨Nat.le_of_ble_eq_true rfl, Nat.le_of_ble_eq_true rfl⟩ (Nat.le_of_ble_eq_true rfl) ⟨Nat.le_of_ble_eq_true rfl, Nat.le_of_ble_eq_true rfl⟩ dL_act_21 (fun v5 w1 H locs hq hP hD hS => ?_)
  obtain ⟨rfl, rfl⟩ := hq
  rw [List.append_nil] at hP hD
  have hP : va_P D vwCl ((g_W D σ) ++ (h_SW D q ((nZ Z)) ((mZ Z)))) H := hP
  have hD : va_D (va_A (((g_W D σ) ++ (h_SW D q ((nZ Z)) ((mZ Z))))) s.heap.size) ((g_W D σ) ++ (h_SW D q ((nZ Z)) ((mZ Z)))) := hD
  refine W.widen (k := 0) (n := 0) (Nat.le_of_ble_eq_true rfl) (Nat.le_of_ble_eq_true rfl) ?_
  refine W.eq (g2 := F0 m 24 ls [.int (fdx_ ((nZ Z) bk1) (nm3))]) rfl ?_
  refine lv_istore (lv' := [(5, .int (fdx_ ((nZ Z) bk1) (nm3))), (4, .int nm3), (3, .int (nI bk1)), (0, .ref (ad_ D 0)), (1, .ref (q 0)), (2, .int x)]) hx hb dL_act_24 hl (by decide) rfl (fun ls hl => ?_)
  refine lv_iload_n hx hb dL_act_26 rfl (lv_at hl 5 rfl) ?_
  refine lv_bipush (v := nI 12) hx hb dL_act_27 (by decide) ?_
  refine h_callS (y := yL_below) (n := 2) (As := [.int x, .int (nI 12)]) (rest := []) hx hb hml hown hts hE hZ hS hl.1 (m_L_below l D (x) 12 (by decide) (by decide)) h_P0 h_P0 (h_Anil hS h_Asz) (fun _ _ _ => trivial) (h_jR hP hD (h_Anil hS h_Asz)) k_L_9 rfl rfl ⟨Nat.le_of_ble_eq_true rfl, Nat.le_of_ble_eq_true rfl⟩ (Nat.le_of_ble_eq_true rfl) ⟨Nat.le_of_ble_eq_true rfl, Nat.le_of_ble_eq_true rfl⟩ dL_act_29 (fun v7 w1 H locs hq hP hD hS => ?_)
  obtain ⟨bk6, hbk6, rfl, rfl⟩ := hq
  rw [List.append_nil] at hP hD
  have hP : va_P D vwCl ((g_W D σ) ++ (h_SW D q ((nZ Z)) ((mZ Z)))) H := hP
  have hD : va_D (va_A (((g_W D σ) ++ (h_SW D q ((nZ Z)) ((mZ Z))))) s.heap.size) ((g_W D σ) ++ (h_SW D q ((nZ Z)) ((mZ Z)))) := hD
  refine W.widen (k := 0) (n := 0) (Nat.le_of_ble_eq_true rfl) (Nat.le_of_ble_eq_true rfl) ?_
  refine W.eq (g2 := F0 m 32 ls [.int (nI bk6)]) rfl ?_
  by_cases hsw : bk6 < 4
  · rcases (show bk6 = 0 ∨ bk6 = 1 ∨ bk6 = 2 ∨ bk6 = 3 by omega) with rfl | rfl | rfl | rfl
    · refine lv_tableIn (x := nI 0) (off := 32) (tgt := 64) hx hb dL_act_32 (by decide) (by decide) rfl (by decide) ?_
      exact ac_take hst hAD hC hvC hSZ (by omega) hnm3  hx hb hr hml hown hlocks hts hE hZ htab hQ hP hD hS (lv_sub hl [0, 1, 2, 3, 4, 5] rfl)
    · refine lv_tableIn (x := nI 1) (off := 96) (tgt := 128) hx hb dL_act_32 (by decide) (by decide) rfl (by decide) ?_
      refine lv_iload_n hx hb dL_act_128 rfl (lv_at hl 5 rfl) ?_
      refine lv_bipush (v := nI 7) hx hb dL_act_129 (by decide) ?_
      refine lv_ishr hx hb dL_act_131 ?_
      refine lv_iconst (v := nI 3) hx hb dL_act_132 (by decide) ?_
      refine h_callS (y := yL_below) (n := 2) (As := [.int (x >>> ((nI 7) &&& 31)), .int (nI 3)]) (rest := []) hx hb hml hown hts hE hZ hS hl.1 (m_L_below l D (x >>> ((nI 7) &&& 31)) 3 (by decide) (by decide)) h_P0 h_P0 (h_Anil hS h_Asz) (fun _ _ _ => trivial) (h_jR hP hD (h_Anil hS h_Asz)) k_L_9 rfl rfl ⟨Nat.le_of_ble_eq_true rfl, Nat.le_of_ble_eq_true rfl⟩ (Nat.le_of_ble_eq_true rfl) ⟨Nat.le_of_ble_eq_true rfl, Nat.le_of_ble_eq_true rfl⟩ dL_act_133 (fun v9 w1 H locs hq hP hD hS => ?_)
      obtain ⟨bk8, hbk8, rfl, rfl⟩ := hq
      rw [List.append_nil] at hP hD
      have hP : va_P D vwCl ((g_W D σ) ++ (h_SW D q ((nZ Z)) ((mZ Z)))) H := hP
      have hD : va_D (va_A (((g_W D σ) ++ (h_SW D q ((nZ Z)) ((mZ Z))))) s.heap.size) ((g_W D σ) ++ (h_SW D q ((nZ Z)) ((mZ Z)))) := hD
      refine W.widen (k := 0) (n := 0) (Nat.le_of_ble_eq_true rfl) (Nat.le_of_ble_eq_true rfl) ?_
      refine W.eq (g2 := F0 m 136 ls [.int (nI bk8)]) rfl ?_
      refine lv_if_le (tgt := 141) hx hb dL_act_136 (by decide) (fun h136 => ?_) (fun h136 => ?_)
      · have hb136 := g_le (a := bk8) (b := 0) h136 (by omega) (by omega)
        refine lv_iload_n hx hb dL_act_141 rfl (lv_at hl 5 rfl) ?_
        refine lv_iconst (v := nI 5) hx hb dL_act_142 (by decide) ?_
        refine lv_ishr hx hb dL_act_143 ?_
        refine lv_iconst (v := nI 2) hx hb dL_act_144 (by decide) ?_
        refine h_callS (y := yL_below) (n := 2) (As := [.int (x >>> ((nI 5) &&& 31)), .int (nI 2)]) (rest := []) hx hb hml hown hts hE hZ hS hl.1 (m_L_below l D (x >>> ((nI 5) &&& 31)) 2 (by decide) (by decide)) h_P0 h_P0 (h_Anil hS h_Asz) (fun _ _ _ => trivial) (h_jR hP hD (h_Anil hS h_Asz)) k_L_9 rfl rfl ⟨Nat.le_of_ble_eq_true rfl, Nat.le_of_ble_eq_true rfl⟩ (Nat.le_of_ble_eq_true rfl) ⟨Nat.le_of_ble_eq_true rfl, Nat.le_of_ble_eq_true rfl⟩ dL_act_145 (fun v11 w1 H locs hq hP hD hS => ?_)
        obtain ⟨bk10, hbk10, rfl, rfl⟩ := hq
        rw [List.append_nil] at hP hD
        have hP : va_P D vwCl ((g_W D σ) ++ (h_SW D q ((nZ Z)) ((mZ Z)))) H := hP
        have hD : va_D (va_A (((g_W D σ) ++ (h_SW D q ((nZ Z)) ((mZ Z))))) s.heap.size) ((g_W D σ) ++ (h_SW D q ((nZ Z)) ((mZ Z)))) := hD
        refine W.widen (k := 0) (n := 0) (Nat.le_of_ble_eq_true rfl) (Nat.le_of_ble_eq_true rfl) ?_
        refine W.eq (g2 := F0 m 148 ls [.int (nI bk10)]) rfl ?_
        refine lv_if_ne (tgt := 164) hx hb dL_act_148 (by decide) (fun h148 => ?_) (fun h148 => ?_)
        · have hb148 := g_ne (a := bk10) (b := 0) h148 (by omega) (by omega)
          refine lv_iload_n hx hb dL_act_164 rfl (lv_at hl 5 rfl) ?_
          refine lv_iconst (v := nI 4) hx hb dL_act_165 (by decide) ?_
          refine lv_ishr hx hb dL_act_166 ?_
          refine lv_ldc (v := 65536) hx hb hown (hts _ wc_L_15) dL_act_167 ?_
          refine g_top (y := nI 65536) (by decide) ?_
          refine h_callS (y := yL_below) (n := 2) (As := [.int (x >>> ((nI 4) &&& 31)), .int (nI 65536)]) (rest := []) hx hb hml hown hts hE hZ hS hl.1 (m_L_below l D (x >>> ((nI 4) &&& 31)) 65536 (by decide) (by decide)) h_P0 h_P0 (h_Anil hS h_Asz) (fun _ _ _ => trivial) (h_jR hP hD (h_Anil hS h_Asz)) k_L_9 rfl rfl ⟨Nat.le_of_ble_eq_true rfl, Nat.le_of_ble_eq_true rfl⟩ (Nat.le_of_ble_eq_true rfl) ⟨Nat.le_of_ble_eq_true rfl, Nat.le_of_ble_eq_true rfl⟩ dL_act_169 (fun v13 w1 H locs hq hP hD hS => ?_)
          obtain ⟨bk12, hbk12, rfl, rfl⟩ := hq
          rw [List.append_nil] at hP hD
          have hP : va_P D vwCl ((g_W D σ) ++ (h_SW D q ((nZ Z)) ((mZ Z)))) H := hP
          have hD : va_D (va_A (((g_W D σ) ++ (h_SW D q ((nZ Z)) ((mZ Z))))) s.heap.size) ((g_W D σ) ++ (h_SW D q ((nZ Z)) ((mZ Z)))) := hD
          refine W.widen (k := 0) (n := 0) (Nat.le_of_ble_eq_true rfl) (Nat.le_of_ble_eq_true rfl) ?_
          refine W.eq (g2 := F0 m 172 ls [.int (nI bk12)]) rfl ?_
          exact ac_turn hst hAD hC hvC hSZ (by omega) hnm3 (nm_of (by omega)) hx hb hr hml hown hlocks hts hE hZ htab hQ hP hD hS (lv_sub hl [0, 1, 2, 3, 4, 5] rfl)
        · have hb148 := g_eq (a := bk10) (b := 0) h148 (by omega) (by omega)
          refine lv_iconst (v := nI 1) hx hb dL_act_151 (by decide) ?_
          refine lv_iload_n hx hb dL_act_152 rfl (lv_at hl 5 rfl) ?_
          refine lv_iconst (v := nI 4) hx hb dL_act_153 (by decide) ?_
          refine lv_ishr hx hb dL_act_154 ?_
          refine lv_bipush (v := nI 16) hx hb dL_act_155 (by decide) ?_
          refine h_callS (y := yL_below) (n := 2) (As := [.int (x >>> ((nI 4) &&& 31)), .int (nI 16)]) (rest := [.int (nI 1)]) hx hb hml hown hts hE hZ hS hl.1 (m_L_below l D (x >>> ((nI 4) &&& 31)) 16 (by decide) (by decide)) h_P0 h_P0 (h_Anil hS h_Asz) (fun _ _ _ => trivial) (h_jR hP hD (h_Anil hS h_Asz)) k_L_9 rfl rfl ⟨Nat.le_of_ble_eq_true rfl, Nat.le_of_ble_eq_true rfl⟩ (Nat.le_of_ble_eq_true rfl) ⟨Nat.le_of_ble_eq_true rfl, Nat.le_of_ble_eq_true rfl⟩ dL_act_157 (fun v15 w1 H locs hq hP hD hS => ?_)
          obtain ⟨bk14, hbk14, rfl, rfl⟩ := hq
          rw [List.append_nil] at hP hD
          have hP : va_P D vwCl ((g_W D σ) ++ (h_SW D q ((nZ Z)) ((mZ Z)))) H := hP
          have hD : va_D (va_A (((g_W D σ) ++ (h_SW D q ((nZ Z)) ((mZ Z))))) s.heap.size) ((g_W D σ) ++ (h_SW D q ((nZ Z)) ((mZ Z)))) := hD
          refine W.widen (k := 0) (n := 0) (Nat.le_of_ble_eq_true rfl) (Nat.le_of_ble_eq_true rfl) ?_
          refine W.eq (g2 := F0 m 160 ls [.int (nI bk14), .int (nI 1)]) rfl ?_
          refine lv_ishl hx hb dL_act_160 ?_
          refine lv_goto (tgt := 172) hx hb dL_act_161 (by decide) ?_
          exact ac_turn hst hAD hC hvC hSZ (by omega) hnm3 (by rw [sh1_ _ hbk14]; exact nm_of (pw16 hbk14)) hx hb hr hml hown hlocks hts hE hZ htab hQ hP hD hS (lv_sub hl [0, 1, 2, 3, 4, 5] rfl)
      · have hb136 := g_nle (a := bk8) (b := 0) h136 (by omega) (by omega)
        refine lv_iconst (v := nI 1) hx hb dL_act_139 (by decide) ?_
        refine W.widen (k := 120) (n := 3000) (by omega) (by omega) ?_
        rw [← hQ]
        exact W.zret (v := nI 1) hx hb hr (by first | rfl | decide | (split <;> rfl)) (fun te9 hte9 _ => h_fin (⟨rfl, σ, q, Z, Ls, rfl, rfl, hC, hvC, hSZ⟩) hP hD hS hte9) hS.2.2 dL_act_140 hlocks
    · refine lv_tableIn (x := nI 2) (off := 240) (tgt := 272) hx hb dL_act_32 (by decide) (by decide) rfl (by decide) ?_
      exact ac_merge hst hAD hC hvC hSZ (by omega) hnm3  hx hb hr hml hown hlocks hts hE hZ htab hQ hP hD hS (lv_sub hl [0, 1, 2, 3, 4, 5] rfl)
    · refine lv_tableIn (x := nI 3) (off := 542) (tgt := 574) hx hb dL_act_32 (by decide) (by decide) rfl (by decide) ?_
      exact ac_cut hst hAD hC hvC hSZ (by omega) hnm3  hx hb hr hml hown hlocks hts hE hZ htab hQ hP hD hS (lv_sub hl [0, 1, 2, 3, 4, 5] rfl)
  · refine lv_tableOut (x := nI bk6) (tgt := 708) hx hb dL_act_32 (Or.inr (by rw [nI_toInt (by omega)]; omega)) (by decide) ?_
    refine lv_iload_n hx hb dL_act_708 rfl (lv_at hl 5 rfl) ?_
    refine lv_iconst (v := nI 4) hx hb dL_act_709 (by decide) ?_
    refine lv_ishr hx hb dL_act_710 ?_
    refine lv_iload_n hx hb dL_act_711 rfl (lv_at hl 5 rfl) ?_
    refine lv_bipush (v := nI 6) hx hb dL_act_712 (by decide) ?_
    refine lv_ishr hx hb dL_act_714 ?_
    refine lv_iconst (v := nI 3) hx hb dL_act_715 (by decide) ?_
    refine h_callS (y := yL_below) (n := 2) (As := [.int (x >>> ((nI 6) &&& 31)), .int (nI 3)]) (rest := [.int (x >>> ((nI 4) &&& 31))]) hx hb hml hown hts hE hZ hS hl.1 (m_L_below l D (x >>> ((nI 6) &&& 31)) 3 (by decide) (by decide)) h_P0 h_P0 (h_Anil hS h_Asz) (fun _ _ _ => trivial) (h_jR hP hD (h_Anil hS h_Asz)) k_L_9 rfl rfl ⟨Nat.le_of_ble_eq_true rfl, Nat.le_of_ble_eq_true rfl⟩ (Nat.le_of_ble_eq_true rfl) ⟨Nat.le_of_ble_eq_true rfl, Nat.le_of_ble_eq_true rfl⟩ dL_act_716 (fun v17 w1 H locs hq hP hD hS => ?_)
    obtain ⟨bk16, hbk16, rfl, rfl⟩ := hq
    rw [List.append_nil] at hP hD
    have hP : va_P D vwCl ((g_W D σ) ++ (h_SW D q ((nZ Z)) ((mZ Z)))) H := hP
    have hD : va_D (va_A (((g_W D σ) ++ (h_SW D q ((nZ Z)) ((mZ Z))))) s.heap.size) ((g_W D σ) ++ (h_SW D q ((nZ Z)) ((mZ Z)))) := hD
    refine W.widen (k := 0) (n := 0) (Nat.le_of_ble_eq_true rfl) (Nat.le_of_ble_eq_true rfl) ?_
    refine W.eq (g2 := F0 m 719 ls [.int (nI bk16), .int (x >>> ((nI 4) &&& 31))]) rfl ?_
    refine lv_if_ne (tgt := 728) hx hb dL_act_719 (by decide) (fun h719 => ?_) (fun h719 => ?_)
    · have hb719 := g_ne (a := bk16) (b := 0) h719 (by omega) (by omega)
      refine lv_bipush (v := nI 20) hx hb dL_act_728 (by decide) ?_
      refine h_callS (y := yL_below) (n := 2) (As := [.int (x >>> ((nI 4) &&& 31)), .int (nI 20)]) (rest := []) hx hb hml hown hts hE hZ hS hl.1 (m_L_below l D (x >>> ((nI 4) &&& 31)) 20 (by decide) (by decide)) h_P0 h_P0 (h_Anil hS h_Asz) (fun _ _ _ => trivial) (h_jR hP hD (h_Anil hS h_Asz)) k_L_9 rfl rfl ⟨Nat.le_of_ble_eq_true rfl, Nat.le_of_ble_eq_true rfl⟩ (Nat.le_of_ble_eq_true rfl) ⟨Nat.le_of_ble_eq_true rfl, Nat.le_of_ble_eq_true rfl⟩ dL_act_730 (fun v19 w1 H locs hq hP hD hS => ?_)
      obtain ⟨bk18, hbk18, rfl, rfl⟩ := hq
      rw [List.append_nil] at hP hD
      have hP : va_P D vwCl ((g_W D σ) ++ (h_SW D q ((nZ Z)) ((mZ Z)))) H := hP
      have hD : va_D (va_A (((g_W D σ) ++ (h_SW D q ((nZ Z)) ((mZ Z))))) s.heap.size) ((g_W D σ) ++ (h_SW D q ((nZ Z)) ((mZ Z)))) := hD
      refine W.widen (k := 0) (n := 0) (Nat.le_of_ble_eq_true rfl) (Nat.le_of_ble_eq_true rfl) ?_
      refine W.eq (g2 := F0 m 733 ls [.int (nI bk18)]) rfl ?_
      exact ac_put hst hAD hC hvC hSZ (by omega) hnm3 (by omega) hx hb hr hml hown hlocks hts hE hZ htab hQ hP hD hS (lv_sub hl [0, 1, 2, 3, 4, 5] rfl)
    · have hb719 := g_eq (a := bk16) (b := 0) h719 (by omega) (by omega)
      refine lv_sipush (v := nI 1000) hx hb dL_act_722 (by decide) ?_
      refine lv_goto (tgt := 730) hx hb dL_act_725 (by decide) ?_
      refine h_callS (y := yL_below) (n := 2) (As := [.int (x >>> ((nI 4) &&& 31)), .int (nI 1000)]) (rest := []) hx hb hml hown hts hE hZ hS hl.1 (m_L_below l D (x >>> ((nI 4) &&& 31)) 1000 (by decide) (by decide)) h_P0 h_P0 (h_Anil hS h_Asz) (fun _ _ _ => trivial) (h_jR hP hD (h_Anil hS h_Asz)) k_L_9 rfl rfl ⟨Nat.le_of_ble_eq_true rfl, Nat.le_of_ble_eq_true rfl⟩ (Nat.le_of_ble_eq_true rfl) ⟨Nat.le_of_ble_eq_true rfl, Nat.le_of_ble_eq_true rfl⟩ dL_act_730 (fun v21 w1 H locs hq hP hD hS => ?_)
      obtain ⟨bk20, hbk20, rfl, rfl⟩ := hq
      rw [List.append_nil] at hP hD
      have hP : va_P D vwCl ((g_W D σ) ++ (h_SW D q ((nZ Z)) ((mZ Z)))) H := hP
      have hD : va_D (va_A (((g_W D σ) ++ (h_SW D q ((nZ Z)) ((mZ Z))))) s.heap.size) ((g_W D σ) ++ (h_SW D q ((nZ Z)) ((mZ Z)))) := hD
      refine W.widen (k := 0) (n := 0) (Nat.le_of_ble_eq_true rfl) (Nat.le_of_ble_eq_true rfl) ?_
      refine W.eq (g2 := F0 m 733 ls [.int (nI bk20)]) rfl ?_
      exact ac_put hst hAD hC hvC hSZ (by omega) hnm3 (by omega) hx hb hr hml hown hlocks hts hE hZ htab hQ hP hD hS (lv_sub hl [0, 1, 2, 3, 4, 5] rfl)
