abbrev m_X2_digestOfWood_rm : Room := { frames := 13, cells := 0, slots := 0, locals := 323 }
set_option maxHeartbeats 4000000 in
set_option maxRecDepth 100000 in
theorem m_X2_digestOfWood (l : Launch) (D : va_G) (hAD : g_AD D) (σ : Nat → va_E) (Ls : Nat → g_L) (w : Nat) (d9 : Int64) (hC : g_C D σ Ls) (hvC : vC_ Ls) (hw : w ≤ 1) : g_M l D yX2_digestOfWood cX2_digestOfWood 8 (some .long) m_X2_digestOfWood_rm [.ref (ad_ D 0), .long d9, .ref (ad_ D (1 + 3 * w))] σ (fun v1 σ1 => v1 = some (.long (dw_ (Ls w) d9)) ∧ g_C D σ1 Ls ∧ g_off 0 19 σ σ1) := by
  refine g_ofW [(0, .ref (ad_ D 0)), (1, .long d9), (3, .ref (ad_ D (1 + 3 * w)))] (by decide +kernel) (Nat.le_of_ble_eq_true rfl) rfl ?_
  intro p e s m args below meth c hx hb hr hml hown hlocks hts hE hZ hP hS hnm ls hl
  have hown : s.vm.findClass RX2 = some m.cls := hown
  generalize hQ : MQ _ _ _ _ _ _ _ = Q
  obtain ⟨hc0, hcA, hcB, ⟨Lc, hcBo⟩, sz, T, hG⟩ := id hC
  obtain ⟨Fw, Gw, hVw⟩ := hC.wood hw
  have hvw := hvC w hw
  have h24 := hvw.2
  have hz95 := zs_le (show (Ls w).length ≤ 48 by omega)
  refine lv_lload_n hx hb dX2_digestOfWood_0 rfl (lv_at hl 1 rfl) ?_
  refine lv_lstore (lv' := [(4, .long d9), (0, .ref (ad_ D 0)), (1, .long d9), (3, .ref (ad_ D (1 + 3 * w)))]) hx hb dX2_digestOfWood_1 hl (by decide) rfl (fun ls hl => ?_)
  refine lv_aload_n hx hb dX2_digestOfWood_3 rfl (lv_at hl 1 rfl) ?_
  refine g_get hx hb hts hE hown hP g_inX2 rfl (by decide) hc0 3 (by decide) rfl wf_X2_25 (v := .ref (ad_ D 10)) rfl dX2_digestOfWood_4 ?_
  refine lv_aload_n hx hb dX2_digestOfWood_7 rfl (lv_at hl 3 rfl) ?_
  refine g_callV0 (y := yX0_fill) (n := 1) (As := [.ref (ad_ D (1 + 3 * w))]) (rest := []) hx hb hml hown hts hE hZ hP hS hl.1 (m_X0_fill l D hAD σ sz T hG (1 + 3 * w) (Ls w) Fw Gw hVw (by omega) (gs_of hvw.1)) k_X2_104 (ci := 0) (by decide) hG.1 rfl rfl rfl rfl rfl ⟨rfl, rfl⟩ ⟨Nat.le_of_ble_eq_true rfl, Nat.le_of_ble_eq_true rfl⟩ (Nat.le_of_ble_eq_true rfl) ⟨Nat.le_of_ble_eq_true rfl, Nat.le_of_ble_eq_true rfl⟩ dX2_digestOfWood_8 (fun v1 σ_2 H locs hq hP hS => ?_)
  obtain ⟨rfl, hq2⟩ := hq
  refine W.eq (g2 := F0 m 11 ls []) rfl ?_
  obtain ⟨⟨Tf3, hGf4, hTB5⟩, hof6⟩ := hq2
  have hV7 := g_VF.off hVw hof6 (by omega)
  have ho8 := g_off.tr (g_off.rf (lo := 0) (hi := 19) (σ := σ)) (g_off.wd hof6 (by omega) (by omega))
  have hc9 := g_off.at0 hof6 hc0 (by omega)
  refine lv_iconst (v := nI 0) hx hb dX2_digestOfWood_11 (by decide) ?_
  refine lv_istore (lv' := [(6, .int (nI 0)), (4, .long d9), (0, .ref (ad_ D 0)), (1, .long d9), (3, .ref (ad_ D (1 + 3 * w)))]) hx hb dX2_digestOfWood_12 hl (by decide) rfl (fun ls hl => ?_)
  have K14 : ∀ (fuel14 : Nat) (i : Nat), (7 - i) < fuel14 → (i ≤ 7) → ∀ (H : Heap) (locs : List Loc), va_P D vwCl (g_W D σ_2) H → va_S (g_A D s.heap.size) s.heap H locs → ∀ ls : Array Slot, lv_has ls 8 [(6, .int (nI i)), (4, .long (dc_ (Ls w) d9 i)), (0, .ref (ad_ D 0)), (3, .ref (ad_ D (1 + 3 * w)))] → W p l e m_X2_digestOfWood_rm s m args below meth c H locs 0 0 Q (F0 m 14 ls []) := by
    intro fuel14
    induction fuel14 with
    | zero => intro i hf; exact absurd hf (Nat.not_lt_zero _)
    | succ fuel14 ih14 =>
      intro i hf14 hi H locs hP hS ls hl
      refine lv_iload hx hb dX2_digestOfWood_14 (lv_at hl 0 rfl) ?_
      refine lv_bipush (v := nI 6) hx hb dX2_digestOfWood_16 (by decide) ?_
      refine lv_icmp_gt (tgt := 44) hx hb dX2_digestOfWood_18 (by decide) (fun h18 => ?_) (fun h18 => ?_)
      · have hb18 := g_lt (a := 6) (b := i) h18 (by omega) (by omega)
        have hi2 : i = 7 := by omega
        have hfx10 : dc_ (Ls w) d9 i = dc_ (Ls w) d9 7 := by first | (rw [hi2]; done) | (rw [hi2]; rfl)
        rw [hfx10] at hl
        refine lv_lload hx hb dX2_digestOfWood_44 (lv_at hl 1 rfl) ?_
        refine lv_aload_n hx hb dX2_digestOfWood_46 rfl (lv_at hl 3 rfl) ?_
        refine g_callV0 (y := yX1_farthest) (n := 0) (As := []) (rest := [.long (dc_ (Ls w) d9 7)]) hx hb hml hown hts hE hZ hP hS hl.1 (m_X1_farthest l D hAD σ_2 (1 + 3 * w) (Ls w) Fw Gw hV7) k_X2_136 (ci := 1) (by omega) hV7.1 rfl rfl rfl rfl rfl ⟨rfl, rfl⟩ ⟨Nat.le_of_ble_eq_true rfl, Nat.le_of_ble_eq_true rfl⟩ (Nat.le_of_ble_eq_true rfl) ⟨Nat.le_of_ble_eq_true rfl, Nat.le_of_ble_eq_true rfl⟩ dX2_digestOfWood_47 (fun v11 σ_12 H locs hq hP hS => ?_)
        obtain ⟨rfl, rfl⟩ := hq
        refine W.eq (g2 := F0 m 50 ls [.int (fa_ (Ls w) (List.length (Ls w))), .long (dc_ (Ls w) d9 7)]) rfl ?_
        refine g_callS0 (y := yX2_digested) (n := 2) (As := [.long (dc_ (Ls w) d9 7), .int (fa_ (Ls w) (List.length (Ls w)))]) (rest := []) hx hb hml hown hts hE hZ hP hS hl.1 (m_X2_digested l D hAD σ_2 (dc_ (Ls w) d9 7) (fa_ (Ls w) (List.length (Ls w)))) k_X2_157 rfl rfl ⟨rfl, rfl⟩ ⟨Nat.le_of_ble_eq_true rfl, Nat.le_of_ble_eq_true rfl⟩ (Nat.le_of_ble_eq_true rfl) ⟨Nat.le_of_ble_eq_true rfl, Nat.le_of_ble_eq_true rfl⟩ dX2_digestOfWood_50 (fun v13 σ_14 H locs hq hP hS => ?_)
        obtain ⟨rfl, rfl⟩ := hq
        refine W.eq (g2 := F0 m 53 ls [.long (dg_ (dc_ (Ls w) d9 7) (fa_ (Ls w) (List.length (Ls w))))]) rfl ?_
        refine lv_lstore (lv' := [(4, .long (dg_ (dc_ (Ls w) d9 7) (fa_ (Ls w) (List.length (Ls w))))), (6, .int (nI i)), (0, .ref (ad_ D 0)), (3, .ref (ad_ D (1 + 3 * w)))]) hx hb dX2_digestOfWood_53 hl (by decide) rfl (fun ls hl => ?_)
        refine lv_iconst (v := nI 0) hx hb dX2_digestOfWood_55 (by decide) ?_
        refine lv_istore (lv' := [(6, .int (nI 0)), (4, .long (dg_ (dc_ (Ls w) d9 7) (fa_ (Ls w) (List.length (Ls w))))), (0, .ref (ad_ D 0)), (3, .ref (ad_ D (1 + 3 * w)))]) hx hb dX2_digestOfWood_56 hl (by decide) rfl (fun ls hl => ?_)
        have K58 : ∀ (fuel58 : Nat) (i : Nat), (zs_ (Ls w).length - i) < fuel58 → (i ≤ zs_ (Ls w).length) → ∀ (H : Heap) (locs : List Loc), va_P D vwCl (g_W D σ_2) H → va_S (g_A D s.heap.size) s.heap H locs → ∀ ls : Array Slot, lv_has ls 8 [(6, .int (nI i)), (4, .long (ds_ (Ls w) (dg_ (dc_ (Ls w) d9 7) (fa_ (Ls w) (Ls w).length)) i)), (0, .ref (ad_ D 0)), (3, .ref (ad_ D (1 + 3 * w)))] → W p l e m_X2_digestOfWood_rm s m args below meth c H locs 0 0 Q (F0 m 58 ls []) := by
          intro fuel58
          induction fuel58 with
          | zero => intro i hf; exact absurd hf (Nat.not_lt_zero _)
          | succ fuel58 ih58 =>
            intro i hf58 hi H locs hP hS ls hl
            refine lv_iload hx hb dX2_digestOfWood_58 (lv_at hl 0 rfl) ?_
            refine lv_aload_n hx hb dX2_digestOfWood_60 rfl (lv_at hl 2 rfl) ?_
            refine g_get hx hb hts hE hown hP g_inX2 rfl (by decide) hc9 3 (by decide) rfl wf_X2_25 (v := .ref (ad_ D 10)) rfl dX2_digestOfWood_61 ?_
            refine g_callV0 (y := yX0_size) (n := 0) (As := []) (rest := [.int (nI i)]) hx hb hml hown hts hE hZ hP hS hl.1 (m_X0_size l D hAD σ_2 (zs_ (List.length (Ls w))) Tf3 hGf4) k_X2_111 (ci := 0) (by decide) hGf4.1 rfl rfl rfl rfl rfl ⟨rfl, rfl⟩ ⟨Nat.le_of_ble_eq_true rfl, Nat.le_of_ble_eq_true rfl⟩ (Nat.le_of_ble_eq_true rfl) ⟨Nat.le_of_ble_eq_true rfl, Nat.le_of_ble_eq_true rfl⟩ dX2_digestOfWood_64 (fun v15 σ_16 H locs hq hP hS => ?_)
            obtain ⟨rfl, rfl⟩ := hq
            refine W.eq (g2 := F0 m 67 ls [.int (nI (zs_ (List.length (Ls w)))), .int (nI i)]) rfl ?_
            refine lv_icmp_ge (tgt := 110) hx hb dX2_digestOfWood_67 (by decide) (fun h67 => ?_) (fun h67 => ?_)
            · have hb67 := g_le (a := zs_ (List.length (Ls w))) (b := i) h67 (by omega) (by omega)
              have hi2 : i = zs_ (Ls w).length := by omega
              have hfx17 : ds_ (Ls w) (dg_ (dc_ (Ls w) d9 7) (fa_ (Ls w) (Ls w).length)) i = ds_ (Ls w) (dg_ (dc_ (Ls w) d9 7) (fa_ (Ls w) (Ls w).length)) (zs_ (Ls w).length) := by first | (rw [hi2]; done) | (rw [hi2]; rfl)
              rw [hfx17] at hl
              refine lv_iconst (v := nI 0) hx hb dX2_digestOfWood_110 (by decide) ?_
              refine lv_istore (lv' := [(6, .int (nI 0)), (4, .long (ds_ (Ls w) (dg_ (dc_ (Ls w) d9 7) (fa_ (Ls w) (Ls w).length)) (zs_ (Ls w).length))), (0, .ref (ad_ D 0)), (3, .ref (ad_ D (1 + 3 * w)))]) hx hb dX2_digestOfWood_111 hl (by decide) rfl (fun ls hl => ?_)
              have K113 : ∀ (fuel113 : Nat) (i : Nat), ((Ls w).length - i) < fuel113 → (i ≤ (Ls w).length) → ∀ (H : Heap) (locs : List Loc), va_P D vwCl (g_W D σ_2) H → va_S (g_A D s.heap.size) s.heap H locs → ∀ ls : Array Slot, lv_has ls 8 [(6, .int (nI i)), (4, .long (dm_ (Ls w) (ds_ (Ls w) (dg_ (dc_ (Ls w) d9 7) (fa_ (Ls w) (Ls w).length)) (zs_ (Ls w).length)) i)), (0, .ref (ad_ D 0)), (3, .ref (ad_ D (1 + 3 * w)))] → W p l e m_X2_digestOfWood_rm s m args below meth c H locs 0 0 Q (F0 m 113 ls []) := by
                intro fuel113
                induction fuel113 with
                | zero => intro i hf; exact absurd hf (Nat.not_lt_zero _)
                | succ fuel113 ih113 =>
                  intro i hf113 hi H locs hP hS ls hl
                  refine lv_iload hx hb dX2_digestOfWood_113 (lv_at hl 0 rfl) ?_
                  refine lv_aload_n hx hb dX2_digestOfWood_115 rfl (lv_at hl 3 rfl) ?_
                  refine g_callV0 (y := yX1_size) (n := 0) (As := []) (rest := [.int (nI i)]) hx hb hml hown hts hE hZ hP hS hl.1 (m_X1_size l D hAD σ_2 (1 + 3 * w) (Ls w) Fw Gw hV7) k_X2_47 (ci := 1) (by omega) hV7.1 rfl rfl rfl rfl rfl ⟨rfl, rfl⟩ ⟨Nat.le_of_ble_eq_true rfl, Nat.le_of_ble_eq_true rfl⟩ (Nat.le_of_ble_eq_true rfl) ⟨Nat.le_of_ble_eq_true rfl, Nat.le_of_ble_eq_true rfl⟩ dX2_digestOfWood_116 (fun v18 σ_19 H locs hq hP hS => ?_)
                  obtain ⟨rfl, rfl⟩ := hq
                  refine W.eq (g2 := F0 m 119 ls [.int (nI ((Ls w).length)), .int (nI i)]) rfl ?_
                  refine lv_icmp_ge (tgt := 141) hx hb dX2_digestOfWood_119 (by decide) (fun h119 => ?_) (fun h119 => ?_)
                  · have hb119 := g_le (a := (Ls w).length) (b := i) h119 (by omega) (by omega)
                    have hi2 : i = (Ls w).length := by omega
                    have hfx20 : dm_ (Ls w) (ds_ (Ls w) (dg_ (dc_ (Ls w) d9 7) (fa_ (Ls w) (Ls w).length)) (zs_ (Ls w).length)) i = dw_ (Ls w) d9 := by first | (rw [hi2]; done) | (rw [hi2]; rfl)
                    rw [hfx20] at hl
                    refine lv_lload hx hb dX2_digestOfWood_141 (lv_at hl 1 rfl) ?_
                    rw [← hQ]
                    exact W.lret (v := dw_ (Ls w) d9) hx hb hr (fun te9 hte9 _ => g_fin (⟨rfl, hC.signs hof6 hGf4, ho8⟩) hP hS hte9) hS.2.2 dX2_digestOfWood_143 hlocks
                  · have hb119 := g_nle (a := (Ls w).length) (b := i) h119 (by omega) (by omega)
                    refine lv_lload hx hb dX2_digestOfWood_122 (lv_at hl 1 rfl) ?_
                    refine lv_aload_n hx hb dX2_digestOfWood_124 rfl (lv_at hl 3 rfl) ?_
                    refine lv_iload hx hb dX2_digestOfWood_125 (lv_at hl 0 rfl) ?_
                    refine g_callV0 (y := yX1_milesAt) (n := 1) (As := [.int (nI i)]) (rest := [.long (dm_ (Ls w) (ds_ (Ls w) (dg_ (dc_ (Ls w) d9 7) (fa_ (Ls w) (Ls w).length)) (zs_ (Ls w).length)) i)]) hx hb hml hown hts hE hZ hP hS hl.1 (m_X1_milesAtN l D hAD σ_2 (1 + 3 * w) (Ls w) Fw Gw hV7 i (by omega)) k_X2_82 (ci := 1) (by omega) hV7.1 rfl rfl rfl rfl rfl ⟨rfl, rfl⟩ ⟨Nat.le_of_ble_eq_true rfl, Nat.le_of_ble_eq_true rfl⟩ (Nat.le_of_ble_eq_true rfl) ⟨Nat.le_of_ble_eq_true rfl, Nat.le_of_ble_eq_true rfl⟩ dX2_digestOfWood_127 (fun v21 σ_22 H locs hq hP hS => ?_)
                    obtain ⟨rfl, rfl⟩ := hq
                    refine W.eq (g2 := F0 m 130 ls [.int (gn_ (Ls w) i), .long (dm_ (Ls w) (ds_ (Ls w) (dg_ (dc_ (Ls w) d9 7) (fa_ (Ls w) (Ls w).length)) (zs_ (Ls w).length)) i)]) rfl ?_
                    refine g_callS0 (y := yX2_digested) (n := 2) (As := [.long (dm_ (Ls w) (ds_ (Ls w) (dg_ (dc_ (Ls w) d9 7) (fa_ (Ls w) (Ls w).length)) (zs_ (Ls w).length)) i), .int (gn_ (Ls w) i)]) (rest := []) hx hb hml hown hts hE hZ hP hS hl.1 (m_X2_digested l D hAD σ_2 (dm_ (Ls w) (ds_ (Ls w) (dg_ (dc_ (Ls w) d9 7) (fa_ (Ls w) (Ls w).length)) (zs_ (Ls w).length)) i) (gn_ (Ls w) i)) k_X2_157 rfl rfl ⟨rfl, rfl⟩ ⟨Nat.le_of_ble_eq_true rfl, Nat.le_of_ble_eq_true rfl⟩ (Nat.le_of_ble_eq_true rfl) ⟨Nat.le_of_ble_eq_true rfl, Nat.le_of_ble_eq_true rfl⟩ dX2_digestOfWood_130 (fun v23 σ_24 H locs hq hP hS => ?_)
                    obtain ⟨rfl, rfl⟩ := hq
                    refine W.eq (g2 := F0 m 133 ls [.long (dg_ (dm_ (Ls w) (ds_ (Ls w) (dg_ (dc_ (Ls w) d9 7) (fa_ (Ls w) (Ls w).length)) (zs_ (Ls w).length)) i) (gn_ (Ls w) i))]) rfl ?_
                    refine lv_lstore (lv' := [(4, .long (dg_ (dm_ (Ls w) (ds_ (Ls w) (dg_ (dc_ (Ls w) d9 7) (fa_ (Ls w) (Ls w).length)) (zs_ (Ls w).length)) i) (gn_ (Ls w) i))), (6, .int (nI i)), (0, .ref (ad_ D 0)), (3, .ref (ad_ D (1 + 3 * w)))]) hx hb dX2_digestOfWood_133 hl (by decide) rfl (fun ls hl => ?_)
                    refine lv_iinc (v := nI (i + 1)) (lv' := [(6, .int (nI (i + 1))), (4, .long (dg_ (dm_ (Ls w) (ds_ (Ls w) (dg_ (dc_ (Ls w) d9 7) (fa_ (Ls w) (Ls w).length)) (zs_ (Ls w).length)) i) (gn_ (Ls w) i))), (0, .ref (ad_ D 0)), (3, .ref (ad_ D (1 + 3 * w)))]) hx hb dX2_digestOfWood_135 hl (k := 1) rfl (g_inc i) (by decide) rfl (fun ls hl => ?_)
                    refine lv_goto (tgt := 113) hx hb dX2_digestOfWood_138 (by decide) ?_
                    exact ih113 (i + 1) (by omega) (by omega) _ _ hP hS ls (lv_sub hl [0, 1, 2, 3] rfl)
              exact K113 (((Ls w).length - 0) + 1) 0 (Nat.lt_succ_self _) (Nat.zero_le _) _ _ hP hS ls (lv_sub hl [0, 1, 2, 3] rfl)
            · have hb67 := g_nle (a := zs_ (List.length (Ls w))) (b := i) h67 (by omega) (by omega)
              refine lv_iconst (v := nI 0) hx hb dX2_digestOfWood_70 (by decide) ?_
              refine lv_istore (lv' := [(7, .int (nI 0)), (6, .int (nI i)), (4, .long (ds_ (Ls w) (dg_ (dc_ (Ls w) d9 7) (fa_ (Ls w) (Ls w).length)) i)), (0, .ref (ad_ D 0)), (3, .ref (ad_ D (1 + 3 * w)))]) hx hb dX2_digestOfWood_71 hl (by decide) rfl (fun ls hl => ?_)
              have K73 : ∀ (fuel73 : Nat) (j : Nat), (7 - j) < fuel73 → (j ≤ 7) → ∀ (H : Heap) (locs : List Loc), va_P D vwCl (g_W D σ_2) H → va_S (g_A D s.heap.size) s.heap H locs → ∀ ls : Array Slot, lv_has ls 8 [(7, .int (nI j)), (4, .long (d1_ (Ls w) i (ds_ (Ls w) (dg_ (dc_ (Ls w) d9 7) (fa_ (Ls w) (Ls w).length)) i) j)), (6, .int (nI i)), (0, .ref (ad_ D 0)), (3, .ref (ad_ D (1 + 3 * w)))] → W p l e m_X2_digestOfWood_rm s m args below meth c H locs 0 0 Q (F0 m 73 ls []) := by
                intro fuel73
                induction fuel73 with
                | zero => intro j hf; exact absurd hf (Nat.not_lt_zero _)
                | succ fuel73 ih73 =>
                  intro j hf73 hj H locs hP hS ls hl
                  refine lv_iload hx hb dX2_digestOfWood_73 (lv_at hl 0 rfl) ?_
                  refine lv_bipush (v := nI 6) hx hb dX2_digestOfWood_75 (by decide) ?_
                  refine lv_icmp_gt (tgt := 104) hx hb dX2_digestOfWood_77 (by decide) (fun h77 => ?_) (fun h77 => ?_)
                  · have hb77 := g_lt (a := 6) (b := j) h77 (by omega) (by omega)
                    have hi2 : j = 7 := by omega
                    have hfx25 : d1_ (Ls w) i (ds_ (Ls w) (dg_ (dc_ (Ls w) d9 7) (fa_ (Ls w) (Ls w).length)) i) j = ds_ (Ls w) (dg_ (dc_ (Ls w) d9 7) (fa_ (Ls w) (Ls w).length)) (i + 1) := by first | (rw [hi2]; done) | (rw [hi2]; rfl)
                    rw [hfx25] at hl
                    refine lv_iinc (v := nI (i + 1)) (lv' := [(6, .int (nI (i + 1))), (7, .int (nI j)), (4, .long (ds_ (Ls w) (dg_ (dc_ (Ls w) d9 7) (fa_ (Ls w) (Ls w).length)) (i + 1))), (0, .ref (ad_ D 0)), (3, .ref (ad_ D (1 + 3 * w)))]) hx hb dX2_digestOfWood_104 hl (k := 2) rfl (g_inc i) (by decide) rfl (fun ls hl => ?_)
                    refine lv_goto (tgt := 58) hx hb dX2_digestOfWood_107 (by decide) ?_
                    exact ih58 (i + 1) (by omega) (by omega) _ _ hP hS ls (lv_sub hl [0, 2, 3, 4] rfl)
                  · have hb77 := g_nlt (a := 6) (b := j) h77 (by omega) (by omega)
                    refine lv_lload hx hb dX2_digestOfWood_80 (lv_at hl 1 rfl) ?_
                    refine lv_aload_n hx hb dX2_digestOfWood_82 rfl (lv_at hl 3 rfl) ?_
                    refine g_get hx hb hts hE hown hP g_inX2 rfl (by decide) hc9 3 (by decide) rfl wf_X2_25 (v := .ref (ad_ D 10)) rfl dX2_digestOfWood_83 ?_
                    refine lv_iload hx hb dX2_digestOfWood_86 (lv_at hl 2 rfl) ?_
                    refine lv_iload hx hb dX2_digestOfWood_88 (lv_at hl 0 rfl) ?_
                    refine g_callV0 (y := yX0_tell) (n := 2) (As := [.int (nI i), .int (nI j)]) (rest := [.long (d1_ (Ls w) i (ds_ (Ls w) (dg_ (dc_ (Ls w) d9 7) (fa_ (Ls w) (Ls w).length)) i) j)]) hx hb hml hown hts hE hZ hP hS hl.1 (m_X0_tell l D hAD σ_2 (zs_ (List.length (Ls w))) Tf3 hGf4 i j (by omega) (by omega)) k_X2_112 (ci := 0) (by decide) hGf4.1 rfl rfl rfl rfl rfl ⟨rfl, rfl⟩ ⟨Nat.le_of_ble_eq_true rfl, Nat.le_of_ble_eq_true rfl⟩ (Nat.le_of_ble_eq_true rfl) ⟨Nat.le_of_ble_eq_true rfl, Nat.le_of_ble_eq_true rfl⟩ dX2_digestOfWood_90 (fun v26 σ_27 H locs hq hP hS => ?_)
                    obtain ⟨rfl, rfl⟩ := hq
                    refine W.eq (g2 := F0 m 93 ls [.int (tel_ Tf3 j i), .long (d1_ (Ls w) i (ds_ (Ls w) (dg_ (dc_ (Ls w) d9 7) (fa_ (Ls w) (Ls w).length)) i) j)]) rfl ?_
                    refine g_top (y := tel_ (tb_ (Ls w)) j i) (tel_cg (by omega) (tB_eq hvw.1 hTB5) j) ?_
                    refine g_callS0 (y := yX2_digested) (n := 2) (As := [.long (d1_ (Ls w) i (ds_ (Ls w) (dg_ (dc_ (Ls w) d9 7) (fa_ (Ls w) (Ls w).length)) i) j), .int (tel_ (tb_ (Ls w)) j i)]) (rest := []) hx hb hml hown hts hE hZ hP hS hl.1 (m_X2_digested l D hAD σ_2 (d1_ (Ls w) i (ds_ (Ls w) (dg_ (dc_ (Ls w) d9 7) (fa_ (Ls w) (Ls w).length)) i) j) (tel_ (tb_ (Ls w)) j i)) k_X2_157 rfl rfl ⟨rfl, rfl⟩ ⟨Nat.le_of_ble_eq_true rfl, Nat.le_of_ble_eq_true rfl⟩ (Nat.le_of_ble_eq_true rfl) ⟨Nat.le_of_ble_eq_true rfl, Nat.le_of_ble_eq_true rfl⟩ dX2_digestOfWood_93 (fun v28 σ_29 H locs hq hP hS => ?_)
                    obtain ⟨rfl, rfl⟩ := hq
                    refine W.eq (g2 := F0 m 96 ls [.long (dg_ (d1_ (Ls w) i (ds_ (Ls w) (dg_ (dc_ (Ls w) d9 7) (fa_ (Ls w) (Ls w).length)) i) j) (tel_ (tb_ (Ls w)) j i))]) rfl ?_
                    refine lv_lstore (lv' := [(4, .long (dg_ (d1_ (Ls w) i (ds_ (Ls w) (dg_ (dc_ (Ls w) d9 7) (fa_ (Ls w) (Ls w).length)) i) j) (tel_ (tb_ (Ls w)) j i))), (7, .int (nI j)), (6, .int (nI i)), (0, .ref (ad_ D 0)), (3, .ref (ad_ D (1 + 3 * w)))]) hx hb dX2_digestOfWood_96 hl (by decide) rfl (fun ls hl => ?_)
                    refine lv_iinc (v := nI (j + 1)) (lv' := [(7, .int (nI (j + 1))), (4, .long (dg_ (d1_ (Ls w) i (ds_ (Ls w) (dg_ (dc_ (Ls w) d9 7) (fa_ (Ls w) (Ls w).length)) i) j) (tel_ (tb_ (Ls w)) j i))), (6, .int (nI i)), (0, .ref (ad_ D 0)), (3, .ref (ad_ D (1 + 3 * w)))]) hx hb dX2_digestOfWood_98 hl (k := 1) rfl (g_inc j) (by decide) rfl (fun ls hl => ?_)
                    refine lv_goto (tgt := 73) hx hb dX2_digestOfWood_101 (by decide) ?_
                    exact ih73 (j + 1) (by omega) (by omega) _ _ hP hS ls (lv_sub hl [0, 1, 2, 3, 4] rfl)
              exact K73 ((7 - 0) + 1) 0 (Nat.lt_succ_self _) (Nat.zero_le _) _ _ hP hS ls (lv_sub hl [0, 2, 1, 3, 4] rfl)
        exact K58 ((zs_ (Ls w).length - 0) + 1) 0 (Nat.lt_succ_self _) (Nat.zero_le _) _ _ hP hS ls (lv_sub hl [0, 1, 2, 3] rfl)
      · have hb18 := g_nlt (a := 6) (b := i) h18 (by omega) (by omega)
        refine lv_lload hx hb dX2_digestOfWood_21 (lv_at hl 1 rfl) ?_
        refine lv_aload_n hx hb dX2_digestOfWood_23 rfl (lv_at hl 3 rfl) ?_
        refine lv_aload_n hx hb dX2_digestOfWood_24 rfl (lv_at hl 2 rfl) ?_
        refine g_get hx hb hts hE hown hP g_inX2 rfl (by decide) hc9 3 (by decide) rfl wf_X2_25 (v := .ref (ad_ D 10)) rfl dX2_digestOfWood_25 ?_
        refine lv_iload hx hb dX2_digestOfWood_28 (lv_at hl 0 rfl) ?_
        refine g_callS0 (y := yX2_countOf) (n := 3) (As := [.ref (ad_ D (1 + 3 * w)), .ref (ad_ D 10), .int (nI i)]) (rest := [.long (dc_ (Ls w) d9 i)]) hx hb hml hown hts hE hZ hP hS hl.1 (m_X2_countOf l D hAD σ_2 (1 + 3 * w) (Ls w) Fw Gw Tf3 i hV7 hGf4 hTB5 hvw.1 (by omega)) k_X2_107 rfl rfl ⟨rfl, rfl⟩ ⟨Nat.le_of_ble_eq_true rfl, Nat.le_of_ble_eq_true rfl⟩ (Nat.le_of_ble_eq_true rfl) ⟨Nat.le_of_ble_eq_true rfl, Nat.le_of_ble_eq_true rfl⟩ dX2_digestOfWood_30 (fun v30 σ_31 H locs hq hP hS => ?_)
        obtain ⟨rfl, rfl⟩ := hq
        refine W.eq (g2 := F0 m 33 ls [.int (cn_ (Ls w) i), .long (dc_ (Ls w) d9 i)]) rfl ?_
        refine g_callS0 (y := yX2_digested) (n := 2) (As := [.long (dc_ (Ls w) d9 i), .int (cn_ (Ls w) i)]) (rest := []) hx hb hml hown hts hE hZ hP hS hl.1 (m_X2_digested l D hAD σ_2 (dc_ (Ls w) d9 i) (cn_ (Ls w) i)) k_X2_157 rfl rfl ⟨rfl, rfl⟩ ⟨Nat.le_of_ble_eq_true rfl, Nat.le_of_ble_eq_true rfl⟩ (Nat.le_of_ble_eq_true rfl) ⟨Nat.le_of_ble_eq_true rfl, Nat.le_of_ble_eq_true rfl⟩ dX2_digestOfWood_33 (fun v32 σ_33 H locs hq hP hS => ?_)
        obtain ⟨rfl, rfl⟩ := hq
        refine W.eq (g2 := F0 m 36 ls [.long (dg_ (dc_ (Ls w) d9 i) (cn_ (Ls w) i))]) rfl ?_
        refine lv_lstore (lv' := [(4, .long (dg_ (dc_ (Ls w) d9 i) (cn_ (Ls w) i))), (6, .int (nI i)), (0, .ref (ad_ D 0)), (3, .ref (ad_ D (1 + 3 * w)))]) hx hb dX2_digestOfWood_36 hl (by decide) rfl (fun ls hl => ?_)
        refine lv_iinc (v := nI (i + 1)) (lv' := [(6, .int (nI (i + 1))), (4, .long (dg_ (dc_ (Ls w) d9 i) (cn_ (Ls w) i))), (0, .ref (ad_ D 0)), (3, .ref (ad_ D (1 + 3 * w)))]) hx hb dX2_digestOfWood_38 hl (k := 1) rfl (g_inc i) (by decide) rfl (fun ls hl => ?_)
        refine lv_goto (tgt := 14) hx hb dX2_digestOfWood_41 (by decide) ?_
        exact ih14 (i + 1) (by omega) (by omega) _ _ hP hS ls (lv_sub hl [0, 1, 2, 3] rfl)
  exact K14 ((7 - 0) + 1) 0 (Nat.lt_succ_self _) (Nat.zero_le _) _ _ hP hS ls (lv_sub hl [0, 1, 2, 4] rfl)

abbrev m_X2_digest_rm : Room := { frames := 14, cells := 0, slots := 0, locals := 350 }
set_option maxHeartbeats 4000000 in
set_option maxRecDepth 100000 in
theorem m_X2_digest (l : Launch) (D : va_G) (hAD : g_AD D) (σ : Nat → va_E) (Ls : Nat → g_L)  (hC : g_C D σ Ls) (hvC : vC_ Ls) : g_M l D yX2_digest cX2_digest 4 (some .long) m_X2_digest_rm [.ref (ad_ D 0)] σ (fun v1 σ1 => v1 = some (.long (di_ (Ls 0) (Ls 1))) ∧ g_C D σ1 Ls ∧ g_off 0 19 σ σ1) := by
  refine g_ofW [(0, .ref (ad_ D 0))] (by decide +kernel) (Nat.le_of_ble_eq_true rfl) rfl ?_
  intro p e s m args below meth c hx hb hr hml hown hlocks hts hE hZ hP hS hnm ls hl
  have hown : s.vm.findClass RX2 = some m.cls := hown
  generalize hQ : MQ _ _ _ _ _ _ _ = Q
  obtain ⟨hc0, hcA, hcB, ⟨Lc, hcBo⟩, sz, T, hG⟩ := id hC
  refine lv_aload_n hx hb dX2_digest_0 rfl (lv_at hl 0 rfl) ?_
  refine lv_ldc2 (v := 1747) hx hb hown (hts _ wC_X2_151) dX2_digest_1 ?_
  refine lv_aload_n hx hb dX2_digest_4 rfl (lv_at hl 0 rfl) ?_
  refine g_get hx hb hts hE hown hP g_inX2 rfl (by decide) hc0 0 (by decide) rfl wf_X2_12 (v := .ref (ad_ D 1)) rfl dX2_digest_5 ?_
  refine g_callV0 (y := yX2_digestOfWood) (n := 2) (As := [.long 1747, .ref (ad_ D 1)]) (rest := []) hx hb hml hown hts hE hZ hP hS hl.1 (m_X2_digestOfWood l D hAD σ Ls 0 1747 hC hvC (by decide)) k_X2_153 (ci := 2) (by decide) hc0 rfl rfl rfl rfl rfl ⟨rfl, rfl⟩ ⟨Nat.le_of_ble_eq_true rfl, Nat.le_of_ble_eq_true rfl⟩ (Nat.le_of_ble_eq_true rfl) ⟨Nat.le_of_ble_eq_true rfl, Nat.le_of_ble_eq_true rfl⟩ dX2_digest_8 (fun v1 σ_2 H locs hq hP hS => ?_)
  obtain ⟨rfl, hq2⟩ := hq
  refine W.eq (g2 := F0 m 11 ls [.long (dw_ (Ls 0) 1747)]) rfl ?_
  obtain ⟨hCd3, hod4⟩ := hq2
  have ho5 := g_off.tr (g_off.rf (lo := 0) (hi := 19) (σ := σ)) hod4
  obtain ⟨e60, -, -, ⟨e6L, e67⟩, e6sz, e6T, e6G⟩ := id hCd3
  refine lv_lstore_n (lv' := [(1, .long (dw_ (Ls 0) 1747)), (0, .ref (ad_ D 0))]) hx hb dX2_digest_11 rfl hl (by decide) rfl (fun ls hl => ?_)
  refine lv_aload_n hx hb dX2_digest_12 rfl (lv_at hl 1 rfl) ?_
  refine lv_lload_n hx hb dX2_digest_13 rfl (lv_at hl 0 rfl) ?_
  refine lv_aload_n hx hb dX2_digest_14 rfl (lv_at hl 1 rfl) ?_
  refine g_get hx hb hts hE hown hP g_inX2 rfl (by decide) e60 1 (by decide) rfl wf_X2_16 (v := .ref (ad_ D 4)) rfl dX2_digest_15 ?_
  refine g_callV0 (y := yX2_digestOfWood) (n := 2) (As := [.long (dw_ (Ls 0) 1747), .ref (ad_ D 4)]) (rest := []) hx hb hml hown hts hE hZ hP hS hl.1 (m_X2_digestOfWood l D hAD σ_2 Ls 1 (dw_ (Ls 0) 1747) hCd3 hvC (by decide)) k_X2_153 (ci := 2) (by decide) e60 rfl rfl rfl rfl rfl ⟨rfl, rfl⟩ ⟨Nat.le_of_ble_eq_true rfl, Nat.le_of_ble_eq_true rfl⟩ (Nat.le_of_ble_eq_true rfl) ⟨Nat.le_of_ble_eq_true rfl, Nat.le_of_ble_eq_true rfl⟩ dX2_digest_18 (fun v7 σ_8 H locs hq hP hS => ?_)
  obtain ⟨rfl, hq2⟩ := hq
  refine W.eq (g2 := F0 m 21 ls [.long (dw_ (Ls 1) (dw_ (Ls 0) 1747))]) rfl ?_
  obtain ⟨hCd9, hod10⟩ := hq2
  have ho11 := g_off.tr ho5 hod10
  obtain ⟨e120, -, -, ⟨e12L, e127⟩, e12sz, e12T, e12G⟩ := id hCd9
  refine lv_lstore_n (lv' := [(1, .long (dw_ (Ls 1) (dw_ (Ls 0) 1747))), (0, .ref (ad_ D 0))]) hx hb dX2_digest_21 rfl hl (by decide) rfl (fun ls hl => ?_)
  refine lv_aload_n hx hb dX2_digest_22 rfl (lv_at hl 1 rfl) ?_
  refine g_callV0 (y := yX2_fillBoth) (n := 0) (As := []) (rest := []) hx hb hml hown hts hE hZ hP hS hl.1 (m_X2_fillBoth l D hAD σ_8 Ls hCd9 hvC) k_X2_142 (ci := 2) (by decide) e120 rfl rfl rfl rfl rfl ⟨rfl, rfl⟩ ⟨Nat.le_of_ble_eq_true rfl, Nat.le_of_ble_eq_true rfl⟩ (Nat.le_of_ble_eq_true rfl) ⟨Nat.le_of_ble_eq_true rfl, Nat.le_of_ble_eq_true rfl⟩ dX2_digest_23 (fun v13 σ_14 H locs hq hP hS => ?_)
  obtain ⟨rfl, hq2⟩ := hq
  refine W.eq (g2 := F0 m 26 ls []) rfl ?_
  obtain ⟨⟨hVbo15F, hVbo15G, hVbo15⟩, hob16⟩ := hq2
  have hCb17 := hCd9.both hob16 ⟨_, _, hVbo15⟩
  have hGo18 := g_S.off e12G hob16 (by decide)
  have hvb := vL_bo (hvC 0 (by decide)).1 (hvC 1 (by decide)).1
  have ho19 := g_off.tr ho11 (g_off.wd hob16 (by omega) (by omega))
  have hc20 := g_off.at0 hob16 e120 (by omega)
  refine lv_aload_n hx hb dX2_digest_26 rfl (lv_at hl 1 rfl) ?_
  refine g_get hx hb hts hE hown hP g_inX2 rfl (by decide) hc20 3 (by decide) rfl wf_X2_25 (v := .ref (ad_ D 10)) rfl dX2_digest_27 ?_
  refine lv_aload_n hx hb dX2_digest_30 rfl (lv_at hl 1 rfl) ?_
  refine g_get hx hb hts hE hown hP g_inX2 rfl (by decide) hc20 2 (by decide) rfl wf_X2_19 (v := .ref (ad_ D 7)) rfl dX2_digest_31 ?_
  refine g_callV0 (y := yX0_fill) (n := 1) (As := [.ref (ad_ D 7)]) (rest := []) hx hb hml hown hts hE hZ hP hS hl.1 (m_X0_fill l D hAD σ_14 e12sz e12T hGo18 7 (bo_ (Ls 0) (Ls 1)) hVbo15F hVbo15G hVbo15 (by omega) (gs_of hvb)) k_X2_104 (ci := 0) (by decide) hGo18.1 rfl rfl rfl rfl rfl ⟨rfl, rfl⟩ ⟨Nat.le_of_ble_eq_true rfl, Nat.le_of_ble_eq_true rfl⟩ (Nat.le_of_ble_eq_true rfl) ⟨Nat.le_of_ble_eq_true rfl, Nat.le_of_ble_eq_true rfl⟩ dX2_digest_34 (fun v21 σ_22 H locs hq hP hS => ?_)
  obtain ⟨rfl, hq2⟩ := hq
  refine W.eq (g2 := F0 m 37 ls []) rfl ?_
  obtain ⟨⟨Tf23, hGf24, hTB25⟩, hof26⟩ := hq2
  have hV27 := g_VF.off hVbo15 hof26 (by omega)
  have ho28 := g_off.tr ho19 (g_off.wd hof26 (by omega) (by omega))
  have hc29 := g_off.at0 hof26 hc20 (by omega)
  refine lv_iconst (v := nI 0) hx hb dX2_digest_37 (by decide) ?_
  refine lv_istore_n (lv' := [(3, .int (nI 0)), (1, .long (dw_ (Ls 1) (dw_ (Ls 0) 1747))), (0, .ref (ad_ D 0))]) hx hb dX2_digest_38 rfl hl (by decide) rfl (fun ls hl => ?_)
  have K39 : ∀ (fuel39 : Nat) (i : Nat), (4 - i) < fuel39 → (i ≤ 4) → ∀ (H : Heap) (locs : List Loc), va_P D vwCl (g_W D σ_22) H → va_S (g_A D s.heap.size) s.heap H locs → ∀ ls : Array Slot, lv_has ls 4 [(3, .int (nI i)), (1, .long (dc_ (bo_ (Ls 0) (Ls 1)) (dw_ (Ls 1) (dw_ (Ls 0) 1747)) i)), (0, .ref (ad_ D 0))] → W p l e m_X2_digest_rm s m args below meth c H locs 0 0 Q (F0 m 39 ls []) := by
    intro fuel39
    induction fuel39 with
    | zero => intro i hf; exact absurd hf (Nat.not_lt_zero _)
    | succ fuel39 ih39 =>
      intro i hf39 hi H locs hP hS ls hl
      refine lv_iload_n hx hb dX2_digest_39 rfl (lv_at hl 0 rfl) ?_
      refine lv_iconst (v := nI 3) hx hb dX2_digest_40 (by decide) ?_
      refine lv_icmp_gt (tgt := 67) hx hb dX2_digest_41 (by decide) (fun h41 => ?_) (fun h41 => ?_)
      · have hb41 := g_lt (a := 3) (b := i) h41 (by omega) (by omega)
        have hi2 : i = 4 := by omega
        have hfx30 : dc_ (bo_ (Ls 0) (Ls 1)) (dw_ (Ls 1) (dw_ (Ls 0) 1747)) i = di_ (Ls 0) (Ls 1) := by first | (rw [hi2]; done) | (rw [hi2]; rfl)
        rw [hfx30] at hl
        refine lv_lload_n hx hb dX2_digest_67 rfl (lv_at hl 1 rfl) ?_
        rw [← hQ]
        exact W.lret (v := di_ (Ls 0) (Ls 1)) hx hb hr (fun te9 hte9 _ => g_fin (⟨rfl, hCb17.signs hof26 hGf24, ho28⟩) hP hS hte9) hS.2.2 dX2_digest_68 hlocks
      · have hb41 := g_nlt (a := 3) (b := i) h41 (by omega) (by omega)
        refine lv_lload_n hx hb dX2_digest_44 rfl (lv_at hl 1 rfl) ?_
        refine lv_aload_n hx hb dX2_digest_45 rfl (lv_at hl 2 rfl) ?_
        refine g_get hx hb hts hE hown hP g_inX2 rfl (by decide) hc29 2 (by decide) rfl wf_X2_19 (v := .ref (ad_ D 7)) rfl dX2_digest_46 ?_
        refine lv_aload_n hx hb dX2_digest_49 rfl (lv_at hl 2 rfl) ?_
        refine g_get hx hb hts hE hown hP g_inX2 rfl (by decide) hc29 3 (by decide) rfl wf_X2_25 (v := .ref (ad_ D 10)) rfl dX2_digest_50 ?_
        refine lv_iload_n hx hb dX2_digest_53 rfl (lv_at hl 0 rfl) ?_
        refine g_callS0 (y := yX2_countOf) (n := 3) (As := [.ref (ad_ D 7), .ref (ad_ D 10), .int (nI i)]) (rest := [.long (dc_ (bo_ (Ls 0) (Ls 1)) (dw_ (Ls 1) (dw_ (Ls 0) 1747)) i)]) hx hb hml hown hts hE hZ hP hS hl.1 (m_X2_countOf l D hAD σ_22 7 (bo_ (Ls 0) (Ls 1)) hVbo15F hVbo15G Tf23 i hV27 hGf24 hTB25 hvb (by omega)) k_X2_107 rfl rfl ⟨rfl, rfl⟩ ⟨Nat.le_of_ble_eq_true rfl, Nat.le_of_ble_eq_true rfl⟩ (Nat.le_of_ble_eq_true rfl) ⟨Nat.le_of_ble_eq_true rfl, Nat.le_of_ble_eq_true rfl⟩ dX2_digest_54 (fun v31 σ_32 H locs hq hP hS => ?_)
        obtain ⟨rfl, rfl⟩ := hq
        refine W.eq (g2 := F0 m 57 ls [.int (cn_ (bo_ (Ls 0) (Ls 1)) i), .long (dc_ (bo_ (Ls 0) (Ls 1)) (dw_ (Ls 1) (dw_ (Ls 0) 1747)) i)]) rfl ?_
        refine g_callS0 (y := yX2_digested) (n := 2) (As := [.long (dc_ (bo_ (Ls 0) (Ls 1)) (dw_ (Ls 1) (dw_ (Ls 0) 1747)) i), .int (cn_ (bo_ (Ls 0) (Ls 1)) i)]) (rest := []) hx hb hml hown hts hE hZ hP hS hl.1 (m_X2_digested l D hAD σ_22 (dc_ (bo_ (Ls 0) (Ls 1)) (dw_ (Ls 1) (dw_ (Ls 0) 1747)) i) (cn_ (bo_ (Ls 0) (Ls 1)) i)) k_X2_157 rfl rfl ⟨rfl, rfl⟩ ⟨Nat.le_of_ble_eq_true rfl, Nat.le_of_ble_eq_true rfl⟩ (Nat.le_of_ble_eq_true rfl) ⟨Nat.le_of_ble_eq_true rfl, Nat.le_of_ble_eq_true rfl⟩ dX2_digest_57 (fun v33 σ_34 H locs hq hP hS => ?_)
        obtain ⟨rfl, rfl⟩ := hq
        refine W.eq (g2 := F0 m 60 ls [.long (dg_ (dc_ (bo_ (Ls 0) (Ls 1)) (dw_ (Ls 1) (dw_ (Ls 0) 1747)) i) (cn_ (bo_ (Ls 0) (Ls 1)) i))]) rfl ?_
        refine lv_lstore_n (lv' := [(1, .long (dg_ (dc_ (bo_ (Ls 0) (Ls 1)) (dw_ (Ls 1) (dw_ (Ls 0) 1747)) i) (cn_ (bo_ (Ls 0) (Ls 1)) i))), (3, .int (nI i)), (0, .ref (ad_ D 0))]) hx hb dX2_digest_60 rfl hl (by decide) rfl (fun ls hl => ?_)
        refine lv_iinc (v := nI (i + 1)) (lv' := [(3, .int (nI (i + 1))), (1, .long (dg_ (dc_ (bo_ (Ls 0) (Ls 1)) (dw_ (Ls 1) (dw_ (Ls 0) 1747)) i) (cn_ (bo_ (Ls 0) (Ls 1)) i))), (0, .ref (ad_ D 0))]) hx hb dX2_digest_61 hl (k := 1) rfl (g_inc i) (by decide) rfl (fun ls hl => ?_)
        refine lv_goto (tgt := 39) hx hb dX2_digest_64 (by decide) ?_
        exact ih39 (i + 1) (by omega) (by omega) _ _ hP hS ls (lv_sub hl [0, 1, 2] rfl)
  exact K39 ((4 - 0) + 1) 0 (Nat.lt_succ_self _) (Nat.zero_le _) _ _ hP hS ls (lv_sub hl [0, 1, 2] rfl)
