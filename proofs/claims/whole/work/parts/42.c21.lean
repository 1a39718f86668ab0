def dO_ (Ls : Nat → g_L) : Nat → Int64
  | 0 => 1747
  | w + 1 => dw_ (Ls w) (dO_ Ls w)
abbrev m_X3_digest_rm : Room := { frames := 64, cells := 0, slots := 0, locals := 1590 }
set_option maxHeartbeats 4000000 in
set_option maxRecDepth 100000 in
theorem m_X3_digest (l : Launch) (D : va_G) (hAD : g_AD D) (σ : Nat → va_E) (th rs sg : Int32) (S N Z R : Nat → Int32) (T : Nat → Nat → Int32) (hM : g_Mf D σ th rs sg S N Z R T) (Ls : Nat → g_L)  (hmr : mr_ Ls S N Z) (hvC : vC_ Ls) : g_M l D yX3_digest cX3_digest 6 (some .long) m_X3_digest_rm [.ref (ad_ D 20)] σ (fun v1 σ1 => v1 = some (.long (di_ (Ls 0) (Ls 1))) ∧ g_MM D σ1 (nI 0) Ls ∧ g_off 20 30 σ σ1) := by
  refine g_ofW [(0, .ref (ad_ D 20))] (by decide +kernel) (Nat.le_of_ble_eq_true rfl) rfl ?_
  intro p e s m args below meth c hx hb hr hml hown hlocks hts hE hZ hP hS hnm ls hl
  have hown : s.vm.findClass RX3 = some m.cls := hown
  generalize hQ : MQ _ _ _ _ _ _ _ = Q
  obtain ⟨k20, k21, k22, k23, k24, k25, k26, k27, k28, k29, k30⟩ := id hM
  refine lv_aload_n hx hb dX3_digest_0 rfl (lv_at hl 0 rfl) ?_
  refine lv_iconst (v := nI 0) hx hb dX3_digest_1 (by decide) ?_
  refine g_put hx hb hts hE hown hAD hP hS g_inX3 tyX3 tyX3_ok nmX3 rfl (by decide) k20 0 (by decide) rfl rfl (by decide +kernel) wf_X3_40 (v := nI 0) (Nat.le_of_ble_eq_true rfl) dX3_digest_2 (fun H locs hP hS => ?_)
  obtain ⟨σ_1, hσ2⟩ : ∃ z : Nat → va_E, z = va_up σ 20 (.inr (3, [.int (nI 0), .ref (ad_ D 21), .ref (ad_ D 22), .ref (ad_ D 23), .ref (ad_ D 24), .int rs, .int sg, .ref (ad_ D 25), .ref (ad_ D 26), .ref (ad_ D 27), .ref (ad_ D 28), .ref (ad_ D 29), .ref (ad_ D 30)])) := ⟨_, rfl⟩
  have hP : va_P D vwCl (g_W D σ_1) H := by rw [hσ2]; exact hP
  have hc3 : σ_1 20 = .inr (3, [.int (nI 0), .ref (ad_ D 21), .ref (ad_ D 22), .ref (ad_ D 23), .ref (ad_ D 24), .int rs, .int sg, .ref (ad_ D 25), .ref (ad_ D 26), .ref (ad_ D 27), .ref (ad_ D 28), .ref (ad_ D 29), .ref (ad_ D 30)]) := by rw [hσ2]; exact g_ups
  have hc4 := (by rw [hσ2]; exact g_upn k21 (by decide) : σ_1 21 = .inl (g_cI D, 2, .inl (S)))
  have hc5 := (by rw [hσ2]; exact g_upn k22 (by decide) : σ_1 22 = .inl (g_cI D, 48, .inl (N)))
  have hc6 := (by rw [hσ2]; exact g_upn k23 (by decide) : σ_1 23 = .inl (g_cI D, 48, .inl (Z)))
  have hc7 := (by rw [hσ2]; exact g_upn k24 (by decide) : σ_1 24 = .inl (g_cI D, 48, .inl (R)))
  have hc8 := (by rw [hσ2]; exact g_upn k25 (by decide) : σ_1 25 = .inl (g_cI D, 96, .inl (T 0)))
  have hc9 := (by rw [hσ2]; exact g_upn k26 (by decide) : σ_1 26 = .inl (g_cI D, 96, .inl (T 1)))
  have hc10 := (by rw [hσ2]; exact g_upn k27 (by decide) : σ_1 27 = .inl (g_cI D, 96, .inl (T 2)))
  have hc11 := (by rw [hσ2]; exact g_upn k28 (by decide) : σ_1 28 = .inl (g_cI D, 96, .inl (T 3)))
  have hc12 := (by rw [hσ2]; exact g_upn k29 (by decide) : σ_1 29 = .inl (g_cI D, 96, .inl (T 4)))
  have hc13 := (by rw [hσ2]; exact g_upn k30 (by decide) : σ_1 30 = .inl (g_cI D, 96, .inl (T 5)))
  have ho14 : g_off 20 30 σ σ_1 := by rw [hσ2]; exact g_off.up (g_off.rf (lo := 20) (hi := 30) (σ := σ)) (by decide) (by decide)
  refine lv_ldc2 (v := 1747) hx hb hown (hts _ wC_X3_160) dX3_digest_5 ?_
  refine lv_lstore_n (lv' := [(1, .long 1747), (0, .ref (ad_ D 20))]) hx hb dX3_digest_8 rfl hl (by decide) rfl (fun ls hl => ?_)
  refine lv_iconst (v := nI 0) hx hb dX3_digest_9 (by decide) ?_
  refine lv_istore_n (lv' := [(3, .int (nI 0)), (1, .long 1747), (0, .ref (ad_ D 20))]) hx hb dX3_digest_10 rfl hl (by decide) rfl (fun ls hl => ?_)
  have K11 : ∀ (fuel11 : Nat) (w : Nat) (σ2 : Nat → va_E) (rs2 sg2 : Int32) (R2 : Nat → Int32) (T2 : Nat → Nat → Int32), (2 - w) < fuel11 → (w ≤ 2) → (g_Mf D σ2 (nI 0) rs2 sg2 S N Z R2 T2) → (g_off 20 30 σ σ2) → ∀ (H : Heap) (locs : List Loc), va_P D vwCl (g_W D σ2) H → va_S (g_A D s.heap.size) s.heap H locs → ∀ ls : Array Slot, lv_has ls 6 [(3, .int (nI w)), (1, .long (dO_ Ls w)), (0, .ref (ad_ D 20))] → W p l e m_X3_digest_rm s m args below meth c H locs 0 0 Q (F0 m 11 ls []) := by
    intro fuel11
    induction fuel11 with
    | zero => intro w σ2 rs2 sg2 R2 T2 hf; exact absurd hf (Nat.not_lt_zero _)
    | succ fuel11 ih11 =>
      intro w σ2 rs2 sg2 R2 T2 hf11 hw2 hM2 ho2 H locs hP hS ls hl
      obtain ⟨t2_20, t2_21, t2_22, t2_23, t2_24, t2_25, t2_26, t2_27, t2_28, t2_29, t2_30⟩ := id hM2
      refine lv_iload_n hx hb dX3_digest_11 rfl (lv_at hl 0 rfl) ?_
      refine lv_iconst (v := nI 2) hx hb dX3_digest_12 (by decide) ?_
      refine lv_icmp_ge (tgt := 156) hx hb dX3_digest_13 (by decide) (fun h13 => ?_) (fun h13 => ?_)
      · have hb13 := g_le (a := 2) (b := w) h13 (by omega) (by omega)
        have hi2 : w = 2 := by omega
        have hfx15 : dO_ Ls w = (dw_ (Ls 1) (dw_ (Ls 0) 1747)) := by first | (rw [hi2]; done) | (rw [hi2]; rfl)
        rw [hfx15] at hl
        refine lv_iconst (v := nI 0) hx hb dX3_digest_156 (by decide) ?_
        refine lv_istore_n (lv' := [(3, .int (nI 0)), (1, .long ((dw_ (Ls 1) (dw_ (Ls 0) 1747)))), (0, .ref (ad_ D 20))]) hx hb dX3_digest_157 rfl hl (by decide) rfl (fun ls hl => ?_)
        have K158 : ∀ (fuel158 : Nat) (t : Nat) (σ4 : Nat → va_E) (rs4 sg4 : Int32) (R4 : Nat → Int32) (T4 : Nat → Nat → Int32), (4 - t) < fuel158 → (t ≤ 4) → (g_Mf D σ4 (nI 0) rs4 sg4 S N Z R4 T4) → (g_off 20 30 σ σ4) → ∀ (H : Heap) (locs : List Loc), va_P D vwCl (g_W D σ4) H → va_S (g_A D s.heap.size) s.heap H locs → ∀ ls : Array Slot, lv_has ls 6 [(3, .int (nI t)), (1, .long (dc_ (bo_ (Ls 0) (Ls 1)) (dw_ (Ls 1) (dw_ (Ls 0) 1747)) t)), (0, .ref (ad_ D 20))] → W p l e m_X3_digest_rm s m args below meth c H locs 0 0 Q (F0 m 158 ls []) := by
          intro fuel158
          induction fuel158 with
          | zero => intro t σ4 rs4 sg4 R4 T4 hf; exact absurd hf (Nat.not_lt_zero _)
          | succ fuel158 ih158 =>
            intro t σ4 rs4 sg4 R4 T4 hf158 ht4 hM4 ho4 H locs hP hS ls hl
            obtain ⟨t4_20, t4_21, t4_22, t4_23, t4_24, t4_25, t4_26, t4_27, t4_28, t4_29, t4_30⟩ := id hM4
            refine lv_iload_n hx hb dX3_digest_158 rfl (lv_at hl 0 rfl) ?_
            refine lv_iconst (v := nI 3) hx hb dX3_digest_159 (by decide) ?_
            refine lv_icmp_gt (tgt := 182) hx hb dX3_digest_160 (by decide) (fun h160 => ?_) (fun h160 => ?_)
            · have hb160 := g_lt (a := 3) (b := t) h160 (by omega) (by omega)
              have hi2 : t = 4 := by omega
              have hfx16 : dc_ (bo_ (Ls 0) (Ls 1)) (dw_ (Ls 1) (dw_ (Ls 0) 1747)) t = di_ (Ls 0) (Ls 1) := by first | (rw [hi2]; done) | (rw [hi2]; rfl)
              rw [hfx16] at hl
              refine lv_lload_n hx hb dX3_digest_182 rfl (lv_at hl 1 rfl) ?_
              have hMp17 : g_Mf D σ4 (nI 0) rs4 sg4 S N Z R4 T4 := ⟨t4_20, t4_21, t4_22, t4_23, t4_24, t4_25, t4_26, t4_27, t4_28, t4_29, t4_30⟩
              rw [← hQ]
              exact W.lret (v := di_ (Ls 0) (Ls 1)) hx hb hr (fun te9 hte9 _ => g_fin (⟨rfl, ⟨_, _, _, _, _, _, _, hMp17, hmr⟩, ho4⟩) hP hS hte9) hS.2.2 dX3_digest_183 hlocks
            · have hb160 := g_nlt (a := 3) (b := t) h160 (by omega) (by omega)
              refine lv_lload_n hx hb dX3_digest_163 rfl (lv_at hl 1 rfl) ?_
              refine lv_ldc2 (v := 31) hx hb hown (hts _ wC_X3_162) dX3_digest_164 ?_
              refine lv_lmul hx hb dX3_digest_167 ?_
              refine lv_aload_n hx hb dX3_digest_168 rfl (lv_at hl 2 rfl) ?_
              refine lv_iload_n hx hb dX3_digest_169 rfl (lv_at hl 0 rfl) ?_
              have hMp18 : g_Mf D σ4 (nI 0) rs4 sg4 S N Z R4 T4 := ⟨t4_20, t4_21, t4_22, t4_23, t4_24, t4_25, t4_26, t4_27, t4_28, t4_29, t4_30⟩
              refine g_callV0 (y := yX3_wouldBe) (n := 1) (As := [.int (nI t)]) (rest := [.long ((dc_ (bo_ (Ls 0) (Ls 1)) (dw_ (Ls 1) (dw_ (Ls 0) 1747)) t) * 31)]) hx hb hml hown hts hE hZ hP hS hl.1 (m_X3_wouldBe l D hAD σ4 (nI 0) rs4 sg4 S N Z R4 T4 hMp18 Ls t hmr hvC (by omega)) k_X3_153 (ci := 3) (by decide) t4_20 rfl rfl rfl rfl rfl ⟨rfl, rfl⟩ ⟨Nat.le_of_ble_eq_true rfl, Nat.le_of_ble_eq_true rfl⟩ (Nat.le_of_ble_eq_true rfl) ⟨Nat.le_of_ble_eq_true rfl, Nat.le_of_ble_eq_true rfl⟩ dX3_digest_170 (fun v19 σ_20 H locs hq hP hS => ?_)
              obtain ⟨rfl, hq2⟩ := hq
              refine W.eq (g2 := F0 m 173 ls [.int (cn_ (bo_ (Ls 0) (Ls 1)) t), .long ((dc_ (bo_ (Ls 0) (Ls 1)) (dw_ (Ls 1) (dw_ (Ls 0) 1747)) t) * 31)]) rfl ?_
              obtain ⟨⟨Rn21, Tn21, hMn21, hRln21, hTln21⟩, hofn21⟩ := hq2
              obtain ⟨k22_20, k22_21, k22_22, k22_23, k22_24, k22_25, k22_26, k22_27, k22_28, k22_29, k22_30⟩ := id hMn21
              have ho23 := g_off.tr ho4 (g_off.wd hofn21 (by decide) (by decide))
              refine lv_i2l (v := (cn_ (bo_ (Ls 0) (Ls 1)) t).toInt64) hx hb dX3_digest_173 rfl ?_
              refine lv_ladd hx hb dX3_digest_174 ?_
              refine lv_lstore_n (lv' := [(1, .long (((dc_ (bo_ (Ls 0) (Ls 1)) (dw_ (Ls 1) (dw_ (Ls 0) 1747)) t) * 31) + ((cn_ (bo_ (Ls 0) (Ls 1)) t).toInt64))), (3, .int (nI t)), (0, .ref (ad_ D 20))]) hx hb dX3_digest_175 rfl hl (by decide) rfl (fun ls hl => ?_)
              refine lv_iinc (v := nI (t + 1)) (lv' := [(3, .int (nI (t + 1))), (1, .long (((dc_ (bo_ (Ls 0) (Ls 1)) (dw_ (Ls 1) (dw_ (Ls 0) 1747)) t) * 31) + ((cn_ (bo_ (Ls 0) (Ls 1)) t).toInt64))), (0, .ref (ad_ D 20))]) hx hb dX3_digest_176 hl (k := 1) rfl (g_inc t) (by decide) rfl (fun ls hl => ?_)
              refine lv_goto (tgt := 158) hx hb dX3_digest_179 (by decide) ?_
              have hMp24 : g_Mf D σ_20 (nI 0) (nI (((bo_ (Ls 0) (Ls 1))).length)) (nI (zs_ ((bo_ (Ls 0) (Ls 1))).length)) S N Z Rn21 Tn21 := ⟨k22_20, k22_21, k22_22, k22_23, k22_24, k22_25, k22_26, k22_27, k22_28, k22_29, k22_30⟩
              exact ih158 (t + 1) σ_20 (nI (((bo_ (Ls 0) (Ls 1))).length)) (nI (zs_ ((bo_ (Ls 0) (Ls 1))).length)) Rn21 Tn21 (by omega) (by omega) hMp24 ho23 _ _ hP hS ls (lv_sub hl [0, 1, 2] rfl)
        have hMp25 : g_Mf D σ2 (nI 0) rs2 sg2 S N Z R2 T2 := ⟨t2_20, t2_21, t2_22, t2_23, t2_24, t2_25, t2_26, t2_27, t2_28, t2_29, t2_30⟩
        exact K158 ((4 - 0) + 1) 0 σ2 rs2 sg2 R2 T2 (Nat.lt_succ_self _) (Nat.zero_le _) hMp25 ho2 _ _ hP hS ls (lv_sub hl [0, 1, 2] rfl)
      · have hb13 := g_nle (a := 2) (b := w) h13 (by omega) (by omega)
        have hw : w ≤ 1 := by omega
        have hvw := hvC w hw
        have h24w := hvw.2
        have hz95 := zs_le (show (Ls w).length ≤ 48 by omega)
        refine lv_iconst (v := nI 0) hx hb dX3_digest_16 (by decide) ?_
        refine lv_istore (lv' := [(4, .int (nI 0)), (3, .int (nI w)), (1, .long (dO_ Ls w)), (0, .ref (ad_ D 20))]) hx hb dX3_digest_17 hl (by decide) rfl (fun ls hl => ?_)
        have K19 : ∀ (fuel19 : Nat) (t : Nat) (σ3 : Nat → va_E) (rs3 sg3 : Int32) (R3 : Nat → Int32) (T3 : Nat → Nat → Int32), (7 - t) < fuel19 → (t ≤ 7) → (g_Mf D σ3 (nI 0) rs3 sg3 S N Z R3 T3) → (g_off 20 30 σ σ3) → (1 ≤ t → rs3 = nI (Ls w).length ∧ sg3 = nI (zs_ (Ls w).length) ∧ (∀ j, j < (Ls w).length → R3 j = fn_ (Ls w) j) ∧ mB_ (fn_ (Ls w)) (Ls w).length T3) → ∀ (H : Heap) (locs : List Loc), va_P D vwCl (g_W D σ3) H → va_S (g_A D s.heap.size) s.heap H locs → ∀ ls : Array Slot, lv_has ls 6 [(4, .int (nI t)), (1, .long (dc_ (Ls w) (dO_ Ls w) t)), (3, .int (nI w)), (0, .ref (ad_ D 20))] → W p l e m_X3_digest_rm s m args below meth c H locs 0 0 Q (F0 m 19 ls []) := by
          intro fuel19
          induction fuel19 with
          | zero => intro t σ3 rs3 sg3 R3 T3 hf; exact absurd hf (Nat.not_lt_zero _)
          | succ fuel19 ih19 =>
            intro t σ3 rs3 sg3 R3 T3 hf19 ht7 hM3 ho3 hLk H locs hP hS ls hl
            obtain ⟨t3_20, t3_21, t3_22, t3_23, t3_24, t3_25, t3_26, t3_27, t3_28, t3_29, t3_30⟩ := id hM3
            refine lv_iload hx hb dX3_digest_19 (lv_at hl 0 rfl) ?_
            refine lv_bipush (v := nI 6) hx hb dX3_digest_21 (by decide) ?_
            refine lv_icmp_gt (tgt := 47) hx hb dX3_digest_23 (by decide) (fun h23 => ?_) (fun h23 => ?_)
            · have hb23 := g_lt (a := 6) (b := t) h23 (by omega) (by omega)
              have hi2 : t = 7 := by omega
              have hfx26 : dc_ (Ls w) (dO_ Ls w) t = dc_ (Ls w) (dO_ Ls w) 7 := by first | (rw [hi2]; done) | (rw [hi2]; rfl)
              rw [hfx26] at hl
              obtain ⟨el1, el2, hRl, hTl⟩ := hLk (by omega)
              rw [el1, el2] at hM3
              obtain ⟨k27_20, k27_21, k27_22, k27_23, k27_24, k27_25, k27_26, k27_27, k27_28, k27_29, k27_30⟩ := id hM3
              refine lv_lload_n hx hb dX3_digest_47 rfl (lv_at hl 1 rfl) ?_
              refine lv_ldc2 (v := 31) hx hb hown (hts _ wC_X3_162) dX3_digest_48 ?_
              refine lv_lmul hx hb dX3_digest_51 ?_
              refine lv_aload_n hx hb dX3_digest_52 rfl (lv_at hl 3 rfl) ?_
              refine lv_iload_n hx hb dX3_digest_53 rfl (lv_at hl 2 rfl) ?_
              have hMp28 : g_Mf D σ3 (nI 0) (nI ((Ls w).length)) (nI (zs_ (Ls w).length)) S N Z R3 T3 := ⟨k27_20, k27_21, k27_22, k27_23, k27_24, k27_25, k27_26, k27_27, k27_28, k27_29, k27_30⟩
              refine g_callV0 (y := yX3_farthest) (n := 1) (As := [.int (nI w)]) (rest := [.long ((dc_ (Ls w) (dO_ Ls w) 7) * 31)]) hx hb hml hown hts hE hZ hP hS hl.1 (m_X3_farthest l D hAD σ3 (nI 0) (nI ((Ls w).length)) (nI (zs_ (Ls w).length)) S N Z R3 T3 hMp28 Ls w hmr (by omega)) k_X3_147 (ci := 3) (by decide) k27_20 rfl rfl rfl rfl rfl ⟨rfl, rfl⟩ ⟨Nat.le_of_ble_eq_true rfl, Nat.le_of_ble_eq_true rfl⟩ (Nat.le_of_ble_eq_true rfl) ⟨Nat.le_of_ble_eq_true rfl, Nat.le_of_ble_eq_true rfl⟩ dX3_digest_54 (fun v29 σ_30 H locs hq hP hS => ?_)
              obtain ⟨rfl, rfl⟩ := hq
              refine W.eq (g2 := F0 m 57 ls [.int (fa_ (Ls w) (Ls w).length), .long ((dc_ (Ls w) (dO_ Ls w) 7) * 31)]) rfl ?_
              refine lv_i2l (v := (fa_ (Ls w) (Ls w).length).toInt64) hx hb dX3_digest_57 rfl ?_
              refine lv_ladd hx hb dX3_digest_58 ?_
              refine lv_lstore_n (lv' := [(1, .long (((dc_ (Ls w) (dO_ Ls w) 7) * 31) + ((fa_ (Ls w) (Ls w).length).toInt64))), (4, .int (nI t)), (3, .int (nI w)), (0, .ref (ad_ D 20))]) hx hb dX3_digest_59 rfl hl (by decide) rfl (fun ls hl => ?_)
              refine lv_iconst (v := nI 0) hx hb dX3_digest_60 (by decide) ?_
              refine lv_istore (lv' := [(4, .int (nI 0)), (1, .long (((dc_ (Ls w) (dO_ Ls w) 7) * 31) + ((fa_ (Ls w) (Ls w).length).toInt64))), (3, .int (nI w)), (0, .ref (ad_ D 20))]) hx hb dX3_digest_61 hl (by decide) rfl (fun ls hl => ?_)
              have K63 : ∀ (fuel63 : Nat) (i : Nat), (zs_ (Ls w).length - i) < fuel63 → (i ≤ zs_ (Ls w).length) → ∀ (H : Heap) (locs : List Loc), va_P D vwCl (g_W D σ3) H → va_S (g_A D s.heap.size) s.heap H locs → ∀ ls : Array Slot, lv_has ls 6 [(4, .int (nI i)), (1, .long (ds_ (Ls w) (dg_ (dc_ (Ls w) (dO_ Ls w) 7) (fa_ (Ls w) (Ls w).length)) i)), (3, .int (nI w)), (0, .ref (ad_ D 20))] → W p l e m_X3_digest_rm s m args below meth c H locs 0 0 Q (F0 m 63 ls []) := by
                intro fuel63
                induction fuel63 with
                | zero => intro i hf; exact absurd hf (Nat.not_lt_zero _)
                | succ fuel63 ih63 =>
                  intro i hf63 hi H locs hP hS ls hl
                  refine lv_iload hx hb dX3_digest_63 (lv_at hl 0 rfl) ?_
                  refine lv_aload_n hx hb dX3_digest_65 rfl (lv_at hl 3 rfl) ?_
                  refine g_get hx hb hts hE hown hP g_inX3 rfl (by decide) k27_20 6 (by decide) rfl wf_X3_69 (v := .int (nI (zs_ (Ls w).length))) rfl dX3_digest_66 ?_
                  refine lv_icmp_ge (tgt := 110) hx hb dX3_digest_69 (by decide) (fun h69 => ?_) (fun h69 => ?_)
                  · have hb69 := g_le (a := zs_ (Ls w).length) (b := i) h69 (by omega) (by omega)
                    have hi2 : i = zs_ (Ls w).length := by omega
                    have hfx31 : ds_ (Ls w) (dg_ (dc_ (Ls w) (dO_ Ls w) 7) (fa_ (Ls w) (Ls w).length)) i = ds_ (Ls w) (dg_ (dc_ (Ls w) (dO_ Ls w) 7) (fa_ (Ls w) (Ls w).length)) (zs_ (Ls w).length) := by first | (rw [hi2]; done) | (rw [hi2]; rfl)
                    rw [hfx31] at hl
                    refine lv_iconst (v := nI 0) hx hb dX3_digest_110 (by decide) ?_
                    refine lv_istore (lv' := [(4, .int (nI 0)), (1, .long (ds_ (Ls w) (dg_ (dc_ (Ls w) (dO_ Ls w) 7) (fa_ (Ls w) (Ls w).length)) (zs_ (Ls w).length))), (3, .int (nI w)), (0, .ref (ad_ D 20))]) hx hb dX3_digest_111 hl (by decide) rfl (fun ls hl => ?_)
                    have K113 : ∀ (fuel113 : Nat) (i : Nat), ((Ls w).length - i) < fuel113 → (i ≤ (Ls w).length) → ∀ (H : Heap) (locs : List Loc), va_P D vwCl (g_W D σ3) H → va_S (g_A D s.heap.size) s.heap H locs → ∀ ls : Array Slot, lv_has ls 6 [(4, .int (nI i)), (1, .long (dm_ (Ls w) (ds_ (Ls w) (dg_ (dc_ (Ls w) (dO_ Ls w) 7) (fa_ (Ls w) (Ls w).length)) (zs_ (Ls w).length)) i)), (3, .int (nI w)), (0, .ref (ad_ D 20))] → W p l e m_X3_digest_rm s m args below meth c H locs 0 0 Q (F0 m 113 ls []) := by
                      intro fuel113
                      induction fuel113 with
                      | zero => intro i hf; exact absurd hf (Nat.not_lt_zero _)
                      | succ fuel113 ih113 =>
                        intro i hf113 hi H locs hP hS ls hl
                        refine lv_iload hx hb dX3_digest_113 (lv_at hl 0 rfl) ?_
                        refine lv_aload_n hx hb dX3_digest_115 rfl (lv_at hl 3 rfl) ?_
                        refine g_get hx hb hts hE hown hP g_inX3 rfl (by decide) k27_20 1 (by decide) rfl wf_X3_9 (v := .ref (ad_ D 21)) rfl dX3_digest_116 ?_
                        refine lv_iload_n hx hb dX3_digest_119 rfl (lv_at hl 2 rfl) ?_
                        refine g_ialdN (j := w) hx hb hE hP (by decide) k27_21 (by omega) (by decide) (v := nI ((Ls w).length)) (hmr.S (by omega)) dX3_digest_120 ?_
                        refine lv_icmp_ge (tgt := 150) hx hb dX3_digest_121 (by decide) (fun h121 => ?_) (fun h121 => ?_)
                        · have hb121 := g_le (a := (Ls w).length) (b := i) h121 (by omega) (by omega)
                          have hi2 : i = (Ls w).length := by omega
                          have hfx32 : dm_ (Ls w) (ds_ (Ls w) (dg_ (dc_ (Ls w) (dO_ Ls w) 7) (fa_ (Ls w) (Ls w).length)) (zs_ (Ls w).length)) i = dO_ Ls (w + 1) := by first | (rw [hi2]; done) | (rw [hi2]; rfl)
                          rw [hfx32] at hl
                          refine lv_iinc (v := nI (w + 1)) (lv' := [(3, .int (nI (w + 1))), (4, .int (nI i)), (1, .long (dO_ Ls (w + 1))), (0, .ref (ad_ D 20))]) hx hb dX3_digest_150 hl (k := 2) rfl (g_inc w) (by decide) rfl (fun ls hl => ?_)
                          refine lv_goto (tgt := 11) hx hb dX3_digest_153 (by decide) ?_
                          have hMp33 : g_Mf D σ3 (nI 0) (nI ((Ls w).length)) (nI (zs_ (Ls w).length)) S N Z R3 T3 := ⟨k27_20, k27_21, k27_22, k27_23, k27_24, k27_25, k27_26, k27_27, k27_28, k27_29, k27_30⟩
                          exact ih11 (w + 1) σ3 (nI ((Ls w).length)) (nI (zs_ (Ls w).length)) R3 T3 (by omega) (by omega) hMp33 ho3 _ _ hP hS ls (lv_sub hl [0, 2, 3] rfl)
                        · have hb121 := g_nle (a := (Ls w).length) (b := i) h121 (by omega) (by omega)
                          refine lv_lload_n hx hb dX3_digest_124 rfl (lv_at hl 1 rfl) ?_
                          refine lv_ldc2 (v := 31) hx hb hown (hts _ wC_X3_162) dX3_digest_125 ?_
                          refine lv_lmul hx hb dX3_digest_128 ?_
                          refine lv_aload_n hx hb dX3_digest_129 rfl (lv_at hl 3 rfl) ?_
                          refine g_get hx hb hts hE hown hP g_inX3 rfl (by decide) k27_20 3 (by decide) rfl wf_X3_16 (v := .ref (ad_ D 23)) rfl dX3_digest_130 ?_
                          refine lv_bipush (v := nI 24) hx hb dX3_digest_133 (by decide) ?_
                          refine lv_iload_n hx hb dX3_digest_135 rfl (lv_at hl 2 rfl) ?_
                          refine lv_imul hx hb dX3_digest_136 ?_
                          refine g_top (y := nI (24 * w)) (pk_mul 24 w) ?_
                          refine lv_iload hx hb dX3_digest_137 (lv_at hl 0 rfl) ?_
                          refine lv_iadd hx hb dX3_digest_139 ?_
                          refine g_top (y := nI ((24 * w) + i)) (nI_add (24 * w) i) ?_
                          refine g_ialdN (j := (24 * w) + i) hx hb hE hP (by decide) k27_23 (by omega) (by decide) (v := gn_ (Ls w) i) (hmr.Q (by omega) (by omega)) dX3_digest_140 ?_
                          refine lv_i2l (v := (gn_ (Ls w) i).toInt64) hx hb dX3_digest_141 rfl ?_
                          refine lv_ladd hx hb dX3_digest_142 ?_
                          refine lv_lstore_n (lv' := [(1, .long (((dm_ (Ls w) (ds_ (Ls w) (dg_ (dc_ (Ls w) (dO_ Ls w) 7) (fa_ (Ls w) (Ls w).length)) (zs_ (Ls w).length)) i) * 31) + ((gn_ (Ls w) i).toInt64))), (4, .int (nI i)), (3, .int (nI w)), (0, .ref (ad_ D 20))]) hx hb dX3_digest_143 rfl hl (by decide) rfl (fun ls hl => ?_)
                          refine lv_iinc (v := nI (i + 1)) (lv' := [(4, .int (nI (i + 1))), (1, .long (((dm_ (Ls w) (ds_ (Ls w) (dg_ (dc_ (Ls w) (dO_ Ls w) 7) (fa_ (Ls w) (Ls w).length)) (zs_ (Ls w).length)) i) * 31) + ((gn_ (Ls w) i).toInt64))), (3, .int (nI w)), (0, .ref (ad_ D 20))]) hx hb dX3_digest_144 hl (k := 1) rfl (g_inc i) (by decide) rfl (fun ls hl => ?_)
                          refine lv_goto (tgt := 113) hx hb dX3_digest_147 (by decide) ?_
                          exact ih113 (i + 1) (by omega) (by omega) _ _ hP hS ls (lv_sub hl [0, 1, 2, 3] rfl)
                    exact K113 (((Ls w).length - 0) + 1) 0 (Nat.lt_succ_self _) (Nat.zero_le _) _ _ hP hS ls (lv_sub hl [0, 1, 2, 3] rfl)
                  · have hb69 := g_nle (a := zs_ (Ls w).length) (b := i) h69 (by omega) (by omega)
                    refine lv_iconst (v := nI 0) hx hb dX3_digest_72 (by decide) ?_
                    refine lv_istore (lv' := [(5, .int (nI 0)), (4, .int (nI i)), (1, .long (ds_ (Ls w) (dg_ (dc_ (Ls w) (dO_ Ls w) 7) (fa_ (Ls w) (Ls w).length)) i)), (3, .int (nI w)), (0, .ref (ad_ D 20))]) hx hb dX3_digest_73 hl (by decide) rfl (fun ls hl => ?_)
                    have K75 : ∀ (fuel75 : Nat) (j : Nat), (7 - j) < fuel75 → (j ≤ 7) → ∀ (H : Heap) (locs : List Loc), va_P D vwCl (g_W D σ3) H → va_S (g_A D s.heap.size) s.heap H locs → ∀ ls : Array Slot, lv_has ls 6 [(5, .int (nI j)), (1, .long (d1_ (Ls w) i (ds_ (Ls w) (dg_ (dc_ (Ls w) (dO_ Ls w) 7) (fa_ (Ls w) (Ls w).length)) i) j)), (4, .int (nI i)), (3, .int (nI w)), (0, .ref (ad_ D 20))] → W p l e m_X3_digest_rm s m args below meth c H locs 0 0 Q (F0 m 75 ls []) := by
                      intro fuel75
                      induction fuel75 with
                      | zero => intro j hf; exact absurd hf (Nat.not_lt_zero _)
                      | succ fuel75 ih75 =>
                        intro j hf75 hj H locs hP hS ls hl
                        refine lv_iload hx hb dX3_digest_75 (lv_at hl 0 rfl) ?_
                        refine lv_bipush (v := nI 6) hx hb dX3_digest_77 (by decide) ?_
                        refine lv_icmp_gt (tgt := 104) hx hb dX3_digest_79 (by decide) (fun h79 => ?_) (fun h79 => ?_)
                        · have hb79 := g_lt (a := 6) (b := j) h79 (by omega) (by omega)
                          have hi2 : j = 7 := by omega
                          have hfx34 : d1_ (Ls w) i (ds_ (Ls w) (dg_ (dc_ (Ls w) (dO_ Ls w) 7) (fa_ (Ls w) (Ls w).length)) i) j = ds_ (Ls w) (dg_ (dc_ (Ls w) (dO_ Ls w) 7) (fa_ (Ls w) (Ls w).length)) (i + 1) := by first | (rw [hi2]; done) | (rw [hi2]; rfl)
                          rw [hfx34] at hl
                          refine lv_iinc (v := nI (i + 1)) (lv' := [(4, .int (nI (i + 1))), (5, .int (nI j)), (1, .long (ds_ (Ls w) (dg_ (dc_ (Ls w) (dO_ Ls w) 7) (fa_ (Ls w) (Ls w).length)) (i + 1))), (3, .int (nI w)), (0, .ref (ad_ D 20))]) hx hb dX3_digest_104 hl (k := 2) rfl (g_inc i) (by decide) rfl (fun ls hl => ?_)
                          refine lv_goto (tgt := 63) hx hb dX3_digest_107 (by decide) ?_
                          exact ih63 (i + 1) (by omega) (by omega) _ _ hP hS ls (lv_sub hl [0, 2, 3, 4] rfl)
                        · have hb79 := g_nlt (a := 6) (b := j) h79 (by omega) (by omega)
                          refine lv_lload_n hx hb dX3_digest_82 rfl (lv_at hl 1 rfl) ?_
                          refine lv_ldc2 (v := 31) hx hb hown (hts _ wC_X3_162) dX3_digest_83 ?_
                          refine lv_lmul hx hb dX3_digest_86 ?_
                          refine lv_aload_n hx hb dX3_digest_87 rfl (lv_at hl 4 rfl) ?_
                          refine lv_iload hx hb dX3_digest_88 (lv_at hl 2 rfl) ?_
                          refine lv_iload hx hb dX3_digest_90 (lv_at hl 0 rfl) ?_
                          have hMp35 : g_Mf D σ3 (nI 0) (nI ((Ls w).length)) (nI (zs_ (Ls w).length)) S N Z R3 T3 := ⟨k27_20, k27_21, k27_22, k27_23, k27_24, k27_25, k27_26, k27_27, k27_28, k27_29, k27_30⟩
                          refine g_callV0 (y := yX3_signTold) (n := 2) (As := [.int (nI i), .int (nI j)]) (rest := [.long ((d1_ (Ls w) i (ds_ (Ls w) (dg_ (dc_ (Ls w) (dO_ Ls w) 7) (fa_ (Ls w) (Ls w).length)) i) j) * 31)]) hx hb hml hown hts hE hZ hP hS hl.1 (m_X3_signTold l D hAD σ3 (nI 0) S N Z R3 T3 (Ls w) hMp35 i j hvw.1 (by omega) hRl hTl (by omega) (by omega)) k_X3_137 (ci := 3) (by decide) k27_20 rfl rfl rfl rfl rfl ⟨rfl, rfl⟩ ⟨Nat.le_of_ble_eq_true rfl, Nat.le_of_ble_eq_true rfl⟩ (Nat.le_of_ble_eq_true rfl) ⟨Nat.le_of_ble_eq_true rfl, Nat.le_of_ble_eq_true rfl⟩ dX3_digest_92 (fun v36 σ_37 H locs hq hP hS => ?_)
                          obtain ⟨rfl, rfl⟩ := hq
                          refine W.eq (g2 := F0 m 95 ls [.int (tel_ (tb_ (Ls w)) j i), .long ((d1_ (Ls w) i (ds_ (Ls w) (dg_ (dc_ (Ls w) (dO_ Ls w) 7) (fa_ (Ls w) (Ls w).length)) i) j) * 31)]) rfl ?_
                          refine lv_i2l (v := (tel_ (tb_ (Ls w)) j i).toInt64) hx hb dX3_digest_95 rfl ?_
                          refine lv_ladd hx hb dX3_digest_96 ?_
                          refine lv_lstore_n (lv' := [(1, .long (((d1_ (Ls w) i (ds_ (Ls w) (dg_ (dc_ (Ls w) (dO_ Ls w) 7) (fa_ (Ls w) (Ls w).length)) i) j) * 31) + ((tel_ (tb_ (Ls w)) j i).toInt64))), (5, .int (nI j)), (4, .int (nI i)), (3, .int (nI w)), (0, .ref (ad_ D 20))]) hx hb dX3_digest_97 rfl hl (by decide) rfl (fun ls hl => ?_)
                          refine lv_iinc (v := nI (j + 1)) (lv' := [(5, .int (nI (j + 1))), (1, .long (((d1_ (Ls w) i (ds_ (Ls w) (dg_ (dc_ (Ls w) (dO_ Ls w) 7) (fa_ (Ls w) (Ls w).length)) i) j) * 31) + ((tel_ (tb_ (Ls w)) j i).toInt64))), (4, .int (nI i)), (3, .int (nI w)), (0, .ref (ad_ D 20))]) hx hb dX3_digest_98 hl (k := 1) rfl (g_inc j) (by decide) rfl (fun ls hl => ?_)
                          refine lv_goto (tgt := 75) hx hb dX3_digest_101 (by decide) ?_
                          exact ih75 (j + 1) (by omega) (by omega) _ _ hP hS ls (lv_sub hl [0, 1, 2, 3, 4] rfl)
                    exact K75 ((7 - 0) + 1) 0 (Nat.lt_succ_self _) (Nat.zero_le _) _ _ hP hS ls (lv_sub hl [0, 2, 1, 3, 4] rfl)
              exact K63 ((zs_ (Ls w).length - 0) + 1) 0 (Nat.lt_succ_self _) (Nat.zero_le _) _ _ hP hS ls (lv_sub hl [0, 1, 2, 3] rfl)
            · have hb23 := g_nlt (a := 6) (b := t) h23 (by omega) (by omega)
              refine lv_lload_n hx hb dX3_digest_26 rfl (lv_at hl 1 rfl) ?_
              refine lv_ldc2 (v := 31) hx hb hown (hts _ wC_X3_162) dX3_digest_27 ?_
              refine lv_lmul hx hb dX3_digest_30 ?_
              refine lv_aload_n hx hb dX3_digest_31 rfl (lv_at hl 3 rfl) ?_
              refine lv_iload_n hx hb dX3_digest_32 rfl (lv_at hl 2 rfl) ?_
              refine lv_iload hx hb dX3_digest_33 (lv_at hl 0 rfl) ?_
              have hMp38 : g_Mf D σ3 (nI 0) rs3 sg3 S N Z R3 T3 := ⟨t3_20, t3_21, t3_22, t3_23, t3_24, t3_25, t3_26, t3_27, t3_28, t3_29, t3_30⟩
              refine g_callV0 (y := yX3_counted) (n := 2) (As := [.int (nI w), .int (nI t)]) (rest := [.long ((dc_ (Ls w) (dO_ Ls w) t) * 31)]) hx hb hml hown hts hE hZ hP hS hl.1 (m_X3_counted l D hAD σ3 (nI 0) rs3 sg3 S N Z R3 T3 hMp38 Ls w t hmr (by omega) (by omega) hvw.1) k_X3_134 (ci := 3) (by decide) t3_20 rfl rfl rfl rfl rfl ⟨rfl, rfl⟩ ⟨Nat.le_of_ble_eq_true rfl, Nat.le_of_ble_eq_true rfl⟩ (Nat.le_of_ble_eq_true rfl) ⟨Nat.le_of_ble_eq_true rfl, Nat.le_of_ble_eq_true rfl⟩ dX3_digest_35 (fun v39 σ_40 H locs hq hP hS => ?_)
              obtain ⟨rfl, hq2⟩ := hq
              refine W.eq (g2 := F0 m 38 ls [.int (cn_ (Ls w) t), .long ((dc_ (Ls w) (dO_ Ls w) t) * 31)]) rfl ?_
              obtain ⟨⟨Rn41, Tn41, hMn41, hRln41, hTln41⟩, hofn41⟩ := hq2
              obtain ⟨k42_20, k42_21, k42_22, k42_23, k42_24, k42_25, k42_26, k42_27, k42_28, k42_29, k42_30⟩ := id hMn41
              have ho43 := g_off.tr ho3 (g_off.wd hofn41 (by decide) (by decide))
              refine lv_i2l (v := (cn_ (Ls w) t).toInt64) hx hb dX3_digest_38 rfl ?_
              refine lv_ladd hx hb dX3_digest_39 ?_
              refine lv_lstore_n (lv' := [(1, .long (((dc_ (Ls w) (dO_ Ls w) t) * 31) + ((cn_ (Ls w) t).toInt64))), (4, .int (nI t)), (3, .int (nI w)), (0, .ref (ad_ D 20))]) hx hb dX3_digest_40 rfl hl (by decide) rfl (fun ls hl => ?_)
              refine lv_iinc (v := nI (t + 1)) (lv' := [(4, .int (nI (t + 1))), (1, .long (((dc_ (Ls w) (dO_ Ls w) t) * 31) + ((cn_ (Ls w) t).toInt64))), (3, .int (nI w)), (0, .ref (ad_ D 20))]) hx hb dX3_digest_41 hl (k := 1) rfl (g_inc t) (by decide) rfl (fun ls hl => ?_)
              refine lv_goto (tgt := 19) hx hb dX3_digest_44 (by decide) ?_
              have hMp44 : g_Mf D σ_40 (nI 0) (nI ((Ls w).length)) (nI (zs_ (Ls w).length)) S N Z Rn41 Tn41 := ⟨k42_20, k42_21, k42_22, k42_23, k42_24, k42_25, k42_26, k42_27, k42_28, k42_29, k42_30⟩
              exact ih19 (t + 1) σ_40 (nI ((Ls w).length)) (nI (zs_ (Ls w).length)) Rn41 Tn41 (by omega) (by omega) hMp44 ho43 (fun _ => ⟨rfl, rfl, hRln41, hTln41⟩) _ _ hP hS ls (lv_sub hl [0, 1, 2, 3] rfl)
        have hMp45 : g_Mf D σ2 (nI 0) rs2 sg2 S N Z R2 T2 := ⟨t2_20, t2_21, t2_22, t2_23, t2_24, t2_25, t2_26, t2_27, t2_28, t2_29, t2_30⟩
        exact K19 ((7 - 0) + 1) 0 σ2 rs2 sg2 R2 T2 (Nat.lt_succ_self _) (Nat.zero_le _) hMp45 ho2 (fun h => absurd h (by omega)) _ _ hP hS ls (lv_sub hl [0, 2, 1, 3] rfl)
  have hMp46 : g_Mf D σ_1 (nI 0) rs sg S N Z R T := ⟨hc3, hc4, hc5, hc6, hc7, hc8, hc9, hc10, hc11, hc12, hc13⟩
  exact K11 ((2 - 0) + 1) 0 σ_1 rs sg R T (Nat.lt_succ_self _) (Nat.zero_le _) hMp46 ho14 _ _ hP hS ls (lv_sub hl [0, 1, 2] rfl)
