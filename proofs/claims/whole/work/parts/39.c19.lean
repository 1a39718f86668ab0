abbrev m_X3_ranged_rm : Room := { frames := 11, cells := 0, slots := 0, locals := 262 }
set_option maxHeartbeats 4000000 in
set_option maxRecDepth 100000 in
theorem m_X3_ranged (l : Launch) (D : va_G) (hAD : g_AD D) (σ : Nat → va_E) (th rs sg : Int32) (S N Z R : Nat → Int32) (T : Nat → Nat → Int32) (hM : g_Mf D σ th rs sg S N Z R T) (Ls : Nat → g_L) (w a b t : Nat) (hmr : mr_ Ls S N Z) (hw : w ≤ 1) (hab : a ≤ b) (hbl : b ≤ (Ls w).length) (ht : t ≤ 3) (hvw : vL_ (Ls w)) : g_M l D yX3_ranged cX3_ranged 8 (some .int) m_X3_ranged_rm [.ref (ad_ D 20), .int (nI w), .int (nI a), .int (nI b), .int (nI t)] σ (fun v1 σ1 => v1 = some (.int (rg_ (Ls w) a b t)) ∧ σ = σ1) := by
  refine g_ofW [(0, .ref (ad_ D 20)), (1, .int (nI w)), (2, .int (nI a)), (3, .int (nI b)), (4, .int (nI t))] (by decide +kernel) (Nat.le_of_ble_eq_true rfl) rfl ?_
  intro p e s m args below meth c hx hb hr hml hown hlocks hts hE hZ hP hS hnm ls hl
  have hown : s.vm.findClass RX3 = some m.cls := hown
  generalize hQ : MQ _ _ _ _ _ _ _ = Q
  obtain ⟨k20, k21, k22, k23, k24, k25, k26, k27, k28, k29, k30⟩ := id hM
  have h24w := (hmr w hw).2.1
  refine lv_iload hx hb dX3_ranged_0 (lv_at hl 4 rfl) ?_
  refine lv_if_ne (tgt := 9) hx hb dX3_ranged_2 (by decide) (fun h2 => ?_) (fun h2 => ?_)
  · have hb2 := g_ne (a := t) (b := 0) h2 (by omega) (by omega)
    refine lv_iload hx hb dX3_ranged_9 (lv_at hl 4 rfl) ?_
    refine lv_iconst (v := nI 2) hx hb dX3_ranged_11 (by decide) ?_
    refine lv_icmp_ne (tgt := 52) hx hb dX3_ranged_12 (by decide) (fun h12 => ?_) (fun h12 => ?_)
    · have hb12 := g_ne (a := t) (b := 2) h12 (by omega) (by omega)
      refine lv_iconst (v := nI 0) hx hb dX3_ranged_52 (by decide) ?_
      refine lv_istore (lv' := [(5, .int (nI 0)), (0, .ref (ad_ D 20)), (1, .int (nI w)), (2, .int (nI a)), (3, .int (nI b)), (4, .int (nI t))]) hx hb dX3_ranged_53 hl (by decide) rfl (fun ls hl => ?_)
      refine lv_iconst (v := (-1)) hx hb dX3_ranged_55 (by decide) ?_
      refine lv_istore (lv' := [(6, .int ((-1))), (5, .int (nI 0)), (0, .ref (ad_ D 20)), (1, .int (nI w)), (2, .int (nI a)), (3, .int (nI b)), (4, .int (nI t))]) hx hb dX3_ranged_56 hl (by decide) rfl (fun ls hl => ?_)
      refine lv_iload_n hx hb dX3_ranged_58 rfl (lv_at hl 4 rfl) ?_
      refine lv_istore (lv' := [(7, .int (nI a)), (6, .int ((-1))), (5, .int (nI 0)), (0, .ref (ad_ D 20)), (1, .int (nI w)), (2, .int (nI a)), (3, .int (nI b)), (4, .int (nI t))]) hx hb dX3_ranged_59 hl (by decide) rfl (fun ls hl => ?_)
      have K61 : ∀ (fuel61 : Nat) (i : Nat), (b - a - i) < fuel61 → (i ≤ b - a) → ∀ (H : Heap) (locs : List Loc), va_P D vwCl (g_W D σ) H → va_S (g_A D s.heap.size) s.heap H locs → ∀ ls : Array Slot, lv_has ls 8 [(7, .int (nI (a + i))), (6, .int (mm_ (Ls w) a i)), (5, .int (sm_ (Ls w) a i)), (0, .ref (ad_ D 20)), (1, .int (nI w)), (2, .int (nI a)), (3, .int (nI b)), (4, .int (nI t))] → W p l e m_X3_ranged_rm s m args below meth c H locs 0 0 Q (F0 m 61 ls []) := by
        intro fuel61
        induction fuel61 with
        | zero => intro i hf; exact absurd hf (Nat.not_lt_zero _)
        | succ fuel61 ih61 =>
          intro i hf61 hi H locs hP hS ls hl
          refine lv_iload hx hb dX3_ranged_61 (lv_at hl 0 rfl) ?_
          refine lv_iload_n hx hb dX3_ranged_63 rfl (lv_at hl 6 rfl) ?_
          refine lv_icmp_ge (tgt := 109) hx hb dX3_ranged_64 (by decide) (fun h64 => ?_) (fun h64 => ?_)
          · have hb64 := g_le (a := b) (b := a + i) h64 (by omega) (by omega)
            refine lv_iload hx hb dX3_ranged_109 (lv_at hl 7 rfl) ?_
            refine lv_iconst (v := nI 1) hx hb dX3_ranged_111 (by decide) ?_
            refine lv_icmp_ne (tgt := 120) hx hb dX3_ranged_112 (by decide) (fun h112 => ?_) (fun h112 => ?_)
            · have hb112 := g_ne (a := t) (b := 1) h112 (by omega) (by omega)
              refine lv_iload hx hb dX3_ranged_120 (lv_at hl 1 rfl) ?_
              have hi2 : i = b - a := by omega
              rw [← hQ]
              exact W.iret (v := mm_ (Ls w) a i) hx hb hr (fun te9 hte9 _ => g_fin (⟨by rw [show t = 3 by omega, hi2]; rfl, rfl⟩) hP hS hte9) hS.2.2 dX3_ranged_122 hlocks
            · have hb112 := g_eq (a := t) (b := 1) h112 (by omega) (by omega)
              refine lv_iload hx hb dX3_ranged_115 (lv_at hl 2 rfl) ?_
              refine lv_goto (tgt := 122) hx hb dX3_ranged_117 (by decide) ?_
              have hi2 : i = b - a := by omega
              rw [← hQ]
              exact W.iret (v := sm_ (Ls w) a i) hx hb hr (fun te9 hte9 _ => g_fin (⟨by rw [show t = 1 by omega, hi2]; rfl, rfl⟩) hP hS hte9) hS.2.2 dX3_ranged_122 hlocks
          · have hb64 := g_nle (a := b) (b := a + i) h64 (by omega) (by omega)
            refine lv_iload hx hb dX3_ranged_67 (lv_at hl 2 rfl) ?_
            refine lv_aload_n hx hb dX3_ranged_69 rfl (lv_at hl 3 rfl) ?_
            refine g_get hx hb hts hE hown hP g_inX3 rfl (by decide) k20 3 (by decide) rfl wf_X3_16 (v := .ref (ad_ D 23)) rfl dX3_ranged_70 ?_
            refine lv_bipush (v := nI 24) hx hb dX3_ranged_73 (by decide) ?_
            refine lv_iload_n hx hb dX3_ranged_75 rfl (lv_at hl 4 rfl) ?_
            refine lv_imul hx hb dX3_ranged_76 ?_
            refine g_top (y := nI (24 * w)) (pk_mul 24 w) ?_
            refine lv_iload hx hb dX3_ranged_77 (lv_at hl 0 rfl) ?_
            refine lv_iadd hx hb dX3_ranged_79 ?_
            refine g_top (y := nI ((24 * w) + (a + i))) (nI_add (24 * w) (a + i)) ?_
            refine g_ialdN (j := (24 * w) + (a + i)) hx hb hE hP (by decide) k23 (by omega) (by decide) (v := gn_ (Ls w) (a + i)) (hmr.Q hw (by omega)) dX3_ranged_80 ?_
            refine lv_iadd hx hb dX3_ranged_81 ?_
            refine lv_istore (lv' := [(5, .int ((sm_ (Ls w) a i) + (gn_ (Ls w) (a + i)))), (7, .int (nI (a + i))), (6, .int (mm_ (Ls w) a i)), (0, .ref (ad_ D 20)), (1, .int (nI w)), (2, .int (nI a)), (3, .int (nI b)), (4, .int (nI t))]) hx hb dX3_ranged_82 hl (by decide) rfl (fun ls hl => ?_)
            refine lv_iload hx hb dX3_ranged_84 (lv_at hl 2 rfl) ?_
            refine lv_aload_n hx hb dX3_ranged_86 rfl (lv_at hl 3 rfl) ?_
            refine g_get hx hb hts hE hown hP g_inX3 rfl (by decide) k20 3 (by decide) rfl wf_X3_16 (v := .ref (ad_ D 23)) rfl dX3_ranged_87 ?_
            refine lv_bipush (v := nI 24) hx hb dX3_ranged_90 (by decide) ?_
            refine lv_iload_n hx hb dX3_ranged_92 rfl (lv_at hl 4 rfl) ?_
            refine lv_imul hx hb dX3_ranged_93 ?_
            refine g_top (y := nI (24 * w)) (pk_mul 24 w) ?_
            refine lv_iload hx hb dX3_ranged_94 (lv_at hl 1 rfl) ?_
            refine lv_iadd hx hb dX3_ranged_96 ?_
            refine g_top (y := nI ((24 * w) + (a + i))) (nI_add (24 * w) (a + i)) ?_
            refine g_ialdN (j := (24 * w) + (a + i)) hx hb hE hP (by decide) k23 (by omega) (by decide) (v := gn_ (Ls w) (a + i)) (hmr.Q hw (by omega)) dX3_ranged_97 ?_
            refine g_mmax hx hb (hml.trans hl.1.symm) hown hts k_X3_91 k_max ⟨Nat.le_of_ble_eq_true rfl, Nat.le_of_ble_eq_true rfl, by omega, by omega⟩ dX3_ranged_98 ?_
            refine lv_istore (lv' := [(6, .int (if mm_ (Ls w) a i < gn_ (Ls w) (a + i) then gn_ (Ls w) (a + i) else mm_ (Ls w) a i)), (5, .int ((sm_ (Ls w) a i) + (gn_ (Ls w) (a + i)))), (7, .int (nI (a + i))), (0, .ref (ad_ D 20)), (1, .int (nI w)), (2, .int (nI a)), (3, .int (nI b)), (4, .int (nI t))]) hx hb dX3_ranged_101 hl (by decide) rfl (fun ls hl => ?_)
            have hfx1 : ((sm_ (Ls w) a i) + (gn_ (Ls w) (a + i))) = sm_ (Ls w) a (i + 1) := rfl
            rw [hfx1] at hl
            have hfx2 : (if mm_ (Ls w) a i < gn_ (Ls w) (a + i) then gn_ (Ls w) (a + i) else mm_ (Ls w) a i) = mm_ (Ls w) a (i + 1) := rfl
            rw [hfx2] at hl
            refine lv_iinc (v := nI (a + i + 1)) (lv' := [(7, .int (nI (a + i + 1))), (6, .int (mm_ (Ls w) a (i + 1))), (5, .int (sm_ (Ls w) a (i + 1))), (0, .ref (ad_ D 20)), (1, .int (nI w)), (2, .int (nI a)), (3, .int (nI b)), (4, .int (nI t))]) hx hb dX3_ranged_103 hl (k := 2) rfl (g_inc (a + i)) (by decide) rfl (fun ls hl => ?_)
            refine lv_goto (tgt := 61) hx hb dX3_ranged_106 (by decide) ?_
            exact ih61 (i + 1) (by omega) (by omega) _ _ hP hS ls (lv_sub hl [0, 1, 2, 3, 4, 5, 6, 7] rfl)
      exact K61 ((b - a - 0) + 1) 0 (Nat.lt_succ_self _) (Nat.zero_le _) _ _ hP hS ls (lv_sub hl [0, 1, 2, 3, 4, 5, 6, 7] rfl)
    · have hb12 := g_eq (a := t) (b := 2) h12 (by omega) (by omega)
      refine lv_iload_n hx hb dX3_ranged_15 rfl (lv_at hl 2 rfl) ?_
      refine lv_iload_n hx hb dX3_ranged_16 rfl (lv_at hl 3 rfl) ?_
      refine lv_icmp_ne (tgt := 24) hx hb dX3_ranged_17 (by decide) (fun h17 => ?_) (fun h17 => ?_)
      · have hb17 := g_ne (a := a) (b := b) h17 (by omega) (by omega)
        refine lv_aload_n hx hb dX3_ranged_24 rfl (lv_at hl 0 rfl) ?_
        refine g_get hx hb hts hE hown hP g_inX3 rfl (by decide) k20 2 (by decide) rfl wf_X3_13 (v := .ref (ad_ D 22)) rfl dX3_ranged_25 ?_
        refine lv_bipush (v := nI 24) hx hb dX3_ranged_28 (by decide) ?_
        refine lv_iload_n hx hb dX3_ranged_30 rfl (lv_at hl 1 rfl) ?_
        refine lv_imul hx hb dX3_ranged_31 ?_
        refine g_top (y := nI (24 * w)) (pk_mul 24 w) ?_
        refine lv_iload_n hx hb dX3_ranged_32 rfl (lv_at hl 2 rfl) ?_
        refine lv_iadd hx hb dX3_ranged_33 ?_
        refine g_top (y := nI ((24 * w) + a)) (nI_add (24 * w) a) ?_
        refine g_ialdN (j := (24 * w) + a) hx hb hE hP (by decide) k22 (by omega) (by decide) (v := fn_ (Ls w) a) (hmr.N (by omega) (by omega)) dX3_ranged_34 ?_
        refine lv_aload_n hx hb dX3_ranged_35 rfl (lv_at hl 0 rfl) ?_
        refine g_get hx hb hts hE hown hP g_inX3 rfl (by decide) k20 2 (by decide) rfl wf_X3_13 (v := .ref (ad_ D 22)) rfl dX3_ranged_36 ?_
        refine lv_bipush (v := nI 24) hx hb dX3_ranged_39 (by decide) ?_
        refine lv_iload_n hx hb dX3_ranged_41 rfl (lv_at hl 1 rfl) ?_
        refine lv_imul hx hb dX3_ranged_42 ?_
        refine g_top (y := nI (24 * w)) (pk_mul 24 w) ?_
        refine lv_iload_n hx hb dX3_ranged_43 rfl (lv_at hl 3 rfl) ?_
        refine lv_iadd hx hb dX3_ranged_44 ?_
        refine g_top (y := nI ((24 * w) + b)) (nI_add (24 * w) b) ?_
        refine lv_iconst (v := nI 1) hx hb dX3_ranged_45 (by decide) ?_
        refine lv_isub hx hb dX3_ranged_46 ?_
        refine g_top (y := nI (((24 * w) + b) - 1)) (pk_sub (by omega)) ?_
        refine g_ialdN (j := ((24 * w) + b) - 1) hx hb hE hP (by decide) k22 (by omega) (by decide) (v := fn_ (Ls w) (b - 1)) (by rw [show 24 * w + b - 1 = 24 * w + (b - 1) by omega]; exact hmr.N hw (by omega)) dX3_ranged_47 ?_
        refine g_callS0 (y := yX3_shared) (n := 2) (As := [.int (fn_ (Ls w) a), .int (fn_ (Ls w) (b - 1))]) (rest := []) hx hb hml hown hts hE hZ hP hS hl.1 (m_X3_shared l D hAD σ (fn_ (Ls w) a) (fn_ (Ls w) (b - 1)) (hvw.2.1 a (by omega)) (hvw.2.1 (b - 1) (by omega))) k_X3_128 rfl rfl ⟨rfl, rfl⟩ ⟨Nat.le_of_ble_eq_true rfl, Nat.le_of_ble_eq_true rfl⟩ (Nat.le_of_ble_eq_true rfl) ⟨Nat.le_of_ble_eq_true rfl, Nat.le_of_ble_eq_true rfl⟩ dX3_ranged_48 (fun v3 σ_4 H locs hq hP hS => ?_)
        obtain ⟨rfl, rfl⟩ := hq
        refine W.eq (g2 := F0 m 51 ls [.int (nI 15 - fub_ (fn_ (Ls w) a) (fn_ (Ls w) (b - 1)))]) rfl ?_
        rw [← hQ]
        exact W.iret (v := nI 15 - fub_ (fn_ (Ls w) a) (fn_ (Ls w) (b - 1))) hx hb hr (fun te9 hte9 _ => g_fin (⟨by rw [show t = 2 by omega, show (nI 15 - fub_ (fn_ (Ls w) a) (fn_ (Ls w) (b - 1))) = hs_ (Ls w) a b from (if_pos (by omega : a < b)).symm]; rfl, rfl⟩) hP hS hte9) hS.2.2 dX3_ranged_51 hlocks
      · have hb17 := g_eq (a := a) (b := b) h17 (by omega) (by omega)
        refine lv_iconst (v := nI 0) hx hb dX3_ranged_20 (by decide) ?_
        refine lv_goto (tgt := 51) hx hb dX3_ranged_21 (by decide) ?_
        rw [← hQ]
        exact W.iret (v := nI 0) hx hb hr (fun te9 hte9 _ => g_fin (⟨by rw [show t = 2 by omega, show nI 0 = hs_ (Ls w) a b from (if_neg (by omega : ¬ a < b)).symm]; rfl, rfl⟩) hP hS hte9) hS.2.2 dX3_ranged_51 hlocks
  · have hb2 := g_eq (a := t) (b := 0) h2 (by omega) (by omega)
    refine lv_iload_n hx hb dX3_ranged_5 rfl (lv_at hl 3 rfl) ?_
    refine lv_iload_n hx hb dX3_ranged_6 rfl (lv_at hl 2 rfl) ?_
    refine lv_isub hx hb dX3_ranged_7 ?_
    rw [← hQ]
    exact W.iret (v := (nI b) - (nI a)) hx hb hr (fun te9 hte9 _ => g_fin (⟨by rw [show t = 0 by omega]; rfl, rfl⟩) hP hS hte9) hS.2.2 dX3_ranged_8 hlocks

abbrev m_X3_range_rm : Room := { frames := 12, cells := 0, slots := 0, locals := 289 }
set_option maxHeartbeats 4000000 in
set_option maxRecDepth 100000 in
theorem m_X3_range (l : Launch) (D : va_G) (hAD : g_AD D) (σ : Nat → va_E) (th rs sg : Int32) (S N Z R : Nat → Int32) (T : Nat → Nat → Int32) (hM : g_Mf D σ th rs sg S N Z R T) (Ls : Nat → g_L) (wood lo hi what : Int32) (hmr : mr_ Ls S N Z) (hvC : vC_ Ls) : g_M l D yX3_range cX3_range 5 (some .int) m_X3_range_rm [.ref (ad_ D 20), .int wood, .int lo, .int hi, .int what] σ (fun v1 σ1 => ((er_range wood lo hi what = 0 ∧ (∃ w t, w ≤ 1 ∧ wood = nI w ∧ t ≤ 3 ∧ what = nI t ∧ nm1_ lo ∧ nm1_ hi ∧ lo ≤ hi ∧ v1 = some (.int (ra_ (Ls w) lo hi t)) ∧ g_MM D σ1 (nI 0) Ls)) ∨ ∃ k9, er_range wood lo hi what = k9 ∧ k9 ≠ 0 ∧ v1 = some (.int (nI 0)) ∧ g_MM D σ1 (nI k9) Ls) ∧ g_off 20 30 σ σ1) := by
  refine g_ofW [(0, .ref (ad_ D 20)), (1, .int wood), (2, .int lo), (3, .int hi), (4, .int what)] (by decide +kernel) (Nat.le_of_ble_eq_true rfl) rfl ?_
  intro p e s m args below meth c hx hb hr hml hown hlocks hts hE hZ hP hS hnm ls hl
  have hown : s.vm.findClass RX3 = some m.cls := hown
  generalize hQ : MQ _ _ _ _ _ _ _ = Q
  obtain ⟨k20, k21, k22, k23, k24, k25, k26, k27, k28, k29, k30⟩ := id hM
  refine lv_aload_n hx hb dX3_range_0 rfl (lv_at hl 0 rfl) ?_
  refine lv_iconst (v := nI 0) hx hb dX3_range_1 (by decide) ?_
  refine g_put hx hb hts hE hown hAD hP hS g_inX3 tyX3 tyX3_ok nmX3 rfl (by decide) k20 0 (by decide) rfl rfl (by decide +kernel) wf_X3_40 (v := nI 0) (Nat.le_of_ble_eq_true rfl) dX3_range_2 (fun H locs hP hS => ?_)
  obtain ⟨σ_1, hσ2⟩ : ∃ z : Nat → va_E, z = va_up σ 20 (.inr (3, [.int (nI 0), .ref (ad_ D 21), .ref (ad_ D 22), .ref (ad_ D 23), .ref (ad_ D 24), .int rs, .int sg, .ref (ad_ D 25), .ref (ad_ D 26), .ref (ad_ D 27), .ref (ad_ D 28), .ref (ad_ D 29), .ref (ad_ D 30)])) := ⟨_, rfl⟩
  have hP : va_P D vwCl (g_W D σ_1) H := by rw [hσ2]; exact hP
  have hc3 : σ_1 20 = .inr (3, [.int (nI 0), .ref (ad_ D 21), .ref (ad_ D 22), .ref (ad_ D 23), .ref (ad_ D 24), .int rs, .int sg, .ref (ad_ D 25), .ref (ad_ D 26), .ref (ad_ D 27), .ref (ad_ D 28), .ref (ad_ D 29), .ref (ad_ D 30)]) := by rw [hσ2]; exact g_ups
  have hc4 := (by rw [hσ2]; exact g_upn k21 (by decide) : σ_1 21 = .inl (g_cI D, 2, .inl (S)))
  have hc5 := (by rw [hσ2]; exact g_upn k22 (by decide) : σ_1 22 = .inl (g_cI D, 48, .inl (N)))
  have hc6 := (by rw [hσ2]; exact g_upn k23 (by decide) : σ_1 23 = .inl (g_cI D, 48, .inl (Z)))
  have hc7 := (by rw [hσ2]; exact g_upn k24 (by decide) : σ_1 24 = .inl (g_cI D, 48, .inl (R)))
  have hc8 := (by rw [hσ2]; exact g_upn k25 (by decide) : σ_1 25 = .inl (g_cI D, 96, .inl (T 0)))
  have hc9 := (by rw [hσ2]; exact g_upn k26 (by decide) : σ_1 26 = .inl (g_cI D, 96, .inl (T 1)))
  have hc10 := (by rw [hσ2]; exact g_upn k27 (by decide) : σ_1 27 = .inl (g_cI D, 96, .inl (T 2)))
  have hc11 := (by rw [hσ2]; exact g_upn k28 (by decide) : σ_1 28 = .inl (g_cI D, 96, .inl (T 3)))
  have hc12 := (by rw [hσ2]; exact g_upn k29 (by decide) : σ_1 29 = .inl (g_cI D, 96, .inl (T 4)))
  have hc13 := (by rw [hσ2]; exact g_upn k30 (by decide) : σ_1 30 = .inl (g_cI D, 96, .inl (T 5)))
  have ho14 : g_off 20 30 σ σ_1 := by rw [hσ2]; exact g_off.up (g_off.rf (lo := 20) (hi := 30) (σ := σ)) (by decide) (by decide)
  refine lv_iload_n hx hb dX3_range_5 rfl (lv_at hl 1 rfl) ?_
  refine g_callS0 (y := yX3_isWood) (n := 1) (As := [.int wood]) (rest := []) hx hb hml hown hts hE hZ hP hS hl.1 (m_X3_isWood l D hAD σ_1 (wood)) k_X3_94 rfl rfl ⟨rfl, rfl⟩ ⟨Nat.le_of_ble_eq_true rfl, Nat.le_of_ble_eq_true rfl⟩ (Nat.le_of_ble_eq_true rfl) ⟨Nat.le_of_ble_eq_true rfl, Nat.le_of_ble_eq_true rfl⟩ dX3_range_6 (fun v15 σ_16 H locs hq hP hS => ?_)
  obtain ⟨rfl, rfl⟩ := hq
  refine W.eq (g2 := F0 m 9 ls [.int (if wk1_ (wood) then 1 else 0)]) rfl ?_
  refine lv_if_eq (tgt := 22) hx hb dX3_range_9 (by decide) (fun h9 => ?_) (fun h9 => ?_)
  · have hq9 := g_pp0 h9
    refine lv_aload_n hx hb dX3_range_22 rfl (lv_at hl 0 rfl) ?_
    refine lv_iconst (v := nI 1) hx hb dX3_range_23 (by decide) ?_
    have hMp17 : g_Mf D σ_1 (nI 0) rs sg S N Z R T := ⟨hc3, hc4, hc5, hc6, hc7, hc8, hc9, hc10, hc11, hc12, hc13⟩
    refine g_callV0 (y := yX3_no) (n := 1) (As := [.int (nI 1)]) (rest := []) hx hb hml hown hts hE hZ hP hS hl.1 (m_X3_no l D hAD σ_1 (nI 0) rs sg S N Z R T hMp17 (nI 1)) k_X3_98 (ci := 3) (by decide) hc3 rfl rfl rfl rfl rfl ⟨rfl, rfl⟩ ⟨Nat.le_of_ble_eq_true rfl, Nat.le_of_ble_eq_true rfl⟩ (Nat.le_of_ble_eq_true rfl) ⟨Nat.le_of_ble_eq_true rfl, Nat.le_of_ble_eq_true rfl⟩ dX3_range_24 (fun v18 σ_19 H locs hq hP hS => ?_)
    obtain ⟨rfl, hq2⟩ := hq
    refine W.eq (g2 := F0 m 27 ls [.int (nI 0)]) rfl ?_
    obtain ⟨hMn20, hon20⟩ := hq2
    obtain ⟨k21_20, k21_21, k21_22, k21_23, k21_24, k21_25, k21_26, k21_27, k21_28, k21_29, k21_30⟩ := id hMn20
    have ho22 := g_off.tr ho14 (g_off.wd hon20 (by decide) (by decide))
    have hMp23 : g_Mf D σ_19 (nI 1) rs sg S N Z R T := ⟨k21_20, k21_21, k21_22, k21_23, k21_24, k21_25, k21_26, k21_27, k21_28, k21_29, k21_30⟩
    rw [← hQ]
    exact W.iret (v := nI 0) hx hb hr (fun te9 hte9 _ => g_fin (⟨Or.inr ⟨1, by rw [er_range, if_neg (fun q => hq9 q.1)], by decide, rfl, ⟨_, _, _, _, _, _, _, hMp23, hmr⟩⟩, ho22⟩) hP hS hte9) hS.2.2 dX3_range_27 hlocks
  · have hq9 := g_pp1 h9
    obtain ⟨w, hw, hwe⟩ := ix_nat hq9 (by decide)
    subst hwe
    have hvw := hvC w hw
    have h24w := hvw.2
    have hvo := hvC (1 - w) (by omega)
    have h24o := hvo.2
    have hwl : wl_ Ls (nI w) = Ls w := wl_n hw
    have hot : ot_ Ls (nI w) = Ls (1 - w) := ot_n hw
    refine lv_iload hx hb dX3_range_12 (lv_at hl 4 rfl) ?_
    refine lv_iconst (v := nI 0) hx hb dX3_range_14 (by decide) ?_
    refine lv_iconst (v := nI 3) hx hb dX3_range_15 (by decide) ?_
    refine g_callS0 (y := yX3_isIn) (n := 3) (As := [.int what, .int (nI 0), .int (nI 3)]) (rest := []) hx hb hml hown hts hE hZ hP hS hl.1 (m_X3_isIn l D hAD σ_1 (what) (nI 0) (nI 3)) k_X3_44 rfl rfl ⟨rfl, rfl⟩ ⟨Nat.le_of_ble_eq_true rfl, Nat.le_of_ble_eq_true rfl⟩ (Nat.le_of_ble_eq_true rfl) ⟨Nat.le_of_ble_eq_true rfl, Nat.le_of_ble_eq_true rfl⟩ dX3_range_16 (fun v24 σ_25 H locs hq hP hS => ?_)
    obtain ⟨rfl, rfl⟩ := hq
    refine W.eq (g2 := F0 m 19 ls [.int (if ¬ (what) < (nI 0) ∧ ¬ (nI 3) < (what) then 1 else 0)]) rfl ?_
    refine lv_if_ne (tgt := 28) hx hb dX3_range_19 (by decide) (fun h19 => ?_) (fun h19 => ?_)
    · have hq19 := g_pp1 h19
      obtain ⟨t, ht, te⟩ := ix_nat (g := 3) hq19 (by decide)
      subst te
      refine lv_iload_n hx hb dX3_range_28 rfl (lv_at hl 2 rfl) ?_
      refine g_callS0 (y := yX3_isName) (n := 1) (As := [.int lo]) (rest := []) hx hb hml hown hts hE hZ hP hS hl.1 (m_X3_isName l D hAD σ_1 (lo)) k_X3_101 rfl rfl ⟨rfl, rfl⟩ ⟨Nat.le_of_ble_eq_true rfl, Nat.le_of_ble_eq_true rfl⟩ (Nat.le_of_ble_eq_true rfl) ⟨Nat.le_of_ble_eq_true rfl, Nat.le_of_ble_eq_true rfl⟩ dX3_range_29 (fun v26 σ_27 H locs hq hP hS => ?_)
      obtain ⟨rfl, rfl⟩ := hq
      refine W.eq (g2 := F0 m 32 ls [.int (if nm1_ (lo) then 1 else 0)]) rfl ?_
      refine lv_if_eq (tgt := 47) hx hb dX3_range_32 (by decide) (fun h32 => ?_) (fun h32 => ?_)
      · have hq32 := g_pp0 h32
        refine lv_aload_n hx hb dX3_range_47 rfl (lv_at hl 0 rfl) ?_
        refine lv_iconst (v := nI 2) hx hb dX3_range_48 (by decide) ?_
        have hMp28 : g_Mf D σ_1 (nI 0) rs sg S N Z R T := ⟨hc3, hc4, hc5, hc6, hc7, hc8, hc9, hc10, hc11, hc12, hc13⟩
        refine g_callV0 (y := yX3_no) (n := 1) (As := [.int (nI 2)]) (rest := []) hx hb hml hown hts hE hZ hP hS hl.1 (m_X3_no l D hAD σ_1 (nI 0) rs sg S N Z R T hMp28 (nI 2)) k_X3_98 (ci := 3) (by decide) hc3 rfl rfl rfl rfl rfl ⟨rfl, rfl⟩ ⟨Nat.le_of_ble_eq_true rfl, Nat.le_of_ble_eq_true rfl⟩ (Nat.le_of_ble_eq_true rfl) ⟨Nat.le_of_ble_eq_true rfl, Nat.le_of_ble_eq_true rfl⟩ dX3_range_49 (fun v29 σ_30 H locs hq hP hS => ?_)
        obtain ⟨rfl, hq2⟩ := hq
        refine W.eq (g2 := F0 m 52 ls [.int (nI 0)]) rfl ?_
        obtain ⟨hMn31, hon31⟩ := hq2
        obtain ⟨k32_20, k32_21, k32_22, k32_23, k32_24, k32_25, k32_26, k32_27, k32_28, k32_29, k32_30⟩ := id hMn31
        have ho33 := g_off.tr ho14 (g_off.wd hon31 (by decide) (by decide))
        have hMp34 : g_Mf D σ_30 (nI 2) rs sg S N Z R T := ⟨k32_20, k32_21, k32_22, k32_23, k32_24, k32_25, k32_26, k32_27, k32_28, k32_29, k32_30⟩
        rw [← hQ]
        exact W.iret (v := nI 0) hx hb hr (fun te9 hte9 _ => g_fin (⟨Or.inr ⟨2, by rw [er_range, if_pos (⟨ix_of hw (by decide), ix_of ht (by decide)⟩ : wk1_ _ ∧ ix_ _ _), if_neg (fun q => hq32 q.1)], by decide, rfl, ⟨_, _, _, _, _, _, _, hMp34, hmr⟩⟩, ho33⟩) hP hS hte9) hS.2.2 dX3_range_52 hlocks
      · have hq32 := g_pp1 h32
        have hne32 := ne_m1 (nm_le hq32).1
        refine lv_iload_n hx hb dX3_range_35 rfl (lv_at hl 3 rfl) ?_
        refine g_callS0 (y := yX3_isName) (n := 1) (As := [.int hi]) (rest := []) hx hb hml hown hts hE hZ hP hS hl.1 (m_X3_isName l D hAD σ_1 (hi)) k_X3_101 rfl rfl ⟨rfl, rfl⟩ ⟨Nat.le_of_ble_eq_true rfl, Nat.le_of_ble_eq_true rfl⟩ (Nat.le_of_ble_eq_true rfl) ⟨Nat.le_of_ble_eq_true rfl, Nat.le_of_ble_eq_true rfl⟩ dX3_range_36 (fun v35 σ_36 H locs hq hP hS => ?_)
        obtain ⟨rfl, rfl⟩ := hq
        refine W.eq (g2 := F0 m 39 ls [.int (if nm1_ (hi) then 1 else 0)]) rfl ?_
        refine lv_if_eq (tgt := 47) hx hb dX3_range_39 (by decide) (fun h39 => ?_) (fun h39 => ?_)
        · have hq39 := g_pp0 h39
          refine lv_aload_n hx hb dX3_range_47 rfl (lv_at hl 0 rfl) ?_
          refine lv_iconst (v := nI 2) hx hb dX3_range_48 (by decide) ?_
          have hMp37 : g_Mf D σ_1 (nI 0) rs sg S N Z R T := ⟨hc3, hc4, hc5, hc6, hc7, hc8, hc9, hc10, hc11, hc12, hc13⟩
          refine g_callV0 (y := yX3_no) (n := 1) (As := [.int (nI 2)]) (rest := []) hx hb hml hown hts hE hZ hP hS hl.1 (m_X3_no l D hAD σ_1 (nI 0) rs sg S N Z R T hMp37 (nI 2)) k_X3_98 (ci := 3) (by decide) hc3 rfl rfl rfl rfl rfl ⟨rfl, rfl⟩ ⟨Nat.le_of_ble_eq_true rfl, Nat.le_of_ble_eq_true rfl⟩ (Nat.le_of_ble_eq_true rfl) ⟨Nat.le_of_ble_eq_true rfl, Nat.le_of_ble_eq_true rfl⟩ dX3_range_49 (fun v38 σ_39 H locs hq hP hS => ?_)
          obtain ⟨rfl, hq2⟩ := hq
          refine W.eq (g2 := F0 m 52 ls [.int (nI 0)]) rfl ?_
          obtain ⟨hMn40, hon40⟩ := hq2
          obtain ⟨k41_20, k41_21, k41_22, k41_23, k41_24, k41_25, k41_26, k41_27, k41_28, k41_29, k41_30⟩ := id hMn40
          have ho42 := g_off.tr ho14 (g_off.wd hon40 (by decide) (by decide))
          have hMp43 : g_Mf D σ_39 (nI 2) rs sg S N Z R T := ⟨k41_20, k41_21, k41_22, k41_23, k41_24, k41_25, k41_26, k41_27, k41_28, k41_29, k41_30⟩
          rw [← hQ]
          exact W.iret (v := nI 0) hx hb hr (fun te9 hte9 _ => g_fin (⟨Or.inr ⟨2, by rw [er_range, if_pos (⟨ix_of hw (by decide), ix_of ht (by decide)⟩ : wk1_ _ ∧ ix_ _ _), if_neg (fun q => hq39 q.2.1)], by decide, rfl, ⟨_, _, _, _, _, _, _, hMp43, hmr⟩⟩, ho42⟩) hP hS hte9) hS.2.2 dX3_range_52 hlocks
        · have hq39 := g_pp1 h39
          have hne39 := ne_m1 (nm_le hq39).1
          refine lv_iload_n hx hb dX3_range_42 rfl (lv_at hl 2 rfl) ?_
          refine lv_iload_n hx hb dX3_range_43 rfl (lv_at hl 3 rfl) ?_
          refine lv_icmp_le (tgt := 53) hx hb dX3_range_44 (by decide) (fun h44 => ?_) (fun h44 => ?_)
          · have hrm9 := rk_mono (L := Ls w) (nm_up hq39 hq32 h44)
            refine lv_aload_n hx hb dX3_range_53 rfl (lv_at hl 0 rfl) ?_
            refine lv_iload_n hx hb dX3_range_54 rfl (lv_at hl 1 rfl) ?_
            refine lv_aload_n hx hb dX3_range_55 rfl (lv_at hl 0 rfl) ?_
            refine lv_iload_n hx hb dX3_range_56 rfl (lv_at hl 1 rfl) ?_
            refine lv_iload_n hx hb dX3_range_57 rfl (lv_at hl 2 rfl) ?_
            have hMp44 : g_Mf D σ_1 (nI 0) rs sg S N Z R T := ⟨hc3, hc4, hc5, hc6, hc7, hc8, hc9, hc10, hc11, hc12, hc13⟩
            refine g_callV0 (y := yX3_smaller) (n := 2) (As := [.int (nI w), .int lo]) (rest := [.int (nI w), .ref (ad_ D 20)]) hx hb hml hown hts hE hZ hP hS hl.1 (m_X3_smaller l D hAD σ_1 (nI 0) rs sg S N Z R T hMp44 Ls w (lo) hmr (by omega)) k_X3_55 (ci := 3) (by decide) hc3 rfl rfl rfl rfl rfl ⟨rfl, rfl⟩ ⟨Nat.le_of_ble_eq_true rfl, Nat.le_of_ble_eq_true rfl⟩ (Nat.le_of_ble_eq_true rfl) ⟨Nat.le_of_ble_eq_true rfl, Nat.le_of_ble_eq_true rfl⟩ dX3_range_58 (fun v45 σ_46 H locs hq hP hS => ?_)
            obtain ⟨rfl, rfl⟩ := hq
            refine W.eq (g2 := F0 m 61 ls [.int (nI (rk_ (Ls w) (lo))), .int (nI w), .ref (ad_ D 20)]) rfl ?_
            have hrk58 := rk_le (Ls w) (lo)
            refine lv_aload_n hx hb dX3_range_61 rfl (lv_at hl 0 rfl) ?_
            refine lv_iload_n hx hb dX3_range_62 rfl (lv_at hl 1 rfl) ?_
            refine lv_iload_n hx hb dX3_range_63 rfl (lv_at hl 3 rfl) ?_
            refine lv_iconst (v := nI 1) hx hb dX3_range_64 (by decide) ?_
            refine lv_iadd hx hb dX3_range_65 ?_
            have hMp47 : g_Mf D σ_1 (nI 0) rs sg S N Z R T := ⟨hc3, hc4, hc5, hc6, hc7, hc8, hc9, hc10, hc11, hc12, hc13⟩
            refine g_callV0 (y := yX3_smaller) (n := 2) (As := [.int (nI w), .int ((hi) + (nI 1))]) (rest := [.int (nI (rk_ (Ls w) (lo))), .int (nI w), .ref (ad_ D 20)]) hx hb hml hown hts hE hZ hP hS hl.1 (m_X3_smaller l D hAD σ_1 (nI 0) rs sg S N Z R T hMp47 Ls w ((hi) + (nI 1)) hmr (by omega)) k_X3_55 (ci := 3) (by decide) hc3 rfl rfl rfl rfl rfl ⟨rfl, rfl⟩ ⟨Nat.le_of_ble_eq_true rfl, Nat.le_of_ble_eq_true rfl⟩ (Nat.le_of_ble_eq_true rfl) ⟨Nat.le_of_ble_eq_true rfl, Nat.le_of_ble_eq_true rfl⟩ dX3_range_66 (fun v48 σ_49 H locs hq hP hS => ?_)
            obtain ⟨rfl, rfl⟩ := hq
            refine W.eq (g2 := F0 m 69 ls [.int (nI (rk_ (Ls w) ((hi) + (nI 1)))), .int (nI (rk_ (Ls w) (lo))), .int (nI w), .ref (ad_ D 20)]) rfl ?_
            have hrk66 := rk_le (Ls w) ((hi) + (nI 1))
            refine lv_iload hx hb dX3_range_69 (lv_at hl 4 rfl) ?_
            have hMp50 : g_Mf D σ_1 (nI 0) rs sg S N Z R T := ⟨hc3, hc4, hc5, hc6, hc7, hc8, hc9, hc10, hc11, hc12, hc13⟩
            refine g_callV0 (y := yX3_ranged) (n := 4) (As := [.int (nI w), .int (nI (rk_ (Ls w) (lo))), .int (nI (rk_ (Ls w) ((hi) + (nI 1)))), .int (nI t)]) (rest := []) hx hb hml hown hts hE hZ hP hS hl.1 (m_X3_ranged l D hAD σ_1 (nI 0) rs sg S N Z R T hMp50 Ls w (rk_ (Ls w) (lo)) (rk_ (Ls w) ((hi) + (nI 1))) t hmr (by omega) hrm9 (by omega) (by omega) hvw.1) k_X3_143 (ci := 3) (by decide) hc3 rfl rfl rfl rfl rfl ⟨rfl, rfl⟩ ⟨Nat.le_of_ble_eq_true rfl, Nat.le_of_ble_eq_true rfl⟩ (Nat.le_of_ble_eq_true rfl) ⟨Nat.le_of_ble_eq_true rfl, Nat.le_of_ble_eq_true rfl⟩ dX3_range_71 (fun v51 σ_52 H locs hq hP hS => ?_)
            obtain ⟨rfl, rfl⟩ := hq
            refine W.eq (g2 := F0 m 74 ls [.int (rg_ (Ls w) (rk_ (Ls w) (lo)) (rk_ (Ls w) ((hi) + (nI 1))) t)]) rfl ?_
            have hMp53 : g_Mf D σ_1 (nI 0) rs sg S N Z R T := ⟨hc3, hc4, hc5, hc6, hc7, hc8, hc9, hc10, hc11, hc12, hc13⟩
            rw [← hQ]
            exact W.iret (v := rg_ (Ls w) (rk_ (Ls w) (lo)) (rk_ (Ls w) ((hi) + (nI 1))) t) hx hb hr (fun te9 hte9 _ => g_fin (⟨Or.inl ⟨by rw [er_range, if_pos (⟨ix_of hw (by decide), ix_of ht (by decide)⟩ : wk1_ _ ∧ ix_ _ _), if_pos ⟨hq32, hq39, h44⟩], w, t, hw, rfl, ht, rfl, hq32, hq39, h44, by rw [rg_ra ht], ⟨_, _, _, _, _, _, _, hMp53, hmr⟩⟩, ho14⟩) hP hS hte9) hS.2.2 dX3_range_74 hlocks
          · refine lv_aload_n hx hb dX3_range_47 rfl (lv_at hl 0 rfl) ?_
            refine lv_iconst (v := nI 2) hx hb dX3_range_48 (by decide) ?_
            have hMp54 : g_Mf D σ_1 (nI 0) rs sg S N Z R T := ⟨hc3, hc4, hc5, hc6, hc7, hc8, hc9, hc10, hc11, hc12, hc13⟩
            refine g_callV0 (y := yX3_no) (n := 1) (As := [.int (nI 2)]) (rest := []) hx hb hml hown hts hE hZ hP hS hl.1 (m_X3_no l D hAD σ_1 (nI 0) rs sg S N Z R T hMp54 (nI 2)) k_X3_98 (ci := 3) (by decide) hc3 rfl rfl rfl rfl rfl ⟨rfl, rfl⟩ ⟨Nat.le_of_ble_eq_true rfl, Nat.le_of_ble_eq_true rfl⟩ (Nat.le_of_ble_eq_true rfl) ⟨Nat.le_of_ble_eq_true rfl, Nat.le_of_ble_eq_true rfl⟩ dX3_range_49 (fun v55 σ_56 H locs hq hP hS => ?_)
            obtain ⟨rfl, hq2⟩ := hq
            refine W.eq (g2 := F0 m 52 ls [.int (nI 0)]) rfl ?_
            obtain ⟨hMn57, hon57⟩ := hq2
            obtain ⟨k58_20, k58_21, k58_22, k58_23, k58_24, k58_25, k58_26, k58_27, k58_28, k58_29, k58_30⟩ := id hMn57
            have ho59 := g_off.tr ho14 (g_off.wd hon57 (by decide) (by decide))
            have hMp60 : g_Mf D σ_56 (nI 2) rs sg S N Z R T := ⟨k58_20, k58_21, k58_22, k58_23, k58_24, k58_25, k58_26, k58_27, k58_28, k58_29, k58_30⟩
            rw [← hQ]
            exact W.iret (v := nI 0) hx hb hr (fun te9 hte9 _ => g_fin (⟨Or.inr ⟨2, by rw [er_range, if_pos (⟨ix_of hw (by decide), ix_of ht (by decide)⟩ : wk1_ _ ∧ ix_ _ _), if_neg (fun q => h44 q.2.2)], by decide, rfl, ⟨_, _, _, _, _, _, _, hMp60, hmr⟩⟩, ho59⟩) hP hS hte9) hS.2.2 dX3_range_52 hlocks
    · have hq19 := g_pp0 h19
      refine lv_aload_n hx hb dX3_range_22 rfl (lv_at hl 0 rfl) ?_
      refine lv_iconst (v := nI 1) hx hb dX3_range_23 (by decide) ?_
      have hMp61 : g_Mf D σ_1 (nI 0) rs sg S N Z R T := ⟨hc3, hc4, hc5, hc6, hc7, hc8, hc9, hc10, hc11, hc12, hc13⟩
      refine g_callV0 (y := yX3_no) (n := 1) (As := [.int (nI 1)]) (rest := []) hx hb hml hown hts hE hZ hP hS hl.1 (m_X3_no l D hAD σ_1 (nI 0) rs sg S N Z R T hMp61 (nI 1)) k_X3_98 (ci := 3) (by decide) hc3 rfl rfl rfl rfl rfl ⟨rfl, rfl⟩ ⟨Nat.le_of_ble_eq_true rfl, Nat.le_of_ble_eq_true rfl⟩ (Nat.le_of_ble_eq_true rfl) ⟨Nat.le_of_ble_eq_true rfl, Nat.le_of_ble_eq_true rfl⟩ dX3_range_24 (fun v62 σ_63 H locs hq hP hS => ?_)
      obtain ⟨rfl, hq2⟩ := hq
      refine W.eq (g2 := F0 m 27 ls [.int (nI 0)]) rfl ?_
      obtain ⟨hMn64, hon64⟩ := hq2
      obtain ⟨k65_20, k65_21, k65_22, k65_23, k65_24, k65_25, k65_26, k65_27, k65_28, k65_29, k65_30⟩ := id hMn64
      have ho66 := g_off.tr ho14 (g_off.wd hon64 (by decide) (by decide))
      have hMp67 : g_Mf D σ_63 (nI 1) rs sg S N Z R T := ⟨k65_20, k65_21, k65_22, k65_23, k65_24, k65_25, k65_26, k65_27, k65_28, k65_29, k65_30⟩
      rw [← hQ]
      exact W.iret (v := nI 0) hx hb hr (fun te9 hte9 _ => g_fin (⟨Or.inr ⟨1, by rw [er_range, if_neg (fun q => hq19 q.2)], by decide, rfl, ⟨_, _, _, _, _, _, _, hMp67, hmr⟩⟩, ho66⟩) hP hS hte9) hS.2.2 dX3_range_27 hlocks

abbrev m_X3_near_rm : Room := { frames := 10, cells := 0, slots := 0, locals := 242 }
set_option maxHeartbeats 4000000 in
set_option maxRecDepth 100000 in
theorem m_X3_near (l : Launch) (D : va_G) (hAD : g_AD D) (σ : Nat → va_E) (th rs sg : Int32) (S N Z R : Nat → Int32) (T : Nat → Nat → Int32) (hM : g_Mf D σ th rs sg S N Z R T) (Ls : Nat → g_L) (wood name : Int32) (hmr : mr_ Ls S N Z) (hvC : vC_ Ls) : g_M l D yX3_near cX3_near 5 (some .int) m_X3_near_rm [.ref (ad_ D 20), .int wood, .int name] σ (fun v1 σ1 => ((er_miles wood name = 0 ∧ (∃ w, w ≤ 1 ∧ wood = nI w ∧ v1 = some (.int (ne_ (Ls w) name (Ls w).length)) ∧ g_MM D σ1 (nI 0) Ls)) ∨ ∃ k9, er_miles wood name = k9 ∧ k9 ≠ 0 ∧ v1 = some (.int (nI 0)) ∧ g_MM D σ1 (nI k9) Ls) ∧ g_off 20 30 σ σ1) := by
  refine g_ofW [(0, .ref (ad_ D 20)), (1, .int wood), (2, .int name)] (by decide +kernel) (Nat.le_of_ble_eq_true rfl) rfl ?_
  intro p e s m args below meth c hx hb hr hml hown hlocks hts hE hZ hP hS hnm ls hl
  have hown : s.vm.findClass RX3 = some m.cls := hown
  generalize hQ : MQ _ _ _ _ _ _ _ = Q
  obtain ⟨k20, k21, k22, k23, k24, k25, k26, k27, k28, k29, k30⟩ := id hM
  refine lv_aload_n hx hb dX3_near_0 rfl (lv_at hl 0 rfl) ?_
  refine lv_iconst (v := nI 0) hx hb dX3_near_1 (by decide) ?_
  refine g_put hx hb hts hE hown hAD hP hS g_inX3 tyX3 tyX3_ok nmX3 rfl (by decide) k20 0 (by decide) rfl rfl (by decide +kernel) wf_X3_40 (v := nI 0) (Nat.le_of_ble_eq_true rfl) dX3_near_2 (fun H locs hP hS => ?_)
  obtain ⟨σ_1, hσ2⟩ : ∃ z : Nat → va_E, z = va_up σ 20 (.inr (3, [.int (nI 0), .ref (ad_ D 21), .ref (ad_ D 22), .ref (ad_ D 23), .ref (ad_ D 24), .int rs, .int sg, .ref (ad_ D 25), .ref (ad_ D 26), .ref (ad_ D 27), .ref (ad_ D 28), .ref (ad_ D 29), .ref (ad_ D 30)])) := ⟨_, rfl⟩
  have hP : va_P D vwCl (g_W D σ_1) H := by rw [hσ2]; exact hP
  have hc3 : σ_1 20 = .inr (3, [.int (nI 0), .ref (ad_ D 21), .ref (ad_ D 22), .ref (ad_ D 23), .ref (ad_ D 24), .int rs, .int sg, .ref (ad_ D 25), .ref (ad_ D 26), .ref (ad_ D 27), .ref (ad_ D 28), .ref (ad_ D 29), .ref (ad_ D 30)]) := by rw [hσ2]; exact g_ups
  have hc4 := (by rw [hσ2]; exact g_upn k21 (by decide) : σ_1 21 = .inl (g_cI D, 2, .inl (S)))
  have hc5 := (by rw [hσ2]; exact g_upn k22 (by decide) : σ_1 22 = .inl (g_cI D, 48, .inl (N)))
  have hc6 := (by rw [hσ2]; exact g_upn k23 (by decide) : σ_1 23 = .inl (g_cI D, 48, .inl (Z)))
  have hc7 := (by rw [hσ2]; exact g_upn k24 (by decide) : σ_1 24 = .inl (g_cI D, 48, .inl (R)))
  have hc8 := (by rw [hσ2]; exact g_upn k25 (by decide) : σ_1 25 = .inl (g_cI D, 96, .inl (T 0)))
  have hc9 := (by rw [hσ2]; exact g_upn k26 (by decide) : σ_1 26 = .inl (g_cI D, 96, .inl (T 1)))
  have hc10 := (by rw [hσ2]; exact g_upn k27 (by decide) : σ_1 27 = .inl (g_cI D, 96, .inl (T 2)))
  have hc11 := (by rw [hσ2]; exact g_upn k28 (by decide) : σ_1 28 = .inl (g_cI D, 96, .inl (T 3)))
  have hc12 := (by rw [hσ2]; exact g_upn k29 (by decide) : σ_1 29 = .inl (g_cI D, 96, .inl (T 4)))
  have hc13 := (by rw [hσ2]; exact g_upn k30 (by decide) : σ_1 30 = .inl (g_cI D, 96, .inl (T 5)))
  have ho14 : g_off 20 30 σ σ_1 := by rw [hσ2]; exact g_off.up (g_off.rf (lo := 20) (hi := 30) (σ := σ)) (by decide) (by decide)
  refine lv_iload_n hx hb dX3_near_5 rfl (lv_at hl 1 rfl) ?_
  refine g_callS0 (y := yX3_isWood) (n := 1) (As := [.int wood]) (rest := []) hx hb hml hown hts hE hZ hP hS hl.1 (m_X3_isWood l D hAD σ_1 (wood)) k_X3_94 rfl rfl ⟨rfl, rfl⟩ ⟨Nat.le_of_ble_eq_true rfl, Nat.le_of_ble_eq_true rfl⟩ (Nat.le_of_ble_eq_true rfl) ⟨Nat.le_of_ble_eq_true rfl, Nat.le_of_ble_eq_true rfl⟩ dX3_near_6 (fun v15 σ_16 H locs hq hP hS => ?_)
  obtain ⟨rfl, rfl⟩ := hq
  refine W.eq (g2 := F0 m 9 ls [.int (if wk1_ (wood) then 1 else 0)]) rfl ?_
  refine lv_if_ne (tgt := 18) hx hb dX3_near_9 (by decide) (fun h9 => ?_) (fun h9 => ?_)
  · have hq9 := g_pp1 h9
    obtain ⟨w, hw, hwe⟩ := ix_nat hq9 (by decide)
    subst hwe
    have hvw := hvC w hw
    have h24w := hvw.2
    have hvo := hvC (1 - w) (by omega)
    have h24o := hvo.2
    have hwl : wl_ Ls (nI w) = Ls w := wl_n hw
    have hot : ot_ Ls (nI w) = Ls (1 - w) := ot_n hw
    refine lv_iload_n hx hb dX3_near_18 rfl (lv_at hl 2 rfl) ?_
    refine g_callS0 (y := yX3_isName) (n := 1) (As := [.int name]) (rest := []) hx hb hml hown hts hE hZ hP hS hl.1 (m_X3_isName l D hAD σ_1 (name)) k_X3_101 rfl rfl ⟨rfl, rfl⟩ ⟨Nat.le_of_ble_eq_true rfl, Nat.le_of_ble_eq_true rfl⟩ (Nat.le_of_ble_eq_true rfl) ⟨Nat.le_of_ble_eq_true rfl, Nat.le_of_ble_eq_true rfl⟩ dX3_near_19 (fun v17 σ_18 H locs hq hP hS => ?_)
    obtain ⟨rfl, rfl⟩ := hq
    refine W.eq (g2 := F0 m 22 ls [.int (if nm1_ (name) then 1 else 0)]) rfl ?_
    refine lv_if_ne (tgt := 31) hx hb dX3_near_22 (by decide) (fun h22 => ?_) (fun h22 => ?_)
    · have hq22 := g_pp1 h22
      have hne22 := ne_m1 (nm_le hq22).1
      refine lv_iconst (v := (-1)) hx hb dX3_near_31 (by decide) ?_
      refine lv_istore_n (lv' := [(3, .int ((-1))), (0, .ref (ad_ D 20)), (1, .int (nI w)), (2, .int name)]) hx hb dX3_near_32 rfl hl (by decide) rfl (fun ls hl => ?_)
      refine lv_bipush (v := nI 24) hx hb dX3_near_33 (by decide) ?_
      refine lv_iload_n hx hb dX3_near_35 rfl (lv_at hl 2 rfl) ?_
      refine lv_imul hx hb dX3_near_36 ?_
      refine g_top (y := nI (24 * w)) (pk_mul 24 w) ?_
      refine lv_istore (lv' := [(4, .int (nI (24 * w))), (3, .int ((-1))), (0, .ref (ad_ D 20)), (1, .int (nI w)), (2, .int name)]) hx hb dX3_near_37 hl (by decide) rfl (fun ls hl => ?_)
      have K39 : ∀ (fuel39 : Nat) (i : Nat), ((Ls w).length - i) < fuel39 → (i ≤ (Ls w).length) → ∀ (H : Heap) (locs : List Loc), va_P D vwCl (g_W D σ_1) H → va_S (g_A D s.heap.size) s.heap H locs → ∀ ls : Array Slot, lv_has ls 5 [(4, .int (nI ((24 * w) + i))), (3, .int (ne_ (Ls w) name i)), (0, .ref (ad_ D 20)), (1, .int (nI w)), (2, .int name)] → W p l e m_X3_near_rm s m args below meth c H locs 0 0 Q (F0 m 39 ls []) := by
        intro fuel39
        induction fuel39 with
        | zero => intro i hf; exact absurd hf (Nat.not_lt_zero _)
        | succ fuel39 ih39 =>
          intro i hf39 hi H locs hP hS ls hl
          refine lv_iload hx hb dX3_near_39 (lv_at hl 0 rfl) ?_
          refine lv_bipush (v := nI 24) hx hb dX3_near_41 (by decide) ?_
          refine lv_iload_n hx hb dX3_near_43 rfl (lv_at hl 3 rfl) ?_
          refine lv_imul hx hb dX3_near_44 ?_
          refine g_top (y := nI (24 * w)) (pk_mul 24 w) ?_
          refine lv_aload_n hx hb dX3_near_45 rfl (lv_at hl 2 rfl) ?_
          refine g_get hx hb hts hE hown hP g_inX3 rfl (by decide) hc3 1 (by decide) rfl wf_X3_9 (v := .ref (ad_ D 21)) rfl dX3_near_46 ?_
          refine lv_iload_n hx hb dX3_near_49 rfl (lv_at hl 3 rfl) ?_
          refine g_ialdN (j := w) hx hb hE hP (by decide) hc4 (by omega) (by decide) (v := nI ((Ls w).length)) (hmr.S (by omega)) dX3_near_50 ?_
          refine lv_iadd hx hb dX3_near_51 ?_
          refine g_top (y := nI ((24 * w) + ((Ls w).length))) (nI_add (24 * w) ((Ls w).length)) ?_
          refine lv_icmp_ge (tgt := 89) hx hb dX3_near_52 (by decide) (fun h52 => ?_) (fun h52 => ?_)
          · have hb52 := g_le (a := (24 * w) + ((Ls w).length)) (b := (24 * w) + i) h52 (by omega) (by omega)
            have hi2 : i = (Ls w).length := by omega
            refine lv_iload_n hx hb dX3_near_89 rfl (lv_at hl 1 rfl) ?_
            have hMp19 : g_Mf D σ_1 (nI 0) rs sg S N Z R T := ⟨hc3, hc4, hc5, hc6, hc7, hc8, hc9, hc10, hc11, hc12, hc13⟩
            rw [← hQ]
            exact W.iret (v := ne_ (Ls w) name i) hx hb hr (fun te9 hte9 _ => g_fin (⟨Or.inl ⟨by rw [er_miles, if_pos (ix_of hw (by decide)), if_pos hq22], w, hw, rfl, by rw [← hi2], ⟨_, _, _, _, _, _, _, hMp19, hmr⟩⟩, ho14⟩) hP hS hte9) hS.2.2 dX3_near_90 hlocks
          · have hb52 := g_nle (a := (24 * w) + ((Ls w).length)) (b := (24 * w) + i) h52 (by omega) (by omega)
            refine lv_iload_n hx hb dX3_near_55 rfl (lv_at hl 1 rfl) ?_
            refine lv_iconst (v := (-1)) hx hb dX3_near_56 (by decide) ?_
            refine lv_icmp_eq (tgt := 75) hx hb dX3_near_57 (by decide) (fun h57 => ?_) (fun h57 => ?_)
            · refine lv_aload_n hx hb dX3_near_75 rfl (lv_at hl 2 rfl) ?_
              refine g_get hx hb hts hE hown hP g_inX3 rfl (by decide) hc3 2 (by decide) rfl wf_X3_13 (v := .ref (ad_ D 22)) rfl dX3_near_76 ?_
              refine lv_iload hx hb dX3_near_79 (lv_at hl 0 rfl) ?_
              refine g_ialdN (j := (24 * w) + i) hx hb hE hP (by decide) hc5 (by omega) (by decide) (v := fn_ (Ls w) i) (hmr.N (by omega) (by omega)) dX3_near_81 ?_
              refine lv_istore_n (lv' := [(3, .int (fn_ (Ls w) i)), (4, .int (nI ((24 * w) + i))), (0, .ref (ad_ D 20)), (1, .int (nI w)), (2, .int name)]) hx hb dX3_near_82 rfl hl (by decide) rfl (fun ls hl => ?_)
              have hfx20 : (fn_ (Ls w) i) = ne_ (Ls w) name (i + 1) := by rw [ne_, if_pos (Or.inl h57)]
              rw [hfx20] at hl
              refine lv_iinc (v := nI ((24 * w) + i + 1)) (lv' := [(4, .int (nI ((24 * w) + i + 1))), (3, .int (ne_ (Ls w) name (i + 1))), (0, .ref (ad_ D 20)), (1, .int (nI w)), (2, .int name)]) hx hb dX3_near_83 hl (k := 1) rfl (g_inc ((24 * w) + i)) (by decide) rfl (fun ls hl => ?_)
              refine lv_goto (tgt := 39) hx hb dX3_near_86 (by decide) ?_
              exact ih39 (i + 1) (by omega) (by omega) _ _ hP hS ls (lv_sub hl [0, 1, 2, 3, 4] rfl)
            · refine lv_aload_n hx hb dX3_near_60 rfl (lv_at hl 2 rfl) ?_
              refine g_get hx hb hts hE hown hP g_inX3 rfl (by decide) hc3 2 (by decide) rfl wf_X3_13 (v := .ref (ad_ D 22)) rfl dX3_near_61 ?_
              refine lv_iload hx hb dX3_near_64 (lv_at hl 0 rfl) ?_
              refine g_ialdN (j := (24 * w) + i) hx hb hE hP (by decide) hc5 (by omega) (by decide) (v := fn_ (Ls w) i) (hmr.N (by omega) (by omega)) dX3_near_66 ?_
              refine lv_iload_n hx hb dX3_near_67 rfl (lv_at hl 4 rfl) ?_
              refine lv_ixor hx hb dX3_near_68 ?_
              refine lv_iload_n hx hb dX3_near_69 rfl (lv_at hl 1 rfl) ?_
              refine lv_iload_n hx hb dX3_near_70 rfl (lv_at hl 4 rfl) ?_
              refine lv_ixor hx hb dX3_near_71 ?_
              refine lv_icmp_ge (tgt := 83) hx hb dX3_near_72 (by decide) (fun h72 => ?_) (fun h72 => ?_)
              · have hfx21 : (ne_ (Ls w) name i) = ne_ (Ls w) name (i + 1) := by rw [ne_, if_neg (fun q => q.elim h57 (Int32.not_lt.mpr h72))]
                rw [hfx21] at hl
                refine lv_iinc (v := nI ((24 * w) + i + 1)) (lv' := [(4, .int (nI ((24 * w) + i + 1))), (3, .int (ne_ (Ls w) name (i + 1))), (0, .ref (ad_ D 20)), (1, .int (nI w)), (2, .int name)]) hx hb dX3_near_83 hl (k := 0) rfl (g_inc ((24 * w) + i)) (by decide) rfl (fun ls hl => ?_)
                refine lv_goto (tgt := 39) hx hb dX3_near_86 (by decide) ?_
                exact ih39 (i + 1) (by omega) (by omega) _ _ hP hS ls (lv_sub hl [0, 1, 2, 3, 4] rfl)
              · refine lv_aload_n hx hb dX3_near_75 rfl (lv_at hl 2 rfl) ?_
                refine g_get hx hb hts hE hown hP g_inX3 rfl (by decide) hc3 2 (by decide) rfl wf_X3_13 (v := .ref (ad_ D 22)) rfl dX3_near_76 ?_
                refine lv_iload hx hb dX3_near_79 (lv_at hl 0 rfl) ?_
                refine g_ialdN (j := (24 * w) + i) hx hb hE hP (by decide) hc5 (by omega) (by decide) (v := fn_ (Ls w) i) (hmr.N (by omega) (by omega)) dX3_near_81 ?_
                refine lv_istore_n (lv' := [(3, .int (fn_ (Ls w) i)), (4, .int (nI ((24 * w) + i))), (0, .ref (ad_ D 20)), (1, .int (nI w)), (2, .int name)]) hx hb dX3_near_82 rfl hl (by decide) rfl (fun ls hl => ?_)
                have hfx22 : (fn_ (Ls w) i) = ne_ (Ls w) name (i + 1) := by rw [ne_, if_pos (Or.inr (Int32.not_le.mp h72))]
                rw [hfx22] at hl
                refine lv_iinc (v := nI ((24 * w) + i + 1)) (lv' := [(4, .int (nI ((24 * w) + i + 1))), (3, .int (ne_ (Ls w) name (i + 1))), (0, .ref (ad_ D 20)), (1, .int (nI w)), (2, .int name)]) hx hb dX3_near_83 hl (k := 1) rfl (g_inc ((24 * w) + i)) (by decide) rfl (fun ls hl => ?_)
                refine lv_goto (tgt := 39) hx hb dX3_near_86 (by decide) ?_
                exact ih39 (i + 1) (by omega) (by omega) _ _ hP hS ls (lv_sub hl [0, 1, 2, 3, 4] rfl)
      exact K39 (((Ls w).length - 0) + 1) 0 (Nat.lt_succ_self _) (Nat.zero_le _) _ _ hP hS ls (lv_sub hl [0, 1, 2, 3, 4] rfl)
    · have hq22 := g_pp0 h22
      refine lv_aload_n hx hb dX3_near_25 rfl (lv_at hl 0 rfl) ?_
      refine lv_iconst (v := nI 2) hx hb dX3_near_26 (by decide) ?_
      have hMp23 : g_Mf D σ_1 (nI 0) rs sg S N Z R T := ⟨hc3, hc4, hc5, hc6, hc7, hc8, hc9, hc10, hc11, hc12, hc13⟩
      refine g_callV0 (y := yX3_no) (n := 1) (As := [.int (nI 2)]) (rest := []) hx hb hml hown hts hE hZ hP hS hl.1 (m_X3_no l D hAD σ_1 (nI 0) rs sg S N Z R T hMp23 (nI 2)) k_X3_98 (ci := 3) (by decide) hc3 rfl rfl rfl rfl rfl ⟨rfl, rfl⟩ ⟨Nat.le_of_ble_eq_true rfl, Nat.le_of_ble_eq_true rfl⟩ (Nat.le_of_ble_eq_true rfl) ⟨Nat.le_of_ble_eq_true rfl, Nat.le_of_ble_eq_true rfl⟩ dX3_near_27 (fun v24 σ_25 H locs hq hP hS => ?_)
      obtain ⟨rfl, hq2⟩ := hq
      refine W.eq (g2 := F0 m 30 ls [.int (nI 0)]) rfl ?_
      obtain ⟨hMn26, hon26⟩ := hq2
      obtain ⟨k27_20, k27_21, k27_22, k27_23, k27_24, k27_25, k27_26, k27_27, k27_28, k27_29, k27_30⟩ := id hMn26
      have ho28 := g_off.tr ho14 (g_off.wd hon26 (by decide) (by decide))
      have hMp29 : g_Mf D σ_25 (nI 2) rs sg S N Z R T := ⟨k27_20, k27_21, k27_22, k27_23, k27_24, k27_25, k27_26, k27_27, k27_28, k27_29, k27_30⟩
      rw [← hQ]
      exact W.iret (v := nI 0) hx hb hr (fun te9 hte9 _ => g_fin (⟨Or.inr ⟨2, by rw [er_miles, if_pos (ix_of hw (by decide)), if_neg hq22], by decide, rfl, ⟨_, _, _, _, _, _, _, hMp29, hmr⟩⟩, ho28⟩) hP hS hte9) hS.2.2 dX3_near_30 hlocks
  · have hq9 := g_pp0 h9
    refine lv_aload_n hx hb dX3_near_12 rfl (lv_at hl 0 rfl) ?_
    refine lv_iconst (v := nI 1) hx hb dX3_near_13 (by decide) ?_
    have hMp30 : g_Mf D σ_1 (nI 0) rs sg S N Z R T := ⟨hc3, hc4, hc5, hc6, hc7, hc8, hc9, hc10, hc11, hc12, hc13⟩
    refine g_callV0 (y := yX3_no) (n := 1) (As := [.int (nI 1)]) (rest := []) hx hb hml hown hts hE hZ hP hS hl.1 (m_X3_no l D hAD σ_1 (nI 0) rs sg S N Z R T hMp30 (nI 1)) k_X3_98 (ci := 3) (by decide) hc3 rfl rfl rfl rfl rfl ⟨rfl, rfl⟩ ⟨Nat.le_of_ble_eq_true rfl, Nat.le_of_ble_eq_true rfl⟩ (Nat.le_of_ble_eq_true rfl) ⟨Nat.le_of_ble_eq_true rfl, Nat.le_of_ble_eq_true rfl⟩ dX3_near_14 (fun v31 σ_32 H locs hq hP hS => ?_)
    obtain ⟨rfl, hq2⟩ := hq
    refine W.eq (g2 := F0 m 17 ls [.int (nI 0)]) rfl ?_
    obtain ⟨hMn33, hon33⟩ := hq2
    obtain ⟨k34_20, k34_21, k34_22, k34_23, k34_24, k34_25, k34_26, k34_27, k34_28, k34_29, k34_30⟩ := id hMn33
    have ho35 := g_off.tr ho14 (g_off.wd hon33 (by decide) (by decide))
    have hMp36 : g_Mf D σ_32 (nI 1) rs sg S N Z R T := ⟨k34_20, k34_21, k34_22, k34_23, k34_24, k34_25, k34_26, k34_27, k34_28, k34_29, k34_30⟩
    rw [← hQ]
    exact W.iret (v := nI 0) hx hb hr (fun te9 hte9 _ => g_fin (⟨Or.inr ⟨1, by rw [er_miles, if_neg hq9], by decide, rfl, ⟨_, _, _, _, _, _, _, hMp36, hmr⟩⟩, ho35⟩) hP hS hte9) hS.2.2 dX3_near_17 hlocks

abbrev m_X3_farthest_rm : Room := { frames := 8, cells := 0, slots := 0, locals := 200 }
set_option maxHeartbeats 4000000 in
set_option maxRecDepth 100000 in
theorem m_X3_farthest (l : Launch) (D : va_G) (hAD : g_AD D) (σ : Nat → va_E) (th rs sg : Int32) (S N Z R : Nat → Int32) (T : Nat → Nat → Int32) (hM : g_Mf D σ th rs sg S N Z R T) (Ls : Nat → g_L) (w : Nat) (hmr : mr_ Ls S N Z) (hw : w ≤ 1) : g_M l D yX3_farthest cX3_farthest 5 (some .int) m_X3_farthest_rm [.ref (ad_ D 20), .int (nI w)] σ (fun v1 σ1 => v1 = some (.int (fa_ (Ls w) (Ls w).length)) ∧ σ = σ1) := by
  refine g_ofW [(0, .ref (ad_ D 20)), (1, .int (nI w))] (by decide +kernel) (Nat.le_of_ble_eq_true rfl) rfl ?_
  intro p e s m args below meth c hx hb hr hml hown hlocks hts hE hZ hP hS hnm ls hl
  have hown : s.vm.findClass RX3 = some m.cls := hown
  generalize hQ : MQ _ _ _ _ _ _ _ = Q
  obtain ⟨k20, k21, k22, k23, k24, k25, k26, k27, k28, k29, k30⟩ := id hM
  have h24w := (hmr w hw).2.1
  refine lv_iconst (v := (-1)) hx hb dX3_farthest_0 (by decide) ?_
  refine lv_istore_n (lv' := [(2, .int ((-1))), (0, .ref (ad_ D 20)), (1, .int (nI w))]) hx hb dX3_farthest_1 rfl hl (by decide) rfl (fun ls hl => ?_)
  refine lv_bipush (v := nI 24) hx hb dX3_farthest_2 (by decide) ?_
  refine lv_iload_n hx hb dX3_farthest_4 rfl (lv_at hl 2 rfl) ?_
  refine lv_imul hx hb dX3_farthest_5 ?_
  refine g_top (y := nI (24 * w)) (pk_mul 24 w) ?_
  refine lv_istore_n (lv' := [(3, .int (nI (24 * w))), (2, .int ((-1))), (0, .ref (ad_ D 20)), (1, .int (nI w))]) hx hb dX3_farthest_6 rfl hl (by decide) rfl (fun ls hl => ?_)
  have K7 : ∀ (fuel7 : Nat) (i : Nat), ((Ls w).length - i) < fuel7 → (i ≤ (Ls w).length) → ∀ (H : Heap) (locs : List Loc), va_P D vwCl (g_W D σ) H → va_S (g_A D s.heap.size) s.heap H locs → ∀ ls : Array Slot, lv_has ls 5 [(3, .int (nI ((24 * w) + i))), (2, .int (fz_ (Ls w) i)), (0, .ref (ad_ D 20)), (1, .int (nI w))] → W p l e m_X3_farthest_rm s m args below meth c H locs 0 0 Q (F0 m 7 ls []) := by
    intro fuel7
    induction fuel7 with
    | zero => intro i hf; exact absurd hf (Nat.not_lt_zero _)
    | succ fuel7 ih7 =>
      intro i hf7 hi H locs hP hS ls hl
      refine lv_iload_n hx hb dX3_farthest_7 rfl (lv_at hl 0 rfl) ?_
      refine lv_bipush (v := nI 24) hx hb dX3_farthest_8 (by decide) ?_
      refine lv_iload_n hx hb dX3_farthest_10 rfl (lv_at hl 3 rfl) ?_
      refine lv_imul hx hb dX3_farthest_11 ?_
      refine g_top (y := nI (24 * w)) (pk_mul 24 w) ?_
      refine lv_aload_n hx hb dX3_farthest_12 rfl (lv_at hl 2 rfl) ?_
      refine g_get hx hb hts hE hown hP g_inX3 rfl (by decide) k20 1 (by decide) rfl wf_X3_9 (v := .ref (ad_ D 21)) rfl dX3_farthest_13 ?_
      refine lv_iload_n hx hb dX3_farthest_16 rfl (lv_at hl 3 rfl) ?_
      refine g_ialdN (j := w) hx hb hE hP (by decide) k21 (by omega) (by decide) (v := nI ((Ls w).length)) (hmr.S (by omega)) dX3_farthest_17 ?_
      refine lv_iadd hx hb dX3_farthest_18 ?_
      refine g_top (y := nI ((24 * w) + ((Ls w).length))) (nI_add (24 * w) ((Ls w).length)) ?_
      refine lv_icmp_ge (tgt := 65) hx hb dX3_farthest_19 (by decide) (fun h19 => ?_) (fun h19 => ?_)
      · have hb19 := g_le (a := (24 * w) + ((Ls w).length)) (b := (24 * w) + i) h19 (by omega) (by omega)
        have hi2 : i = (Ls w).length := by omega
        refine lv_iload_n hx hb dX3_farthest_65 rfl (lv_at hl 1 rfl) ?_
        rw [← hQ]
        exact W.iret (v := fz_ (Ls w) i) hx hb hr (fun te9 hte9 _ => g_fin (⟨by rw [hi2, fz_fa], rfl⟩) hP hS hte9) hS.2.2 dX3_farthest_66 hlocks
      · have hb19 := g_nle (a := (24 * w) + ((Ls w).length)) (b := (24 * w) + i) h19 (by omega) (by omega)
        refine lv_bipush (v := nI 24) hx hb dX3_farthest_22 (by decide) ?_
        refine lv_iload_n hx hb dX3_farthest_24 rfl (lv_at hl 3 rfl) ?_
        refine lv_imul hx hb dX3_farthest_25 ?_
        refine g_top (y := nI (24 * w)) (pk_mul 24 w) ?_
        refine lv_istore (lv' := [(4, .int (nI (24 * w))), (3, .int (nI ((24 * w) + i))), (2, .int (fz_ (Ls w) i)), (0, .ref (ad_ D 20)), (1, .int (nI w))]) hx hb dX3_farthest_26 hl (by decide) rfl (fun ls hl => ?_)
        have K28 : ∀ (fuel28 : Nat) (j : Nat), (i - j) < fuel28 → (j ≤ i) → ∀ (H : Heap) (locs : List Loc), va_P D vwCl (g_W D σ) H → va_S (g_A D s.heap.size) s.heap H locs → ∀ ls : Array Slot, lv_has ls 5 [(4, .int (nI ((24 * w) + j))), (2, .int (fb_ (Ls w) i (fz_ (Ls w) i) j)), (3, .int (nI ((24 * w) + i))), (0, .ref (ad_ D 20)), (1, .int (nI w))] → W p l e m_X3_farthest_rm s m args below meth c H locs 0 0 Q (F0 m 28 ls []) := by
          intro fuel28
          induction fuel28 with
          | zero => intro j hf; exact absurd hf (Nat.not_lt_zero _)
          | succ fuel28 ih28 =>
            intro j hf28 hj H locs hP hS ls hl
            refine lv_iload hx hb dX3_farthest_28 (lv_at hl 0 rfl) ?_
            refine lv_iload_n hx hb dX3_farthest_30 rfl (lv_at hl 2 rfl) ?_
            refine lv_icmp_ge (tgt := 59) hx hb dX3_farthest_31 (by decide) (fun h31 => ?_) (fun h31 => ?_)
            · have hb31 := g_le (a := (24 * w) + i) (b := (24 * w) + j) h31 (by omega) (by omega)
              have hj2 : j = i := by omega
              have hfx1 : (fb_ (Ls w) i (fz_ (Ls w) i) j) = fz_ (Ls w) (i + 1) := by rw [hj2]; rfl
              rw [hfx1] at hl
              refine lv_iinc (v := nI ((24 * w) + i + 1)) (lv' := [(3, .int (nI ((24 * w) + i + 1))), (4, .int (nI ((24 * w) + j))), (2, .int (fz_ (Ls w) (i + 1))), (0, .ref (ad_ D 20)), (1, .int (nI w))]) hx hb dX3_farthest_59 hl (k := 2) rfl (g_inc ((24 * w) + i)) (by decide) rfl (fun ls hl => ?_)
              refine lv_goto (tgt := 7) hx hb dX3_farthest_62 (by decide) ?_
              exact ih7 (i + 1) (by omega) (by omega) _ _ hP hS ls (lv_sub hl [0, 2, 3, 4] rfl)
            · have hb31 := g_nle (a := (24 * w) + i) (b := (24 * w) + j) h31 (by omega) (by omega)
              refine lv_iload_n hx hb dX3_farthest_34 rfl (lv_at hl 1 rfl) ?_
              refine lv_aload_n hx hb dX3_farthest_35 rfl (lv_at hl 3 rfl) ?_
              refine g_get hx hb hts hE hown hP g_inX3 rfl (by decide) k20 2 (by decide) rfl wf_X3_13 (v := .ref (ad_ D 22)) rfl dX3_farthest_36 ?_
              refine lv_iload_n hx hb dX3_farthest_39 rfl (lv_at hl 2 rfl) ?_
              refine g_ialdN (j := (24 * w) + i) hx hb hE hP (by decide) k22 (by omega) (by decide) (v := fn_ (Ls w) i) (hmr.N (by omega) (by omega)) dX3_farthest_40 ?_
              refine lv_aload_n hx hb dX3_farthest_41 rfl (lv_at hl 3 rfl) ?_
              refine g_get hx hb hts hE hown hP g_inX3 rfl (by decide) k20 2 (by decide) rfl wf_X3_13 (v := .ref (ad_ D 22)) rfl dX3_farthest_42 ?_
              refine lv_iload hx hb dX3_farthest_45 (lv_at hl 0 rfl) ?_
              refine g_ialdN (j := (24 * w) + j) hx hb hE hP (by decide) k22 (by omega) (by decide) (v := fn_ (Ls w) j) (hmr.N (by omega) (by omega)) dX3_farthest_47 ?_
              refine lv_ixor hx hb dX3_farthest_48 ?_
              refine g_mmax hx hb (hml.trans hl.1.symm) hown hts k_X3_91 k_max ⟨Nat.le_of_ble_eq_true rfl, Nat.le_of_ble_eq_true rfl, by omega, by omega⟩ dX3_farthest_49 ?_
              refine lv_istore_n (lv' := [(2, .int (if fb_ (Ls w) i (fz_ (Ls w) i) j < (fn_ (Ls w) i) ^^^ (fn_ (Ls w) j) then (fn_ (Ls w) i) ^^^ (fn_ (Ls w) j) else fb_ (Ls w) i (fz_ (Ls w) i) j)), (4, .int (nI ((24 * w) + j))), (3, .int (nI ((24 * w) + i))), (0, .ref (ad_ D 20)), (1, .int (nI w))]) hx hb dX3_farthest_52 rfl hl (by decide) rfl (fun ls hl => ?_)
              refine lv_iinc (v := nI ((24 * w) + j + 1)) (lv' := [(4, .int (nI ((24 * w) + j + 1))), (2, .int (if fb_ (Ls w) i (fz_ (Ls w) i) j < (fn_ (Ls w) i) ^^^ (fn_ (Ls w) j) then (fn_ (Ls w) i) ^^^ (fn_ (Ls w) j) else fb_ (Ls w) i (fz_ (Ls w) i) j)), (3, .int (nI ((24 * w) + i))), (0, .ref (ad_ D 20)), (1, .int (nI w))]) hx hb dX3_farthest_53 hl (k := 1) rfl (g_inc ((24 * w) + j)) (by decide) rfl (fun ls hl => ?_)
              refine lv_goto (tgt := 28) hx hb dX3_farthest_56 (by decide) ?_
              exact ih28 (j + 1) (by omega) (by omega) _ _ hP hS ls (lv_sub hl [0, 1, 2, 3, 4] rfl)
        exact K28 ((i - 0) + 1) 0 (Nat.lt_succ_self _) (Nat.zero_le _) _ _ hP hS ls (lv_sub hl [0, 2, 1, 3, 4] rfl)
  exact K7 (((Ls w).length - 0) + 1) 0 (Nat.lt_succ_self _) (Nat.zero_le _) _ _ hP hS ls (lv_sub hl [0, 1, 2, 3] rfl)

abbrev m_X3_far_rm : Room := { frames := 10, cells := 0, slots := 0, locals := 242 }
set_option maxHeartbeats 4000000 in
set_option maxRecDepth 100000 in
theorem m_X3_far (l : Launch) (D : va_G) (hAD : g_AD D) (σ : Nat → va_E) (th rs sg : Int32) (S N Z R : Nat → Int32) (T : Nat → Nat → Int32) (hM : g_Mf D σ th rs sg S N Z R T) (Ls : Nat → g_L) (wood : Int32) (hmr : mr_ Ls S N Z) (hvC : vC_ Ls) : g_M l D yX3_far cX3_far 2 (some .int) m_X3_far_rm [.ref (ad_ D 20), .int wood] σ (fun v1 σ1 => ((er_wood wood = 0 ∧ (∃ w, w ≤ 1 ∧ wood = nI w ∧ v1 = some (.int (fa_ (Ls w) (Ls w).length)) ∧ g_MM D σ1 (nI 0) Ls)) ∨ ∃ k9, er_wood wood = k9 ∧ k9 ≠ 0 ∧ v1 = some (.int (nI 0)) ∧ g_MM D σ1 (nI k9) Ls) ∧ g_off 20 30 σ σ1) := by
  refine g_ofW [(0, .ref (ad_ D 20)), (1, .int wood)] (by decide +kernel) (Nat.le_of_ble_eq_true rfl) rfl ?_
  intro p e s m args below meth c hx hb hr hml hown hlocks hts hE hZ hP hS hnm ls hl
  have hown : s.vm.findClass RX3 = some m.cls := hown
  generalize hQ : MQ _ _ _ _ _ _ _ = Q
  obtain ⟨k20, k21, k22, k23, k24, k25, k26, k27, k28, k29, k30⟩ := id hM
  refine lv_aload_n hx hb dX3_far_0 rfl (lv_at hl 0 rfl) ?_
  refine lv_iconst (v := nI 0) hx hb dX3_far_1 (by decide) ?_
  refine g_put hx hb hts hE hown hAD hP hS g_inX3 tyX3 tyX3_ok nmX3 rfl (by decide) k20 0 (by decide) rfl rfl (by decide +kernel) wf_X3_40 (v := nI 0) (Nat.le_of_ble_eq_true rfl) dX3_far_2 (fun H locs hP hS => ?_)
  obtain ⟨σ_1, hσ2⟩ : ∃ z : Nat → va_E, z = va_up σ 20 (.inr (3, [.int (nI 0), .ref (ad_ D 21), .ref (ad_ D 22), .ref (ad_ D 23), .ref (ad_ D 24), .int rs, .int sg, .ref (ad_ D 25), .ref (ad_ D 26), .ref (ad_ D 27), .ref (ad_ D 28), .ref (ad_ D 29), .ref (ad_ D 30)])) := ⟨_, rfl⟩
  have hP : va_P D vwCl (g_W D σ_1) H := by rw [hσ2]; exact hP
  have hc3 : σ_1 20 = .inr (3, [.int (nI 0), .ref (ad_ D 21), .ref (ad_ D 22), .ref (ad_ D 23), .ref (ad_ D 24), .int rs, .int sg, .ref (ad_ D 25), .ref (ad_ D 26), .ref (ad_ D 27), .ref (ad_ D 28), .ref (ad_ D 29), .ref (ad_ D 30)]) := by rw [hσ2]; exact g_ups
  have hc4 := (by rw [hσ2]; exact g_upn k21 (by decide) : σ_1 21 = .inl (g_cI D, 2, .inl (S)))
  have hc5 := (by rw [hσ2]; exact g_upn k22 (by decide) : σ_1 22 = .inl (g_cI D, 48, .inl (N)))
  have hc6 := (by rw [hσ2]; exact g_upn k23 (by decide) : σ_1 23 = .inl (g_cI D, 48, .inl (Z)))
  have hc7 := (by rw [hσ2]; exact g_upn k24 (by decide) : σ_1 24 = .inl (g_cI D, 48, .inl (R)))
  have hc8 := (by rw [hσ2]; exact g_upn k25 (by decide) : σ_1 25 = .inl (g_cI D, 96, .inl (T 0)))
  have hc9 := (by rw [hσ2]; exact g_upn k26 (by decide) : σ_1 26 = .inl (g_cI D, 96, .inl (T 1)))
  have hc10 := (by rw [hσ2]; exact g_upn k27 (by decide) : σ_1 27 = .inl (g_cI D, 96, .inl (T 2)))
  have hc11 := (by rw [hσ2]; exact g_upn k28 (by decide) : σ_1 28 = .inl (g_cI D, 96, .inl (T 3)))
  have hc12 := (by rw [hσ2]; exact g_upn k29 (by decide) : σ_1 29 = .inl (g_cI D, 96, .inl (T 4)))
  have hc13 := (by rw [hσ2]; exact g_upn k30 (by decide) : σ_1 30 = .inl (g_cI D, 96, .inl (T 5)))
  have ho14 : g_off 20 30 σ σ_1 := by rw [hσ2]; exact g_off.up (g_off.rf (lo := 20) (hi := 30) (σ := σ)) (by decide) (by decide)
  refine lv_iload_n hx hb dX3_far_5 rfl (lv_at hl 1 rfl) ?_
  refine g_callS0 (y := yX3_isWood) (n := 1) (As := [.int wood]) (rest := []) hx hb hml hown hts hE hZ hP hS hl.1 (m_X3_isWood l D hAD σ_1 (wood)) k_X3_94 rfl rfl ⟨rfl, rfl⟩ ⟨Nat.le_of_ble_eq_true rfl, Nat.le_of_ble_eq_true rfl⟩ (Nat.le_of_ble_eq_true rfl) ⟨Nat.le_of_ble_eq_true rfl, Nat.le_of_ble_eq_true rfl⟩ dX3_far_6 (fun v15 σ_16 H locs hq hP hS => ?_)
  obtain ⟨rfl, rfl⟩ := hq
  refine W.eq (g2 := F0 m 9 ls [.int (if wk1_ (wood) then 1 else 0)]) rfl ?_
  refine lv_if_eq (tgt := 20) hx hb dX3_far_9 (by decide) (fun h9 => ?_) (fun h9 => ?_)
  · have hq9 := g_pp0 h9
    refine lv_aload_n hx hb dX3_far_20 rfl (lv_at hl 0 rfl) ?_
    refine lv_iconst (v := nI 1) hx hb dX3_far_21 (by decide) ?_
    have hMp17 : g_Mf D σ_1 (nI 0) rs sg S N Z R T := ⟨hc3, hc4, hc5, hc6, hc7, hc8, hc9, hc10, hc11, hc12, hc13⟩
    refine g_callV0 (y := yX3_no) (n := 1) (As := [.int (nI 1)]) (rest := []) hx hb hml hown hts hE hZ hP hS hl.1 (m_X3_no l D hAD σ_1 (nI 0) rs sg S N Z R T hMp17 (nI 1)) k_X3_98 (ci := 3) (by decide) hc3 rfl rfl rfl rfl rfl ⟨rfl, rfl⟩ ⟨Nat.le_of_ble_eq_true rfl, Nat.le_of_ble_eq_true rfl⟩ (Nat.le_of_ble_eq_true rfl) ⟨Nat.le_of_ble_eq_true rfl, Nat.le_of_ble_eq_true rfl⟩ dX3_far_22 (fun v18 σ_19 H locs hq hP hS => ?_)
    obtain ⟨rfl, hq2⟩ := hq
    refine W.eq (g2 := F0 m 25 ls [.int (nI 0)]) rfl ?_
    obtain ⟨hMn20, hon20⟩ := hq2
    obtain ⟨k21_20, k21_21, k21_22, k21_23, k21_24, k21_25, k21_26, k21_27, k21_28, k21_29, k21_30⟩ := id hMn20
    have ho22 := g_off.tr ho14 (g_off.wd hon20 (by decide) (by decide))
    have hMp23 : g_Mf D σ_19 (nI 1) rs sg S N Z R T := ⟨k21_20, k21_21, k21_22, k21_23, k21_24, k21_25, k21_26, k21_27, k21_28, k21_29, k21_30⟩
    rw [← hQ]
    exact W.iret (v := nI 0) hx hb hr (fun te9 hte9 _ => g_fin (⟨Or.inr ⟨1, by rw [er_wood, if_neg hq9], by decide, rfl, ⟨_, _, _, _, _, _, _, hMp23, hmr⟩⟩, ho22⟩) hP hS hte9) hS.2.2 dX3_far_25 hlocks
  · have hq9 := g_pp1 h9
    obtain ⟨w, hw, hwe⟩ := ix_nat hq9 (by decide)
    subst hwe
    have hvw := hvC w hw
    have h24w := hvw.2
    have hvo := hvC (1 - w) (by omega)
    have h24o := hvo.2
    have hwl : wl_ Ls (nI w) = Ls w := wl_n hw
    have hot : ot_ Ls (nI w) = Ls (1 - w) := ot_n hw
    refine lv_aload_n hx hb dX3_far_12 rfl (lv_at hl 0 rfl) ?_
    refine lv_iload_n hx hb dX3_far_13 rfl (lv_at hl 1 rfl) ?_
    have hMp24 : g_Mf D σ_1 (nI 0) rs sg S N Z R T := ⟨hc3, hc4, hc5, hc6, hc7, hc8, hc9, hc10, hc11, hc12, hc13⟩
    refine g_callV0 (y := yX3_farthest) (n := 1) (As := [.int (nI w)]) (rest := []) hx hb hml hown hts hE hZ hP hS hl.1 (m_X3_farthest l D hAD σ_1 (nI 0) rs sg S N Z R T hMp24 Ls w hmr (by omega)) k_X3_147 (ci := 3) (by decide) hc3 rfl rfl rfl rfl rfl ⟨rfl, rfl⟩ ⟨Nat.le_of_ble_eq_true rfl, Nat.le_of_ble_eq_true rfl⟩ (Nat.le_of_ble_eq_true rfl) ⟨Nat.le_of_ble_eq_true rfl, Nat.le_of_ble_eq_true rfl⟩ dX3_far_14 (fun v25 σ_26 H locs hq hP hS => ?_)
    obtain ⟨rfl, rfl⟩ := hq
    refine W.eq (g2 := F0 m 17 ls [.int (fa_ (Ls w) (Ls w).length)]) rfl ?_
    refine lv_goto (tgt := 25) hx hb dX3_far_17 (by decide) ?_
    have hMp27 : g_Mf D σ_1 (nI 0) rs sg S N Z R T := ⟨hc3, hc4, hc5, hc6, hc7, hc8, hc9, hc10, hc11, hc12, hc13⟩
    rw [← hQ]
    exact W.iret (v := fa_ (Ls w) (Ls w).length) hx hb hr (fun te9 hte9 _ => g_fin (⟨Or.inl ⟨by rw [er_wood, if_pos (ix_of hw (by decide))], w, hw, rfl, rfl, ⟨_, _, _, _, _, _, _, hMp27, hmr⟩⟩, ho14⟩) hP hS hte9) hS.2.2 dX3_far_25 hlocks

abbrev m_X3_unlike_rm : Room := { frames := 10, cells := 0, slots := 0, locals := 242 }
set_option maxHeartbeats 4000000 in
set_option maxRecDepth 100000 in
theorem m_X3_unlike (l : Launch) (D : va_G) (hAD : g_AD D) (σ : Nat → va_E) (th rs sg : Int32) (S N Z R : Nat → Int32) (T : Nat → Nat → Int32) (hM : g_Mf D σ th rs sg S N Z R T) (Ls : Nat → g_L) (a b : Int32) (hmr : mr_ Ls S N Z) (hvC : vC_ Ls) : g_M l D yX3_unlike cX3_unlike 3 (some .int) m_X3_unlike_rm [.ref (ad_ D 20), .int a, .int b] σ (fun v1 σ1 => ((er_unlike a b = 0 ∧ (v1 = some (.int (fub_ a b)) ∧ nm1_ a ∧ nm1_ b ∧ g_MM D σ1 (nI 0) Ls)) ∨ ∃ k9, er_unlike a b = k9 ∧ k9 ≠ 0 ∧ v1 = some (.int (nI 0)) ∧ g_MM D σ1 (nI k9) Ls) ∧ g_off 20 30 σ σ1) := by
  refine g_ofW [(0, .ref (ad_ D 20)), (1, .int a), (2, .int b)] (by decide +kernel) (Nat.le_of_ble_eq_true rfl) rfl ?_
  intro p e s m args below meth c hx hb hr hml hown hlocks hts hE hZ hP hS hnm ls hl
  have hown : s.vm.findClass RX3 = some m.cls := hown
  generalize hQ : MQ _ _ _ _ _ _ _ = Q
  obtain ⟨k20, k21, k22, k23, k24, k25, k26, k27, k28, k29, k30⟩ := id hM
  refine lv_aload_n hx hb dX3_unlike_0 rfl (lv_at hl 0 rfl) ?_
  refine lv_iconst (v := nI 0) hx hb dX3_unlike_1 (by decide) ?_
  refine g_put hx hb hts hE hown hAD hP hS g_inX3 tyX3 tyX3_ok nmX3 rfl (by decide) k20 0 (by decide) rfl rfl (by decide +kernel) wf_X3_40 (v := nI 0) (Nat.le_of_ble_eq_true rfl) dX3_unlike_2 (fun H locs hP hS => ?_)
  obtain ⟨σ_1, hσ2⟩ : ∃ z : Nat → va_E, z = va_up σ 20 (.inr (3, [.int (nI 0), .ref (ad_ D 21), .ref (ad_ D 22), .ref (ad_ D 23), .ref (ad_ D 24), .int rs, .int sg, .ref (ad_ D 25), .ref (ad_ D 26), .ref (ad_ D 27), .ref (ad_ D 28), .ref (ad_ D 29), .ref (ad_ D 30)])) := ⟨_, rfl⟩
  have hP : va_P D vwCl (g_W D σ_1) H := by rw [hσ2]; exact hP
  have hc3 : σ_1 20 = .inr (3, [.int (nI 0), .ref (ad_ D 21), .ref (ad_ D 22), .ref (ad_ D 23), .ref (ad_ D 24), .int rs, .int sg, .ref (ad_ D 25), .ref (ad_ D 26), .ref (ad_ D 27), .ref (ad_ D 28), .ref (ad_ D 29), .ref (ad_ D 30)]) := by rw [hσ2]; exact g_ups
  have hc4 := (by rw [hσ2]; exact g_upn k21 (by decide) : σ_1 21 = .inl (g_cI D, 2, .inl (S)))
  have hc5 := (by rw [hσ2]; exact g_upn k22 (by decide) : σ_1 22 = .inl (g_cI D, 48, .inl (N)))
  have hc6 := (by rw [hσ2]; exact g_upn k23 (by decide) : σ_1 23 = .inl (g_cI D, 48, .inl (Z)))
  have hc7 := (by rw [hσ2]; exact g_upn k24 (by decide) : σ_1 24 = .inl (g_cI D, 48, .inl (R)))
  have hc8 := (by rw [hσ2]; exact g_upn k25 (by decide) : σ_1 25 = .inl (g_cI D, 96, .inl (T 0)))
  have hc9 := (by rw [hσ2]; exact g_upn k26 (by decide) : σ_1 26 = .inl (g_cI D, 96, .inl (T 1)))
  have hc10 := (by rw [hσ2]; exact g_upn k27 (by decide) : σ_1 27 = .inl (g_cI D, 96, .inl (T 2)))
  have hc11 := (by rw [hσ2]; exact g_upn k28 (by decide) : σ_1 28 = .inl (g_cI D, 96, .inl (T 3)))
  have hc12 := (by rw [hσ2]; exact g_upn k29 (by decide) : σ_1 29 = .inl (g_cI D, 96, .inl (T 4)))
  have hc13 := (by rw [hσ2]; exact g_upn k30 (by decide) : σ_1 30 = .inl (g_cI D, 96, .inl (T 5)))
  have ho14 : g_off 20 30 σ σ_1 := by rw [hσ2]; exact g_off.up (g_off.rf (lo := 20) (hi := 30) (σ := σ)) (by decide) (by decide)
  refine lv_iload_n hx hb dX3_unlike_5 rfl (lv_at hl 1 rfl) ?_
  refine g_callS0 (y := yX3_isName) (n := 1) (As := [.int a]) (rest := []) hx hb hml hown hts hE hZ hP hS hl.1 (m_X3_isName l D hAD σ_1 (a)) k_X3_101 rfl rfl ⟨rfl, rfl⟩ ⟨Nat.le_of_ble_eq_true rfl, Nat.le_of_ble_eq_true rfl⟩ (Nat.le_of_ble_eq_true rfl) ⟨Nat.le_of_ble_eq_true rfl, Nat.le_of_ble_eq_true rfl⟩ dX3_unlike_6 (fun v15 σ_16 H locs hq hP hS => ?_)
  obtain ⟨rfl, rfl⟩ := hq
  refine W.eq (g2 := F0 m 9 ls [.int (if nm1_ (a) then 1 else 0)]) rfl ?_
  refine lv_if_eq (tgt := 28) hx hb dX3_unlike_9 (by decide) (fun h9 => ?_) (fun h9 => ?_)
  · have hq9 := g_pp0 h9
    refine lv_aload_n hx hb dX3_unlike_28 rfl (lv_at hl 0 rfl) ?_
    refine lv_iconst (v := nI 1) hx hb dX3_unlike_29 (by decide) ?_
    have hMp17 : g_Mf D σ_1 (nI 0) rs sg S N Z R T := ⟨hc3, hc4, hc5, hc6, hc7, hc8, hc9, hc10, hc11, hc12, hc13⟩
    refine g_callV0 (y := yX3_no) (n := 1) (As := [.int (nI 1)]) (rest := []) hx hb hml hown hts hE hZ hP hS hl.1 (m_X3_no l D hAD σ_1 (nI 0) rs sg S N Z R T hMp17 (nI 1)) k_X3_98 (ci := 3) (by decide) hc3 rfl rfl rfl rfl rfl ⟨rfl, rfl⟩ ⟨Nat.le_of_ble_eq_true rfl, Nat.le_of_ble_eq_true rfl⟩ (Nat.le_of_ble_eq_true rfl) ⟨Nat.le_of_ble_eq_true rfl, Nat.le_of_ble_eq_true rfl⟩ dX3_unlike_30 (fun v18 σ_19 H locs hq hP hS => ?_)
    obtain ⟨rfl, hq2⟩ := hq
    refine W.eq (g2 := F0 m 33 ls [.int (nI 0)]) rfl ?_
    obtain ⟨hMn20, hon20⟩ := hq2
    obtain ⟨k21_20, k21_21, k21_22, k21_23, k21_24, k21_25, k21_26, k21_27, k21_28, k21_29, k21_30⟩ := id hMn20
    have ho22 := g_off.tr ho14 (g_off.wd hon20 (by decide) (by decide))
    have hMp23 : g_Mf D σ_19 (nI 1) rs sg S N Z R T := ⟨k21_20, k21_21, k21_22, k21_23, k21_24, k21_25, k21_26, k21_27, k21_28, k21_29, k21_30⟩
    rw [← hQ]
    exact W.iret (v := nI 0) hx hb hr (fun te9 hte9 _ => g_fin (⟨Or.inr ⟨1, by rw [er_unlike, if_neg (fun q => hq9 q.1)], by decide, rfl, ⟨_, _, _, _, _, _, _, hMp23, hmr⟩⟩, ho22⟩) hP hS hte9) hS.2.2 dX3_unlike_33 hlocks
  · have hq9 := g_pp1 h9
    have hne9 := ne_m1 (nm_le hq9).1
    refine lv_iload_n hx hb dX3_unlike_12 rfl (lv_at hl 2 rfl) ?_
    refine g_callS0 (y := yX3_isName) (n := 1) (As := [.int b]) (rest := []) hx hb hml hown hts hE hZ hP hS hl.1 (m_X3_isName l D hAD σ_1 (b)) k_X3_101 rfl rfl ⟨rfl, rfl⟩ ⟨Nat.le_of_ble_eq_true rfl, Nat.le_of_ble_eq_true rfl⟩ (Nat.le_of_ble_eq_true rfl) ⟨Nat.le_of_ble_eq_true rfl, Nat.le_of_ble_eq_true rfl⟩ dX3_unlike_13 (fun v24 σ_25 H locs hq hP hS => ?_)
    obtain ⟨rfl, rfl⟩ := hq
    refine W.eq (g2 := F0 m 16 ls [.int (if nm1_ (b) then 1 else 0)]) rfl ?_
    refine lv_if_eq (tgt := 28) hx hb dX3_unlike_16 (by decide) (fun h16 => ?_) (fun h16 => ?_)
    · have hq16 := g_pp0 h16
      refine lv_aload_n hx hb dX3_unlike_28 rfl (lv_at hl 0 rfl) ?_
      refine lv_iconst (v := nI 1) hx hb dX3_unlike_29 (by decide) ?_
      have hMp26 : g_Mf D σ_1 (nI 0) rs sg S N Z R T := ⟨hc3, hc4, hc5, hc6, hc7, hc8, hc9, hc10, hc11, hc12, hc13⟩
      refine g_callV0 (y := yX3_no) (n := 1) (As := [.int (nI 1)]) (rest := []) hx hb hml hown hts hE hZ hP hS hl.1 (m_X3_no l D hAD σ_1 (nI 0) rs sg S N Z R T hMp26 (nI 1)) k_X3_98 (ci := 3) (by decide) hc3 rfl rfl rfl rfl rfl ⟨rfl, rfl⟩ ⟨Nat.le_of_ble_eq_true rfl, Nat.le_of_ble_eq_true rfl⟩ (Nat.le_of_ble_eq_true rfl) ⟨Nat.le_of_ble_eq_true rfl, Nat.le_of_ble_eq_true rfl⟩ dX3_unlike_30 (fun v27 σ_28 H locs hq hP hS => ?_)
      obtain ⟨rfl, hq2⟩ := hq
      refine W.eq (g2 := F0 m 33 ls [.int (nI 0)]) rfl ?_
      obtain ⟨hMn29, hon29⟩ := hq2
      obtain ⟨k30_20, k30_21, k30_22, k30_23, k30_24, k30_25, k30_26, k30_27, k30_28, k30_29, k30_30⟩ := id hMn29
      have ho31 := g_off.tr ho14 (g_off.wd hon29 (by decide) (by decide))
      have hMp32 : g_Mf D σ_28 (nI 1) rs sg S N Z R T := ⟨k30_20, k30_21, k30_22, k30_23, k30_24, k30_25, k30_26, k30_27, k30_28, k30_29, k30_30⟩
      rw [← hQ]
      exact W.iret (v := nI 0) hx hb hr (fun te9 hte9 _ => g_fin (⟨Or.inr ⟨1, by rw [er_unlike, if_neg (fun q => hq16 q.2)], by decide, rfl, ⟨_, _, _, _, _, _, _, hMp32, hmr⟩⟩, ho31⟩) hP hS hte9) hS.2.2 dX3_unlike_33 hlocks
    · have hq16 := g_pp1 h16
      have hne16 := ne_m1 (nm_le hq16).1
      refine lv_iload_n hx hb dX3_unlike_19 rfl (lv_at hl 1 rfl) ?_
      refine lv_iload_n hx hb dX3_unlike_20 rfl (lv_at hl 2 rfl) ?_
      refine lv_ixor hx hb dX3_unlike_21 ?_
      obtain ⟨u33, hu33, eu33⟩ := xor_nat (nm_le hq9) (nm_le hq16)
      rw [eu33]
      refine g_callS0 (y := yX3_topBit) (n := 1) (As := [.int (nI u33)]) (rest := []) hx hb hml hown hts hE hZ hP hS hl.1 (m_X3_topBit l D hAD σ_1 u33 hu33) k_X3_72 rfl rfl ⟨rfl, rfl⟩ ⟨Nat.le_of_ble_eq_true rfl, Nat.le_of_ble_eq_true rfl⟩ (Nat.le_of_ble_eq_true rfl) ⟨Nat.le_of_ble_eq_true rfl, Nat.le_of_ble_eq_true rfl⟩ dX3_unlike_22 (fun v34 σ_35 H locs hq hP hS => ?_)
      obtain ⟨rfl, rfl⟩ := hq
      refine W.eq (g2 := F0 m 25 ls [.int (tp_ (nI u33))]) rfl ?_
      refine g_top (y := tp_ (a ^^^ b)) (by rw [eu33]) ?_
      refine lv_goto (tgt := 33) hx hb dX3_unlike_25 (by decide) ?_
      have hMp36 : g_Mf D σ_1 (nI 0) rs sg S N Z R T := ⟨hc3, hc4, hc5, hc6, hc7, hc8, hc9, hc10, hc11, hc12, hc13⟩
      rw [← hQ]
      exact W.iret (v := tp_ (a ^^^ b)) hx hb hr (fun te9 hte9 _ => g_fin (⟨Or.inl ⟨by rw [er_unlike, if_pos ⟨hq9, hq16⟩], rfl, hq9, hq16, ⟨_, _, _, _, _, _, _, hMp36, hmr⟩⟩, ho14⟩) hP hS hte9) hS.2.2 dX3_unlike_33 hlocks
