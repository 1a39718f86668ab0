abbrev m_X3_lookAtBoth_rm : Room := { frames := 62, cells := 0, slots := 0, locals := 1545 }
set_option maxHeartbeats 4000000 in
set_option maxRecDepth 100000 in
theorem m_X3_lookAtBoth (l : Launch) (D : va_G) (hAD : g_AD D) (σ : Nat → va_E) (th rs sg : Int32) (S N Z R : Nat → Int32) (T : Nat → Nat → Int32) (hM : g_Mf D σ th rs sg S N Z R T) (Ls : Nat → g_L)  (hmr : mr_ Ls S N Z) (hvC : vC_ Ls) : g_M l D yX3_lookAtBoth cX3_lookAtBoth 5 none m_X3_lookAtBoth_rm [.ref (ad_ D 20)] σ (fun v1 σ1 => v1 = none ∧ (∃ R1 T1, g_Mf D σ1 th (nI (bo_ (Ls 0) (Ls 1)).length) (nI (zs_ (bo_ (Ls 0) (Ls 1)).length)) S N Z R1 T1 ∧ (∀ j, j < (bo_ (Ls 0) (Ls 1)).length → R1 j = fn_ (bo_ (Ls 0) (Ls 1)) j) ∧ mB_ (fn_ (bo_ (Ls 0) (Ls 1))) (bo_ (Ls 0) (Ls 1)).length T1) ∧ g_off 20 30 σ σ1) := by
  refine g_ofW [(0, .ref (ad_ D 20))] (by decide +kernel) (Nat.le_of_ble_eq_true rfl) rfl ?_
  intro p e s m args below meth c hx hb hr hml hown hlocks hts hE hZ hP hS hnm ls hl
  have hown : s.vm.findClass RX3 = some m.cls := hown
  generalize hQ : MQ _ _ _ _ _ _ _ = Q
  obtain ⟨k20, k21, k22, k23, k24, k25, k26, k27, k28, k29, k30⟩ := id hM
  have h240 := (hmr 0 (by decide)).2.1
  have h241 := (hmr 1 (by decide)).2.1
  have hlu := lu_bo (hvC 0 (by decide)).1 (hvC 1 (by decide)).1
  have hbl := bo_len (A := Ls 0) (B := Ls 1)
  obtain ⟨U, hU⟩ : ∃ z, z = bo_ (Ls 0) (Ls 1) := ⟨_, rfl⟩
  rw [← hU] at hlu hbl
  refine lv_aload_n hx hb dX3_lookAtBoth_0 rfl (lv_at hl 0 rfl) ?_
  refine lv_iconst (v := nI 0) hx hb dX3_lookAtBoth_1 (by decide) ?_
  refine g_put hx hb hts hE hown hAD hP hS g_inX3 tyX3 tyX3_ok nmX3 rfl (by decide) k20 5 (by decide) rfl rfl (by decide +kernel) wf_X3_79 (v := nI 0) (Nat.le_of_ble_eq_true rfl) dX3_lookAtBoth_2 (fun H locs hP hS => ?_)
  obtain ⟨σ_1, hσ2⟩ : ∃ z : Nat → va_E, z = va_up σ 20 (.inr (3, [.int th, .ref (ad_ D 21), .ref (ad_ D 22), .ref (ad_ D 23), .ref (ad_ D 24), .int (nI 0), .int sg, .ref (ad_ D 25), .ref (ad_ D 26), .ref (ad_ D 27), .ref (ad_ D 28), .ref (ad_ D 29), .ref (ad_ D 30)])) := ⟨_, rfl⟩
  have hP : va_P D vwCl (g_W D σ_1) H := by rw [hσ2]; exact hP
  have hc3 : σ_1 20 = .inr (3, [.int th, .ref (ad_ D 21), .ref (ad_ D 22), .ref (ad_ D 23), .ref (ad_ D 24), .int (nI 0), .int sg, .ref (ad_ D 25), .ref (ad_ D 26), .ref (ad_ D 27), .ref (ad_ D 28), .ref (ad_ D 29), .ref (ad_ D 30)]) := by rw [hσ2]; exact g_ups
  have hc4 := (by rw [hσ2]; exact g_upn k21 (by decide) : σ_1 21 = .inl (g_cI D, 2, .inl (S)))
  have hc5 := (by rw [hσ2]; exact g_upn k22 (by decide) : σ_1 22 = .inl (g_cI D, 48, .inl (N)))
  have hc6 := (by rw [hσ2]; exact g_upn k23 (by decide) : σ_1 23 = .inl (g_cI D, 48, .inl (Z)))
  have hc7 := (by rw [hσ2]; exact g_upn k24 (by decide) : σ_1 24 = .inl (g_cI D, 48, .inl (R)))
  have hc8 := (by rw [hσ2]; exact g_upn k25 (by decide) : σ_1 25 = .inl (g_cI D, 96, .inl (T 0)))
  have hc9 := (by rw [hσ2]; exact g_upn k26 (by decide) : σ_1 26 = .inl (g_cI D, 96, .inl (T 1)))
  have hc10 := (by rw [hσ2]; exact g_upn k27 (by decide) : σ_1 27 = .inl (g_cI D, 96, .inl (T 2)))
  have hc11 := (by rw [hσ2]; exact g_upn k28 (by decide) : σ_1 28 = .inl (g_cI D, 96, .inl (T 3)))
  have hc12 := (by rw [hσ2]; exact g_upn k29 (by decide) : σ_1 29 = .inl (g_cI D, 96, .inl (T 4)))
  have hc13 := (by rw [hσ2]; exact g_upn k30 (by decide) : σ_1 30 = .inl (g_cI D, 96, .inl (T 5)))
  have ho14 : g_off 20 30 σ σ_1 := by rw [hσ2]; exact g_off.up (g_off.rf (lo := 20) (hi := 30) (σ := σ)) (by decide) (by decide)
  refine lv_iconst (v := nI 0) hx hb dX3_lookAtBoth_5 (by decide) ?_
  refine lv_istore_n (lv' := [(1, .int (nI 0)), (0, .ref (ad_ D 20))]) hx hb dX3_lookAtBoth_6 rfl hl (by decide) rfl (fun ls hl => ?_)
  refine lv_iconst (v := nI 0) hx hb dX3_lookAtBoth_7 (by decide) ?_
  have hfx15 : (nI 0) = nI (rk_ (Ls 0) (uk_ U 0)) := congrArg nI (lu_st hlu).symm
  rw [hfx15] at hl
  refine g_top (y := nI (rk_ (Ls 1) (uk_ U 0))) (congrArg nI (lu_st hlu.sw).symm) ?_
  refine lv_istore_n (lv' := [(2, .int (nI (rk_ (Ls 1) (uk_ U 0)))), (1, .int (nI (rk_ (Ls 0) (uk_ U 0)))), (0, .ref (ad_ D 20))]) hx hb dX3_lookAtBoth_8 rfl hl (by decide) rfl (fun ls hl => ?_)
  have K9 : ∀ (fuel9 : Nat) (m9 : Nat) (σ2 : Nat → va_E) (R2 : Nat → Int32), (U.length - m9) < fuel9 → (m9 ≤ U.length) → (g_Mf D σ2 th (nI m9) sg S N Z R2 T) → (∀ j, j < m9 → R2 j = fn_ U j) → (g_off 20 30 σ σ2) → ∀ (H : Heap) (locs : List Loc), va_P D vwCl (g_W D σ2) H → va_S (g_A D s.heap.size) s.heap H locs → ∀ ls : Array Slot, lv_has ls 5 [(1, .int (nI (rk_ (Ls 0) (uk_ U m9)))), (2, .int (nI (rk_ (Ls 1) (uk_ U m9)))), (0, .ref (ad_ D 20))] → W p l e m_X3_lookAtBoth_rm s m args below meth c H locs 0 0 Q (F0 m 9 ls []) := by
    intro fuel9
    induction fuel9 with
    | zero => intro m9 σ2 R2 hf; exact absurd hf (Nat.not_lt_zero _)
    | succ fuel9 ih9 =>
      intro m9 σ2 R2 hf9 hm9 hM2 hR2 ho2 H locs hP hS ls hl
      obtain ⟨t_20, t_21, t_22, t_23, t_24, t_25, t_26, t_27, t_28, t_29, t_30⟩ := id hM2
      have hra := rk_le (Ls 0) (uk_ U m9)
      have hrb := rk_le (Ls 1) (uk_ U m9)
      refine lv_iload_n hx hb dX3_lookAtBoth_9 rfl (lv_at hl 0 rfl) ?_
      refine lv_aload_n hx hb dX3_lookAtBoth_10 rfl (lv_at hl 2 rfl) ?_
      refine g_get hx hb hts hE hown hP g_inX3 rfl (by decide) t_20 1 (by decide) rfl wf_X3_9 (v := .ref (ad_ D 21)) rfl dX3_lookAtBoth_11 ?_
      refine lv_iconst (v := nI 0) hx hb dX3_lookAtBoth_14 (by decide) ?_
      refine g_ialdN (j := 0) hx hb hE hP (by decide) t_21 (by omega) (by decide) (v := nI ((Ls 0).length)) (hmr.S (by omega)) dX3_lookAtBoth_15 ?_
      refine lv_icmp_lt (tgt := 29) hx hb dX3_lookAtBoth_16 (by decide) (fun h16 => ?_) (fun h16 => ?_)
      · have hb16 := g_lt (a := rk_ (Ls 0) (uk_ U m9)) (b := (Ls 0).length) h16 (by omega) (by omega)
        have hmU := lu_go hlu hm9 (Or.inl hb16)
        refine lv_iload_n hx hb dX3_lookAtBoth_29 rfl (lv_at hl 0 rfl) ?_
        refine lv_aload_n hx hb dX3_lookAtBoth_30 rfl (lv_at hl 2 rfl) ?_
        refine g_get hx hb hts hE hown hP g_inX3 rfl (by decide) t_20 1 (by decide) rfl wf_X3_9 (v := .ref (ad_ D 21)) rfl dX3_lookAtBoth_31 ?_
        refine lv_iconst (v := nI 0) hx hb dX3_lookAtBoth_34 (by decide) ?_
        refine g_ialdN (j := 0) hx hb hE hP (by decide) t_21 (by omega) (by decide) (v := nI ((Ls 0).length)) (hmr.S (by omega)) dX3_lookAtBoth_35 ?_
        refine lv_icmp_ge (tgt := 48) hx hb dX3_lookAtBoth_36 (by decide) (fun h36 => ?_) (fun h36 => ?_)
        · have hb36 := g_le (a := (Ls 0).length) (b := rk_ (Ls 0) (uk_ U m9)) h36 (by omega) (by omega)
          refine lv_ldc (v := 65536) hx hb hown (hts _ wc_X3_85) dX3_lookAtBoth_48 ?_
          refine g_top (y := nI 65536) (by decide) ?_
          refine lv_istore_n (lv' := [(3, .int (nI 65536)), (1, .int (nI (rk_ (Ls 0) (uk_ U m9)))), (2, .int (nI (rk_ (Ls 1) (uk_ U m9)))), (0, .ref (ad_ D 20))]) hx hb dX3_lookAtBoth_50 rfl hl (by decide) rfl (fun ls hl => ?_)
          have hfx16 : (nI 65536) = on_ (Ls 0) (uk_ U m9) := (if_neg (by omega)).symm
          rw [hfx16] at hl
          refine lv_iload_n hx hb dX3_lookAtBoth_51 rfl (lv_at hl 2 rfl) ?_
          refine lv_aload_n hx hb dX3_lookAtBoth_52 rfl (lv_at hl 3 rfl) ?_
          refine g_get hx hb hts hE hown hP g_inX3 rfl (by decide) t_20 1 (by decide) rfl wf_X3_9 (v := .ref (ad_ D 21)) rfl dX3_lookAtBoth_53 ?_
          refine lv_iconst (v := nI 1) hx hb dX3_lookAtBoth_56 (by decide) ?_
          refine g_ialdN (j := 1) hx hb hE hP (by decide) t_21 (by omega) (by decide) (v := nI ((Ls 1).length)) (hmr.S (by omega)) dX3_lookAtBoth_57 ?_
          refine lv_icmp_ge (tgt := 73) hx hb dX3_lookAtBoth_58 (by decide) (fun h58 => ?_) (fun h58 => ?_)
          · have hb58 := g_le (a := (Ls 1).length) (b := rk_ (Ls 1) (uk_ U m9)) h58 (by omega) (by omega)
            refine lv_ldc (v := 65536) hx hb hown (hts _ wc_X3_85) dX3_lookAtBoth_73 ?_
            refine g_top (y := nI 65536) (by decide) ?_
            refine lv_istore (lv' := [(4, .int (nI 65536)), (3, .int (on_ (Ls 0) (uk_ U m9))), (1, .int (nI (rk_ (Ls 0) (uk_ U m9)))), (2, .int (nI (rk_ (Ls 1) (uk_ U m9)))), (0, .ref (ad_ D 20))]) hx hb dX3_lookAtBoth_75 hl (by decide) rfl (fun ls hl => ?_)
            have hfx17 : (nI 65536) = on_ (Ls 1) (uk_ U m9) := (if_neg (by omega)).symm
            rw [hfx17] at hl
            refine lv_aload_n hx hb dX3_lookAtBoth_77 rfl (lv_at hl 4 rfl) ?_
            refine g_get hx hb hts hE hown hP g_inX3 rfl (by decide) t_20 4 (by decide) rfl wf_X3_19 (v := .ref (ad_ D 24)) rfl dX3_lookAtBoth_78 ?_
            refine lv_aload_n hx hb dX3_lookAtBoth_81 rfl (lv_at hl 4 rfl) ?_
            refine g_get hx hb hts hE hown hP g_inX3 rfl (by decide) t_20 5 (by decide) rfl wf_X3_79 (v := .int (nI m9)) rfl dX3_lookAtBoth_82 ?_
            refine lv_iload_n hx hb dX3_lookAtBoth_85 rfl (lv_at hl 1 rfl) ?_
            refine lv_iload hx hb dX3_lookAtBoth_86 (lv_at hl 0 rfl) ?_
            refine g_mmin hx hb (hml.trans hl.1.symm) hown hts k_X3_86 k_min ⟨Nat.le_of_ble_eq_true rfl, Nat.le_of_ble_eq_true rfl, by omega, by omega⟩ dX3_lookAtBoth_88 ?_
            refine g_top (y := fn_ U m9) (lu_min hlu hmU) ?_
            refine g_iastN (j := m9) (x := fn_ U m9) hx hb hE hAD hP hS (by decide) t_24 (by omega) (by decide) dX3_lookAtBoth_91 (fun H locs hP hS => ?_)
            obtain ⟨σ_18, hσ19⟩ : ∃ z : Nat → va_E, z = va_up σ2 24 (.inl (g_cI D, 48, .inl (upd R2 m9 (fn_ U m9)))) := ⟨_, rfl⟩
            have hP : va_P D vwCl (g_W D σ_18) H := by rw [hσ19]; exact hP
            have hc20 := (by rw [hσ19]; exact g_upn t_20 (by decide) : σ_18 20 = .inr (3, [.int th, .ref (ad_ D 21), .ref (ad_ D 22), .ref (ad_ D 23), .ref (ad_ D 24), .int (nI m9), .int sg, .ref (ad_ D 25), .ref (ad_ D 26), .ref (ad_ D 27), .ref (ad_ D 28), .ref (ad_ D 29), .ref (ad_ D 30)]))
            have hc21 := (by rw [hσ19]; exact g_upn t_21 (by decide) : σ_18 21 = .inl (g_cI D, 2, .inl (S)))
            have hc22 := (by rw [hσ19]; exact g_upn t_22 (by decide) : σ_18 22 = .inl (g_cI D, 48, .inl (N)))
            have hc23 := (by rw [hσ19]; exact g_upn t_23 (by decide) : σ_18 23 = .inl (g_cI D, 48, .inl (Z)))
            have hc24 : σ_18 24 = .inl (g_cI D, 48, .inl (upd R2 m9 (fn_ U m9))) := by rw [hσ19]; exact g_ups
            have hc25 := (by rw [hσ19]; exact g_upn t_25 (by decide) : σ_18 25 = .inl (g_cI D, 96, .inl (T 0)))
            have hc26 := (by rw [hσ19]; exact g_upn t_26 (by decide) : σ_18 26 = .inl (g_cI D, 96, .inl (T 1)))
            have hc27 := (by rw [hσ19]; exact g_upn t_27 (by decide) : σ_18 27 = .inl (g_cI D, 96, .inl (T 2)))
            have hc28 := (by rw [hσ19]; exact g_upn t_28 (by decide) : σ_18 28 = .inl (g_cI D, 96, .inl (T 3)))
            have hc29 := (by rw [hσ19]; exact g_upn t_29 (by decide) : σ_18 29 = .inl (g_cI D, 96, .inl (T 4)))
            have hc30 := (by rw [hσ19]; exact g_upn t_30 (by decide) : σ_18 30 = .inl (g_cI D, 96, .inl (T 5)))
            have ho31 : g_off 20 30 σ σ_18 := by rw [hσ19]; exact g_off.up ho2 (by decide) (by decide)
            refine lv_aload_n hx hb dX3_lookAtBoth_92 rfl (lv_at hl 4 rfl) ?_
            refine lv_dup hx hb dX3_lookAtBoth_93 rfl ?_
            refine g_get hx hb hts hE hown hP g_inX3 rfl (by decide) hc20 5 (by decide) rfl wf_X3_79 (v := .int (nI m9)) rfl dX3_lookAtBoth_94 ?_
            refine lv_iconst (v := nI 1) hx hb dX3_lookAtBoth_97 (by decide) ?_
            refine lv_iadd hx hb dX3_lookAtBoth_98 ?_
            refine g_top (y := nI (m9 + 1)) (nI_add m9 1) ?_
            refine g_put hx hb hts hE hown hAD hP hS g_inX3 tyX3 tyX3_ok nmX3 rfl (by decide) hc20 5 (by decide) rfl rfl (by decide +kernel) wf_X3_79 (v := nI (m9 + 1)) (Nat.le_of_ble_eq_true rfl) dX3_lookAtBoth_99 (fun H locs hP hS => ?_)
            obtain ⟨σ_32, hσ33⟩ : ∃ z : Nat → va_E, z = va_up σ_18 20 (.inr (3, [.int th, .ref (ad_ D 21), .ref (ad_ D 22), .ref (ad_ D 23), .ref (ad_ D 24), .int (nI (m9 + 1)), .int sg, .ref (ad_ D 25), .ref (ad_ D 26), .ref (ad_ D 27), .ref (ad_ D 28), .ref (ad_ D 29), .ref (ad_ D 30)])) := ⟨_, rfl⟩
            have hP : va_P D vwCl (g_W D σ_32) H := by rw [hσ33]; exact hP
            have hc34 : σ_32 20 = .inr (3, [.int th, .ref (ad_ D 21), .ref (ad_ D 22), .ref (ad_ D 23), .ref (ad_ D 24), .int (nI (m9 + 1)), .int sg, .ref (ad_ D 25), .ref (ad_ D 26), .ref (ad_ D 27), .ref (ad_ D 28), .ref (ad_ D 29), .ref (ad_ D 30)]) := by rw [hσ33]; exact g_ups
            have hc35 := (by rw [hσ33]; exact g_upn hc21 (by decide) : σ_32 21 = .inl (g_cI D, 2, .inl (S)))
            have hc36 := (by rw [hσ33]; exact g_upn hc22 (by decide) : σ_32 22 = .inl (g_cI D, 48, .inl (N)))
            have hc37 := (by rw [hσ33]; exact g_upn hc23 (by decide) : σ_32 23 = .inl (g_cI D, 48, .inl (Z)))
            have hc38 := (by rw [hσ33]; exact g_upn hc24 (by decide) : σ_32 24 = .inl (g_cI D, 48, .inl (upd R2 m9 (fn_ U m9))))
            have hc39 := (by rw [hσ33]; exact g_upn hc25 (by decide) : σ_32 25 = .inl (g_cI D, 96, .inl (T 0)))
            have hc40 := (by rw [hσ33]; exact g_upn hc26 (by decide) : σ_32 26 = .inl (g_cI D, 96, .inl (T 1)))
            have hc41 := (by rw [hσ33]; exact g_upn hc27 (by decide) : σ_32 27 = .inl (g_cI D, 96, .inl (T 2)))
            have hc42 := (by rw [hσ33]; exact g_upn hc28 (by decide) : σ_32 28 = .inl (g_cI D, 96, .inl (T 3)))
            have hc43 := (by rw [hσ33]; exact g_upn hc29 (by decide) : σ_32 29 = .inl (g_cI D, 96, .inl (T 4)))
            have hc44 := (by rw [hσ33]; exact g_upn hc30 (by decide) : σ_32 30 = .inl (g_cI D, 96, .inl (T 5)))
            have ho45 : g_off 20 30 σ σ_32 := by rw [hσ33]; exact g_off.up ho31 (by decide) (by decide)
            refine lv_iload_n hx hb dX3_lookAtBoth_102 rfl (lv_at hl 2 rfl) ?_
            refine lv_iload_n hx hb dX3_lookAtBoth_103 rfl (lv_at hl 1 rfl) ?_
            refine lv_iload hx hb dX3_lookAtBoth_104 (lv_at hl 0 rfl) ?_
            refine lv_icmp_gt (tgt := 113) hx hb dX3_lookAtBoth_106 (by decide) (fun h106 => ?_) (fun h106 => ?_)
            · refine lv_iconst (v := nI 0) hx hb dX3_lookAtBoth_113 (by decide) ?_
              refine lv_iadd hx hb dX3_lookAtBoth_114 ?_
              refine g_top (y := nI ((rk_ (Ls 0) (uk_ U m9)) + 0)) (nI_add (rk_ (Ls 0) (uk_ U m9)) 0) ?_
              refine lv_istore_n (lv' := [(1, .int (nI ((rk_ (Ls 0) (uk_ U m9)) + 0))), (4, .int (on_ (Ls 1) (uk_ U m9))), (3, .int (on_ (Ls 0) (uk_ U m9))), (2, .int (nI (rk_ (Ls 1) (uk_ U m9)))), (0, .ref (ad_ D 20))]) hx hb dX3_lookAtBoth_115 rfl hl (by decide) rfl (fun ls hl => ?_)
              have hfx46 : (nI ((rk_ (Ls 0) (uk_ U m9)) + 0)) = nI (rk_ (Ls 0) (uk_ U (m9 + 1))) := congrArg nI (lu_0 hlu hmU h106)
              rw [hfx46] at hl
              refine lv_iload_n hx hb dX3_lookAtBoth_116 rfl (lv_at hl 3 rfl) ?_
              refine lv_iload hx hb dX3_lookAtBoth_117 (lv_at hl 1 rfl) ?_
              refine lv_iload_n hx hb dX3_lookAtBoth_119 rfl (lv_at hl 2 rfl) ?_
              refine lv_icmp_gt (tgt := 127) hx hb dX3_lookAtBoth_120 (by decide) (fun h120 => ?_) (fun h120 => ?_)
              · refine lv_iconst (v := nI 0) hx hb dX3_lookAtBoth_127 (by decide) ?_
                refine lv_iadd hx hb dX3_lookAtBoth_128 ?_
                refine g_top (y := nI ((rk_ (Ls 1) (uk_ U m9)) + 0)) (nI_add (rk_ (Ls 1) (uk_ U m9)) 0) ?_
                refine lv_istore_n (lv' := [(2, .int (nI ((rk_ (Ls 1) (uk_ U m9)) + 0))), (1, .int (nI (rk_ (Ls 0) (uk_ U (m9 + 1))))), (4, .int (on_ (Ls 1) (uk_ U m9))), (3, .int (on_ (Ls 0) (uk_ U m9))), (0, .ref (ad_ D 20))]) hx hb dX3_lookAtBoth_129 rfl hl (by decide) rfl (fun ls hl => ?_)
                have hfx47 : (nI ((rk_ (Ls 1) (uk_ U m9)) + 0)) = nI (rk_ (Ls 1) (uk_ U (m9 + 1))) := congrArg nI (lu_0 hlu.sw hmU h120)
                rw [hfx47] at hl
                refine lv_goto (tgt := 9) hx hb dX3_lookAtBoth_130 (by decide) ?_
                have hMp48 : g_Mf D σ_32 th (nI (m9 + 1)) sg S N Z (upd R2 m9 (fn_ U m9)) T := ⟨hc34, hc35, hc36, hc37, hc38, hc39, hc40, hc41, hc42, hc43, hc44⟩
                exact ih9 (m9 + 1) σ_32 (upd R2 m9 (fn_ U m9)) (by omega) (by omega) hMp48 (fun j hj => by rcases Nat.lt_succ_iff_lt_or_eq.mp hj with q | q; rw [upd_ne (by omega)]; exact hR2 j q; rw [q, upd_at]) ho45 _ _ hP hS ls (lv_sub hl [1, 0, 4] rfl)
              · refine lv_iconst (v := nI 1) hx hb dX3_lookAtBoth_123 (by decide) ?_
                refine lv_goto (tgt := 128) hx hb dX3_lookAtBoth_124 (by decide) ?_
                refine lv_iadd hx hb dX3_lookAtBoth_128 ?_
                refine g_top (y := nI ((rk_ (Ls 1) (uk_ U m9)) + 1)) (nI_add (rk_ (Ls 1) (uk_ U m9)) 1) ?_
                refine lv_istore_n (lv' := [(2, .int (nI ((rk_ (Ls 1) (uk_ U m9)) + 1))), (1, .int (nI (rk_ (Ls 0) (uk_ U (m9 + 1))))), (4, .int (on_ (Ls 1) (uk_ U m9))), (3, .int (on_ (Ls 0) (uk_ U m9))), (0, .ref (ad_ D 20))]) hx hb dX3_lookAtBoth_129 rfl hl (by decide) rfl (fun ls hl => ?_)
                have hfx49 : (nI ((rk_ (Ls 1) (uk_ U m9)) + 1)) = nI (rk_ (Ls 1) (uk_ U (m9 + 1))) := congrArg nI (lu_1 hlu.sw hmU (Int32.not_lt.mp h120))
                rw [hfx49] at hl
                refine lv_goto (tgt := 9) hx hb dX3_lookAtBoth_130 (by decide) ?_
                have hMp50 : g_Mf D σ_32 th (nI (m9 + 1)) sg S N Z (upd R2 m9 (fn_ U m9)) T := ⟨hc34, hc35, hc36, hc37, hc38, hc39, hc40, hc41, hc42, hc43, hc44⟩
                exact ih9 (m9 + 1) σ_32 (upd R2 m9 (fn_ U m9)) (by omega) (by omega) hMp50 (fun j hj => by rcases Nat.lt_succ_iff_lt_or_eq.mp hj with q | q; rw [upd_ne (by omega)]; exact hR2 j q; rw [q, upd_at]) ho45 _ _ hP hS ls (lv_sub hl [1, 0, 4] rfl)
            · refine lv_iconst (v := nI 1) hx hb dX3_lookAtBoth_109 (by decide) ?_
              refine lv_goto (tgt := 114) hx hb dX3_lookAtBoth_110 (by decide) ?_
              refine lv_iadd hx hb dX3_lookAtBoth_114 ?_
              refine g_top (y := nI ((rk_ (Ls 0) (uk_ U m9)) + 1)) (nI_add (rk_ (Ls 0) (uk_ U m9)) 1) ?_
              refine lv_istore_n (lv' := [(1, .int (nI ((rk_ (Ls 0) (uk_ U m9)) + 1))), (4, .int (on_ (Ls 1) (uk_ U m9))), (3, .int (on_ (Ls 0) (uk_ U m9))), (2, .int (nI (rk_ (Ls 1) (uk_ U m9)))), (0, .ref (ad_ D 20))]) hx hb dX3_lookAtBoth_115 rfl hl (by decide) rfl (fun ls hl => ?_)
              have hfx51 : (nI ((rk_ (Ls 0) (uk_ U m9)) + 1)) = nI (rk_ (Ls 0) (uk_ U (m9 + 1))) := congrArg nI (lu_1 hlu hmU (Int32.not_lt.mp h106))
              rw [hfx51] at hl
              refine lv_iload_n hx hb dX3_lookAtBoth_116 rfl (lv_at hl 3 rfl) ?_
              refine lv_iload hx hb dX3_lookAtBoth_117 (lv_at hl 1 rfl) ?_
              refine lv_iload_n hx hb dX3_lookAtBoth_119 rfl (lv_at hl 2 rfl) ?_
              refine lv_icmp_gt (tgt := 127) hx hb dX3_lookAtBoth_120 (by decide) (fun h120 => ?_) (fun h120 => ?_)
              · refine lv_iconst (v := nI 0) hx hb dX3_lookAtBoth_127 (by decide) ?_
                refine lv_iadd hx hb dX3_lookAtBoth_128 ?_
                refine g_top (y := nI ((rk_ (Ls 1) (uk_ U m9)) + 0)) (nI_add (rk_ (Ls 1) (uk_ U m9)) 0) ?_
                refine lv_istore_n (lv' := [(2, .int (nI ((rk_ (Ls 1) (uk_ U m9)) + 0))), (1, .int (nI (rk_ (Ls 0) (uk_ U (m9 + 1))))), (4, .int (on_ (Ls 1) (uk_ U m9))), (3, .int (on_ (Ls 0) (uk_ U m9))), (0, .ref (ad_ D 20))]) hx hb dX3_lookAtBoth_129 rfl hl (by decide) rfl (fun ls hl => ?_)
                have hfx52 : (nI ((rk_ (Ls 1) (uk_ U m9)) + 0)) = nI (rk_ (Ls 1) (uk_ U (m9 + 1))) := congrArg nI (lu_0 hlu.sw hmU h120)
                rw [hfx52] at hl
                refine lv_goto (tgt := 9) hx hb dX3_lookAtBoth_130 (by decide) ?_
                have hMp53 : g_Mf D σ_32 th (nI (m9 + 1)) sg S N Z (upd R2 m9 (fn_ U m9)) T := ⟨hc34, hc35, hc36, hc37, hc38, hc39, hc40, hc41, hc42, hc43, hc44⟩
                exact ih9 (m9 + 1) σ_32 (upd R2 m9 (fn_ U m9)) (by omega) (by omega) hMp53 (fun j hj => by rcases Nat.lt_succ_iff_lt_or_eq.mp hj with q | q; rw [upd_ne (by omega)]; exact hR2 j q; rw [q, upd_at]) ho45 _ _ hP hS ls (lv_sub hl [1, 0, 4] rfl)
              · refine lv_iconst (v := nI 1) hx hb dX3_lookAtBoth_123 (by decide) ?_
                refine lv_goto (tgt := 128) hx hb dX3_lookAtBoth_124 (by decide) ?_
                refine lv_iadd hx hb dX3_lookAtBoth_128 ?_
                refine g_top (y := nI ((rk_ (Ls 1) (uk_ U m9)) + 1)) (nI_add (rk_ (Ls 1) (uk_ U m9)) 1) ?_
                refine lv_istore_n (lv' := [(2, .int (nI ((rk_ (Ls 1) (uk_ U m9)) + 1))), (1, .int (nI (rk_ (Ls 0) (uk_ U (m9 + 1))))), (4, .int (on_ (Ls 1) (uk_ U m9))), (3, .int (on_ (Ls 0) (uk_ U m9))), (0, .ref (ad_ D 20))]) hx hb dX3_lookAtBoth_129 rfl hl (by decide) rfl (fun ls hl => ?_)
                have hfx54 : (nI ((rk_ (Ls 1) (uk_ U m9)) + 1)) = nI (rk_ (Ls 1) (uk_ U (m9 + 1))) := congrArg nI (lu_1 hlu.sw hmU (Int32.not_lt.mp h120))
                rw [hfx54] at hl
                refine lv_goto (tgt := 9) hx hb dX3_lookAtBoth_130 (by decide) ?_
                have hMp55 : g_Mf D σ_32 th (nI (m9 + 1)) sg S N Z (upd R2 m9 (fn_ U m9)) T := ⟨hc34, hc35, hc36, hc37, hc38, hc39, hc40, hc41, hc42, hc43, hc44⟩
                exact ih9 (m9 + 1) σ_32 (upd R2 m9 (fn_ U m9)) (by omega) (by omega) hMp55 (fun j hj => by rcases Nat.lt_succ_iff_lt_or_eq.mp hj with q | q; rw [upd_ne (by omega)]; exact hR2 j q; rw [q, upd_at]) ho45 _ _ hP hS ls (lv_sub hl [1, 0, 4] rfl)
          · have hb58 := g_nle (a := (Ls 1).length) (b := rk_ (Ls 1) (uk_ U m9)) h58 (by omega) (by omega)
            refine lv_aload_n hx hb dX3_lookAtBoth_61 rfl (lv_at hl 3 rfl) ?_
            refine g_get hx hb hts hE hown hP g_inX3 rfl (by decide) t_20 2 (by decide) rfl wf_X3_13 (v := .ref (ad_ D 22)) rfl dX3_lookAtBoth_62 ?_
            refine lv_bipush (v := nI 24) hx hb dX3_lookAtBoth_65 (by decide) ?_
            refine lv_iload_n hx hb dX3_lookAtBoth_67 rfl (lv_at hl 2 rfl) ?_
            refine lv_iadd hx hb dX3_lookAtBoth_68 ?_
            refine g_top (y := nI (24 + (rk_ (Ls 1) (uk_ U m9)))) (nI_add 24 (rk_ (Ls 1) (uk_ U m9))) ?_
            refine g_ialdN (j := 24 + (rk_ (Ls 1) (uk_ U m9))) hx hb hE hP (by decide) t_22 (by omega) (by decide) (v := fn_ (Ls 1) (rk_ (Ls 1) (uk_ U m9))) (hmr.N1 (by omega)) dX3_lookAtBoth_69 ?_
            refine lv_goto (tgt := 75) hx hb dX3_lookAtBoth_70 (by decide) ?_
            refine lv_istore (lv' := [(4, .int (fn_ (Ls 1) (rk_ (Ls 1) (uk_ U m9)))), (3, .int (on_ (Ls 0) (uk_ U m9))), (1, .int (nI (rk_ (Ls 0) (uk_ U m9)))), (2, .int (nI (rk_ (Ls 1) (uk_ U m9)))), (0, .ref (ad_ D 20))]) hx hb dX3_lookAtBoth_75 hl (by decide) rfl (fun ls hl => ?_)
            have hfx56 : (fn_ (Ls 1) (rk_ (Ls 1) (uk_ U m9))) = on_ (Ls 1) (uk_ U m9) := (if_pos (by omega)).symm
            rw [hfx56] at hl
            refine lv_aload_n hx hb dX3_lookAtBoth_77 rfl (lv_at hl 4 rfl) ?_
            refine g_get hx hb hts hE hown hP g_inX3 rfl (by decide) t_20 4 (by decide) rfl wf_X3_19 (v := .ref (ad_ D 24)) rfl dX3_lookAtBoth_78 ?_
            refine lv_aload_n hx hb dX3_lookAtBoth_81 rfl (lv_at hl 4 rfl) ?_
            refine g_get hx hb hts hE hown hP g_inX3 rfl (by decide) t_20 5 (by decide) rfl wf_X3_79 (v := .int (nI m9)) rfl dX3_lookAtBoth_82 ?_
            refine lv_iload_n hx hb dX3_lookAtBoth_85 rfl (lv_at hl 1 rfl) ?_
            refine lv_iload hx hb dX3_lookAtBoth_86 (lv_at hl 0 rfl) ?_
            refine g_mmin hx hb (hml.trans hl.1.symm) hown hts k_X3_86 k_min ⟨Nat.le_of_ble_eq_true rfl, Nat.le_of_ble_eq_true rfl, by omega, by omega⟩ dX3_lookAtBoth_88 ?_
            refine g_top (y := fn_ U m9) (lu_min hlu hmU) ?_
            refine g_iastN (j := m9) (x := fn_ U m9) hx hb hE hAD hP hS (by decide) t_24 (by omega) (by decide) dX3_lookAtBoth_91 (fun H locs hP hS => ?_)
            obtain ⟨σ_57, hσ58⟩ : ∃ z : Nat → va_E, z = va_up σ2 24 (.inl (g_cI D, 48, .inl (upd R2 m9 (fn_ U m9)))) := ⟨_, rfl⟩
            have hP : va_P D vwCl (g_W D σ_57) H := by rw [hσ58]; exact hP
            have hc59 := (by rw [hσ58]; exact g_upn t_20 (by decide) : σ_57 20 = .inr (3, [.int th, .ref (ad_ D 21), .ref (ad_ D 22), .ref (ad_ D 23), .ref (ad_ D 24), .int (nI m9), .int sg, .ref (ad_ D 25), .ref (ad_ D 26), .ref (ad_ D 27), .ref (ad_ D 28), .ref (ad_ D 29), .ref (ad_ D 30)]))
            have hc60 := (by rw [hσ58]; exact g_upn t_21 (by decide) : σ_57 21 = .inl (g_cI D, 2, .inl (S)))
            have hc61 := (by rw [hσ58]; exact g_upn t_22 (by decide) : σ_57 22 = .inl (g_cI D, 48, .inl (N)))
            have hc62 := (by rw [hσ58]; exact g_upn t_23 (by decide) : σ_57 23 = .inl (g_cI D, 48, .inl (Z)))
            have hc63 : σ_57 24 = .inl (g_cI D, 48, .inl (upd R2 m9 (fn_ U m9))) := by rw [hσ58]; exact g_ups
            have hc64 := (by rw [hσ58]; exact g_upn t_25 (by decide) : σ_57 25 = .inl (g_cI D, 96, .inl (T 0)))
            have hc65 := (by rw [hσ58]; exact g_upn t_26 (by decide) : σ_57 26 = .inl (g_cI D, 96, .inl (T 1)))
            have hc66 := (by rw [hσ58]; exact g_upn t_27 (by decide) : σ_57 27 = .inl (g_cI D, 96, .inl (T 2)))
            have hc67 := (by rw [hσ58]; exact g_upn t_28 (by decide) : σ_57 28 = .inl (g_cI D, 96, .inl (T 3)))
            have hc68 := (by rw [hσ58]; exact g_upn t_29 (by decide) : σ_57 29 = .inl (g_cI D, 96, .inl (T 4)))
            have hc69 := (by rw [hσ58]; exact g_upn t_30 (by decide) : σ_57 30 = .inl (g_cI D, 96, .inl (T 5)))
            have ho70 : g_off 20 30 σ σ_57 := by rw [hσ58]; exact g_off.up ho2 (by decide) (by decide)
            refine lv_aload_n hx hb dX3_lookAtBoth_92 rfl (lv_at hl 4 rfl) ?_
            refine lv_dup hx hb dX3_lookAtBoth_93 rfl ?_
            refine g_get hx hb hts hE hown hP g_inX3 rfl (by decide) hc59 5 (by decide) rfl wf_X3_79 (v := .int (nI m9)) rfl dX3_lookAtBoth_94 ?_
            refine lv_iconst (v := nI 1) hx hb dX3_lookAtBoth_97 (by decide) ?_
            refine lv_iadd hx hb dX3_lookAtBoth_98 ?_
            refine g_top (y := nI (m9 + 1)) (nI_add m9 1) ?_
            refine g_put hx hb hts hE hown hAD hP hS g_inX3 tyX3 tyX3_ok nmX3 rfl (by decide) hc59 5 (by decide) rfl rfl (by decide +kernel) wf_X3_79 (v := nI (m9 + 1)) (Nat.le_of_ble_eq_true rfl) dX3_lookAtBoth_99 (fun H locs hP hS => ?_)
            obtain ⟨σ_71, hσ72⟩ : ∃ z : Nat → va_E, z = va_up σ_57 20 (.inr (3, [.int th, .ref (ad_ D 21), .ref (ad_ D 22), .ref (ad_ D 23), .ref (ad_ D 24), .int (nI (m9 + 1)), .int sg, .ref (ad_ D 25), .ref (ad_ D 26), .ref (ad_ D 27), .ref (ad_ D 28), .ref (ad_ D 29), .ref (ad_ D 30)])) := ⟨_, rfl⟩
            have hP : va_P D vwCl (g_W D σ_71) H := by rw [hσ72]; exact hP
            have hc73 : σ_71 20 = .inr (3, [.int th, .ref (ad_ D 21), .ref (ad_ D 22), .ref (ad_ D 23), .ref (ad_ D 24), .int (nI (m9 + 1)), .int sg, .ref (ad_ D 25), .ref (ad_ D 26), .ref (ad_ D 27), .ref (ad_ D 28), .ref (ad_ D 29), .ref (ad_ D 30)]) := by rw [hσ72]; exact g_ups
            have hc74 := (by rw [hσ72]; exact g_upn hc60 (by decide) : σ_71 21 = .inl (g_cI D, 2, .inl (S)))
            have hc75 := (by rw [hσ72]; exact g_upn hc61 (by decide) : σ_71 22 = .inl (g_cI D, 48, .inl (N)))
            have hc76 := (by rw [hσ72]; exact g_upn hc62 (by decide) : σ_71 23 = .inl (g_cI D, 48, .inl (Z)))
            have hc77 := (by rw [hσ72]; exact g_upn hc63 (by decide) : σ_71 24 = .inl (g_cI D, 48, .inl (upd R2 m9 (fn_ U m9))))
            have hc78 := (by rw [hσ72]; exact g_upn hc64 (by decide) : σ_71 25 = .inl (g_cI D, 96, .inl (T 0)))
            have hc79 := (by rw [hσ72]; exact g_upn hc65 (by decide) : σ_71 26 = .inl (g_cI D, 96, .inl (T 1)))
            have hc80 := (by rw [hσ72]; exact g_upn hc66 (by decide) : σ_71 27 = .inl (g_cI D, 96, .inl (T 2)))
            have hc81 := (by rw [hσ72]; exact g_upn hc67 (by decide) : σ_71 28 = .inl (g_cI D, 96, .inl (T 3)))
            have hc82 := (by rw [hσ72]; exact g_upn hc68 (by decide) : σ_71 29 = .inl (g_cI D, 96, .inl (T 4)))
            have hc83 := (by rw [hσ72]; exact g_upn hc69 (by decide) : σ_71 30 = .inl (g_cI D, 96, .inl (T 5)))
            have ho84 : g_off 20 30 σ σ_71 := by rw [hσ72]; exact g_off.up ho70 (by decide) (by decide)
            refine lv_iload_n hx hb dX3_lookAtBoth_102 rfl (lv_at hl 2 rfl) ?_
            refine lv_iload_n hx hb dX3_lookAtBoth_103 rfl (lv_at hl 1 rfl) ?_
            refine lv_iload hx hb dX3_lookAtBoth_104 (lv_at hl 0 rfl) ?_
            refine lv_icmp_gt (tgt := 113) hx hb dX3_lookAtBoth_106 (by decide) (fun h106 => ?_) (fun h106 => ?_)
            · refine lv_iconst (v := nI 0) hx hb dX3_lookAtBoth_113 (by decide) ?_
              refine lv_iadd hx hb dX3_lookAtBoth_114 ?_
              refine g_top (y := nI ((rk_ (Ls 0) (uk_ U m9)) + 0)) (nI_add (rk_ (Ls 0) (uk_ U m9)) 0) ?_
              refine lv_istore_n (lv' := [(1, .int (nI ((rk_ (Ls 0) (uk_ U m9)) + 0))), (4, .int (on_ (Ls 1) (uk_ U m9))), (3, .int (on_ (Ls 0) (uk_ U m9))), (2, .int (nI (rk_ (Ls 1) (uk_ U m9)))), (0, .ref (ad_ D 20))]) hx hb dX3_lookAtBoth_115 rfl hl (by decide) rfl (fun ls hl => ?_)
              have hfx85 : (nI ((rk_ (Ls 0) (uk_ U m9)) + 0)) = nI (rk_ (Ls 0) (uk_ U (m9 + 1))) := congrArg nI (lu_0 hlu hmU h106)
              rw [hfx85] at hl
              refine lv_iload_n hx hb dX3_lookAtBoth_116 rfl (lv_at hl 3 rfl) ?_
              refine lv_iload hx hb dX3_lookAtBoth_117 (lv_at hl 1 rfl) ?_
              refine lv_iload_n hx hb dX3_lookAtBoth_119 rfl (lv_at hl 2 rfl) ?_
              refine lv_icmp_gt (tgt := 127) hx hb dX3_lookAtBoth_120 (by decide) (fun h120 => ?_) (fun h120 => ?_)
              · refine lv_iconst (v := nI 0) hx hb dX3_lookAtBoth_127 (by decide) ?_
                refine lv_iadd hx hb dX3_lookAtBoth_128 ?_
                refine g_top (y := nI ((rk_ (Ls 1) (uk_ U m9)) + 0)) (nI_add (rk_ (Ls 1) (uk_ U m9)) 0) ?_
                refine lv_istore_n (lv' := [(2, .int (nI ((rk_ (Ls 1) (uk_ U m9)) + 0))), (1, .int (nI (rk_ (Ls 0) (uk_ U (m9 + 1))))), (4, .int (on_ (Ls 1) (uk_ U m9))), (3, .int (on_ (Ls 0) (uk_ U m9))), (0, .ref (ad_ D 20))]) hx hb dX3_lookAtBoth_129 rfl hl (by decide) rfl (fun ls hl => ?_)
                have hfx86 : (nI ((rk_ (Ls 1) (uk_ U m9)) + 0)) = nI (rk_ (Ls 1) (uk_ U (m9 + 1))) := congrArg nI (lu_0 hlu.sw hmU h120)
                rw [hfx86] at hl
                refine lv_goto (tgt := 9) hx hb dX3_lookAtBoth_130 (by decide) ?_
                have hMp87 : g_Mf D σ_71 th (nI (m9 + 1)) sg S N Z (upd R2 m9 (fn_ U m9)) T := ⟨hc73, hc74, hc75, hc76, hc77, hc78, hc79, hc80, hc81, hc82, hc83⟩
                exact ih9 (m9 + 1) σ_71 (upd R2 m9 (fn_ U m9)) (by omega) (by omega) hMp87 (fun j hj => by rcases Nat.lt_succ_iff_lt_or_eq.mp hj with q | q; rw [upd_ne (by omega)]; exact hR2 j q; rw [q, upd_at]) ho84 _ _ hP hS ls (lv_sub hl [1, 0, 4] rfl)
              · refine lv_iconst (v := nI 1) hx hb dX3_lookAtBoth_123 (by decide) ?_
                refine lv_goto (tgt := 128) hx hb dX3_lookAtBoth_124 (by decide) ?_
                refine lv_iadd hx hb dX3_lookAtBoth_128 ?_
                refine g_top (y := nI ((rk_ (Ls 1) (uk_ U m9)) + 1)) (nI_add (rk_ (Ls 1) (uk_ U m9)) 1) ?_
                refine lv_istore_n (lv' := [(2, .int (nI ((rk_ (Ls 1) (uk_ U m9)) + 1))), (1, .int (nI (rk_ (Ls 0) (uk_ U (m9 + 1))))), (4, .int (on_ (Ls 1) (uk_ U m9))), (3, .int (on_ (Ls 0) (uk_ U m9))), (0, .ref (ad_ D 20))]) hx hb dX3_lookAtBoth_129 rfl hl (by decide) rfl (fun ls hl => ?_)
                have hfx88 : (nI ((rk_ (Ls 1) (uk_ U m9)) + 1)) = nI (rk_ (Ls 1) (uk_ U (m9 + 1))) := congrArg nI (lu_1 hlu.sw hmU (Int32.not_lt.mp h120))
                rw [hfx88] at hl
                refine lv_goto (tgt := 9) hx hb dX3_lookAtBoth_130 (by decide) ?_
                have hMp89 : g_Mf D σ_71 th (nI (m9 + 1)) sg S N Z (upd R2 m9 (fn_ U m9)) T := ⟨hc73, hc74, hc75, hc76, hc77, hc78, hc79, hc80, hc81, hc82, hc83⟩
                exact ih9 (m9 + 1) σ_71 (upd R2 m9 (fn_ U m9)) (by omega) (by omega) hMp89 (fun j hj => by rcases Nat.lt_succ_iff_lt_or_eq.mp hj with q | q; rw [upd_ne (by omega)]; exact hR2 j q; rw [q, upd_at]) ho84 _ _ hP hS ls (lv_sub hl [1, 0, 4] rfl)
            · refine lv_iconst (v := nI 1) hx hb dX3_lookAtBoth_109 (by decide) ?_
              refine lv_goto (tgt := 114) hx hb dX3_lookAtBoth_110 (by decide) ?_
              refine lv_iadd hx hb dX3_lookAtBoth_114 ?_
              refine g_top (y := nI ((rk_ (Ls 0) (uk_ U m9)) + 1)) (nI_add (rk_ (Ls 0) (uk_ U m9)) 1) ?_
              refine lv_istore_n (lv' := [(1, .int (nI ((rk_ (Ls 0) (uk_ U m9)) + 1))), (4, .int (on_ (Ls 1) (uk_ U m9))), (3, .int (on_ (Ls 0) (uk_ U m9))), (2, .int (nI (rk_ (Ls 1) (uk_ U m9)))), (0, .ref (ad_ D 20))]) hx hb dX3_lookAtBoth_115 rfl hl (by decide) rfl (fun ls hl => ?_)
              have hfx90 : (nI ((rk_ (Ls 0) (uk_ U m9)) + 1)) = nI (rk_ (Ls 0) (uk_ U (m9 + 1))) := congrArg nI (lu_1 hlu hmU (Int32.not_lt.mp h106))
              rw [hfx90] at hl
              refine lv_iload_n hx hb dX3_lookAtBoth_116 rfl (lv_at hl 3 rfl) ?_
              refine lv_iload hx hb dX3_lookAtBoth_117 (lv_at hl 1 rfl) ?_
              refine lv_iload_n hx hb dX3_lookAtBoth_119 rfl (lv_at hl 2 rfl) ?_
              refine lv_icmp_gt (tgt := 127) hx hb dX3_lookAtBoth_120 (by decide) (fun h120 => ?_) (fun h120 => ?_)
              · refine lv_iconst (v := nI 0) hx hb dX3_lookAtBoth_127 (by decide) ?_
                refine lv_iadd hx hb dX3_lookAtBoth_128 ?_
                refine g_top (y := nI ((rk_ (Ls 1) (uk_ U m9)) + 0)) (nI_add (rk_ (Ls 1) (uk_ U m9)) 0) ?_
                refine lv_istore_n (lv' := [(2, .int (nI ((rk_ (Ls 1) (uk_ U m9)) + 0))), (1, .int (nI (rk_ (Ls 0) (uk_ U (m9 + 1))))), (4, .int (on_ (Ls 1) (uk_ U m9))), (3, .int (on_ (Ls 0) (uk_ U m9))), (0, .ref (ad_ D 20))]) hx hb dX3_lookAtBoth_129 rfl hl (by decide) rfl (fun ls hl => ?_)
                have hfx91 : (nI ((rk_ (Ls 1) (uk_ U m9)) + 0)) = nI (rk_ (Ls 1) (uk_ U (m9 + 1))) := congrArg nI (lu_0 hlu.sw hmU h120)
                rw [hfx91] at hl
                refine lv_goto (tgt := 9) hx hb dX3_lookAtBoth_130 (by decide) ?_
                have hMp92 : g_Mf D σ_71 th (nI (m9 + 1)) sg S N Z (upd R2 m9 (fn_ U m9)) T := ⟨hc73, hc74, hc75, hc76, hc77, hc78, hc79, hc80, hc81, hc82, hc83⟩
                exact ih9 (m9 + 1) σ_71 (upd R2 m9 (fn_ U m9)) (by omega) (by omega) hMp92 (fun j hj => by rcases Nat.lt_succ_iff_lt_or_eq.mp hj with q | q; rw [upd_ne (by omega)]; exact hR2 j q; rw [q, upd_at]) ho84 _ _ hP hS ls (lv_sub hl [1, 0, 4] rfl)
              · refine lv_iconst (v := nI 1) hx hb dX3_lookAtBoth_123 (by decide) ?_
                refine lv_goto (tgt := 128) hx hb dX3_lookAtBoth_124 (by decide) ?_
                refine lv_iadd hx hb dX3_lookAtBoth_128 ?_
                refine g_top (y := nI ((rk_ (Ls 1) (uk_ U m9)) + 1)) (nI_add (rk_ (Ls 1) (uk_ U m9)) 1) ?_
                refine lv_istore_n (lv' := [(2, .int (nI ((rk_ (Ls 1) (uk_ U m9)) + 1))), (1, .int (nI (rk_ (Ls 0) (uk_ U (m9 + 1))))), (4, .int (on_ (Ls 1) (uk_ U m9))), (3, .int (on_ (Ls 0) (uk_ U m9))), (0, .ref (ad_ D 20))]) hx hb dX3_lookAtBoth_129 rfl hl (by decide) rfl (fun ls hl => ?_)
                have hfx93 : (nI ((rk_ (Ls 1) (uk_ U m9)) + 1)) = nI (rk_ (Ls 1) (uk_ U (m9 + 1))) := congrArg nI (lu_1 hlu.sw hmU (Int32.not_lt.mp h120))
                rw [hfx93] at hl
                refine lv_goto (tgt := 9) hx hb dX3_lookAtBoth_130 (by decide) ?_
                have hMp94 : g_Mf D σ_71 th (nI (m9 + 1)) sg S N Z (upd R2 m9 (fn_ U m9)) T := ⟨hc73, hc74, hc75, hc76, hc77, hc78, hc79, hc80, hc81, hc82, hc83⟩
                exact ih9 (m9 + 1) σ_71 (upd R2 m9 (fn_ U m9)) (by omega) (by omega) hMp94 (fun j hj => by rcases Nat.lt_succ_iff_lt_or_eq.mp hj with q | q; rw [upd_ne (by omega)]; exact hR2 j q; rw [q, upd_at]) ho84 _ _ hP hS ls (lv_sub hl [1, 0, 4] rfl)
        · have hb36 := g_nle (a := (Ls 0).length) (b := rk_ (Ls 0) (uk_ U m9)) h36 (by omega) (by omega)
          refine lv_aload_n hx hb dX3_lookAtBoth_39 rfl (lv_at hl 2 rfl) ?_
          refine g_get hx hb hts hE hown hP g_inX3 rfl (by decide) t_20 2 (by decide) rfl wf_X3_13 (v := .ref (ad_ D 22)) rfl dX3_lookAtBoth_40 ?_
          refine lv_iload_n hx hb dX3_lookAtBoth_43 rfl (lv_at hl 0 rfl) ?_
          refine g_ialdN (j := rk_ (Ls 0) (uk_ U m9)) hx hb hE hP (by decide) t_22 (by omega) (by decide) (v := fn_ (Ls 0) (rk_ (Ls 0) (uk_ U m9))) (hmr.N0 (by omega)) dX3_lookAtBoth_44 ?_
          refine lv_goto (tgt := 50) hx hb dX3_lookAtBoth_45 (by decide) ?_
          refine lv_istore_n (lv' := [(3, .int (fn_ (Ls 0) (rk_ (Ls 0) (uk_ U m9)))), (1, .int (nI (rk_ (Ls 0) (uk_ U m9)))), (2, .int (nI (rk_ (Ls 1) (uk_ U m9)))), (0, .ref (ad_ D 20))]) hx hb dX3_lookAtBoth_50 rfl hl (by decide) rfl (fun ls hl => ?_)
          have hfx95 : (fn_ (Ls 0) (rk_ (Ls 0) (uk_ U m9))) = on_ (Ls 0) (uk_ U m9) := (if_pos (by omega)).symm
          rw [hfx95] at hl
          refine lv_iload_n hx hb dX3_lookAtBoth_51 rfl (lv_at hl 2 rfl) ?_
          refine lv_aload_n hx hb dX3_lookAtBoth_52 rfl (lv_at hl 3 rfl) ?_
          refine g_get hx hb hts hE hown hP g_inX3 rfl (by decide) t_20 1 (by decide) rfl wf_X3_9 (v := .ref (ad_ D 21)) rfl dX3_lookAtBoth_53 ?_
          refine lv_iconst (v := nI 1) hx hb dX3_lookAtBoth_56 (by decide) ?_
          refine g_ialdN (j := 1) hx hb hE hP (by decide) t_21 (by omega) (by decide) (v := nI ((Ls 1).length)) (hmr.S (by omega)) dX3_lookAtBoth_57 ?_
          refine lv_icmp_ge (tgt := 73) hx hb dX3_lookAtBoth_58 (by decide) (fun h58 => ?_) (fun h58 => ?_)
          · have hb58 := g_le (a := (Ls 1).length) (b := rk_ (Ls 1) (uk_ U m9)) h58 (by omega) (by omega)
            refine lv_ldc (v := 65536) hx hb hown (hts _ wc_X3_85) dX3_lookAtBoth_73 ?_
            refine g_top (y := nI 65536) (by decide) ?_
            refine lv_istore (lv' := [(4, .int (nI 65536)), (3, .int (on_ (Ls 0) (uk_ U m9))), (1, .int (nI (rk_ (Ls 0) (uk_ U m9)))), (2, .int (nI (rk_ (Ls 1) (uk_ U m9)))), (0, .ref (ad_ D 20))]) hx hb dX3_lookAtBoth_75 hl (by decide) rfl (fun ls hl => ?_)
            have hfx96 : (nI 65536) = on_ (Ls 1) (uk_ U m9) := (if_neg (by omega)).symm
            rw [hfx96] at hl
            refine lv_aload_n hx hb dX3_lookAtBoth_77 rfl (lv_at hl 4 rfl) ?_
            refine g_get hx hb hts hE hown hP g_inX3 rfl (by decide) t_20 4 (by decide) rfl wf_X3_19 (v := .ref (ad_ D 24)) rfl dX3_lookAtBoth_78 ?_
            refine lv_aload_n hx hb dX3_lookAtBoth_81 rfl (lv_at hl 4 rfl) ?_
            refine g_get hx hb hts hE hown hP g_inX3 rfl (by decide) t_20 5 (by decide) rfl wf_X3_79 (v := .int (nI m9)) rfl dX3_lookAtBoth_82 ?_
            refine lv_iload_n hx hb dX3_lookAtBoth_85 rfl (lv_at hl 1 rfl) ?_
            refine lv_iload hx hb dX3_lookAtBoth_86 (lv_at hl 0 rfl) ?_
            refine g_mmin hx hb (hml.trans hl.1.symm) hown hts k_X3_86 k_min ⟨Nat.le_of_ble_eq_true rfl, Nat.le_of_ble_eq_true rfl, by omega, by omega⟩ dX3_lookAtBoth_88 ?_
            refine g_top (y := fn_ U m9) (lu_min hlu hmU) ?_
            refine g_iastN (j := m9) (x := fn_ U m9) hx hb hE hAD hP hS (by decide) t_24 (by omega) (by decide) dX3_lookAtBoth_91 (fun H locs hP hS => ?_)
            obtain ⟨σ_97, hσ98⟩ : ∃ z : Nat → va_E, z = va_up σ2 24 (.inl (g_cI D, 48, .inl (upd R2 m9 (fn_ U m9)))) := ⟨_, rfl⟩
            have hP : va_P D vwCl (g_W D σ_97) H := by rw [hσ98]; exact hP
            have hc99 := (by rw [hσ98]; exact g_upn t_20 (by decide) : σ_97 20 = .inr (3, [.int th, .ref (ad_ D 21), .ref (ad_ D 22), .ref (ad_ D 23), .ref (ad_ D 24), .int (nI m9), .int sg, .ref (ad_ D 25), .ref (ad_ D 26), .ref (ad_ D 27), .ref (ad_ D 28), .ref (ad_ D 29), .ref (ad_ D 30)]))
            have hc100 := (by rw [hσ98]; exact g_upn t_21 (by decide) : σ_97 21 = .inl (g_cI D, 2, .inl (S)))
            have hc101 := (by rw [hσ98]; exact g_upn t_22 (by decide) : σ_97 22 = .inl (g_cI D, 48, .inl (N)))
            have hc102 := (by rw [hσ98]; exact g_upn t_23 (by decide) : σ_97 23 = .inl (g_cI D, 48, .inl (Z)))
            have hc103 : σ_97 24 = .inl (g_cI D, 48, .inl (upd R2 m9 (fn_ U m9))) := by rw [hσ98]; exact g_ups
            have hc104 := (by rw [hσ98]; exact g_upn t_25 (by decide) : σ_97 25 = .inl (g_cI D, 96, .inl (T 0)))
            have hc105 := (by rw [hσ98]; exact g_upn t_26 (by decide) : σ_97 26 = .inl (g_cI D, 96, .inl (T 1)))
            have hc106 := (by rw [hσ98]; exact g_upn t_27 (by decide) : σ_97 27 = .inl (g_cI D, 96, .inl (T 2)))
            have hc107 := (by rw [hσ98]; exact g_upn t_28 (by decide) : σ_97 28 = .inl (g_cI D, 96, .inl (T 3)))
            have hc108 := (by rw [hσ98]; exact g_upn t_29 (by decide) : σ_97 29 = .inl (g_cI D, 96, .inl (T 4)))
            have hc109 := (by rw [hσ98]; exact g_upn t_30 (by decide) : σ_97 30 = .inl (g_cI D, 96, .inl (T 5)))
            have ho110 : g_off 20 30 σ σ_97 := by rw [hσ98]; exact g_off.up ho2 (by decide) (by decide)
            refine lv_aload_n hx hb dX3_lookAtBoth_92 rfl (lv_at hl 4 rfl) ?_
            refine lv_dup hx hb dX3_lookAtBoth_93 rfl ?_
            refine g_get hx hb hts hE hown hP g_inX3 rfl (by decide) hc99 5 (by decide) rfl wf_X3_79 (v := .int (nI m9)) rfl dX3_lookAtBoth_94 ?_
            refine lv_iconst (v := nI 1) hx hb dX3_lookAtBoth_97 (by decide) ?_
            refine lv_iadd hx hb dX3_lookAtBoth_98 ?_
            refine g_top (y := nI (m9 + 1)) (nI_add m9 1) ?_
            refine g_put hx hb hts hE hown hAD hP hS g_inX3 tyX3 tyX3_ok nmX3 rfl (by decide) hc99 5 (by decide) rfl rfl (by decide +kernel) wf_X3_79 (v := nI (m9 + 1)) (Nat.le_of_ble_eq_true rfl) dX3_lookAtBoth_99 (fun H locs hP hS => ?_)
            obtain ⟨σ_111, hσ112⟩ : ∃ z : Nat → va_E, z = va_up σ_97 20 (.inr (3, [.int th, .ref (ad_ D 21), .ref (ad_ D 22), .ref (ad_ D 23), .ref (ad_ D 24), .int (nI (m9 + 1)), .int sg, .ref (ad_ D 25), .ref (ad_ D 26), .ref (ad_ D 27), .ref (ad_ D 28), .ref (ad_ D 29), .ref (ad_ D 30)])) := ⟨_, rfl⟩
            have hP : va_P D vwCl (g_W D σ_111) H := by rw [hσ112]; exact hP
            have hc113 : σ_111 20 = .inr (3, [.int th, .ref (ad_ D 21), .ref (ad_ D 22), .ref (ad_ D 23), .ref (ad_ D 24), .int (nI (m9 + 1)), .int sg, .ref (ad_ D 25), .ref (ad_ D 26), .ref (ad_ D 27), .ref (ad_ D 28), .ref (ad_ D 29), .ref (ad_ D 30)]) := by rw [hσ112]; exact g_ups
            have hc114 := (by rw [hσ112]; exact g_upn hc100 (by decide) : σ_111 21 = .inl (g_cI D, 2, .inl (S)))
            have hc115 := (by rw [hσ112]; exact g_upn hc101 (by decide) : σ_111 22 = .inl (g_cI D, 48, .inl (N)))
            have hc116 := (by rw [hσ112]; exact g_upn hc102 (by decide) : σ_111 23 = .inl (g_cI D, 48, .inl (Z)))
            have hc117 := (by rw [hσ112]; exact g_upn hc103 (by decide) : σ_111 24 = .inl (g_cI D, 48, .inl (upd R2 m9 (fn_ U m9))))
            have hc118 := (by rw [hσ112]; exact g_upn hc104 (by decide) : σ_111 25 = .inl (g_cI D, 96, .inl (T 0)))
            have hc119 := (by rw [hσ112]; exact g_upn hc105 (by decide) : σ_111 26 = .inl (g_cI D, 96, .inl (T 1)))
            have hc120 := (by rw [hσ112]; exact g_upn hc106 (by decide) : σ_111 27 = .inl (g_cI D, 96, .inl (T 2)))
            have hc121 := (by rw [hσ112]; exact g_upn hc107 (by decide) : σ_111 28 = .inl (g_cI D, 96, .inl (T 3)))
            have hc122 := (by rw [hσ112]; exact g_upn hc108 (by decide) : σ_111 29 = .inl (g_cI D, 96, .inl (T 4)))
            have hc123 := (by rw [hσ112]; exact g_upn hc109 (by decide) : σ_111 30 = .inl (g_cI D, 96, .inl (T 5)))
            have ho124 : g_off 20 30 σ σ_111 := by rw [hσ112]; exact g_off.up ho110 (by decide) (by decide)
            refine lv_iload_n hx hb dX3_lookAtBoth_102 rfl (lv_at hl 2 rfl) ?_
            refine lv_iload_n hx hb dX3_lookAtBoth_103 rfl (lv_at hl 1 rfl) ?_
            refine lv_iload hx hb dX3_lookAtBoth_104 (lv_at hl 0 rfl) ?_
            refine lv_icmp_gt (tgt := 113) hx hb dX3_lookAtBoth_106 (by decide) (fun h106 => ?_) (fun h106 => ?_)
            · refine lv_iconst (v := nI 0) hx hb dX3_lookAtBoth_113 (by decide) ?_
              refine lv_iadd hx hb dX3_lookAtBoth_114 ?_
              refine g_top (y := nI ((rk_ (Ls 0) (uk_ U m9)) + 0)) (nI_add (rk_ (Ls 0) (uk_ U m9)) 0) ?_
              refine lv_istore_n (lv' := [(1, .int (nI ((rk_ (Ls 0) (uk_ U m9)) + 0))), (4, .int (on_ (Ls 1) (uk_ U m9))), (3, .int (on_ (Ls 0) (uk_ U m9))), (2, .int (nI (rk_ (Ls 1) (uk_ U m9)))), (0, .ref (ad_ D 20))]) hx hb dX3_lookAtBoth_115 rfl hl (by decide) rfl (fun ls hl => ?_)
              have hfx125 : (nI ((rk_ (Ls 0) (uk_ U m9)) + 0)) = nI (rk_ (Ls 0) (uk_ U (m9 + 1))) := congrArg nI (lu_0 hlu hmU h106)
              rw [hfx125] at hl
              refine lv_iload_n hx hb dX3_lookAtBoth_116 rfl (lv_at hl 3 rfl) ?_
              refine lv_iload hx hb dX3_lookAtBoth_117 (lv_at hl 1 rfl) ?_
              refine lv_iload_n hx hb dX3_lookAtBoth_119 rfl (lv_at hl 2 rfl) ?_
              refine lv_icmp_gt (tgt := 127) hx hb dX3_lookAtBoth_120 (by decide) (fun h120 => ?_) (fun h120 => ?_)
              · refine lv_iconst (v := nI 0) hx hb dX3_lookAtBoth_127 (by decide) ?_
                refine lv_iadd hx hb dX3_lookAtBoth_128 ?_
                refine g_top (y := nI ((rk_ (Ls 1) (uk_ U m9)) + 0)) (nI_add (rk_ (Ls 1) (uk_ U m9)) 0) ?_
                refine lv_istore_n (lv' := [(2, .int (nI ((rk_ (Ls 1) (uk_ U m9)) + 0))), (1, .int (nI (rk_ (Ls 0) (uk_ U (m9 + 1))))), (4, .int (on_ (Ls 1) (uk_ U m9))), (3, .int (on_ (Ls 0) (uk_ U m9))), (0, .ref (ad_ D 20))]) hx hb dX3_lookAtBoth_129 rfl hl (by decide) rfl (fun ls hl => ?_)
                have hfx126 : (nI ((rk_ (Ls 1) (uk_ U m9)) + 0)) = nI (rk_ (Ls 1) (uk_ U (m9 + 1))) := congrArg nI (lu_0 hlu.sw hmU h120)
                rw [hfx126] at hl
                refine lv_goto (tgt := 9) hx hb dX3_lookAtBoth_130 (by decide) ?_
                have hMp127 : g_Mf D σ_111 th (nI (m9 + 1)) sg S N Z (upd R2 m9 (fn_ U m9)) T := ⟨hc113, hc114, hc115, hc116, hc117, hc118, hc119, hc120, hc121, hc122, hc123⟩
                exact ih9 (m9 + 1) σ_111 (upd R2 m9 (fn_ U m9)) (by omega) (by omega) hMp127 (fun j hj => by rcases Nat.lt_succ_iff_lt_or_eq.mp hj with q | q; rw [upd_ne (by omega)]; exact hR2 j q; rw [q, upd_at]) ho124 _ _ hP hS ls (lv_sub hl [1, 0, 4] rfl)
              · refine lv_iconst (v := nI 1) hx hb dX3_lookAtBoth_123 (by decide) ?_
                refine lv_goto (tgt := 128) hx hb dX3_lookAtBoth_124 (by decide) ?_
                refine lv_iadd hx hb dX3_lookAtBoth_128 ?_
                refine g_top (y := nI ((rk_ (Ls 1) (uk_ U m9)) + 1)) (nI_add (rk_ (Ls 1) (uk_ U m9)) 1) ?_
                refine lv_istore_n (lv' := [(2, .int (nI ((rk_ (Ls 1) (uk_ U m9)) + 1))), (1, .int (nI (rk_ (Ls 0) (uk_ U (m9 + 1))))), (4, .int (on_ (Ls 1) (uk_ U m9))), (3, .int (on_ (Ls 0) (uk_ U m9))), (0, .ref (ad_ D 20))]) hx hb dX3_lookAtBoth_129 rfl hl (by decide) rfl (fun ls hl => ?_)
                have hfx128 : (nI ((rk_ (Ls 1) (uk_ U m9)) + 1)) = nI (rk_ (Ls 1) (uk_ U (m9 + 1))) := congrArg nI (lu_1 hlu.sw hmU (Int32.not_lt.mp h120))
                rw [hfx128] at hl
                refine lv_goto (tgt := 9) hx hb dX3_lookAtBoth_130 (by decide) ?_
                have hMp129 : g_Mf D σ_111 th (nI (m9 + 1)) sg S N Z (upd R2 m9 (fn_ U m9)) T := ⟨hc113, hc114, hc115, hc116, hc117, hc118, hc119, hc120, hc121, hc122, hc123⟩
                exact ih9 (m9 + 1) σ_111 (upd R2 m9 (fn_ U m9)) (by omega) (by omega) hMp129 (fun j hj => by rcases Nat.lt_succ_iff_lt_or_eq.mp hj with q | q; rw [upd_ne (by omega)]; exact hR2 j q; rw [q, upd_at]) ho124 _ _ hP hS ls (lv_sub hl [1, 0, 4] rfl)
            · refine lv_iconst (v := nI 1) hx hb dX3_lookAtBoth_109 (by decide) ?_
              refine lv_goto (tgt := 114) hx hb dX3_lookAtBoth_110 (by decide) ?_
              refine lv_iadd hx hb dX3_lookAtBoth_114 ?_
              refine g_top (y := nI ((rk_ (Ls 0) (uk_ U m9)) + 1)) (nI_add (rk_ (Ls 0) (uk_ U m9)) 1) ?_
              refine lv_istore_n (lv' := [(1, .int (nI ((rk_ (Ls 0) (uk_ U m9)) + 1))), (4, .int (on_ (Ls 1) (uk_ U m9))), (3, .int (on_ (Ls 0) (uk_ U m9))), (2, .int (nI (rk_ (Ls 1) (uk_ U m9)))), (0, .ref (ad_ D 20))]) hx hb dX3_lookAtBoth_115 rfl hl (by decide) rfl (fun ls hl => ?_)
              have hfx130 : (nI ((rk_ (Ls 0) (uk_ U m9)) + 1)) = nI (rk_ (Ls 0) (uk_ U (m9 + 1))) := congrArg nI (lu_1 hlu hmU (Int32.not_lt.mp h106))
              rw [hfx130] at hl
              refine lv_iload_n hx hb dX3_lookAtBoth_116 rfl (lv_at hl 3 rfl) ?_
              refine lv_iload hx hb dX3_lookAtBoth_117 (lv_at hl 1 rfl) ?_
              refine lv_iload_n hx hb dX3_lookAtBoth_119 rfl (lv_at hl 2 rfl) ?_
              refine lv_icmp_gt (tgt := 127) hx hb dX3_lookAtBoth_120 (by decide) (fun h120 => ?_) (fun h120 => ?_)
              · refine lv_iconst (v := nI 0) hx hb dX3_lookAtBoth_127 (by decide) ?_
                refine lv_iadd hx hb dX3_lookAtBoth_128 ?_
                refine g_top (y := nI ((rk_ (Ls 1) (uk_ U m9)) + 0)) (nI_add (rk_ (Ls 1) (uk_ U m9)) 0) ?_
                refine lv_istore_n (lv' := [(2, .int (nI ((rk_ (Ls 1) (uk_ U m9)) + 0))), (1, .int (nI (rk_ (Ls 0) (uk_ U (m9 + 1))))), (4, .int (on_ (Ls 1) (uk_ U m9))), (3, .int (on_ (Ls 0) (uk_ U m9))), (0, .ref (ad_ D 20))]) hx hb dX3_lookAtBoth_129 rfl hl (by decide) rfl (fun ls hl => ?_)
                have hfx131 : (nI ((rk_ (Ls 1) (uk_ U m9)) + 0)) = nI (rk_ (Ls 1) (uk_ U (m9 + 1))) := congrArg nI (lu_0 hlu.sw hmU h120)
                rw [hfx131] at hl
                refine lv_goto (tgt := 9) hx hb dX3_lookAtBoth_130 (by decide) ?_
                have hMp132 : g_Mf D σ_111 th (nI (m9 + 1)) sg S N Z (upd R2 m9 (fn_ U m9)) T := ⟨hc113, hc114, hc115, hc116, hc117, hc118, hc119, hc120, hc121, hc122, hc123⟩
                exact ih9 (m9 + 1) σ_111 (upd R2 m9 (fn_ U m9)) (by omega) (by omega) hMp132 (fun j hj => by rcases Nat.lt_succ_iff_lt_or_eq.mp hj with q | q; rw [upd_ne (by omega)]; exact hR2 j q; rw [q, upd_at]) ho124 _ _ hP hS ls (lv_sub hl [1, 0, 4] rfl)
              · refine lv_iconst (v := nI 1) hx hb dX3_lookAtBoth_123 (by decide) ?_
                refine lv_goto (tgt := 128) hx hb dX3_lookAtBoth_124 (by decide) ?_
                refine lv_iadd hx hb dX3_lookAtBoth_128 ?_
                refine g_top (y := nI ((rk_ (Ls 1) (uk_ U m9)) + 1)) (nI_add (rk_ (Ls 1) (uk_ U m9)) 1) ?_
                refine lv_istore_n (lv' := [(2, .int (nI ((rk_ (Ls 1) (uk_ U m9)) + 1))), (1, .int (nI (rk_ (Ls 0) (uk_ U (m9 + 1))))), (4, .int (on_ (Ls 1) (uk_ U m9))), (3, .int (on_ (Ls 0) (uk_ U m9))), (0, .ref (ad_ D 20))]) hx hb dX3_lookAtBoth_129 rfl hl (by decide) rfl (fun ls hl => ?_)
                have hfx133 : (nI ((rk_ (Ls 1) (uk_ U m9)) + 1)) = nI (rk_ (Ls 1) (uk_ U (m9 + 1))) := congrArg nI (lu_1 hlu.sw hmU (Int32.not_lt.mp h120))
                rw [hfx133] at hl
                refine lv_goto (tgt := 9) hx hb dX3_lookAtBoth_130 (by decide) ?_
                have hMp134 : g_Mf D σ_111 th (nI (m9 + 1)) sg S N Z (upd R2 m9 (fn_ U m9)) T := ⟨hc113, hc114, hc115, hc116, hc117, hc118, hc119, hc120, hc121, hc122, hc123⟩
                exact ih9 (m9 + 1) σ_111 (upd R2 m9 (fn_ U m9)) (by omega) (by omega) hMp134 (fun j hj => by rcases Nat.lt_succ_iff_lt_or_eq.mp hj with q | q; rw [upd_ne (by omega)]; exact hR2 j q; rw [q, upd_at]) ho124 _ _ hP hS ls (lv_sub hl [1, 0, 4] rfl)
          · have hb58 := g_nle (a := (Ls 1).length) (b := rk_ (Ls 1) (uk_ U m9)) h58 (by omega) (by omega)
            refine lv_aload_n hx hb dX3_lookAtBoth_61 rfl (lv_at hl 3 rfl) ?_
            refine g_get hx hb hts hE hown hP g_inX3 rfl (by decide) t_20 2 (by decide) rfl wf_X3_13 (v := .ref (ad_ D 22)) rfl dX3_lookAtBoth_62 ?_
            refine lv_bipush (v := nI 24) hx hb dX3_lookAtBoth_65 (by decide) ?_
            refine lv_iload_n hx hb dX3_lookAtBoth_67 rfl (lv_at hl 2 rfl) ?_
            refine lv_iadd hx hb dX3_lookAtBoth_68 ?_
            refine g_top (y := nI (24 + (rk_ (Ls 1) (uk_ U m9)))) (nI_add 24 (rk_ (Ls 1) (uk_ U m9))) ?_
            refine g_ialdN (j := 24 + (rk_ (Ls 1) (uk_ U m9))) hx hb hE hP (by decide) t_22 (by omega) (by decide) (v := fn_ (Ls 1) (rk_ (Ls 1) (uk_ U m9))) (hmr.N1 (by omega)) dX3_lookAtBoth_69 ?_
            refine lv_goto (tgt := 75) hx hb dX3_lookAtBoth_70 (by decide) ?_
            refine lv_istore (lv' := [(4, .int (fn_ (Ls 1) (rk_ (Ls 1) (uk_ U m9)))), (3, .int (on_ (Ls 0) (uk_ U m9))), (1, .int (nI (rk_ (Ls 0) (uk_ U m9)))), (2, .int (nI (rk_ (Ls 1) (uk_ U m9)))), (0, .ref (ad_ D 20))]) hx hb dX3_lookAtBoth_75 hl (by decide) rfl (fun ls hl => ?_)
            have hfx135 : (fn_ (Ls 1) (rk_ (Ls 1) (uk_ U m9))) = on_ (Ls 1) (uk_ U m9) := (if_pos (by omega)).symm
            rw [hfx135] at hl
            refine lv_aload_n hx hb dX3_lookAtBoth_77 rfl (lv_at hl 4 rfl) ?_
            refine g_get hx hb hts hE hown hP g_inX3 rfl (by decide) t_20 4 (by decide) rfl wf_X3_19 (v := .ref (ad_ D 24)) rfl dX3_lookAtBoth_78 ?_
            refine lv_aload_n hx hb dX3_lookAtBoth_81 rfl (lv_at hl 4 rfl) ?_
            refine g_get hx hb hts hE hown hP g_inX3 rfl (by decide) t_20 5 (by decide) rfl wf_X3_79 (v := .int (nI m9)) rfl dX3_lookAtBoth_82 ?_
            refine lv_iload_n hx hb dX3_lookAtBoth_85 rfl (lv_at hl 1 rfl) ?_
            refine lv_iload hx hb dX3_lookAtBoth_86 (lv_at hl 0 rfl) ?_
            refine g_mmin hx hb (hml.trans hl.1.symm) hown hts k_X3_86 k_min ⟨Nat.le_of_ble_eq_true rfl, Nat.le_of_ble_eq_true rfl, by omega, by omega⟩ dX3_lookAtBoth_88 ?_
            refine g_top (y := fn_ U m9) (lu_min hlu hmU) ?_
            refine g_iastN (j := m9) (x := fn_ U m9) hx hb hE hAD hP hS (by decide) t_24 (by omega) (by decide) dX3_lookAtBoth_91 (fun H locs hP hS => ?_)
            obtain ⟨σ_136, hσ137⟩ : ∃ z : Nat → va_E, z = va_up σ2 24 (.inl (g_cI D, 48, .inl (upd R2 m9 (fn_ U m9)))) := ⟨_, rfl⟩
            have hP : va_P D vwCl (g_W D σ_136) H := by rw [hσ137]; exact hP
            have hc138 := (by rw [hσ137]; exact g_upn t_20 (by decide) : σ_136 20 = .inr (3, [.int th, .ref (ad_ D 21), .ref (ad_ D 22), .ref (ad_ D 23), .ref (ad_ D 24), .int (nI m9), .int sg, .ref (ad_ D 25), .ref (ad_ D 26), .ref (ad_ D 27), .ref (ad_ D 28), .ref (ad_ D 29), .ref (ad_ D 30)]))
            have hc139 := (by rw [hσ137]; exact g_upn t_21 (by decide) : σ_136 21 = .inl (g_cI D, 2, .inl (S)))
            have hc140 := (by rw [hσ137]; exact g_upn t_22 (by decide) : σ_136 22 = .inl (g_cI D, 48, .inl (N)))
            have hc141 := (by rw [hσ137]; exact g_upn t_23 (by decide) : σ_136 23 = .inl (g_cI D, 48, .inl (Z)))
            have hc142 : σ_136 24 = .inl (g_cI D, 48, .inl (upd R2 m9 (fn_ U m9))) := by rw [hσ137]; exact g_ups
            have hc143 := (by rw [hσ137]; exact g_upn t_25 (by decide) : σ_136 25 = .inl (g_cI D, 96, .inl (T 0)))
            have hc144 := (by rw [hσ137]; exact g_upn t_26 (by decide) : σ_136 26 = .inl (g_cI D, 96, .inl (T 1)))
            have hc145 := (by rw [hσ137]; exact g_upn t_27 (by decide) : σ_136 27 = .inl (g_cI D, 96, .inl (T 2)))
            have hc146 := (by rw [hσ137]; exact g_upn t_28 (by decide) : σ_136 28 = .inl (g_cI D, 96, .inl (T 3)))
            have hc147 := (by rw [hσ137]; exact g_upn t_29 (by decide) : σ_136 29 = .inl (g_cI D, 96, .inl (T 4)))
            have hc148 := (by rw [hσ137]; exact g_upn t_30 (by decide) : σ_136 30 = .inl (g_cI D, 96, .inl (T 5)))
            have ho149 : g_off 20 30 σ σ_136 := by rw [hσ137]; exact g_off.up ho2 (by decide) (by decide)
            refine lv_aload_n hx hb dX3_lookAtBoth_92 rfl (lv_at hl 4 rfl) ?_
            refine lv_dup hx hb dX3_lookAtBoth_93 rfl ?_
            refine g_get hx hb hts hE hown hP g_inX3 rfl (by decide) hc138 5 (by decide) rfl wf_X3_79 (v := .int (nI m9)) rfl dX3_lookAtBoth_94 ?_
            refine lv_iconst (v := nI 1) hx hb dX3_lookAtBoth_97 (by decide) ?_
            refine lv_iadd hx hb dX3_lookAtBoth_98 ?_
            refine g_top (y := nI (m9 + 1)) (nI_add m9 1) ?_
            refine g_put hx hb hts hE hown hAD hP hS g_inX3 tyX3 tyX3_ok nmX3 rfl (by decide) hc138 5 (by decide) rfl rfl (by decide +kernel) wf_X3_79 (v := nI (m9 + 1)) (Nat.le_of_ble_eq_true rfl) dX3_lookAtBoth_99 (fun H locs hP hS => ?_)
            obtain ⟨σ_150, hσ151⟩ : ∃ z : Nat → va_E, z = va_up σ_136 20 (.inr (3, [.int th, .ref (ad_ D 21), .ref (ad_ D 22), .ref (ad_ D 23), .ref (ad_ D 24), .int (nI (m9 + 1)), .int sg, .ref (ad_ D 25), .ref (ad_ D 26), .ref (ad_ D 27), .ref (ad_ D 28), .ref (ad_ D 29), .ref (ad_ D 30)])) := ⟨_, rfl⟩
            have hP : va_P D vwCl (g_W D σ_150) H := by rw [hσ151]; exact hP
            have hc152 : σ_150 20 = .inr (3, [.int th, .ref (ad_ D 21), .ref (ad_ D 22), .ref (ad_ D 23), .ref (ad_ D 24), .int (nI (m9 + 1)), .int sg, .ref (ad_ D 25), .ref (ad_ D 26), .ref (ad_ D 27), .ref (ad_ D 28), .ref (ad_ D 29), .ref (ad_ D 30)]) := by rw [hσ151]; exact g_ups
            have hc153 := (by rw [hσ151]; exact g_upn hc139 (by decide) : σ_150 21 = .inl (g_cI D, 2, .inl (S)))
            have hc154 := (by rw [hσ151]; exact g_upn hc140 (by decide) : σ_150 22 = .inl (g_cI D, 48, .inl (N)))
            have hc155 := (by rw [hσ151]; exact g_upn hc141 (by decide) : σ_150 23 = .inl (g_cI D, 48, .inl (Z)))
            have hc156 := (by rw [hσ151]; exact g_upn hc142 (by decide) : σ_150 24 = .inl (g_cI D, 48, .inl (upd R2 m9 (fn_ U m9))))
            have hc157 := (by rw [hσ151]; exact g_upn hc143 (by decide) : σ_150 25 = .inl (g_cI D, 96, .inl (T 0)))
            have hc158 := (by rw [hσ151]; exact g_upn hc144 (by decide) : σ_150 26 = .inl (g_cI D, 96, .inl (T 1)))
            have hc159 := (by rw [hσ151]; exact g_upn hc145 (by decide) : σ_150 27 = .inl (g_cI D, 96, .inl (T 2)))
            have hc160 := (by rw [hσ151]; exact g_upn hc146 (by decide) : σ_150 28 = .inl (g_cI D, 96, .inl (T 3)))
            have hc161 := (by rw [hσ151]; exact g_upn hc147 (by decide) : σ_150 29 = .inl (g_cI D, 96, .inl (T 4)))
            have hc162 := (by rw [hσ151]; exact g_upn hc148 (by decide) : σ_150 30 = .inl (g_cI D, 96, .inl (T 5)))
            have ho163 : g_off 20 30 σ σ_150 := by rw [hσ151]; exact g_off.up ho149 (by decide) (by decide)
            refine lv_iload_n hx hb dX3_lookAtBoth_102 rfl (lv_at hl 2 rfl) ?_
            refine lv_iload_n hx hb dX3_lookAtBoth_103 rfl (lv_at hl 1 rfl) ?_
            refine lv_iload hx hb dX3_lookAtBoth_104 (lv_at hl 0 rfl) ?_
            refine lv_icmp_gt (tgt := 113) hx hb dX3_lookAtBoth_106 (by decide) (fun h106 => ?_) (fun h106 => ?_)
            · refine lv_iconst (v := nI 0) hx hb dX3_lookAtBoth_113 (by decide) ?_
              refine lv_iadd hx hb dX3_lookAtBoth_114 ?_
              refine g_top (y := nI ((rk_ (Ls 0) (uk_ U m9)) + 0)) (nI_add (rk_ (Ls 0) (uk_ U m9)) 0) ?_
              refine lv_istore_n (lv' := [(1, .int (nI ((rk_ (Ls 0) (uk_ U m9)) + 0))), (4, .int (on_ (Ls 1) (uk_ U m9))), (3, .int (on_ (Ls 0) (uk_ U m9))), (2, .int (nI (rk_ (Ls 1) (uk_ U m9)))), (0, .ref (ad_ D 20))]) hx hb dX3_lookAtBoth_115 rfl hl (by decide) rfl (fun ls hl => ?_)
              have hfx164 : (nI ((rk_ (Ls 0) (uk_ U m9)) + 0)) = nI (rk_ (Ls 0) (uk_ U (m9 + 1))) := congrArg nI (lu_0 hlu hmU h106)
              rw [hfx164] at hl
              refine lv_iload_n hx hb dX3_lookAtBoth_116 rfl (lv_at hl 3 rfl) ?_
              refine lv_iload hx hb dX3_lookAtBoth_117 (lv_at hl 1 rfl) ?_
              refine lv_iload_n hx hb dX3_lookAtBoth_119 rfl (lv_at hl 2 rfl) ?_
              refine lv_icmp_gt (tgt := 127) hx hb dX3_lookAtBoth_120 (by decide) (fun h120 => ?_) (fun h120 => ?_)
              · refine lv_iconst (v := nI 0) hx hb dX3_lookAtBoth_127 (by decide) ?_
                refine lv_iadd hx hb dX3_lookAtBoth_128 ?_
                refine g_top (y := nI ((rk_ (Ls 1) (uk_ U m9)) + 0)) (nI_add (rk_ (Ls 1) (uk_ U m9)) 0) ?_
                refine lv_istore_n (lv' := [(2, .int (nI ((rk_ (Ls 1) (uk_ U m9)) + 0))), (1, .int (nI (rk_ (Ls 0) (uk_ U (m9 + 1))))), (4, .int (on_ (Ls 1) (uk_ U m9))), (3, .int (on_ (Ls 0) (uk_ U m9))), (0, .ref (ad_ D 20))]) hx hb dX3_lookAtBoth_129 rfl hl (by decide) rfl (fun ls hl => ?_)
                have hfx165 : (nI ((rk_ (Ls 1) (uk_ U m9)) + 0)) = nI (rk_ (Ls 1) (uk_ U (m9 + 1))) := congrArg nI (lu_0 hlu.sw hmU h120)
                rw [hfx165] at hl
                refine lv_goto (tgt := 9) hx hb dX3_lookAtBoth_130 (by decide) ?_
                have hMp166 : g_Mf D σ_150 th (nI (m9 + 1)) sg S N Z (upd R2 m9 (fn_ U m9)) T := ⟨hc152, hc153, hc154, hc155, hc156, hc157, hc158, hc159, hc160, hc161, hc162⟩
                exact ih9 (m9 + 1) σ_150 (upd R2 m9 (fn_ U m9)) (by omega) (by omega) hMp166 (fun j hj => by rcases Nat.lt_succ_iff_lt_or_eq.mp hj with q | q; rw [upd_ne (by omega)]; exact hR2 j q; rw [q, upd_at]) ho163 _ _ hP hS ls (lv_sub hl [1, 0, 4] rfl)
              · refine lv_iconst (v := nI 1) hx hb dX3_lookAtBoth_123 (by decide) ?_
                refine lv_goto (tgt := 128) hx hb dX3_lookAtBoth_124 (by decide) ?_
                refine lv_iadd hx hb dX3_lookAtBoth_128 ?_
                refine g_top (y := nI ((rk_ (Ls 1) (uk_ U m9)) + 1)) (nI_add (rk_ (Ls 1) (uk_ U m9)) 1) ?_
                refine lv_istore_n (lv' := [(2, .int (nI ((rk_ (Ls 1) (uk_ U m9)) + 1))), (1, .int (nI (rk_ (Ls 0) (uk_ U (m9 + 1))))), (4, .int (on_ (Ls 1) (uk_ U m9))), (3, .int (on_ (Ls 0) (uk_ U m9))), (0, .ref (ad_ D 20))]) hx hb dX3_lookAtBoth_129 rfl hl (by decide) rfl (fun ls hl => ?_)
                have hfx167 : (nI ((rk_ (Ls 1) (uk_ U m9)) + 1)) = nI (rk_ (Ls 1) (uk_ U (m9 + 1))) := congrArg nI (lu_1 hlu.sw hmU (Int32.not_lt.mp h120))
                rw [hfx167] at hl
                refine lv_goto (tgt := 9) hx hb dX3_lookAtBoth_130 (by decide) ?_
                have hMp168 : g_Mf D σ_150 th (nI (m9 + 1)) sg S N Z (upd R2 m9 (fn_ U m9)) T := ⟨hc152, hc153, hc154, hc155, hc156, hc157, hc158, hc159, hc160, hc161, hc162⟩
                exact ih9 (m9 + 1) σ_150 (upd R2 m9 (fn_ U m9)) (by omega) (by omega) hMp168 (fun j hj => by rcases Nat.lt_succ_iff_lt_or_eq.mp hj with q | q; rw [upd_ne (by omega)]; exact hR2 j q; rw [q, upd_at]) ho163 _ _ hP hS ls (lv_sub hl [1, 0, 4] rfl)
            · refine lv_iconst (v := nI 1) hx hb dX3_lookAtBoth_109 (by decide) ?_
              refine lv_goto (tgt := 114) hx hb dX3_lookAtBoth_110 (by decide) ?_
              refine lv_iadd hx hb dX3_lookAtBoth_114 ?_
              refine g_top (y := nI ((rk_ (Ls 0) (uk_ U m9)) + 1)) (nI_add (rk_ (Ls 0) (uk_ U m9)) 1) ?_
              refine lv_istore_n (lv' := [(1, .int (nI ((rk_ (Ls 0) (uk_ U m9)) + 1))), (4, .int (on_ (Ls 1) (uk_ U m9))), (3, .int (on_ (Ls 0) (uk_ U m9))), (2, .int (nI (rk_ (Ls 1) (uk_ U m9)))), (0, .ref (ad_ D 20))]) hx hb dX3_lookAtBoth_115 rfl hl (by decide) rfl (fun ls hl => ?_)
              have hfx169 : (nI ((rk_ (Ls 0) (uk_ U m9)) + 1)) = nI (rk_ (Ls 0) (uk_ U (m9 + 1))) := congrArg nI (lu_1 hlu hmU (Int32.not_lt.mp h106))
              rw [hfx169] at hl
              refine lv_iload_n hx hb dX3_lookAtBoth_116 rfl (lv_at hl 3 rfl) ?_
              refine lv_iload hx hb dX3_lookAtBoth_117 (lv_at hl 1 rfl) ?_
              refine lv_iload_n hx hb dX3_lookAtBoth_119 rfl (lv_at hl 2 rfl) ?_
              refine lv_icmp_gt (tgt := 127) hx hb dX3_lookAtBoth_120 (by decide) (fun h120 => ?_) (fun h120 => ?_)
              · refine lv_iconst (v := nI 0) hx hb dX3_lookAtBoth_127 (by decide) ?_
                refine lv_iadd hx hb dX3_lookAtBoth_128 ?_
                refine g_top (y := nI ((rk_ (Ls 1) (uk_ U m9)) + 0)) (nI_add (rk_ (Ls 1) (uk_ U m9)) 0) ?_
                refine lv_istore_n (lv' := [(2, .int (nI ((rk_ (Ls 1) (uk_ U m9)) + 0))), (1, .int (nI (rk_ (Ls 0) (uk_ U (m9 + 1))))), (4, .int (on_ (Ls 1) (uk_ U m9))), (3, .int (on_ (Ls 0) (uk_ U m9))), (0, .ref (ad_ D 20))]) hx hb dX3_lookAtBoth_129 rfl hl (by decide) rfl (fun ls hl => ?_)
                have hfx170 : (nI ((rk_ (Ls 1) (uk_ U m9)) + 0)) = nI (rk_ (Ls 1) (uk_ U (m9 + 1))) := congrArg nI (lu_0 hlu.sw hmU h120)
                rw [hfx170] at hl
                refine lv_goto (tgt := 9) hx hb dX3_lookAtBoth_130 (by decide) ?_
                have hMp171 : g_Mf D σ_150 th (nI (m9 + 1)) sg S N Z (upd R2 m9 (fn_ U m9)) T := ⟨hc152, hc153, hc154, hc155, hc156, hc157, hc158, hc159, hc160, hc161, hc162⟩
                exact ih9 (m9 + 1) σ_150 (upd R2 m9 (fn_ U m9)) (by omega) (by omega) hMp171 (fun j hj => by rcases Nat.lt_succ_iff_lt_or_eq.mp hj with q | q; rw [upd_ne (by omega)]; exact hR2 j q; rw [q, upd_at]) ho163 _ _ hP hS ls (lv_sub hl [1, 0, 4] rfl)
              · refine lv_iconst (v := nI 1) hx hb dX3_lookAtBoth_123 (by decide) ?_
                refine lv_goto (tgt := 128) hx hb dX3_lookAtBoth_124 (by decide) ?_
                refine lv_iadd hx hb dX3_lookAtBoth_128 ?_
                refine g_top (y := nI ((rk_ (Ls 1) (uk_ U m9)) + 1)) (nI_add (rk_ (Ls 1) (uk_ U m9)) 1) ?_
                refine lv_istore_n (lv' := [(2, .int (nI ((rk_ (Ls 1) (uk_ U m9)) + 1))), (1, .int (nI (rk_ (Ls 0) (uk_ U (m9 + 1))))), (4, .int (on_ (Ls 1) (uk_ U m9))), (3, .int (on_ (Ls 0) (uk_ U m9))), (0, .ref (ad_ D 20))]) hx hb dX3_lookAtBoth_129 rfl hl (by decide) rfl (fun ls hl => ?_)
                have hfx172 : (nI ((rk_ (Ls 1) (uk_ U m9)) + 1)) = nI (rk_ (Ls 1) (uk_ U (m9 + 1))) := congrArg nI (lu_1 hlu.sw hmU (Int32.not_lt.mp h120))
                rw [hfx172] at hl
                refine lv_goto (tgt := 9) hx hb dX3_lookAtBoth_130 (by decide) ?_
                have hMp173 : g_Mf D σ_150 th (nI (m9 + 1)) sg S N Z (upd R2 m9 (fn_ U m9)) T := ⟨hc152, hc153, hc154, hc155, hc156, hc157, hc158, hc159, hc160, hc161, hc162⟩
                exact ih9 (m9 + 1) σ_150 (upd R2 m9 (fn_ U m9)) (by omega) (by omega) hMp173 (fun j hj => by rcases Nat.lt_succ_iff_lt_or_eq.mp hj with q | q; rw [upd_ne (by omega)]; exact hR2 j q; rw [q, upd_at]) ho163 _ _ hP hS ls (lv_sub hl [1, 0, 4] rfl)
      · have hb16 := g_nlt (a := rk_ (Ls 0) (uk_ U m9)) (b := (Ls 0).length) h16 (by omega) (by omega)
        refine lv_iload_n hx hb dX3_lookAtBoth_19 rfl (lv_at hl 1 rfl) ?_
        refine lv_aload_n hx hb dX3_lookAtBoth_20 rfl (lv_at hl 2 rfl) ?_
        refine g_get hx hb hts hE hown hP g_inX3 rfl (by decide) t_20 1 (by decide) rfl wf_X3_9 (v := .ref (ad_ D 21)) rfl dX3_lookAtBoth_21 ?_
        refine lv_iconst (v := nI 1) hx hb dX3_lookAtBoth_24 (by decide) ?_
        refine g_ialdN (j := 1) hx hb hE hP (by decide) t_21 (by omega) (by decide) (v := nI ((Ls 1).length)) (hmr.S (by omega)) dX3_lookAtBoth_25 ?_
        refine lv_icmp_ge (tgt := 133) hx hb dX3_lookAtBoth_26 (by decide) (fun h26 => ?_) (fun h26 => ?_)
        · have hb26 := g_le (a := (Ls 1).length) (b := rk_ (Ls 1) (uk_ U m9)) h26 (by omega) (by omega)
          have hmU := lu_end hlu hm9 (by omega) (by omega)
          skip
          have hMp174 : g_Mf D σ2 th (nI m9) sg S N Z R2 T := ⟨t_20, t_21, t_22, t_23, t_24, t_25, t_26, t_27, t_28, t_29, t_30⟩
          have hM9 := hMp174
          rw [hmU] at hM9
          obtain ⟨k175_20, k175_21, k175_22, k175_23, k175_24, k175_25, k175_26, k175_27, k175_28, k175_29, k175_30⟩ := id hM9
          refine lv_aload_n hx hb dX3_lookAtBoth_133 rfl (lv_at hl 2 rfl) ?_
          have hMp176 : g_Mf D σ2 th (nI U.length) sg S N Z R2 T := ⟨k175_20, k175_21, k175_22, k175_23, k175_24, k175_25, k175_26, k175_27, k175_28, k175_29, k175_30⟩
          refine g_callV0 (y := yX3_makeSigns) (n := 0) (As := []) (rest := []) hx hb hml hown hts hE hZ hP hS hl.1 (m_X3_makeSigns l D hAD σ2 th sg S N Z R2 T U hMp176 hlu.u (by omega) (by rw [← hmU]; exact hR2)) k_X3_82 (ci := 3) (by decide) k175_20 rfl rfl rfl rfl rfl ⟨rfl, rfl⟩ ⟨Nat.le_of_ble_eq_true rfl, Nat.le_of_ble_eq_true rfl⟩ (Nat.le_of_ble_eq_true rfl) ⟨Nat.le_of_ble_eq_true rfl, Nat.le_of_ble_eq_true rfl⟩ dX3_lookAtBoth_134 (fun v177 σ_178 H locs hq hP hS => ?_)
          obtain ⟨rfl, hq2⟩ := hq
          refine W.eq (g2 := F0 m 137 ls []) rfl ?_
          obtain ⟨⟨Rn179, Tn179, hMn179, hRln179, hTln179⟩, hofn179⟩ := hq2
          obtain ⟨k180_20, k180_21, k180_22, k180_23, k180_24, k180_25, k180_26, k180_27, k180_28, k180_29, k180_30⟩ := id hMn179
          have ho181 := g_off.tr ho2 (g_off.wd hofn179 (by decide) (by decide))
          rw [← hQ]
          exact W.vret hx hb hr (fun te9 hte9 _ => g_fin (⟨rfl, by rw [← hU]; exact ⟨_, _, hMn179, hRln179, hTln179⟩, ho181⟩) hP hS hte9) hS.2.2 dX3_lookAtBoth_137 hlocks
        · have hb26 := g_nle (a := (Ls 1).length) (b := rk_ (Ls 1) (uk_ U m9)) h26 (by omega) (by omega)
          have hmU := lu_go hlu hm9 (Or.inr hb26)
          refine lv_iload_n hx hb dX3_lookAtBoth_29 rfl (lv_at hl 0 rfl) ?_
          refine lv_aload_n hx hb dX3_lookAtBoth_30 rfl (lv_at hl 2 rfl) ?_
          refine g_get hx hb hts hE hown hP g_inX3 rfl (by decide) t_20 1 (by decide) rfl wf_X3_9 (v := .ref (ad_ D 21)) rfl dX3_lookAtBoth_31 ?_
          refine lv_iconst (v := nI 0) hx hb dX3_lookAtBoth_34 (by decide) ?_
          refine g_ialdN (j := 0) hx hb hE hP (by decide) t_21 (by omega) (by decide) (v := nI ((Ls 0).length)) (hmr.S (by omega)) dX3_lookAtBoth_35 ?_
          refine lv_icmp_ge (tgt := 48) hx hb dX3_lookAtBoth_36 (by decide) (fun h36 => ?_) (fun h36 => ?_)
          · have hb36 := g_le (a := (Ls 0).length) (b := rk_ (Ls 0) (uk_ U m9)) h36 (by omega) (by omega)
            refine lv_ldc (v := 65536) hx hb hown (hts _ wc_X3_85) dX3_lookAtBoth_48 ?_
            refine g_top (y := nI 65536) (by decide) ?_
            refine lv_istore_n (lv' := [(3, .int (nI 65536)), (1, .int (nI (rk_ (Ls 0) (uk_ U m9)))), (2, .int (nI (rk_ (Ls 1) (uk_ U m9)))), (0, .ref (ad_ D 20))]) hx hb dX3_lookAtBoth_50 rfl hl (by decide) rfl (fun ls hl => ?_)
            have hfx182 : (nI 65536) = on_ (Ls 0) (uk_ U m9) := (if_neg (by omega)).symm
            rw [hfx182] at hl
            refine lv_iload_n hx hb dX3_lookAtBoth_51 rfl (lv_at hl 2 rfl) ?_
            refine lv_aload_n hx hb dX3_lookAtBoth_52 rfl (lv_at hl 3 rfl) ?_
            refine g_get hx hb hts hE hown hP g_inX3 rfl (by decide) t_20 1 (by decide) rfl wf_X3_9 (v := .ref (ad_ D 21)) rfl dX3_lookAtBoth_53 ?_
            refine lv_iconst (v := nI 1) hx hb dX3_lookAtBoth_56 (by decide) ?_
            refine g_ialdN (j := 1) hx hb hE hP (by decide) t_21 (by omega) (by decide) (v := nI ((Ls 1).length)) (hmr.S (by omega)) dX3_lookAtBoth_57 ?_
            refine lv_icmp_ge (tgt := 73) hx hb dX3_lookAtBoth_58 (by decide) (fun h58 => ?_) (fun h58 => ?_)
            · have hb58 := g_le (a := (Ls 1).length) (b := rk_ (Ls 1) (uk_ U m9)) h58 (by omega) (by omega)
              refine lv_ldc (v := 65536) hx hb hown (hts _ wc_X3_85) dX3_lookAtBoth_73 ?_
              refine g_top (y := nI 65536) (by decide) ?_
              refine lv_istore (lv' := [(4, .int (nI 65536)), (3, .int (on_ (Ls 0) (uk_ U m9))), (1, .int (nI (rk_ (Ls 0) (uk_ U m9)))), (2, .int (nI (rk_ (Ls 1) (uk_ U m9)))), (0, .ref (ad_ D 20))]) hx hb dX3_lookAtBoth_75 hl (by decide) rfl (fun ls hl => ?_)
              have hfx183 : (nI 65536) = on_ (Ls 1) (uk_ U m9) := (if_neg (by omega)).symm
              rw [hfx183] at hl
              refine lv_aload_n hx hb dX3_lookAtBoth_77 rfl (lv_at hl 4 rfl) ?_
              refine g_get hx hb hts hE hown hP g_inX3 rfl (by decide) t_20 4 (by decide) rfl wf_X3_19 (v := .ref (ad_ D 24)) rfl dX3_lookAtBoth_78 ?_
              refine lv_aload_n hx hb dX3_lookAtBoth_81 rfl (lv_at hl 4 rfl) ?_
              refine g_get hx hb hts hE hown hP g_inX3 rfl (by decide) t_20 5 (by decide) rfl wf_X3_79 (v := .int (nI m9)) rfl dX3_lookAtBoth_82 ?_
              refine lv_iload_n hx hb dX3_lookAtBoth_85 rfl (lv_at hl 1 rfl) ?_
              refine lv_iload hx hb dX3_lookAtBoth_86 (lv_at hl 0 rfl) ?_
              refine g_mmin hx hb (hml.trans hl.1.symm) hown hts k_X3_86 k_min ⟨Nat.le_of_ble_eq_true rfl, Nat.le_of_ble_eq_true rfl, by omega, by omega⟩ dX3_lookAtBoth_88 ?_
              refine g_top (y := fn_ U m9) (lu_min hlu hmU) ?_
              refine g_iastN (j := m9) (x := fn_ U m9) hx hb hE hAD hP hS (by decide) t_24 (by omega) (by decide) dX3_lookAtBoth_91 (fun H locs hP hS => ?_)
              obtain ⟨σ_184, hσ185⟩ : ∃ z : Nat → va_E, z = va_up σ2 24 (.inl (g_cI D, 48, .inl (upd R2 m9 (fn_ U m9)))) := ⟨_, rfl⟩
              have hP : va_P D vwCl (g_W D σ_184) H := by rw [hσ185]; exact hP
              have hc186 := (by rw [hσ185]; exact g_upn t_20 (by decide) : σ_184 20 = .inr (3, [.int th, .ref (ad_ D 21), .ref (ad_ D 22), .ref (ad_ D 23), .ref (ad_ D 24), .int (nI m9), .int sg, .ref (ad_ D 25), .ref (ad_ D 26), .ref (ad_ D 27), .ref (ad_ D 28), .ref (ad_ D 29), .ref (ad_ D 30)]))
              have hc187 := (by rw [hσ185]; exact g_upn t_21 (by decide) : σ_184 21 = .inl (g_cI D, 2, .inl (S)))
              have hc188 := (by rw [hσ185]; exact g_upn t_22 (by decide) : σ_184 22 = .inl (g_cI D, 48, .inl (N)))
              have hc189 := (by rw [hσ185]; exact g_upn t_23 (by decide) : σ_184 23 = .inl (g_cI D, 48, .inl (Z)))
              have hc190 : σ_184 24 = .inl (g_cI D, 48, .inl (upd R2 m9 (fn_ U m9))) := by rw [hσ185]; exact g_ups
              have hc191 := (by rw [hσ185]; exact g_upn t_25 (by decide) : σ_184 25 = .inl (g_cI D, 96, .inl (T 0)))
              have hc192 := (by rw [hσ185]; exact g_upn t_26 (by decide) : σ_184 26 = .inl (g_cI D, 96, .inl (T 1)))
              have hc193 := (by rw [hσ185]; exact g_upn t_27 (by decide) : σ_184 27 = .inl (g_cI D, 96, .inl (T 2)))
              have hc194 := (by rw [hσ185]; exact g_upn t_28 (by decide) : σ_184 28 = .inl (g_cI D, 96, .inl (T 3)))
              have hc195 := (by rw [hσ185]; exact g_upn t_29 (by decide) : σ_184 29 = .inl (g_cI D, 96, .inl (T 4)))
              have hc196 := (by rw [hσ185]; exact g_upn t_30 (by decide) : σ_184 30 = .inl (g_cI D, 96, .inl (T 5)))
              have ho197 : g_off 20 30 σ σ_184 := by rw [hσ185]; exact g_off.up ho2 (by decide) (by decide)
              refine lv_aload_n hx hb dX3_lookAtBoth_92 rfl (lv_at hl 4 rfl) ?_
              refine lv_dup hx hb dX3_lookAtBoth_93 rfl ?_
              refine g_get hx hb hts hE hown hP g_inX3 rfl (by decide) hc186 5 (by decide) rfl wf_X3_79 (v := .int (nI m9)) rfl dX3_lookAtBoth_94 ?_
              refine lv_iconst (v := nI 1) hx hb dX3_lookAtBoth_97 (by decide) ?_
              refine lv_iadd hx hb dX3_lookAtBoth_98 ?_
              refine g_top (y := nI (m9 + 1)) (nI_add m9 1) ?_
              refine g_put hx hb hts hE hown hAD hP hS g_inX3 tyX3 tyX3_ok nmX3 rfl (by decide) hc186 5 (by decide) rfl rfl (by decide +kernel) wf_X3_79 (v := nI (m9 + 1)) (Nat.le_of_ble_eq_true rfl) dX3_lookAtBoth_99 (fun H locs hP hS => ?_)
              obtain ⟨σ_198, hσ199⟩ : ∃ z : Nat → va_E, z = va_up σ_184 20 (.inr (3, [.int th, .ref (ad_ D 21), .ref (ad_ D 22), .ref (ad_ D 23), .ref (ad_ D 24), .int (nI (m9 + 1)), .int sg, .ref (ad_ D 25), .ref (ad_ D 26), .ref (ad_ D 27), .ref (ad_ D 28), .ref (ad_ D 29), .ref (ad_ D 30)])) := ⟨_, rfl⟩
              have hP : va_P D vwCl (g_W D σ_198) H := by rw [hσ199]; exact hP
              have hc200 : σ_198 20 = .inr (3, [.int th, .ref (ad_ D 21), .ref (ad_ D 22), .ref (ad_ D 23), .ref (ad_ D 24), .int (nI (m9 + 1)), .int sg, .ref (ad_ D 25), .ref (ad_ D 26), .ref (ad_ D 27), .ref (ad_ D 28), .ref (ad_ D 29), .ref (ad_ D 30)]) := by rw [hσ199]; exact g_ups
              have hc201 := (by rw [hσ199]; exact g_upn hc187 (by decide) : σ_198 21 = .inl (g_cI D, 2, .inl (S)))
              have hc202 := (by rw [hσ199]; exact g_upn hc188 (by decide) : σ_198 22 = .inl (g_cI D, 48, .inl (N)))
              have hc203 := (by rw [hσ199]; exact g_upn hc189 (by decide) : σ_198 23 = .inl (g_cI D, 48, .inl (Z)))
              have hc204 := (by rw [hσ199]; exact g_upn hc190 (by decide) : σ_198 24 = .inl (g_cI D, 48, .inl (upd R2 m9 (fn_ U m9))))
              have hc205 := (by rw [hσ199]; exact g_upn hc191 (by decide) : σ_198 25 = .inl (g_cI D, 96, .inl (T 0)))
              have hc206 := (by rw [hσ199]; exact g_upn hc192 (by decide) : σ_198 26 = .inl (g_cI D, 96, .inl (T 1)))
              have hc207 := (by rw [hσ199]; exact g_upn hc193 (by decide) : σ_198 27 = .inl (g_cI D, 96, .inl (T 2)))
              have hc208 := (by rw [hσ199]; exact g_upn hc194 (by decide) : σ_198 28 = .inl (g_cI D, 96, .inl (T 3)))
              have hc209 := (by rw [hσ199]; exact g_upn hc195 (by decide) : σ_198 29 = .inl (g_cI D, 96, .inl (T 4)))
              have hc210 := (by rw [hσ199]; exact g_upn hc196 (by decide) : σ_198 30 = .inl (g_cI D, 96, .inl (T 5)))
              have ho211 : g_off 20 30 σ σ_198 := by rw [hσ199]; exact g_off.up ho197 (by decide) (by decide)
              refine lv_iload_n hx hb dX3_lookAtBoth_102 rfl (lv_at hl 2 rfl) ?_
              refine lv_iload_n hx hb dX3_lookAtBoth_103 rfl (lv_at hl 1 rfl) ?_
              refine lv_iload hx hb dX3_lookAtBoth_104 (lv_at hl 0 rfl) ?_
              refine lv_icmp_gt (tgt := 113) hx hb dX3_lookAtBoth_106 (by decide) (fun h106 => ?_) (fun h106 => ?_)
              · refine lv_iconst (v := nI 0) hx hb dX3_lookAtBoth_113 (by decide) ?_
                refine lv_iadd hx hb dX3_lookAtBoth_114 ?_
                refine g_top (y := nI ((rk_ (Ls 0) (uk_ U m9)) + 0)) (nI_add (rk_ (Ls 0) (uk_ U m9)) 0) ?_
                refine lv_istore_n (lv' := [(1, .int (nI ((rk_ (Ls 0) (uk_ U m9)) + 0))), (4, .int (on_ (Ls 1) (uk_ U m9))), (3, .int (on_ (Ls 0) (uk_ U m9))), (2, .int (nI (rk_ (Ls 1) (uk_ U m9)))), (0, .ref (ad_ D 20))]) hx hb dX3_lookAtBoth_115 rfl hl (by decide) rfl (fun ls hl => ?_)
                have hfx212 : (nI ((rk_ (Ls 0) (uk_ U m9)) + 0)) = nI (rk_ (Ls 0) (uk_ U (m9 + 1))) := congrArg nI (lu_0 hlu hmU h106)
                rw [hfx212] at hl
                refine lv_iload_n hx hb dX3_lookAtBoth_116 rfl (lv_at hl 3 rfl) ?_
                refine lv_iload hx hb dX3_lookAtBoth_117 (lv_at hl 1 rfl) ?_
                refine lv_iload_n hx hb dX3_lookAtBoth_119 rfl (lv_at hl 2 rfl) ?_
                refine lv_icmp_gt (tgt := 127) hx hb dX3_lookAtBoth_120 (by decide) (fun h120 => ?_) (fun h120 => ?_)
                · refine lv_iconst (v := nI 0) hx hb dX3_lookAtBoth_127 (by decide) ?_
                  refine lv_iadd hx hb dX3_lookAtBoth_128 ?_
                  refine g_top (y := nI ((rk_ (Ls 1) (uk_ U m9)) + 0)) (nI_add (rk_ (Ls 1) (uk_ U m9)) 0) ?_
                  refine lv_istore_n (lv' := [(2, .int (nI ((rk_ (Ls 1) (uk_ U m9)) + 0))), (1, .int (nI (rk_ (Ls 0) (uk_ U (m9 + 1))))), (4, .int (on_ (Ls 1) (uk_ U m9))), (3, .int (on_ (Ls 0) (uk_ U m9))), (0, .ref (ad_ D 20))]) hx hb dX3_lookAtBoth_129 rfl hl (by decide) rfl (fun ls hl => ?_)
                  have hfx213 : (nI ((rk_ (Ls 1) (uk_ U m9)) + 0)) = nI (rk_ (Ls 1) (uk_ U (m9 + 1))) := congrArg nI (lu_0 hlu.sw hmU h120)
                  rw [hfx213] at hl
                  refine lv_goto (tgt := 9) hx hb dX3_lookAtBoth_130 (by decide) ?_
                  have hMp214 : g_Mf D σ_198 th (nI (m9 + 1)) sg S N Z (upd R2 m9 (fn_ U m9)) T := ⟨hc200, hc201, hc202, hc203, hc204, hc205, hc206, hc207, hc208, hc209, hc210⟩
                  exact ih9 (m9 + 1) σ_198 (upd R2 m9 (fn_ U m9)) (by omega) (by omega) hMp214 (fun j hj => by rcases Nat.lt_succ_iff_lt_or_eq.mp hj with q | q; rw [upd_ne (by omega)]; exact hR2 j q; rw [q, upd_at]) ho211 _ _ hP hS ls (lv_sub hl [1, 0, 4] rfl)
                · refine lv_iconst (v := nI 1) hx hb dX3_lookAtBoth_123 (by decide) ?_
                  refine lv_goto (tgt := 128) hx hb dX3_lookAtBoth_124 (by decide) ?_
                  refine lv_iadd hx hb dX3_lookAtBoth_128 ?_
                  refine g_top (y := nI ((rk_ (Ls 1) (uk_ U m9)) + 1)) (nI_add (rk_ (Ls 1) (uk_ U m9)) 1) ?_
                  refine lv_istore_n (lv' := [(2, .int (nI ((rk_ (Ls 1) (uk_ U m9)) + 1))), (1, .int (nI (rk_ (Ls 0) (uk_ U (m9 + 1))))), (4, .int (on_ (Ls 1) (uk_ U m9))), (3, .int (on_ (Ls 0) (uk_ U m9))), (0, .ref (ad_ D 20))]) hx hb dX3_lookAtBoth_129 rfl hl (by decide) rfl (fun ls hl => ?_)
                  have hfx215 : (nI ((rk_ (Ls 1) (uk_ U m9)) + 1)) = nI (rk_ (Ls 1) (uk_ U (m9 + 1))) := congrArg nI (lu_1 hlu.sw hmU (Int32.not_lt.mp h120))
                  rw [hfx215] at hl
                  refine lv_goto (tgt := 9) hx hb dX3_lookAtBoth_130 (by decide) ?_
                  have hMp216 : g_Mf D σ_198 th (nI (m9 + 1)) sg S N Z (upd R2 m9 (fn_ U m9)) T := ⟨hc200, hc201, hc202, hc203, hc204, hc205, hc206, hc207, hc208, hc209, hc210⟩
                  exact ih9 (m9 + 1) σ_198 (upd R2 m9 (fn_ U m9)) (by omega) (by omega) hMp216 (fun j hj => by rcases Nat.lt_succ_iff_lt_or_eq.mp hj with q | q; rw [upd_ne (by omega)]; exact hR2 j q; rw [q, upd_at]) ho211 _ _ hP hS ls (lv_sub hl [1, 0, 4] rfl)
              · refine lv_iconst (v := nI 1) hx hb dX3_lookAtBoth_109 (by decide) ?_
                refine lv_goto (tgt := 114) hx hb dX3_lookAtBoth_110 (by decide) ?_
                refine lv_iadd hx hb dX3_lookAtBoth_114 ?_
                refine g_top (y := nI ((rk_ (Ls 0) (uk_ U m9)) + 1)) (nI_add (rk_ (Ls 0) (uk_ U m9)) 1) ?_
                refine lv_istore_n (lv' := [(1, .int (nI ((rk_ (Ls 0) (uk_ U m9)) + 1))), (4, .int (on_ (Ls 1) (uk_ U m9))), (3, .int (on_ (Ls 0) (uk_ U m9))), (2, .int (nI (rk_ (Ls 1) (uk_ U m9)))), (0, .ref (ad_ D 20))]) hx hb dX3_lookAtBoth_115 rfl hl (by decide) rfl (fun ls hl => ?_)
                have hfx217 : (nI ((rk_ (Ls 0) (uk_ U m9)) + 1)) = nI (rk_ (Ls 0) (uk_ U (m9 + 1))) := congrArg nI (lu_1 hlu hmU (Int32.not_lt.mp h106))
                rw [hfx217] at hl
                refine lv_iload_n hx hb dX3_lookAtBoth_116 rfl (lv_at hl 3 rfl) ?_
                refine lv_iload hx hb dX3_lookAtBoth_117 (lv_at hl 1 rfl) ?_
                refine lv_iload_n hx hb dX3_lookAtBoth_119 rfl (lv_at hl 2 rfl) ?_
                refine lv_icmp_gt (tgt := 127) hx hb dX3_lookAtBoth_120 (by decide) (fun h120 => ?_) (fun h120 => ?_)
                · refine lv_iconst (v := nI 0) hx hb dX3_lookAtBoth_127 (by decide) ?_
                  refine lv_iadd hx hb dX3_lookAtBoth_128 ?_
                  refine g_top (y := nI ((rk_ (Ls 1) (uk_ U m9)) + 0)) (nI_add (rk_ (Ls 1) (uk_ U m9)) 0) ?_
                  refine lv_istore_n (lv' := [(2, .int (nI ((rk_ (Ls 1) (uk_ U m9)) + 0))), (1, .int (nI (rk_ (Ls 0) (uk_ U (m9 + 1))))), (4, .int (on_ (Ls 1) (uk_ U m9))), (3, .int (on_ (Ls 0) (uk_ U m9))), (0, .ref (ad_ D 20))]) hx hb dX3_lookAtBoth_129 rfl hl (by decide) rfl (fun ls hl => ?_)
                  have hfx218 : (nI ((rk_ (Ls 1) (uk_ U m9)) + 0)) = nI (rk_ (Ls 1) (uk_ U (m9 + 1))) := congrArg nI (lu_0 hlu.sw hmU h120)
                  rw [hfx218] at hl
                  refine lv_goto (tgt := 9) hx hb dX3_lookAtBoth_130 (by decide) ?_
                  have hMp219 : g_Mf D σ_198 th (nI (m9 + 1)) sg S N Z (upd R2 m9 (fn_ U m9)) T := ⟨hc200, hc201, hc202, hc203, hc204, hc205, hc206, hc207, hc208, hc209, hc210⟩
                  exact ih9 (m9 + 1) σ_198 (upd R2 m9 (fn_ U m9)) (by omega) (by omega) hMp219 (fun j hj => by rcases Nat.lt_succ_iff_lt_or_eq.mp hj with q | q; rw [upd_ne (by omega)]; exact hR2 j q; rw [q, upd_at]) ho211 _ _ hP hS ls (lv_sub hl [1, 0, 4] rfl)
                · refine lv_iconst (v := nI 1) hx hb dX3_lookAtBoth_123 (by decide) ?_
                  refine lv_goto (tgt := 128) hx hb dX3_lookAtBoth_124 (by decide) ?_
                  refine lv_iadd hx hb dX3_lookAtBoth_128 ?_
                  refine g_top (y := nI ((rk_ (Ls 1) (uk_ U m9)) + 1)) (nI_add (rk_ (Ls 1) (uk_ U m9)) 1) ?_
                  refine lv_istore_n (lv' := [(2, .int (nI ((rk_ (Ls 1) (uk_ U m9)) + 1))), (1, .int (nI (rk_ (Ls 0) (uk_ U (m9 + 1))))), (4, .int (on_ (Ls 1) (uk_ U m9))), (3, .int (on_ (Ls 0) (uk_ U m9))), (0, .ref (ad_ D 20))]) hx hb dX3_lookAtBoth_129 rfl hl (by decide) rfl (fun ls hl => ?_)
                  have hfx220 : (nI ((rk_ (Ls 1) (uk_ U m9)) + 1)) = nI (rk_ (Ls 1) (uk_ U (m9 + 1))) := congrArg nI (lu_1 hlu.sw hmU (Int32.not_lt.mp h120))
                  rw [hfx220] at hl
                  refine lv_goto (tgt := 9) hx hb dX3_lookAtBoth_130 (by decide) ?_
                  have hMp221 : g_Mf D σ_198 th (nI (m9 + 1)) sg S N Z (upd R2 m9 (fn_ U m9)) T := ⟨hc200, hc201, hc202, hc203, hc204, hc205, hc206, hc207, hc208, hc209, hc210⟩
                  exact ih9 (m9 + 1) σ_198 (upd R2 m9 (fn_ U m9)) (by omega) (by omega) hMp221 (fun j hj => by rcases Nat.lt_succ_iff_lt_or_eq.mp hj with q | q; rw [upd_ne (by omega)]; exact hR2 j q; rw [q, upd_at]) ho211 _ _ hP hS ls (lv_sub hl [1, 0, 4] rfl)
            · have hb58 := g_nle (a := (Ls 1).length) (b := rk_ (Ls 1) (uk_ U m9)) h58 (by omega) (by omega)
              refine lv_aload_n hx hb dX3_lookAtBoth_61 rfl (lv_at hl 3 rfl) ?_
              refine g_get hx hb hts hE hown hP g_inX3 rfl (by decide) t_20 2 (by decide) rfl wf_X3_13 (v := .ref (ad_ D 22)) rfl dX3_lookAtBoth_62 ?_
              refine lv_bipush (v := nI 24) hx hb dX3_lookAtBoth_65 (by decide) ?_
              refine lv_iload_n hx hb dX3_lookAtBoth_67 rfl (lv_at hl 2 rfl) ?_
              refine lv_iadd hx hb dX3_lookAtBoth_68 ?_
              refine g_top (y := nI (24 + (rk_ (Ls 1) (uk_ U m9)))) (nI_add 24 (rk_ (Ls 1) (uk_ U m9))) ?_
              refine g_ialdN (j := 24 + (rk_ (Ls 1) (uk_ U m9))) hx hb hE hP (by decide) t_22 (by omega) (by decide) (v := fn_ (Ls 1) (rk_ (Ls 1) (uk_ U m9))) (hmr.N1 (by omega)) dX3_lookAtBoth_69 ?_
              refine lv_goto (tgt := 75) hx hb dX3_lookAtBoth_70 (by decide) ?_
              refine lv_istore (lv' := [(4, .int (fn_ (Ls 1) (rk_ (Ls 1) (uk_ U m9)))), (3, .int (on_ (Ls 0) (uk_ U m9))), (1, .int (nI (rk_ (Ls 0) (uk_ U m9)))), (2, .int (nI (rk_ (Ls 1) (uk_ U m9)))), (0, .ref (ad_ D 20))]) hx hb dX3_lookAtBoth_75 hl (by decide) rfl (fun ls hl => ?_)
              have hfx222 : (fn_ (Ls 1) (rk_ (Ls 1) (uk_ U m9))) = on_ (Ls 1) (uk_ U m9) := (if_pos (by omega)).symm
              rw [hfx222] at hl
              refine lv_aload_n hx hb dX3_lookAtBoth_77 rfl (lv_at hl 4 rfl) ?_
              refine g_get hx hb hts hE hown hP g_inX3 rfl (by decide) t_20 4 (by decide) rfl wf_X3_19 (v := .ref (ad_ D 24)) rfl dX3_lookAtBoth_78 ?_
              refine lv_aload_n hx hb dX3_lookAtBoth_81 rfl (lv_at hl 4 rfl) ?_
              refine g_get hx hb hts hE hown hP g_inX3 rfl (by decide) t_20 5 (by decide) rfl wf_X3_79 (v := .int (nI m9)) rfl dX3_lookAtBoth_82 ?_
              refine lv_iload_n hx hb dX3_lookAtBoth_85 rfl (lv_at hl 1 rfl) ?_
              refine lv_iload hx hb dX3_lookAtBoth_86 (lv_at hl 0 rfl) ?_
              refine g_mmin hx hb (hml.trans hl.1.symm) hown hts k_X3_86 k_min ⟨Nat.le_of_ble_eq_true rfl, Nat.le_of_ble_eq_true rfl, by omega, by omega⟩ dX3_lookAtBoth_88 ?_
              refine g_top (y := fn_ U m9) (lu_min hlu hmU) ?_
              refine g_iastN (j := m9) (x := fn_ U m9) hx hb hE hAD hP hS (by decide) t_24 (by omega) (by decide) dX3_lookAtBoth_91 (fun H locs hP hS => ?_)
              obtain ⟨σ_223, hσ224⟩ : ∃ z : Nat → va_E, z = va_up σ2 24 (.inl (g_cI D, 48, .inl (upd R2 m9 (fn_ U m9)))) := ⟨_, rfl⟩
              have hP : va_P D vwCl (g_W D σ_223) H := by rw [hσ224]; exact hP
              have hc225 := (by rw [hσ224]; exact g_upn t_20 (by decide) : σ_223 20 = .inr (3, [.int th, .ref (ad_ D 21), .ref (ad_ D 22), .ref (ad_ D 23), .ref (ad_ D 24), .int (nI m9), .int sg, .ref (ad_ D 25), .ref (ad_ D 26), .ref (ad_ D 27), .ref (ad_ D 28), .ref (ad_ D 29), .ref (ad_ D 30)]))
              have hc226 := (by rw [hσ224]; exact g_upn t_21 (by decide) : σ_223 21 = .inl (g_cI D, 2, .inl (S)))
              have hc227 := (by rw [hσ224]; exact g_upn t_22 (by decide) : σ_223 22 = .inl (g_cI D, 48, .inl (N)))
              have hc228 := (by rw [hσ224]; exact g_upn t_23 (by decide) : σ_223 23 = .inl (g_cI D, 48, .inl (Z)))
              have hc229 : σ_223 24 = .inl (g_cI D, 48, .inl (upd R2 m9 (fn_ U m9))) := by rw [hσ224]; exact g_ups
              have hc230 := (by rw [hσ224]; exact g_upn t_25 (by decide) : σ_223 25 = .inl (g_cI D, 96, .inl (T 0)))
              have hc231 := (by rw [hσ224]; exact g_upn t_26 (by decide) : σ_223 26 = .inl (g_cI D, 96, .inl (T 1)))
              have hc232 := (by rw [hσ224]; exact g_upn t_27 (by decide) : σ_223 27 = .inl (g_cI D, 96, .inl (T 2)))
              have hc233 := (by rw [hσ224]; exact g_upn t_28 (by decide) : σ_223 28 = .inl (g_cI D, 96, .inl (T 3)))
              have hc234 := (by rw [hσ224]; exact g_upn t_29 (by decide) : σ_223 29 = .inl (g_cI D, 96, .inl (T 4)))
              have hc235 := (by rw [hσ224]; exact g_upn t_30 (by decide) : σ_223 30 = .inl (g_cI D, 96, .inl (T 5)))
              have ho236 : g_off 20 30 σ σ_223 := by rw [hσ224]; exact g_off.up ho2 (by decide) (by decide)
              refine lv_aload_n hx hb dX3_lookAtBoth_92 rfl (lv_at hl 4 rfl) ?_
              refine lv_dup hx hb dX3_lookAtBoth_93 rfl ?_
              refine g_get hx hb hts hE hown hP g_inX3 rfl (by decide) hc225 5 (by decide) rfl wf_X3_79 (v := .int (nI m9)) rfl dX3_lookAtBoth_94 ?_
              refine lv_iconst (v := nI 1) hx hb dX3_lookAtBoth_97 (by decide) ?_
              refine lv_iadd hx hb dX3_lookAtBoth_98 ?_
              refine g_top (y := nI (m9 + 1)) (nI_add m9 1) ?_
              refine g_put hx hb hts hE hown hAD hP hS g_inX3 tyX3 tyX3_ok nmX3 rfl (by decide) hc225 5 (by decide) rfl rfl (by decide +kernel) wf_X3_79 (v := nI (m9 + 1)) (Nat.le_of_ble_eq_true rfl) dX3_lookAtBoth_99 (fun H locs hP hS => ?_)
              obtain ⟨σ_237, hσ238⟩ : ∃ z : Nat → va_E, z = va_up σ_223 20 (.inr (3, [.int th, .ref (ad_ D 21), .ref (ad_ D 22), .ref (ad_ D 23), .ref (ad_ D 24), .int (nI (m9 + 1)), .int sg, .ref (ad_ D 25), .ref (ad_ D 26), .ref (ad_ D 27), .ref (ad_ D 28), .ref (ad_ D 29), .ref (ad_ D 30)])) := ⟨_, rfl⟩
              have hP : va_P D vwCl (g_W D σ_237) H := by rw [hσ238]; exact hP
              have hc239 : σ_237 20 = .inr (3, [.int th, .ref (ad_ D 21), .ref (ad_ D 22), .ref (ad_ D 23), .ref (ad_ D 24), .int (nI (m9 + 1)), .int sg, .ref (ad_ D 25), .ref (ad_ D 26), .ref (ad_ D 27), .ref (ad_ D 28), .ref (ad_ D 29), .ref (ad_ D 30)]) := by rw [hσ238]; exact g_ups
              have hc240 := (by rw [hσ238]; exact g_upn hc226 (by decide) : σ_237 21 = .inl (g_cI D, 2, .inl (S)))
              have hc241 := (by rw [hσ238]; exact g_upn hc227 (by decide) : σ_237 22 = .inl (g_cI D, 48, .inl (N)))
              have hc242 := (by rw [hσ238]; exact g_upn hc228 (by decide) : σ_237 23 = .inl (g_cI D, 48, .inl (Z)))
              have hc243 := (by rw [hσ238]; exact g_upn hc229 (by decide) : σ_237 24 = .inl (g_cI D, 48, .inl (upd R2 m9 (fn_ U m9))))
              have hc244 := (by rw [hσ238]; exact g_upn hc230 (by decide) : σ_237 25 = .inl (g_cI D, 96, .inl (T 0)))
              have hc245 := (by rw [hσ238]; exact g_upn hc231 (by decide) : σ_237 26 = .inl (g_cI D, 96, .inl (T 1)))
              have hc246 := (by rw [hσ238]; exact g_upn hc232 (by decide) : σ_237 27 = .inl (g_cI D, 96, .inl (T 2)))
              have hc247 := (by rw [hσ238]; exact g_upn hc233 (by decide) : σ_237 28 = .inl (g_cI D, 96, .inl (T 3)))
              have hc248 := (by rw [hσ238]; exact g_upn hc234 (by decide) : σ_237 29 = .inl (g_cI D, 96, .inl (T 4)))
              have hc249 := (by rw [hσ238]; exact g_upn hc235 (by decide) : σ_237 30 = .inl (g_cI D, 96, .inl (T 5)))
              have ho250 : g_off 20 30 σ σ_237 := by rw [hσ238]; exact g_off.up ho236 (by decide) (by decide)
              refine lv_iload_n hx hb dX3_lookAtBoth_102 rfl (lv_at hl 2 rfl) ?_
              refine lv_iload_n hx hb dX3_lookAtBoth_103 rfl (lv_at hl 1 rfl) ?_
              refine lv_iload hx hb dX3_lookAtBoth_104 (lv_at hl 0 rfl) ?_
              refine lv_icmp_gt (tgt := 113) hx hb dX3_lookAtBoth_106 (by decide) (fun h106 => ?_) (fun h106 => ?_)
              · refine lv_iconst (v := nI 0) hx hb dX3_lookAtBoth_113 (by decide) ?_
                refine lv_iadd hx hb dX3_lookAtBoth_114 ?_
                refine g_top (y := nI ((rk_ (Ls 0) (uk_ U m9)) + 0)) (nI_add (rk_ (Ls 0) (uk_ U m9)) 0) ?_
                refine lv_istore_n (lv' := [(1, .int (nI ((rk_ (Ls 0) (uk_ U m9)) + 0))), (4, .int (on_ (Ls 1) (uk_ U m9))), (3, .int (on_ (Ls 0) (uk_ U m9))), (2, .int (nI (rk_ (Ls 1) (uk_ U m9)))), (0, .ref (ad_ D 20))]) hx hb dX3_lookAtBoth_115 rfl hl (by decide) rfl (fun ls hl => ?_)
                have hfx251 : (nI ((rk_ (Ls 0) (uk_ U m9)) + 0)) = nI (rk_ (Ls 0) (uk_ U (m9 + 1))) := congrArg nI (lu_0 hlu hmU h106)
                rw [hfx251] at hl
                refine lv_iload_n hx hb dX3_lookAtBoth_116 rfl (lv_at hl 3 rfl) ?_
                refine lv_iload hx hb dX3_lookAtBoth_117 (lv_at hl 1 rfl) ?_
                refine lv_iload_n hx hb dX3_lookAtBoth_119 rfl (lv_at hl 2 rfl) ?_
                refine lv_icmp_gt (tgt := 127) hx hb dX3_lookAtBoth_120 (by decide) (fun h120 => ?_) (fun h120 => ?_)
                · refine lv_iconst (v := nI 0) hx hb dX3_lookAtBoth_127 (by decide) ?_
                  refine lv_iadd hx hb dX3_lookAtBoth_128 ?_
                  refine g_top (y := nI ((rk_ (Ls 1) (uk_ U m9)) + 0)) (nI_add (rk_ (Ls 1) (uk_ U m9)) 0) ?_
                  refine lv_istore_n (lv' := [(2, .int (nI ((rk_ (Ls 1) (uk_ U m9)) + 0))), (1, .int (nI (rk_ (Ls 0) (uk_ U (m9 + 1))))), (4, .int (on_ (Ls 1) (uk_ U m9))), (3, .int (on_ (Ls 0) (uk_ U m9))), (0, .ref (ad_ D 20))]) hx hb dX3_lookAtBoth_129 rfl hl (by decide) rfl (fun ls hl => ?_)
                  have hfx252 : (nI ((rk_ (Ls 1) (uk_ U m9)) + 0)) = nI (rk_ (Ls 1) (uk_ U (m9 + 1))) := congrArg nI (lu_0 hlu.sw hmU h120)
                  rw [hfx252] at hl
                  refine lv_goto (tgt := 9) hx hb dX3_lookAtBoth_130 (by decide) ?_
                  have hMp253 : g_Mf D σ_237 th (nI (m9 + 1)) sg S N Z (upd R2 m9 (fn_ U m9)) T := ⟨hc239, hc240, hc241, hc242, hc243, hc244, hc245, hc246, hc247, hc248, hc249⟩
                  exact ih9 (m9 + 1) σ_237 (upd R2 m9 (fn_ U m9)) (by omega) (by omega) hMp253 (fun j hj => by rcases Nat.lt_succ_iff_lt_or_eq.mp hj with q | q; rw [upd_ne (by omega)]; exact hR2 j q; rw [q, upd_at]) ho250 _ _ hP hS ls (lv_sub hl [1, 0, 4] rfl)
                · refine lv_iconst (v := nI 1) hx hb dX3_lookAtBoth_123 (by decide) ?_
                  refine lv_goto (tgt := 128) hx hb dX3_lookAtBoth_124 (by decide) ?_
                  refine lv_iadd hx hb dX3_lookAtBoth_128 ?_
                  refine g_top (y := nI ((rk_ (Ls 1) (uk_ U m9)) + 1)) (nI_add (rk_ (Ls 1) (uk_ U m9)) 1) ?_
                  refine lv_istore_n (lv' := [(2, .int (nI ((rk_ (Ls 1) (uk_ U m9)) + 1))), (1, .int (nI (rk_ (Ls 0) (uk_ U (m9 + 1))))), (4, .int (on_ (Ls 1) (uk_ U m9))), (3, .int (on_ (Ls 0) (uk_ U m9))), (0, .ref (ad_ D 20))]) hx hb dX3_lookAtBoth_129 rfl hl (by decide) rfl (fun ls hl => ?_)
                  have hfx254 : (nI ((rk_ (Ls 1) (uk_ U m9)) + 1)) = nI (rk_ (Ls 1) (uk_ U (m9 + 1))) := congrArg nI (lu_1 hlu.sw hmU (Int32.not_lt.mp h120))
                  rw [hfx254] at hl
                  refine lv_goto (tgt := 9) hx hb dX3_lookAtBoth_130 (by decide) ?_
                  have hMp255 : g_Mf D σ_237 th (nI (m9 + 1)) sg S N Z (upd R2 m9 (fn_ U m9)) T := ⟨hc239, hc240, hc241, hc242, hc243, hc244, hc245, hc246, hc247, hc248, hc249⟩
                  exact ih9 (m9 + 1) σ_237 (upd R2 m9 (fn_ U m9)) (by omega) (by omega) hMp255 (fun j hj => by rcases Nat.lt_succ_iff_lt_or_eq.mp hj with q | q; rw [upd_ne (by omega)]; exact hR2 j q; rw [q, upd_at]) ho250 _ _ hP hS ls (lv_sub hl [1, 0, 4] rfl)
              · refine lv_iconst (v := nI 1) hx hb dX3_lookAtBoth_109 (by decide) ?_
                refine lv_goto (tgt := 114) hx hb dX3_lookAtBoth_110 (by decide) ?_
                refine lv_iadd hx hb dX3_lookAtBoth_114 ?_
                refine g_top (y := nI ((rk_ (Ls 0) (uk_ U m9)) + 1)) (nI_add (rk_ (Ls 0) (uk_ U m9)) 1) ?_
                refine lv_istore_n (lv' := [(1, .int (nI ((rk_ (Ls 0) (uk_ U m9)) + 1))), (4, .int (on_ (Ls 1) (uk_ U m9))), (3, .int (on_ (Ls 0) (uk_ U m9))), (2, .int (nI (rk_ (Ls 1) (uk_ U m9)))), (0, .ref (ad_ D 20))]) hx hb dX3_lookAtBoth_115 rfl hl (by decide) rfl (fun ls hl => ?_)
                have hfx256 : (nI ((rk_ (Ls 0) (uk_ U m9)) + 1)) = nI (rk_ (Ls 0) (uk_ U (m9 + 1))) := congrArg nI (lu_1 hlu hmU (Int32.not_lt.mp h106))
                rw [hfx256] at hl
                refine lv_iload_n hx hb dX3_lookAtBoth_116 rfl (lv_at hl 3 rfl) ?_
                refine lv_iload hx hb dX3_lookAtBoth_117 (lv_at hl 1 rfl) ?_
                refine lv_iload_n hx hb dX3_lookAtBoth_119 rfl (lv_at hl 2 rfl) ?_
                refine lv_icmp_gt (tgt := 127) hx hb dX3_lookAtBoth_120 (by decide) (fun h120 => ?_) (fun h120 => ?_)
                · refine lv_iconst (v := nI 0) hx hb dX3_lookAtBoth_127 (by decide) ?_
                  refine lv_iadd hx hb dX3_lookAtBoth_128 ?_
                  refine g_top (y := nI ((rk_ (Ls 1) (uk_ U m9)) + 0)) (nI_add (rk_ (Ls 1) (uk_ U m9)) 0) ?_
                  refine lv_istore_n (lv' := [(2, .int (nI ((rk_ (Ls 1) (uk_ U m9)) + 0))), (1, .int (nI (rk_ (Ls 0) (uk_ U (m9 + 1))))), (4, .int (on_ (Ls 1) (uk_ U m9))), (3, .int (on_ (Ls 0) (uk_ U m9))), (0, .ref (ad_ D 20))]) hx hb dX3_lookAtBoth_129 rfl hl (by decide) rfl (fun ls hl => ?_)
                  have hfx257 : (nI ((rk_ (Ls 1) (uk_ U m9)) + 0)) = nI (rk_ (Ls 1) (uk_ U (m9 + 1))) := congrArg nI (lu_0 hlu.sw hmU h120)
                  rw [hfx257] at hl
                  refine lv_goto (tgt := 9) hx hb dX3_lookAtBoth_130 (by decide) ?_
                  have hMp258 : g_Mf D σ_237 th (nI (m9 + 1)) sg S N Z (upd R2 m9 (fn_ U m9)) T := ⟨hc239, hc240, hc241, hc242, hc243, hc244, hc245, hc246, hc247, hc248, hc249⟩
                  exact ih9 (m9 + 1) σ_237 (upd R2 m9 (fn_ U m9)) (by omega) (by omega) hMp258 (fun j hj => by rcases Nat.lt_succ_iff_lt_or_eq.mp hj with q | q; rw [upd_ne (by omega)]; exact hR2 j q; rw [q, upd_at]) ho250 _ _ hP hS ls (lv_sub hl [1, 0, 4] rfl)
                · refine lv_iconst (v := nI 1) hx hb dX3_lookAtBoth_123 (by decide) ?_
                  refine lv_goto (tgt := 128) hx hb dX3_lookAtBoth_124 (by decide) ?_
                  refine lv_iadd hx hb dX3_lookAtBoth_128 ?_
                  refine g_top (y := nI ((rk_ (Ls 1) (uk_ U m9)) + 1)) (nI_add (rk_ (Ls 1) (uk_ U m9)) 1) ?_
                  refine lv_istore_n (lv' := [(2, .int (nI ((rk_ (Ls 1) (uk_ U m9)) + 1))), (1, .int (nI (rk_ (Ls 0) (uk_ U (m9 + 1))))), (4, .int (on_ (Ls 1) (uk_ U m9))), (3, .int (on_ (Ls 0) (uk_ U m9))), (0, .ref (ad_ D 20))]) hx hb dX3_lookAtBoth_129 rfl hl (by decide) rfl (fun ls hl => ?_)
                  have hfx259 : (nI ((rk_ (Ls 1) (uk_ U m9)) + 1)) = nI (rk_ (Ls 1) (uk_ U (m9 + 1))) := congrArg nI (lu_1 hlu.sw hmU (Int32.not_lt.mp h120))
                  rw [hfx259] at hl
                  refine lv_goto (tgt := 9) hx hb dX3_lookAtBoth_130 (by decide) ?_
                  have hMp260 : g_Mf D σ_237 th (nI (m9 + 1)) sg S N Z (upd R2 m9 (fn_ U m9)) T := ⟨hc239, hc240, hc241, hc242, hc243, hc244, hc245, hc246, hc247, hc248, hc249⟩
                  exact ih9 (m9 + 1) σ_237 (upd R2 m9 (fn_ U m9)) (by omega) (by omega) hMp260 (fun j hj => by rcases Nat.lt_succ_iff_lt_or_eq.mp hj with q | q; rw [upd_ne (by omega)]; exact hR2 j q; rw [q, upd_at]) ho250 _ _ hP hS ls (lv_sub hl [1, 0, 4] rfl)
          · have hb36 := g_nle (a := (Ls 0).length) (b := rk_ (Ls 0) (uk_ U m9)) h36 (by omega) (by omega)
            refine lv_aload_n hx hb dX3_lookAtBoth_39 rfl (lv_at hl 2 rfl) ?_
            refine g_get hx hb hts hE hown hP g_inX3 rfl (by decide) t_20 2 (by decide) rfl wf_X3_13 (v := .ref (ad_ D 22)) rfl dX3_lookAtBoth_40 ?_
            refine lv_iload_n hx hb dX3_lookAtBoth_43 rfl (lv_at hl 0 rfl) ?_
            refine g_ialdN (j := rk_ (Ls 0) (uk_ U m9)) hx hb hE hP (by decide) t_22 (by omega) (by decide) (v := fn_ (Ls 0) (rk_ (Ls 0) (uk_ U m9))) (hmr.N0 (by omega)) dX3_lookAtBoth_44 ?_
            refine lv_goto (tgt := 50) hx hb dX3_lookAtBoth_45 (by decide) ?_
            refine lv_istore_n (lv' := [(3, .int (fn_ (Ls 0) (rk_ (Ls 0) (uk_ U m9)))), (1, .int (nI (rk_ (Ls 0) (uk_ U m9)))), (2, .int (nI (rk_ (Ls 1) (uk_ U m9)))), (0, .ref (ad_ D 20))]) hx hb dX3_lookAtBoth_50 rfl hl (by decide) rfl (fun ls hl => ?_)
            have hfx261 : (fn_ (Ls 0) (rk_ (Ls 0) (uk_ U m9))) = on_ (Ls 0) (uk_ U m9) := (if_pos (by omega)).symm
            rw [hfx261] at hl
            refine lv_iload_n hx hb dX3_lookAtBoth_51 rfl (lv_at hl 2 rfl) ?_
            refine lv_aload_n hx hb dX3_lookAtBoth_52 rfl (lv_at hl 3 rfl) ?_
            refine g_get hx hb hts hE hown hP g_inX3 rfl (by decide) t_20 1 (by decide) rfl wf_X3_9 (v := .ref (ad_ D 21)) rfl dX3_lookAtBoth_53 ?_
            refine lv_iconst (v := nI 1) hx hb dX3_lookAtBoth_56 (by decide) ?_
            refine g_ialdN (j := 1) hx hb hE hP (by decide) t_21 (by omega) (by decide) (v := nI ((Ls 1).length)) (hmr.S (by omega)) dX3_lookAtBoth_57 ?_
            refine lv_icmp_ge (tgt := 73) hx hb dX3_lookAtBoth_58 (by decide) (fun h58 => ?_) (fun h58 => ?_)
            · have hb58 := g_le (a := (Ls 1).length) (b := rk_ (Ls 1) (uk_ U m9)) h58 (by omega) (by omega)
              refine lv_ldc (v := 65536) hx hb hown (hts _ wc_X3_85) dX3_lookAtBoth_73 ?_
              refine g_top (y := nI 65536) (by decide) ?_
              refine lv_istore (lv' := [(4, .int (nI 65536)), (3, .int (on_ (Ls 0) (uk_ U m9))), (1, .int (nI (rk_ (Ls 0) (uk_ U m9)))), (2, .int (nI (rk_ (Ls 1) (uk_ U m9)))), (0, .ref (ad_ D 20))]) hx hb dX3_lookAtBoth_75 hl (by decide) rfl (fun ls hl => ?_)
              have hfx262 : (nI 65536) = on_ (Ls 1) (uk_ U m9) := (if_neg (by omega)).symm
              rw [hfx262] at hl
              refine lv_aload_n hx hb dX3_lookAtBoth_77 rfl (lv_at hl 4 rfl) ?_
              refine g_get hx hb hts hE hown hP g_inX3 rfl (by decide) t_20 4 (by decide) rfl wf_X3_19 (v := .ref (ad_ D 24)) rfl dX3_lookAtBoth_78 ?_
              refine lv_aload_n hx hb dX3_lookAtBoth_81 rfl (lv_at hl 4 rfl) ?_
              refine g_get hx hb hts hE hown hP g_inX3 rfl (by decide) t_20 5 (by decide) rfl wf_X3_79 (v := .int (nI m9)) rfl dX3_lookAtBoth_82 ?_
              refine lv_iload_n hx hb dX3_lookAtBoth_85 rfl (lv_at hl 1 rfl) ?_
              refine lv_iload hx hb dX3_lookAtBoth_86 (lv_at hl 0 rfl) ?_
              refine g_mmin hx hb (hml.trans hl.1.symm) hown hts k_X3_86 k_min ⟨Nat.le_of_ble_eq_true rfl, Nat.le_of_ble_eq_true rfl, by omega, by omega⟩ dX3_lookAtBoth_88 ?_
              refine g_top (y := fn_ U m9) (lu_min hlu hmU) ?_
              refine g_iastN (j := m9) (x := fn_ U m9) hx hb hE hAD hP hS (by decide) t_24 (by omega) (by decide) dX3_lookAtBoth_91 (fun H locs hP hS => ?_)
              obtain ⟨σ_263, hσ264⟩ : ∃ z : Nat → va_E, z = va_up σ2 24 (.inl (g_cI D, 48, .inl (upd R2 m9 (fn_ U m9)))) := ⟨_, rfl⟩
              have hP : va_P D vwCl (g_W D σ_263) H := by rw [hσ264]; exact hP
              have hc265 := (by rw [hσ264]; exact g_upn t_20 (by decide) : σ_263 20 = .inr (3, [.int th, .ref (ad_ D 21), .ref (ad_ D 22), .ref (ad_ D 23), .ref (ad_ D 24), .int (nI m9), .int sg, .ref (ad_ D 25), .ref (ad_ D 26), .ref (ad_ D 27), .ref (ad_ D 28), .ref (ad_ D 29), .ref (ad_ D 30)]))
              have hc266 := (by rw [hσ264]; exact g_upn t_21 (by decide) : σ_263 21 = .inl (g_cI D, 2, .inl (S)))
              have hc267 := (by rw [hσ264]; exact g_upn t_22 (by decide) : σ_263 22 = .inl (g_cI D, 48, .inl (N)))
              have hc268 := (by rw [hσ264]; exact g_upn t_23 (by decide) : σ_263 23 = .inl (g_cI D, 48, .inl (Z)))
              have hc269 : σ_263 24 = .inl (g_cI D, 48, .inl (upd R2 m9 (fn_ U m9))) := by rw [hσ264]; exact g_ups
              have hc270 := (by rw [hσ264]; exact g_upn t_25 (by decide) : σ_263 25 = .inl (g_cI D, 96, .inl (T 0)))
              have hc271 := (by rw [hσ264]; exact g_upn t_26 (by decide) : σ_263 26 = .inl (g_cI D, 96, .inl (T 1)))
              have hc272 := (by rw [hσ264]; exact g_upn t_27 (by decide) : σ_263 27 = .inl (g_cI D, 96, .inl (T 2)))
              have hc273 := (by rw [hσ264]; exact g_upn t_28 (by decide) : σ_263 28 = .inl (g_cI D, 96, .inl (T 3)))
              have hc274 := (by rw [hσ264]; exact g_upn t_29 (by decide) : σ_263 29 = .inl (g_cI D, 96, .inl (T 4)))
              have hc275 := (by rw [hσ264]; exact g_upn t_30 (by decide) : σ_263 30 = .inl (g_cI D, 96, .inl (T 5)))
              have ho276 : g_off 20 30 σ σ_263 := by rw [hσ264]; exact g_off.up ho2 (by decide) (by decide)
              refine lv_aload_n hx hb dX3_lookAtBoth_92 rfl (lv_at hl 4 rfl) ?_
              refine lv_dup hx hb dX3_lookAtBoth_93 rfl ?_
              refine g_get hx hb hts hE hown hP g_inX3 rfl (by decide) hc265 5 (by decide) rfl wf_X3_79 (v := .int (nI m9)) rfl dX3_lookAtBoth_94 ?_
              refine lv_iconst (v := nI 1) hx hb dX3_lookAtBoth_97 (by decide) ?_
              refine lv_iadd hx hb dX3_lookAtBoth_98 ?_
              refine g_top (y := nI (m9 + 1)) (nI_add m9 1) ?_
              refine g_put hx hb hts hE hown hAD hP hS g_inX3 tyX3 tyX3_ok nmX3 rfl (by decide) hc265 5 (by decide) rfl rfl (by decide +kernel) wf_X3_79 (v := nI (m9 + 1)) (Nat.le_of_ble_eq_true rfl) dX3_lookAtBoth_99 (fun H locs hP hS => ?_)
              obtain ⟨σ_277, hσ278⟩ : ∃ z : Nat → va_E, z = va_up σ_263 20 (.inr (3, [.int th, .ref (ad_ D 21), .ref (ad_ D 22), .ref (ad_ D 23), .ref (ad_ D 24), .int (nI (m9 + 1)), .int sg, .ref (ad_ D 25), .ref (ad_ D 26), .ref (ad_ D 27), .ref (ad_ D 28), .ref (ad_ D 29), .ref (ad_ D 30)])) := ⟨_, rfl⟩
              have hP : va_P D vwCl (g_W D σ_277) H := by rw [hσ278]; exact hP
              have hc279 : σ_277 20 = .inr (3, [.int th, .ref (ad_ D 21), .ref (ad_ D 22), .ref (ad_ D 23), .ref (ad_ D 24), .int (nI (m9 + 1)), .int sg, .ref (ad_ D 25), .ref (ad_ D 26), .ref (ad_ D 27), .ref (ad_ D 28), .ref (ad_ D 29), .ref (ad_ D 30)]) := by rw [hσ278]; exact g_ups
              have hc280 := (by rw [hσ278]; exact g_upn hc266 (by decide) : σ_277 21 = .inl (g_cI D, 2, .inl (S)))
              have hc281 := (by rw [hσ278]; exact g_upn hc267 (by decide) : σ_277 22 = .inl (g_cI D, 48, .inl (N)))
              have hc282 := (by rw [hσ278]; exact g_upn hc268 (by decide) : σ_277 23 = .inl (g_cI D, 48, .inl (Z)))
              have hc283 := (by rw [hσ278]; exact g_upn hc269 (by decide) : σ_277 24 = .inl (g_cI D, 48, .inl (upd R2 m9 (fn_ U m9))))
              have hc284 := (by rw [hσ278]; exact g_upn hc270 (by decide) : σ_277 25 = .inl (g_cI D, 96, .inl (T 0)))
              have hc285 := (by rw [hσ278]; exact g_upn hc271 (by decide) : σ_277 26 = .inl (g_cI D, 96, .inl (T 1)))
              have hc286 := (by rw [hσ278]; exact g_upn hc272 (by decide) : σ_277 27 = .inl (g_cI D, 96, .inl (T 2)))
              have hc287 := (by rw [hσ278]; exact g_upn hc273 (by decide) : σ_277 28 = .inl (g_cI D, 96, .inl (T 3)))
              have hc288 := (by rw [hσ278]; exact g_upn hc274 (by decide) : σ_277 29 = .inl (g_cI D, 96, .inl (T 4)))
              have hc289 := (by rw [hσ278]; exact g_upn hc275 (by decide) : σ_277 30 = .inl (g_cI D, 96, .inl (T 5)))
              have ho290 : g_off 20 30 σ σ_277 := by rw [hσ278]; exact g_off.up ho276 (by decide) (by decide)
              refine lv_iload_n hx hb dX3_lookAtBoth_102 rfl (lv_at hl 2 rfl) ?_
              refine lv_iload_n hx hb dX3_lookAtBoth_103 rfl (lv_at hl 1 rfl) ?_
              refine lv_iload hx hb dX3_lookAtBoth_104 (lv_at hl 0 rfl) ?_
              refine lv_icmp_gt (tgt := 113) hx hb dX3_lookAtBoth_106 (by decide) (fun h106 => ?_) (fun h106 => ?_)
              · refine lv_iconst (v := nI 0) hx hb dX3_lookAtBoth_113 (by decide) ?_
                refine lv_iadd hx hb dX3_lookAtBoth_114 ?_
                refine g_top (y := nI ((rk_ (Ls 0) (uk_ U m9)) + 0)) (nI_add (rk_ (Ls 0) (uk_ U m9)) 0) ?_
                refine lv_istore_n (lv' := [(1, .int (nI ((rk_ (Ls 0) (uk_ U m9)) + 0))), (4, .int (on_ (Ls 1) (uk_ U m9))), (3, .int (on_ (Ls 0) (uk_ U m9))), (2, .int (nI (rk_ (Ls 1) (uk_ U m9)))), (0, .ref (ad_ D 20))]) hx hb dX3_lookAtBoth_115 rfl hl (by decide) rfl (fun ls hl => ?_)
                have hfx291 : (nI ((rk_ (Ls 0) (uk_ U m9)) + 0)) = nI (rk_ (Ls 0) (uk_ U (m9 + 1))) := congrArg nI (lu_0 hlu hmU h106)
                rw [hfx291] at hl
                refine lv_iload_n hx hb dX3_lookAtBoth_116 rfl (lv_at hl 3 rfl) ?_
                refine lv_iload hx hb dX3_lookAtBoth_117 (lv_at hl 1 rfl) ?_
                refine lv_iload_n hx hb dX3_lookAtBoth_119 rfl (lv_at hl 2 rfl) ?_
                refine lv_icmp_gt (tgt := 127) hx hb dX3_lookAtBoth_120 (by decide) (fun h120 => ?_) (fun h120 => ?_)
                · refine lv_iconst (v := nI 0) hx hb dX3_lookAtBoth_127 (by decide) ?_
                  refine lv_iadd hx hb dX3_lookAtBoth_128 ?_
                  refine g_top (y := nI ((rk_ (Ls 1) (uk_ U m9)) + 0)) (nI_add (rk_ (Ls 1) (uk_ U m9)) 0) ?_
                  refine lv_istore_n (lv' := [(2, .int (nI ((rk_ (Ls 1) (uk_ U m9)) + 0))), (1, .int (nI (rk_ (Ls 0) (uk_ U (m9 + 1))))), (4, .int (on_ (Ls 1) (uk_ U m9))), (3, .int (on_ (Ls 0) (uk_ U m9))), (0, .ref (ad_ D 20))]) hx hb dX3_lookAtBoth_129 rfl hl (by decide) rfl (fun ls hl => ?_)
                  have hfx292 : (nI ((rk_ (Ls 1) (uk_ U m9)) + 0)) = nI (rk_ (Ls 1) (uk_ U (m9 + 1))) := congrArg nI (lu_0 hlu.sw hmU h120)
                  rw [hfx292] at hl
                  refine lv_goto (tgt := 9) hx hb dX3_lookAtBoth_130 (by decide) ?_
                  have hMp293 : g_Mf D σ_277 th (nI (m9 + 1)) sg S N Z (upd R2 m9 (fn_ U m9)) T := ⟨hc279, hc280, hc281, hc282, hc283, hc284, hc285, hc286, hc287, hc288, hc289⟩
                  exact ih9 (m9 + 1) σ_277 (upd R2 m9 (fn_ U m9)) (by omega) (by omega) hMp293 (fun j hj => by rcases Nat.lt_succ_iff_lt_or_eq.mp hj with q | q; rw [upd_ne (by omega)]; exact hR2 j q; rw [q, upd_at]) ho290 _ _ hP hS ls (lv_sub hl [1, 0, 4] rfl)
                · refine lv_iconst (v := nI 1) hx hb dX3_lookAtBoth_123 (by decide) ?_
                  refine lv_goto (tgt := 128) hx hb dX3_lookAtBoth_124 (by decide) ?_
                  refine lv_iadd hx hb dX3_lookAtBoth_128 ?_
                  refine g_top (y := nI ((rk_ (Ls 1) (uk_ U m9)) + 1)) (nI_add (rk_ (Ls 1) (uk_ U m9)) 1) ?_
                  refine lv_istore_n (lv' := [(2, .int (nI ((rk_ (Ls 1) (uk_ U m9)) + 1))), (1, .int (nI (rk_ (Ls 0) (uk_ U (m9 + 1))))), (4, .int (on_ (Ls 1) (uk_ U m9))), (3, .int (on_ (Ls 0) (uk_ U m9))), (0, .ref (ad_ D 20))]) hx hb dX3_lookAtBoth_129 rfl hl (by decide) rfl (fun ls hl => ?_)
                  have hfx294 : (nI ((rk_ (Ls 1) (uk_ U m9)) + 1)) = nI (rk_ (Ls 1) (uk_ U (m9 + 1))) := congrArg nI (lu_1 hlu.sw hmU (Int32.not_lt.mp h120))
                  rw [hfx294] at hl
                  refine lv_goto (tgt := 9) hx hb dX3_lookAtBoth_130 (by decide) ?_
                  have hMp295 : g_Mf D σ_277 th (nI (m9 + 1)) sg S N Z (upd R2 m9 (fn_ U m9)) T := ⟨hc279, hc280, hc281, hc282, hc283, hc284, hc285, hc286, hc287, hc288, hc289⟩
                  exact ih9 (m9 + 1) σ_277 (upd R2 m9 (fn_ U m9)) (by omega) (by omega) hMp295 (fun j hj => by rcases Nat.lt_succ_iff_lt_or_eq.mp hj with q | q; rw [upd_ne (by omega)]; exact hR2 j q; rw [q, upd_at]) ho290 _ _ hP hS ls (lv_sub hl [1, 0, 4] rfl)
              · refine lv_iconst (v := nI 1) hx hb dX3_lookAtBoth_109 (by decide) ?_
                refine lv_goto (tgt := 114) hx hb dX3_lookAtBoth_110 (by decide) ?_
                refine lv_iadd hx hb dX3_lookAtBoth_114 ?_
                refine g_top (y := nI ((rk_ (Ls 0) (uk_ U m9)) + 1)) (nI_add (rk_ (Ls 0) (uk_ U m9)) 1) ?_
                refine lv_istore_n (lv' := [(1, .int (nI ((rk_ (Ls 0) (uk_ U m9)) + 1))), (4, .int (on_ (Ls 1) (uk_ U m9))), (3, .int (on_ (Ls 0) (uk_ U m9))), (2, .int (nI (rk_ (Ls 1) (uk_ U m9)))), (0, .ref (ad_ D 20))]) hx hb dX3_lookAtBoth_115 rfl hl (by decide) rfl (fun ls hl => ?_)
                have hfx296 : (nI ((rk_ (Ls 0) (uk_ U m9)) + 1)) = nI (rk_ (Ls 0) (uk_ U (m9 + 1))) := congrArg nI (lu_1 hlu hmU (Int32.not_lt.mp h106))
                rw [hfx296] at hl
                refine lv_iload_n hx hb dX3_lookAtBoth_116 rfl (lv_at hl 3 rfl) ?_
                refine lv_iload hx hb dX3_lookAtBoth_117 (lv_at hl 1 rfl) ?_
                refine lv_iload_n hx hb dX3_lookAtBoth_119 rfl (lv_at hl 2 rfl) ?_
                refine lv_icmp_gt (tgt := 127) hx hb dX3_lookAtBoth_120 (by decide) (fun h120 => ?_) (fun h120 => ?_)
                · refine lv_iconst (v := nI 0) hx hb dX3_lookAtBoth_127 (by decide) ?_
                  refine lv_iadd hx hb dX3_lookAtBoth_128 ?_
                  refine g_top (y := nI ((rk_ (Ls 1) (uk_ U m9)) + 0)) (nI_add (rk_ (Ls 1) (uk_ U m9)) 0) ?_
                  refine lv_istore_n (lv' := [(2, .int (nI ((rk_ (Ls 1) (uk_ U m9)) + 0))), (1, .int (nI (rk_ (Ls 0) (uk_ U (m9 + 1))))), (4, .int (on_ (Ls 1) (uk_ U m9))), (3, .int (on_ (Ls 0) (uk_ U m9))), (0, .ref (ad_ D 20))]) hx hb dX3_lookAtBoth_129 rfl hl (by decide) rfl (fun ls hl => ?_)
                  have hfx297 : (nI ((rk_ (Ls 1) (uk_ U m9)) + 0)) = nI (rk_ (Ls 1) (uk_ U (m9 + 1))) := congrArg nI (lu_0 hlu.sw hmU h120)
                  rw [hfx297] at hl
                  refine lv_goto (tgt := 9) hx hb dX3_lookAtBoth_130 (by decide) ?_
                  have hMp298 : g_Mf D σ_277 th (nI (m9 + 1)) sg S N Z (upd R2 m9 (fn_ U m9)) T := ⟨hc279, hc280, hc281, hc282, hc283, hc284, hc285, hc286, hc287, hc288, hc289⟩
                  exact ih9 (m9 + 1) σ_277 (upd R2 m9 (fn_ U m9)) (by omega) (by omega) hMp298 (fun j hj => by rcases Nat.lt_succ_iff_lt_or_eq.mp hj with q | q; rw [upd_ne (by omega)]; exact hR2 j q; rw [q, upd_at]) ho290 _ _ hP hS ls (lv_sub hl [1, 0, 4] rfl)
                · refine lv_iconst (v := nI 1) hx hb dX3_lookAtBoth_123 (by decide) ?_
                  refine lv_goto (tgt := 128) hx hb dX3_lookAtBoth_124 (by decide) ?_
                  refine lv_iadd hx hb dX3_lookAtBoth_128 ?_
                  refine g_top (y := nI ((rk_ (Ls 1) (uk_ U m9)) + 1)) (nI_add (rk_ (Ls 1) (uk_ U m9)) 1) ?_
                  refine lv_istore_n (lv' := [(2, .int (nI ((rk_ (Ls 1) (uk_ U m9)) + 1))), (1, .int (nI (rk_ (Ls 0) (uk_ U (m9 + 1))))), (4, .int (on_ (Ls 1) (uk_ U m9))), (3, .int (on_ (Ls 0) (uk_ U m9))), (0, .ref (ad_ D 20))]) hx hb dX3_lookAtBoth_129 rfl hl (by decide) rfl (fun ls hl => ?_)
                  have hfx299 : (nI ((rk_ (Ls 1) (uk_ U m9)) + 1)) = nI (rk_ (Ls 1) (uk_ U (m9 + 1))) := congrArg nI (lu_1 hlu.sw hmU (Int32.not_lt.mp h120))
                  rw [hfx299] at hl
                  refine lv_goto (tgt := 9) hx hb dX3_lookAtBoth_130 (by decide) ?_
                  have hMp300 : g_Mf D σ_277 th (nI (m9 + 1)) sg S N Z (upd R2 m9 (fn_ U m9)) T := ⟨hc279, hc280, hc281, hc282, hc283, hc284, hc285, hc286, hc287, hc288, hc289⟩
                  exact ih9 (m9 + 1) σ_277 (upd R2 m9 (fn_ U m9)) (by omega) (by omega) hMp300 (fun j hj => by rcases Nat.lt_succ_iff_lt_or_eq.mp hj with q | q; rw [upd_ne (by omega)]; exact hR2 j q; rw [q, upd_at]) ho290 _ _ hP hS ls (lv_sub hl [1, 0, 4] rfl)
            · have hb58 := g_nle (a := (Ls 1).length) (b := rk_ (Ls 1) (uk_ U m9)) h58 (by omega) (by omega)
              refine lv_aload_n hx hb dX3_lookAtBoth_61 rfl (lv_at hl 3 rfl) ?_
              refine g_get hx hb hts hE hown hP g_inX3 rfl (by decide) t_20 2 (by decide) rfl wf_X3_13 (v := .ref (ad_ D 22)) rfl dX3_lookAtBoth_62 ?_
              refine lv_bipush (v := nI 24) hx hb dX3_lookAtBoth_65 (by decide) ?_
              refine lv_iload_n hx hb dX3_lookAtBoth_67 rfl (lv_at hl 2 rfl) ?_
              refine lv_iadd hx hb dX3_lookAtBoth_68 ?_
              refine g_top (y := nI (24 + (rk_ (Ls 1) (uk_ U m9)))) (nI_add 24 (rk_ (Ls 1) (uk_ U m9))) ?_
              refine g_ialdN (j := 24 + (rk_ (Ls 1) (uk_ U m9))) hx hb hE hP (by decide) t_22 (by omega) (by decide) (v := fn_ (Ls 1) (rk_ (Ls 1) (uk_ U m9))) (hmr.N1 (by omega)) dX3_lookAtBoth_69 ?_
              refine lv_goto (tgt := 75) hx hb dX3_lookAtBoth_70 (by decide) ?_
              refine lv_istore (lv' := [(4, .int (fn_ (Ls 1) (rk_ (Ls 1) (uk_ U m9)))), (3, .int (on_ (Ls 0) (uk_ U m9))), (1, .int (nI (rk_ (Ls 0) (uk_ U m9)))), (2, .int (nI (rk_ (Ls 1) (uk_ U m9)))), (0, .ref (ad_ D 20))]) hx hb dX3_lookAtBoth_75 hl (by decide) rfl (fun ls hl => ?_)
              have hfx301 : (fn_ (Ls 1) (rk_ (Ls 1) (uk_ U m9))) = on_ (Ls 1) (uk_ U m9) := (if_pos (by omega)).symm
              rw [hfx301] at hl
              refine lv_aload_n hx hb dX3_lookAtBoth_77 rfl (lv_at hl 4 rfl) ?_
              refine g_get hx hb hts hE hown hP g_inX3 rfl (by decide) t_20 4 (by decide) rfl wf_X3_19 (v := .ref (ad_ D 24)) rfl dX3_lookAtBoth_78 ?_
              refine lv_aload_n hx hb dX3_lookAtBoth_81 rfl (lv_at hl 4 rfl) ?_
              refine g_get hx hb hts hE hown hP g_inX3 rfl (by decide) t_20 5 (by decide) rfl wf_X3_79 (v := .int (nI m9)) rfl dX3_lookAtBoth_82 ?_
              refine lv_iload_n hx hb dX3_lookAtBoth_85 rfl (lv_at hl 1 rfl) ?_
              refine lv_iload hx hb dX3_lookAtBoth_86 (lv_at hl 0 rfl) ?_
              refine g_mmin hx hb (hml.trans hl.1.symm) hown hts k_X3_86 k_min ⟨Nat.le_of_ble_eq_true rfl, Nat.le_of_ble_eq_true rfl, by omega, by omega⟩ dX3_lookAtBoth_88 ?_
              refine g_top (y := fn_ U m9) (lu_min hlu hmU) ?_
              refine g_iastN (j := m9) (x := fn_ U m9) hx hb hE hAD hP hS (by decide) t_24 (by omega) (by decide) dX3_lookAtBoth_91 (fun H locs hP hS => ?_)
              obtain ⟨σ_302, hσ303⟩ : ∃ z : Nat → va_E, z = va_up σ2 24 (.inl (g_cI D, 48, .inl (upd R2 m9 (fn_ U m9)))) := ⟨_, rfl⟩
              have hP : va_P D vwCl (g_W D σ_302) H := by rw [hσ303]; exact hP
              have hc304 := (by rw [hσ303]; exact g_upn t_20 (by decide) : σ_302 20 = .inr (3, [.int th, .ref (ad_ D 21), .ref (ad_ D 22), .ref (ad_ D 23), .ref (ad_ D 24), .int (nI m9), .int sg, .ref (ad_ D 25), .ref (ad_ D 26), .ref (ad_ D 27), .ref (ad_ D 28), .ref (ad_ D 29), .ref (ad_ D 30)]))
              have hc305 := (by rw [hσ303]; exact g_upn t_21 (by decide) : σ_302 21 = .inl (g_cI D, 2, .inl (S)))
              have hc306 := (by rw [hσ303]; exact g_upn t_22 (by decide) : σ_302 22 = .inl (g_cI D, 48, .inl (N)))
              have hc307 := (by rw [hσ303]; exact g_upn t_23 (by decide) : σ_302 23 = .inl (g_cI D, 48, .inl (Z)))
              have hc308 : σ_302 24 = .inl (g_cI D, 48, .inl (upd R2 m9 (fn_ U m9))) := by rw [hσ303]; exact g_ups
              have hc309 := (by rw [hσ303]; exact g_upn t_25 (by decide) : σ_302 25 = .inl (g_cI D, 96, .inl (T 0)))
              have hc310 := (by rw [hσ303]; exact g_upn t_26 (by decide) : σ_302 26 = .inl (g_cI D, 96, .inl (T 1)))
              have hc311 := (by rw [hσ303]; exact g_upn t_27 (by decide) : σ_302 27 = .inl (g_cI D, 96, .inl (T 2)))
              have hc312 := (by rw [hσ303]; exact g_upn t_28 (by decide) : σ_302 28 = .inl (g_cI D, 96, .inl (T 3)))
              have hc313 := (by rw [hσ303]; exact g_upn t_29 (by decide) : σ_302 29 = .inl (g_cI D, 96, .inl (T 4)))
              have hc314 := (by rw [hσ303]; exact g_upn t_30 (by decide) : σ_302 30 = .inl (g_cI D, 96, .inl (T 5)))
              have ho315 : g_off 20 30 σ σ_302 := by rw [hσ303]; exact g_off.up ho2 (by decide) (by decide)
              refine lv_aload_n hx hb dX3_lookAtBoth_92 rfl (lv_at hl 4 rfl) ?_
              refine lv_dup hx hb dX3_lookAtBoth_93 rfl ?_
              refine g_get hx hb hts hE hown hP g_inX3 rfl (by decide) hc304 5 (by decide) rfl wf_X3_79 (v := .int (nI m9)) rfl dX3_lookAtBoth_94 ?_
              refine lv_iconst (v := nI 1) hx hb dX3_lookAtBoth_97 (by decide) ?_
              refine lv_iadd hx hb dX3_lookAtBoth_98 ?_
              refine g_top (y := nI (m9 + 1)) (nI_add m9 1) ?_
              refine g_put hx hb hts hE hown hAD hP hS g_inX3 tyX3 tyX3_ok nmX3 rfl (by decide) hc304 5 (by decide) rfl rfl (by decide +kernel) wf_X3_79 (v := nI (m9 + 1)) (Nat.le_of_ble_eq_true rfl) dX3_lookAtBoth_99 (fun H locs hP hS => ?_)
              obtain ⟨σ_316, hσ317⟩ : ∃ z : Nat → va_E, z = va_up σ_302 20 (.inr (3, [.int th, .ref (ad_ D 21), .ref (ad_ D 22), .ref (ad_ D 23), .ref (ad_ D 24), .int (nI (m9 + 1)), .int sg, .ref (ad_ D 25), .ref (ad_ D 26), .ref (ad_ D 27), .ref (ad_ D 28), .ref (ad_ D 29), .ref (ad_ D 30)])) := ⟨_, rfl⟩
              have hP : va_P D vwCl (g_W D σ_316) H := by rw [hσ317]; exact hP
              have hc318 : σ_316 20 = .inr (3, [.int th, .ref (ad_ D 21), .ref (ad_ D 22), .ref (ad_ D 23), .ref (ad_ D 24), .int (nI (m9 + 1)), .int sg, .ref (ad_ D 25), .ref (ad_ D 26), .ref (ad_ D 27), .ref (ad_ D 28), .ref (ad_ D 29), .ref (ad_ D 30)]) := by rw [hσ317]; exact g_ups
              have hc319 := (by rw [hσ317]; exact g_upn hc305 (by decide) : σ_316 21 = .inl (g_cI D, 2, .inl (S)))
              have hc320 := (by rw [hσ317]; exact g_upn hc306 (by decide) : σ_316 22 = .inl (g_cI D, 48, .inl (N)))
              have hc321 := (by rw [hσ317]; exact g_upn hc307 (by decide) : σ_316 23 = .inl (g_cI D, 48, .inl (Z)))
              have hc322 := (by rw [hσ317]; exact g_upn hc308 (by decide) : σ_316 24 = .inl (g_cI D, 48, .inl (upd R2 m9 (fn_ U m9))))
              have hc323 := (by rw [hσ317]; exact g_upn hc309 (by decide) : σ_316 25 = .inl (g_cI D, 96, .inl (T 0)))
              have hc324 := (by rw [hσ317]; exact g_upn hc310 (by decide) : σ_316 26 = .inl (g_cI D, 96, .inl (T 1)))
              have hc325 := (by rw [hσ317]; exact g_upn hc311 (by decide) : σ_316 27 = .inl (g_cI D, 96, .inl (T 2)))
              have hc326 := (by rw [hσ317]; exact g_upn hc312 (by decide) : σ_316 28 = .inl (g_cI D, 96, .inl (T 3)))
              have hc327 := (by rw [hσ317]; exact g_upn hc313 (by decide) : σ_316 29 = .inl (g_cI D, 96, .inl (T 4)))
              have hc328 := (by rw [hσ317]; exact g_upn hc314 (by decide) : σ_316 30 = .inl (g_cI D, 96, .inl (T 5)))
              have ho329 : g_off 20 30 σ σ_316 := by rw [hσ317]; exact g_off.up ho315 (by decide) (by decide)
              refine lv_iload_n hx hb dX3_lookAtBoth_102 rfl (lv_at hl 2 rfl) ?_
              refine lv_iload_n hx hb dX3_lookAtBoth_103 rfl (lv_at hl 1 rfl) ?_
              refine lv_iload hx hb dX3_lookAtBoth_104 (lv_at hl 0 rfl) ?_
              refine lv_icmp_gt (tgt := 113) hx hb dX3_lookAtBoth_106 (by decide) (fun h106 => ?_) (fun h106 => ?_)
              · refine lv_iconst (v := nI 0) hx hb dX3_lookAtBoth_113 (by decide) ?_
                refine lv_iadd hx hb dX3_lookAtBoth_114 ?_
                refine g_top (y := nI ((rk_ (Ls 0) (uk_ U m9)) + 0)) (nI_add (rk_ (Ls 0) (uk_ U m9)) 0) ?_
                refine lv_istore_n (lv' := [(1, .int (nI ((rk_ (Ls 0) (uk_ U m9)) + 0))), (4, .int (on_ (Ls 1) (uk_ U m9))), (3, .int (on_ (Ls 0) (uk_ U m9))), (2, .int (nI (rk_ (Ls 1) (uk_ U m9)))), (0, .ref (ad_ D 20))]) hx hb dX3_lookAtBoth_115 rfl hl (by decide) rfl (fun ls hl => ?_)
                have hfx330 : (nI ((rk_ (Ls 0) (uk_ U m9)) + 0)) = nI (rk_ (Ls 0) (uk_ U (m9 + 1))) := congrArg nI (lu_0 hlu hmU h106)
                rw [hfx330] at hl
                refine lv_iload_n hx hb dX3_lookAtBoth_116 rfl (lv_at hl 3 rfl) ?_
                refine lv_iload hx hb dX3_lookAtBoth_117 (lv_at hl 1 rfl) ?_
                refine lv_iload_n hx hb dX3_lookAtBoth_119 rfl (lv_at hl 2 rfl) ?_
                refine lv_icmp_gt (tgt := 127) hx hb dX3_lookAtBoth_120 (by decide) (fun h120 => ?_) (fun h120 => ?_)
                · refine lv_iconst (v := nI 0) hx hb dX3_lookAtBoth_127 (by decide) ?_
                  refine lv_iadd hx hb dX3_lookAtBoth_128 ?_
                  refine g_top (y := nI ((rk_ (Ls 1) (uk_ U m9)) + 0)) (nI_add (rk_ (Ls 1) (uk_ U m9)) 0) ?_
                  refine lv_istore_n (lv' := [(2, .int (nI ((rk_ (Ls 1) (uk_ U m9)) + 0))), (1, .int (nI (rk_ (Ls 0) (uk_ U (m9 + 1))))), (4, .int (on_ (Ls 1) (uk_ U m9))), (3, .int (on_ (Ls 0) (uk_ U m9))), (0, .ref (ad_ D 20))]) hx hb dX3_lookAtBoth_129 rfl hl (by decide) rfl (fun ls hl => ?_)
                  have hfx331 : (nI ((rk_ (Ls 1) (uk_ U m9)) + 0)) = nI (rk_ (Ls 1) (uk_ U (m9 + 1))) := congrArg nI (lu_0 hlu.sw hmU h120)
                  rw [hfx331] at hl
                  refine lv_goto (tgt := 9) hx hb dX3_lookAtBoth_130 (by decide) ?_
                  have hMp332 : g_Mf D σ_316 th (nI (m9 + 1)) sg S N Z (upd R2 m9 (fn_ U m9)) T := ⟨hc318, hc319, hc320, hc321, hc322, hc323, hc324, hc325, hc326, hc327, hc328⟩
                  exact ih9 (m9 + 1) σ_316 (upd R2 m9 (fn_ U m9)) (by omega) (by omega) hMp332 (fun j hj => by rcases Nat.lt_succ_iff_lt_or_eq.mp hj with q | q; rw [upd_ne (by omega)]; exact hR2 j q; rw [q, upd_at]) ho329 _ _ hP hS ls (lv_sub hl [1, 0, 4] rfl)
                · refine lv_iconst (v := nI 1) hx hb dX3_lookAtBoth_123 (by decide) ?_
                  refine lv_goto (tgt := 128) hx hb dX3_lookAtBoth_124 (by decide) ?_
                  refine lv_iadd hx hb dX3_lookAtBoth_128 ?_
                  refine g_top (y := nI ((rk_ (Ls 1) (uk_ U m9)) + 1)) (nI_add (rk_ (Ls 1) (uk_ U m9)) 1) ?_
                  refine lv_istore_n (lv' := [(2, .int (nI ((rk_ (Ls 1) (uk_ U m9)) + 1))), (1, .int (nI (rk_ (Ls 0) (uk_ U (m9 + 1))))), (4, .int (on_ (Ls 1) (uk_ U m9))), (3, .int (on_ (Ls 0) (uk_ U m9))), (0, .ref (ad_ D 20))]) hx hb dX3_lookAtBoth_129 rfl hl (by decide) rfl (fun ls hl => ?_)
                  have hfx333 : (nI ((rk_ (Ls 1) (uk_ U m9)) + 1)) = nI (rk_ (Ls 1) (uk_ U (m9 + 1))) := congrArg nI (lu_1 hlu.sw hmU (Int32.not_lt.mp h120))
                  rw [hfx333] at hl
                  refine lv_goto (tgt := 9) hx hb dX3_lookAtBoth_130 (by decide) ?_
                  have hMp334 : g_Mf D σ_316 th (nI (m9 + 1)) sg S N Z (upd R2 m9 (fn_ U m9)) T := ⟨hc318, hc319, hc320, hc321, hc322, hc323, hc324, hc325, hc326, hc327, hc328⟩
                  exact ih9 (m9 + 1) σ_316 (upd R2 m9 (fn_ U m9)) (by omega) (by omega) hMp334 (fun j hj => by rcases Nat.lt_succ_iff_lt_or_eq.mp hj with q | q; rw [upd_ne (by omega)]; exact hR2 j q; rw [q, upd_at]) ho329 _ _ hP hS ls (lv_sub hl [1, 0, 4] rfl)
              · refine lv_iconst (v := nI 1) hx hb dX3_lookAtBoth_109 (by decide) ?_
                refine lv_goto (tgt := 114) hx hb dX3_lookAtBoth_110 (by decide) ?_
                refine lv_iadd hx hb dX3_lookAtBoth_114 ?_
                refine g_top (y := nI ((rk_ (Ls 0) (uk_ U m9)) + 1)) (nI_add (rk_ (Ls 0) (uk_ U m9)) 1) ?_
                refine lv_istore_n (lv' := [(1, .int (nI ((rk_ (Ls 0) (uk_ U m9)) + 1))), (4, .int (on_ (Ls 1) (uk_ U m9))), (3, .int (on_ (Ls 0) (uk_ U m9))), (2, .int (nI (rk_ (Ls 1) (uk_ U m9)))), (0, .ref (ad_ D 20))]) hx hb dX3_lookAtBoth_115 rfl hl (by decide) rfl (fun ls hl => ?_)
                have hfx335 : (nI ((rk_ (Ls 0) (uk_ U m9)) + 1)) = nI (rk_ (Ls 0) (uk_ U (m9 + 1))) := congrArg nI (lu_1 hlu hmU (Int32.not_lt.mp h106))
                rw [hfx335] at hl
                refine lv_iload_n hx hb dX3_lookAtBoth_116 rfl (lv_at hl 3 rfl) ?_
                refine lv_iload hx hb dX3_lookAtBoth_117 (lv_at hl 1 rfl) ?_
                refine lv_iload_n hx hb dX3_lookAtBoth_119 rfl (lv_at hl 2 rfl) ?_
                refine lv_icmp_gt (tgt := 127) hx hb dX3_lookAtBoth_120 (by decide) (fun h120 => ?_) (fun h120 => ?_)
                · refine lv_iconst (v := nI 0) hx hb dX3_lookAtBoth_127 (by decide) ?_
                  refine lv_iadd hx hb dX3_lookAtBoth_128 ?_
                  refine g_top (y := nI ((rk_ (Ls 1) (uk_ U m9)) + 0)) (nI_add (rk_ (Ls 1) (uk_ U m9)) 0) ?_
                  refine lv_istore_n (lv' := [(2, .int (nI ((rk_ (Ls 1) (uk_ U m9)) + 0))), (1, .int (nI (rk_ (Ls 0) (uk_ U (m9 + 1))))), (4, .int (on_ (Ls 1) (uk_ U m9))), (3, .int (on_ (Ls 0) (uk_ U m9))), (0, .ref (ad_ D 20))]) hx hb dX3_lookAtBoth_129 rfl hl (by decide) rfl (fun ls hl => ?_)
                  have hfx336 : (nI ((rk_ (Ls 1) (uk_ U m9)) + 0)) = nI (rk_ (Ls 1) (uk_ U (m9 + 1))) := congrArg nI (lu_0 hlu.sw hmU h120)
                  rw [hfx336] at hl
                  refine lv_goto (tgt := 9) hx hb dX3_lookAtBoth_130 (by decide) ?_
                  have hMp337 : g_Mf D σ_316 th (nI (m9 + 1)) sg S N Z (upd R2 m9 (fn_ U m9)) T := ⟨hc318, hc319, hc320, hc321, hc322, hc323, hc324, hc325, hc326, hc327, hc328⟩
                  exact ih9 (m9 + 1) σ_316 (upd R2 m9 (fn_ U m9)) (by omega) (by omega) hMp337 (fun j hj => by rcases Nat.lt_succ_iff_lt_or_eq.mp hj with q | q; rw [upd_ne (by omega)]; exact hR2 j q; rw [q, upd_at]) ho329 _ _ hP hS ls (lv_sub hl [1, 0, 4] rfl)
                · refine lv_iconst (v := nI 1) hx hb dX3_lookAtBoth_123 (by decide) ?_
                  refine lv_goto (tgt := 128) hx hb dX3_lookAtBoth_124 (by decide) ?_
                  refine lv_iadd hx hb dX3_lookAtBoth_128 ?_
                  refine g_top (y := nI ((rk_ (Ls 1) (uk_ U m9)) + 1)) (nI_add (rk_ (Ls 1) (uk_ U m9)) 1) ?_
                  refine lv_istore_n (lv' := [(2, .int (nI ((rk_ (Ls 1) (uk_ U m9)) + 1))), (1, .int (nI (rk_ (Ls 0) (uk_ U (m9 + 1))))), (4, .int (on_ (Ls 1) (uk_ U m9))), (3, .int (on_ (Ls 0) (uk_ U m9))), (0, .ref (ad_ D 20))]) hx hb dX3_lookAtBoth_129 rfl hl (by decide) rfl (fun ls hl => ?_)
                  have hfx338 : (nI ((rk_ (Ls 1) (uk_ U m9)) + 1)) = nI (rk_ (Ls 1) (uk_ U (m9 + 1))) := congrArg nI (lu_1 hlu.sw hmU (Int32.not_lt.mp h120))
                  rw [hfx338] at hl
                  refine lv_goto (tgt := 9) hx hb dX3_lookAtBoth_130 (by decide) ?_
                  have hMp339 : g_Mf D σ_316 th (nI (m9 + 1)) sg S N Z (upd R2 m9 (fn_ U m9)) T := ⟨hc318, hc319, hc320, hc321, hc322, hc323, hc324, hc325, hc326, hc327, hc328⟩
                  exact ih9 (m9 + 1) σ_316 (upd R2 m9 (fn_ U m9)) (by omega) (by omega) hMp339 (fun j hj => by rcases Nat.lt_succ_iff_lt_or_eq.mp hj with q | q; rw [upd_ne (by omega)]; exact hR2 j q; rw [q, upd_at]) ho329 _ _ hP hS ls (lv_sub hl [1, 0, 4] rfl)
  have hMp340 : g_Mf D σ_1 th (nI 0) sg S N Z R T := ⟨hc3, hc4, hc5, hc6, hc7, hc8, hc9, hc10, hc11, hc12, hc13⟩
  exact K9 ((U.length - 0) + 1) 0 σ_1 R (Nat.lt_succ_self _) (Nat.zero_le _) hMp340 (fun j hj => absurd hj (Nat.not_lt_zero _)) ho14 _ _ hP hS ls (lv_sub hl [1, 0, 2] rfl)

abbrev m_X3_wouldBe_rm : Room := { frames := 63, cells := 0, slots := 0, locals := 1569 }
set_option maxHeartbeats 4000000 in
set_option maxRecDepth 100000 in
theorem m_X3_wouldBe (l : Launch) (D : va_G) (hAD : g_AD D) (σ : Nat → va_E) (th rs sg : Int32) (S N Z R : Nat → Int32) (T : Nat → Nat → Int32) (hM : g_Mf D σ th rs sg S N Z R T) (Ls : Nat → g_L) (t : Nat) (hmr : mr_ Ls S N Z) (hvC : vC_ Ls) (ht : t ≤ 3) : g_M l D yX3_wouldBe cX3_wouldBe 2 (some .int) m_X3_wouldBe_rm [.ref (ad_ D 20), .int (nI t)] σ (fun v1 σ1 => v1 = some (.int (cn_ (bo_ (Ls 0) (Ls 1)) t)) ∧ (∃ R1 T1, g_Mf D σ1 th (nI (bo_ (Ls 0) (Ls 1)).length) (nI (zs_ (bo_ (Ls 0) (Ls 1)).length)) S N Z R1 T1 ∧ (∀ j, j < (bo_ (Ls 0) (Ls 1)).length → R1 j = fn_ (bo_ (Ls 0) (Ls 1)) j) ∧ mB_ (fn_ (bo_ (Ls 0) (Ls 1))) (bo_ (Ls 0) (Ls 1)).length T1) ∧ g_off 20 30 σ σ1) := by
  refine g_ofW [(0, .ref (ad_ D 20)), (1, .int (nI t))] (by decide +kernel) (Nat.le_of_ble_eq_true rfl) rfl ?_
  intro p e s m args below meth c hx hb hr hml hown hlocks hts hE hZ hP hS hnm ls hl
  have hown : s.vm.findClass RX3 = some m.cls := hown
  generalize hQ : MQ _ _ _ _ _ _ _ = Q
  obtain ⟨k20, k21, k22, k23, k24, k25, k26, k27, k28, k29, k30⟩ := id hM
  have hvb := vL_bo (hvC 0 (by decide)).1 (hvC 1 (by decide)).1
  have h240 := (hvC 0 (by decide)).2
  have h241 := (hvC 1 (by decide)).2
  have hbl := bo_len (A := Ls 0) (B := Ls 1)
  have hpc := pc_n hvb
  refine lv_aload_n hx hb dX3_wouldBe_0 rfl (lv_at hl 0 rfl) ?_
  have hMp1 : g_Mf D σ th rs sg S N Z R T := ⟨k20, k21, k22, k23, k24, k25, k26, k27, k28, k29, k30⟩
  refine g_callV0 (y := yX3_lookAtBoth) (n := 0) (As := []) (rest := []) hx hb hml hown hts hE hZ hP hS hl.1 (m_X3_lookAtBoth l D hAD σ th rs sg S N Z R T hMp1 Ls hmr hvC) k_X3_150 (ci := 3) (by decide) k20 rfl rfl rfl rfl rfl ⟨rfl, rfl⟩ ⟨Nat.le_of_ble_eq_true rfl, Nat.le_of_ble_eq_true rfl⟩ (Nat.le_of_ble_eq_true rfl) ⟨Nat.le_of_ble_eq_true rfl, Nat.le_of_ble_eq_true rfl⟩ dX3_wouldBe_1 (fun v2 σ_3 H locs hq hP hS => ?_)
  obtain ⟨rfl, hq2⟩ := hq
  refine W.eq (g2 := F0 m 4 ls []) rfl ?_
  obtain ⟨⟨Rn4, Tn4, hMn4, hRln4, hTln4⟩, hofn4⟩ := hq2
  obtain ⟨k5_20, k5_21, k5_22, k5_23, k5_24, k5_25, k5_26, k5_27, k5_28, k5_29, k5_30⟩ := id hMn4
  have ho6 := g_off.tr (g_off.rf (lo := 20) (hi := 30) (σ := σ)) (g_off.wd hofn4 (by decide) (by decide))
  refine lv_iload_n hx hb dX3_wouldBe_4 rfl (lv_at hl 1 rfl) ?_
  refine lv_if_ne (tgt := 15) hx hb dX3_wouldBe_5 (by decide) (fun h5 => ?_) (fun h5 => ?_)
  · have hb5 := g_ne (a := t) (b := 0) h5 (by omega) (by omega)
    refine lv_iload_n hx hb dX3_wouldBe_15 rfl (lv_at hl 1 rfl) ?_
    refine lv_iconst (v := nI 1) hx hb dX3_wouldBe_16 (by decide) ?_
    refine lv_icmp_ne (tgt := 33) hx hb dX3_wouldBe_17 (by decide) (fun h17 => ?_) (fun h17 => ?_)
    · have hb17 := g_ne (a := t) (b := 1) h17 (by omega) (by omega)
      refine lv_iload_n hx hb dX3_wouldBe_33 rfl (lv_at hl 1 rfl) ?_
      refine lv_iconst (v := nI 2) hx hb dX3_wouldBe_34 (by decide) ?_
      refine lv_icmp_ne (tgt := 45) hx hb dX3_wouldBe_35 (by decide) (fun h35 => ?_) (fun h35 => ?_)
      · have hb35 := g_ne (a := t) (b := 2) h35 (by omega) (by omega)
        refine lv_aload_n hx hb dX3_wouldBe_45 rfl (lv_at hl 0 rfl) ?_
        have hMp7 : g_Mf D σ_3 th (nI (((bo_ (Ls 0) (Ls 1))).length)) (nI (zs_ ((bo_ (Ls 0) (Ls 1))).length)) S N Z Rn4 Tn4 := ⟨k5_20, k5_21, k5_22, k5_23, k5_24, k5_25, k5_26, k5_27, k5_28, k5_29, k5_30⟩
        refine g_callV0 (y := yX3_allPaths) (n := 0) (As := []) (rest := []) hx hb hml hown hts hE hZ hP hS hl.1 (m_X3_allPaths l D hAD σ_3 th S N Z Rn4 Tn4 ((bo_ (Ls 0) (Ls 1))) hMp7 hvb (by omega) hRln4 hTln4) k_X3_125 (ci := 3) (by decide) k5_20 rfl rfl rfl rfl rfl ⟨rfl, rfl⟩ ⟨Nat.le_of_ble_eq_true rfl, Nat.le_of_ble_eq_true rfl⟩ (Nat.le_of_ble_eq_true rfl) ⟨Nat.le_of_ble_eq_true rfl, Nat.le_of_ble_eq_true rfl⟩ dX3_wouldBe_46 (fun v8 σ_9 H locs hq hP hS => ?_)
        obtain ⟨rfl, rfl⟩ := hq
        refine W.eq (g2 := F0 m 49 ls [.int (ap_ (tb_ ((bo_ (Ls 0) (Ls 1))) 0) (tb_ ((bo_ (Ls 0) (Ls 1))) 7) (zs_ (List.length ((bo_ (Ls 0) (Ls 1))))))]) rfl ?_
        have hMp10 : g_Mf D σ_3 th (nI (((bo_ (Ls 0) (Ls 1))).length)) (nI (zs_ ((bo_ (Ls 0) (Ls 1))).length)) S N Z Rn4 Tn4 := ⟨k5_20, k5_21, k5_22, k5_23, k5_24, k5_25, k5_26, k5_27, k5_28, k5_29, k5_30⟩
        rw [← hQ]
        exact W.iret (v := ap_ (tb_ ((bo_ (Ls 0) (Ls 1))) 0) (tb_ ((bo_ (Ls 0) (Ls 1))) 7) (zs_ (List.length ((bo_ (Ls 0) (Ls 1)))))) hx hb hr (fun te9 hte9 _ => g_fin (⟨by rw [show t = 3 by omega]; rfl, ⟨_, _, hMp10, hRln4, hTln4⟩, ho6⟩) hP hS hte9) hS.2.2 dX3_wouldBe_49 hlocks
      · have hb35 := g_eq (a := t) (b := 2) h35 (by omega) (by omega)
        refine lv_aload_n hx hb dX3_wouldBe_38 rfl (lv_at hl 0 rfl) ?_
        have hMp11 : g_Mf D σ_3 th (nI (((bo_ (Ls 0) (Ls 1))).length)) (nI (zs_ ((bo_ (Ls 0) (Ls 1))).length)) S N Z Rn4 Tn4 := ⟨k5_20, k5_21, k5_22, k5_23, k5_24, k5_25, k5_26, k5_27, k5_28, k5_29, k5_30⟩
        refine g_callV0 (y := yX3_longest) (n := 0) (As := []) (rest := []) hx hb hml hown hts hE hZ hP hS hl.1 (m_X3_longest l D hAD σ_3 th S N Z Rn4 Tn4 ((bo_ (Ls 0) (Ls 1))) hMp11 hvb (by omega) hRln4 hTln4) k_X3_122 (ci := 3) (by decide) k5_20 rfl rfl rfl rfl rfl ⟨rfl, rfl⟩ ⟨Nat.le_of_ble_eq_true rfl, Nat.le_of_ble_eq_true rfl⟩ (Nat.le_of_ble_eq_true rfl) ⟨Nat.le_of_ble_eq_true rfl, Nat.le_of_ble_eq_true rfl⟩ dX3_wouldBe_39 (fun v12 σ_13 H locs hq hP hS => ?_)
        obtain ⟨rfl, rfl⟩ := hq
        refine W.eq (g2 := F0 m 42 ls [.int (lg_ (tb_ ((bo_ (Ls 0) (Ls 1))) 7) (zs_ (List.length ((bo_ (Ls 0) (Ls 1))))))]) rfl ?_
        refine lv_goto (tgt := 49) hx hb dX3_wouldBe_42 (by decide) ?_
        have hMp14 : g_Mf D σ_3 th (nI (((bo_ (Ls 0) (Ls 1))).length)) (nI (zs_ ((bo_ (Ls 0) (Ls 1))).length)) S N Z Rn4 Tn4 := ⟨k5_20, k5_21, k5_22, k5_23, k5_24, k5_25, k5_26, k5_27, k5_28, k5_29, k5_30⟩
        rw [← hQ]
        exact W.iret (v := lg_ (tb_ ((bo_ (Ls 0) (Ls 1))) 7) (zs_ (List.length ((bo_ (Ls 0) (Ls 1)))))) hx hb hr (fun te9 hte9 _ => g_fin (⟨by rw [show t = 2 by omega]; rfl, ⟨_, _, hMp14, hRln4, hTln4⟩, ho6⟩) hP hS hte9) hS.2.2 dX3_wouldBe_49 hlocks
    · have hb17 := g_eq (a := t) (b := 1) h17 (by omega) (by omega)
      refine lv_iconst (v := nI 0) hx hb dX3_wouldBe_20 (by decide) ?_
      refine lv_aload_n hx hb dX3_wouldBe_21 rfl (lv_at hl 0 rfl) ?_
      refine g_get hx hb hts hE hown hP g_inX3 rfl (by decide) k5_20 5 (by decide) rfl wf_X3_79 (v := .int (nI (((bo_ (Ls 0) (Ls 1))).length))) rfl dX3_wouldBe_22 ?_
      refine lv_iconst (v := nI 1) hx hb dX3_wouldBe_25 (by decide) ?_
      refine lv_isub hx hb dX3_wouldBe_26 ?_
      refine g_mmax hx hb (hml.trans hl.1.symm) hown hts k_X3_91 k_max ⟨Nat.le_of_ble_eq_true rfl, Nat.le_of_ble_eq_true rfl, by omega, by omega⟩ dX3_wouldBe_27 ?_
      refine lv_goto (tgt := 49) hx hb dX3_wouldBe_30 (by decide) ?_
      have hMp15 : g_Mf D σ_3 th (nI (((bo_ (Ls 0) (Ls 1))).length)) (nI (zs_ ((bo_ (Ls 0) (Ls 1))).length)) S N Z Rn4 Tn4 := ⟨k5_20, k5_21, k5_22, k5_23, k5_24, k5_25, k5_26, k5_27, k5_28, k5_29, k5_30⟩
      rw [← hQ]
      exact W.iret (v := if nI 0 < (nI (((bo_ (Ls 0) (Ls 1))).length)) - (nI 1) then (nI (((bo_ (Ls 0) (Ls 1))).length)) - (nI 1) else nI 0) hx hb hr (fun te9 hte9 _ => g_fin (⟨by rw [show t = 1 by omega, mx1 (by omega), ← hpc]; rfl, ⟨_, _, hMp15, hRln4, hTln4⟩, ho6⟩) hP hS hte9) hS.2.2 dX3_wouldBe_49 hlocks
  · have hb5 := g_eq (a := t) (b := 0) h5 (by omega) (by omega)
    refine lv_aload_n hx hb dX3_wouldBe_8 rfl (lv_at hl 0 rfl) ?_
    refine g_get hx hb hts hE hown hP g_inX3 rfl (by decide) k5_20 5 (by decide) rfl wf_X3_79 (v := .int (nI (((bo_ (Ls 0) (Ls 1))).length))) rfl dX3_wouldBe_9 ?_
    refine lv_goto (tgt := 49) hx hb dX3_wouldBe_12 (by decide) ?_
    have hMp16 : g_Mf D σ_3 th (nI (((bo_ (Ls 0) (Ls 1))).length)) (nI (zs_ ((bo_ (Ls 0) (Ls 1))).length)) S N Z Rn4 Tn4 := ⟨k5_20, k5_21, k5_22, k5_23, k5_24, k5_25, k5_26, k5_27, k5_28, k5_29, k5_30⟩
    rw [← hQ]
    exact W.iret (v := nI (((bo_ (Ls 0) (Ls 1))).length)) hx hb hr (fun te9 hte9 _ => g_fin (⟨by rw [show t = 0 by omega]; rfl, ⟨_, _, hMp16, hRln4, hTln4⟩, ho6⟩) hP hS hte9) hS.2.2 dX3_wouldBe_49 hlocks

abbrev m_X3_would_rm : Room := { frames := 64, cells := 0, slots := 0, locals := 1590 }
set_option maxHeartbeats 4000000 in
set_option maxRecDepth 100000 in
theorem m_X3_would (l : Launch) (D : va_G) (hAD : g_AD D) (σ : Nat → va_E) (th rs sg : Int32) (S N Z R : Nat → Int32) (T : Nat → Nat → Int32) (hM : g_Mf D σ th rs sg S N Z R T) (Ls : Nat → g_L) (what : Int32) (hmr : mr_ Ls S N Z) (hvC : vC_ Ls) : g_M l D yX3_would cX3_would 2 (some .int) m_X3_would_rm [.ref (ad_ D 20), .int what] σ (fun v1 σ1 => ((er_would what = 0 ∧ (∃ t, t ≤ 3 ∧ what = nI t ∧ v1 = some (.int (cn_ (bo_ (Ls 0) (Ls 1)) t)) ∧ g_MM D σ1 (nI 0) Ls)) ∨ ∃ k9, er_would what = k9 ∧ k9 ≠ 0 ∧ v1 = some (.int (nI 0)) ∧ g_MM D σ1 (nI k9) Ls) ∧ g_off 20 30 σ σ1) := by
  refine g_ofW [(0, .ref (ad_ D 20)), (1, .int what)] (by decide +kernel) (Nat.le_of_ble_eq_true rfl) rfl ?_
  intro p e s m args below meth c hx hb hr hml hown hlocks hts hE hZ hP hS hnm ls hl
  have hown : s.vm.findClass RX3 = some m.cls := hown
  generalize hQ : MQ _ _ _ _ _ _ _ = Q
  obtain ⟨k20, k21, k22, k23, k24, k25, k26, k27, k28, k29, k30⟩ := id hM
  refine lv_aload_n hx hb dX3_would_0 rfl (lv_at hl 0 rfl) ?_
  refine lv_iconst (v := nI 0) hx hb dX3_would_1 (by decide) ?_
  refine g_put hx hb hts hE hown hAD hP hS g_inX3 tyX3 tyX3_ok nmX3 rfl (by decide) k20 0 (by decide) rfl rfl (by decide +kernel) wf_X3_40 (v := nI 0) (Nat.le_of_ble_eq_true rfl) dX3_would_2 (fun H locs hP hS => ?_)
  obtain ⟨σ_1, hσ2⟩ : ∃ z : Nat → va_E, z = va_up σ 20 (.inr (3, [.int (nI 0), .ref (ad_ D 21), .ref (ad_ D 22), .ref (ad_ D 23), .ref (ad_ D 24), .int rs, .int sg, .ref (ad_ D 25), .ref (ad_ D 26), .ref (ad_ D 27), .ref (ad_ D 28), .ref (ad_ D 29), .ref (ad_ D 30)])) := ⟨_, rfl⟩
  have hP : va_P D vwCl (g_W D σ_1) H := by rw [hσ2]; exact hP
  have hc3 : σ_1 20 = .inr (3, [.int (nI 0), .ref (ad_ D 21), .ref (ad_ D 22), .ref (ad_ D 23), .ref (ad_ D 24), .int rs, .int sg, .ref (ad_ D 25), .ref (ad_ D 26), .ref (ad_ D 27), .ref (ad_ D 28), .ref (ad_ D 29), .ref (ad_ D 30)]) := by rw [hσ2]; exact g_ups
  have hc4 := (by rw [hσ2]; exact g_upn k21 (by decide) : σ_1 21 = .inl (g_cI D, 2, .inl (S)))
  have hc5 := (by rw [hσ2]; exact g_upn k22 (by decide) : σ_1 22 = .inl (g_cI D, 48, .inl (N)))
  have hc6 := (by rw [hσ2]; exact g_upn k23 (by decide) : σ_1 23 = .inl (g_cI D, 48, .inl (Z)))
  have hc7 := (by rw [hσ2]; exact g_upn k24 (by decide) : σ_1 24 = .inl (g_cI D, 48, .inl (R)))
  have hc8 := (by rw [hσ2]; exact g_upn k25 (by decide) : σ_1 25 = .inl (g_cI D, 96, .inl (T 0)))
  have hc9 := (by rw [hσ2]; exact g_upn k26 (by decide) : σ_1 26 = .inl (g_cI D, 96, .inl (T 1)))
  have hc10 := (by rw [hσ2]; exact g_upn k27 (by decide) : σ_1 27 = .inl (g_cI D, 96, .inl (T 2)))
  have hc11 := (by rw [hσ2]; exact g_upn k28 (by decide) : σ_1 28 = .inl (g_cI D, 96, .inl (T 3)))
  have hc12 := (by rw [hσ2]; exact g_upn k29 (by decide) : σ_1 29 = .inl (g_cI D, 96, .inl (T 4)))
  have hc13 := (by rw [hσ2]; exact g_upn k30 (by decide) : σ_1 30 = .inl (g_cI D, 96, .inl (T 5)))
  have ho14 : g_off 20 30 σ σ_1 := by rw [hσ2]; exact g_off.up (g_off.rf (lo := 20) (hi := 30) (σ := σ)) (by decide) (by decide)
  refine lv_iload_n hx hb dX3_would_5 rfl (lv_at hl 1 rfl) ?_
  refine lv_iconst (v := nI 0) hx hb dX3_would_6 (by decide) ?_
  refine lv_iconst (v := nI 3) hx hb dX3_would_7 (by decide) ?_
  refine g_callS0 (y := yX3_isIn) (n := 3) (As := [.int what, .int (nI 0), .int (nI 3)]) (rest := []) hx hb hml hown hts hE hZ hP hS hl.1 (m_X3_isIn l D hAD σ_1 (what) (nI 0) (nI 3)) k_X3_44 rfl rfl ⟨rfl, rfl⟩ ⟨Nat.le_of_ble_eq_true rfl, Nat.le_of_ble_eq_true rfl⟩ (Nat.le_of_ble_eq_true rfl) ⟨Nat.le_of_ble_eq_true rfl, Nat.le_of_ble_eq_true rfl⟩ dX3_would_8 (fun v15 σ_16 H locs hq hP hS => ?_)
  obtain ⟨rfl, rfl⟩ := hq
  refine W.eq (g2 := F0 m 11 ls [.int (if ¬ (what) < (nI 0) ∧ ¬ (nI 3) < (what) then 1 else 0)]) rfl ?_
  refine lv_if_eq (tgt := 22) hx hb dX3_would_11 (by decide) (fun h11 => ?_) (fun h11 => ?_)
  · have hq11 := g_pp0 h11
    refine lv_aload_n hx hb dX3_would_22 rfl (lv_at hl 0 rfl) ?_
    refine lv_iconst (v := nI 1) hx hb dX3_would_23 (by decide) ?_
    have hMp17 : g_Mf D σ_1 (nI 0) rs sg S N Z R T := ⟨hc3, hc4, hc5, hc6, hc7, hc8, hc9, hc10, hc11, hc12, hc13⟩
    refine g_callV0 (y := yX3_no) (n := 1) (As := [.int (nI 1)]) (rest := []) hx hb hml hown hts hE hZ hP hS hl.1 (m_X3_no l D hAD σ_1 (nI 0) rs sg S N Z R T hMp17 (nI 1)) k_X3_98 (ci := 3) (by decide) hc3 rfl rfl rfl rfl rfl ⟨rfl, rfl⟩ ⟨Nat.le_of_ble_eq_true rfl, Nat.le_of_ble_eq_true rfl⟩ (Nat.le_of_ble_eq_true rfl) ⟨Nat.le_of_ble_eq_true rfl, Nat.le_of_ble_eq_true rfl⟩ dX3_would_24 (fun v18 σ_19 H locs hq hP hS => ?_)
    obtain ⟨rfl, hq2⟩ := hq
    refine W.eq (g2 := F0 m 27 ls [.int (nI 0)]) rfl ?_
    obtain ⟨hMn20, hon20⟩ := hq2
    obtain ⟨k21_20, k21_21, k21_22, k21_23, k21_24, k21_25, k21_26, k21_27, k21_28, k21_29, k21_30⟩ := id hMn20
    have ho22 := g_off.tr ho14 (g_off.wd hon20 (by decide) (by decide))
    have hMp23 : g_Mf D σ_19 (nI 1) rs sg S N Z R T := ⟨k21_20, k21_21, k21_22, k21_23, k21_24, k21_25, k21_26, k21_27, k21_28, k21_29, k21_30⟩
    rw [← hQ]
    exact W.iret (v := nI 0) hx hb hr (fun te9 hte9 _ => g_fin (⟨Or.inr ⟨1, if_neg hq11, by decide, rfl, ⟨_, _, _, _, _, _, _, hMp23, hmr⟩⟩, ho22⟩) hP hS hte9) hS.2.2 dX3_would_27 hlocks
  · have hq11 := g_pp1 h11
    obtain ⟨t, ht, te⟩ := ix_nat (g := 3) hq11 (by decide)
    subst te
    refine lv_aload_n hx hb dX3_would_14 rfl (lv_at hl 0 rfl) ?_
    refine lv_iload_n hx hb dX3_would_15 rfl (lv_at hl 1 rfl) ?_
    have hMp24 : g_Mf D σ_1 (nI 0) rs sg S N Z R T := ⟨hc3, hc4, hc5, hc6, hc7, hc8, hc9, hc10, hc11, hc12, hc13⟩
    refine g_callV0 (y := yX3_wouldBe) (n := 1) (As := [.int (nI t)]) (rest := []) hx hb hml hown hts hE hZ hP hS hl.1 (m_X3_wouldBe l D hAD σ_1 (nI 0) rs sg S N Z R T hMp24 Ls t hmr hvC (by omega)) k_X3_153 (ci := 3) (by decide) hc3 rfl rfl rfl rfl rfl ⟨rfl, rfl⟩ ⟨Nat.le_of_ble_eq_true rfl, Nat.le_of_ble_eq_true rfl⟩ (Nat.le_of_ble_eq_true rfl) ⟨Nat.le_of_ble_eq_true rfl, Nat.le_of_ble_eq_true rfl⟩ dX3_would_16 (fun v25 σ_26 H locs hq hP hS => ?_)
    obtain ⟨rfl, hq2⟩ := hq
    refine W.eq (g2 := F0 m 19 ls [.int (cn_ (bo_ (Ls 0) (Ls 1)) t)]) rfl ?_
    obtain ⟨⟨Rn27, Tn27, hMn27, hRln27, hTln27⟩, hofn27⟩ := hq2
    obtain ⟨k28_20, k28_21, k28_22, k28_23, k28_24, k28_25, k28_26, k28_27, k28_28, k28_29, k28_30⟩ := id hMn27
    have ho29 := g_off.tr ho14 (g_off.wd hofn27 (by decide) (by decide))
    refine lv_goto (tgt := 27) hx hb dX3_would_19 (by decide) ?_
    have hMp30 : g_Mf D σ_26 (nI 0) (nI (((bo_ (Ls 0) (Ls 1))).length)) (nI (zs_ ((bo_ (Ls 0) (Ls 1))).length)) S N Z Rn27 Tn27 := ⟨k28_20, k28_21, k28_22, k28_23, k28_24, k28_25, k28_26, k28_27, k28_28, k28_29, k28_30⟩
    rw [← hQ]
    exact W.iret (v := cn_ (bo_ (Ls 0) (Ls 1)) t) hx hb hr (fun te9 hte9 _ => g_fin (⟨Or.inl ⟨by rw [er_would, if_pos (ix_of ht (by decide))], t, ht, rfl, rfl, ⟨_, _, _, _, _, _, _, hMp30, hmr⟩⟩, ho29⟩) hP hS hte9) hS.2.2 dX3_would_27 hlocks

abbrev m_X3_mean_rm : Room := { frames := 63, cells := 0, slots := 0, locals := 1566 }
set_option maxHeartbeats 4000000 in
set_option maxRecDepth 100000 in
theorem m_X3_mean (l : Launch) (D : va_G) (hAD : g_AD D) (σ : Nat → va_E) (th rs sg : Int32) (S N Z R : Nat → Int32) (T : Nat → Nat → Int32) (hM : g_Mf D σ th rs sg S N Z R T) (Ls : Nat → g_L) (wood : Int32) (hmr : mr_ Ls S N Z) (hvC : vC_ Ls) : g_M l D yX3_mean cX3_mean 2 (some .double) m_X3_mean_rm [.ref (ad_ D 20), .int wood] σ (fun v1 σ1 => ((er_wood wood = 0 ∧ (∃ w, w ≤ 1 ∧ wood = nI w ∧ v1 = some (.double (me_ (Ls w))) ∧ g_MM D σ1 (nI 0) Ls)) ∨ ∃ k9, er_wood wood = k9 ∧ k9 ≠ 0 ∧ v1 = some (.double FP.dconst0) ∧ g_MM D σ1 (nI k9) Ls) ∧ g_off 20 30 σ σ1) := by
  refine g_ofW [(0, .ref (ad_ D 20)), (1, .int wood)] (by decide +kernel) (Nat.le_of_ble_eq_true rfl) rfl ?_
  intro p e s m args below meth c hx hb hr hml hown hlocks hts hE hZ hP hS hnm ls hl
  have hown : s.vm.findClass RX3 = some m.cls := hown
  generalize hQ : MQ _ _ _ _ _ _ _ = Q
  obtain ⟨k20, k21, k22, k23, k24, k25, k26, k27, k28, k29, k30⟩ := id hM
  refine lv_aload_n hx hb dX3_mean_0 rfl (lv_at hl 0 rfl) ?_
  refine lv_iload_n hx hb dX3_mean_1 rfl (lv_at hl 1 rfl) ?_
  refine g_callS0 (y := yX3_isWood) (n := 1) (As := [.int wood]) (rest := [.ref (ad_ D 20)]) hx hb hml hown hts hE hZ hP hS hl.1 (m_X3_isWood l D hAD σ (wood)) k_X3_94 rfl rfl ⟨rfl, rfl⟩ ⟨Nat.le_of_ble_eq_true rfl, Nat.le_of_ble_eq_true rfl⟩ (Nat.le_of_ble_eq_true rfl) ⟨Nat.le_of_ble_eq_true rfl, Nat.le_of_ble_eq_true rfl⟩ dX3_mean_2 (fun v1 σ_2 H locs hq hP hS => ?_)
  obtain ⟨rfl, rfl⟩ := hq
  refine W.eq (g2 := F0 m 5 ls [.int (if wk1_ (wood) then 1 else 0), .ref (ad_ D 20)]) rfl ?_
  refine lv_if_eq (tgt := 12) hx hb dX3_mean_5 (by decide) (fun h5 => ?_) (fun h5 => ?_)
  · have hq5 := g_pp0 h5
    refine lv_iconst (v := nI 1) hx hb dX3_mean_12 (by decide) ?_
    refine g_put hx hb hts hE hown hAD hP hS g_inX3 tyX3 tyX3_ok nmX3 rfl (by decide) k20 0 (by decide) rfl rfl (by decide +kernel) wf_X3_40 (v := nI 1) (Nat.le_of_ble_eq_true rfl) dX3_mean_13 (fun H locs hP hS => ?_)
    obtain ⟨σ_3, hσ4⟩ : ∃ z : Nat → va_E, z = va_up σ 20 (.inr (3, [.int (nI 1), .ref (ad_ D 21), .ref (ad_ D 22), .ref (ad_ D 23), .ref (ad_ D 24), .int rs, .int sg, .ref (ad_ D 25), .ref (ad_ D 26), .ref (ad_ D 27), .ref (ad_ D 28), .ref (ad_ D 29), .ref (ad_ D 30)])) := ⟨_, rfl⟩
    have hP : va_P D vwCl (g_W D σ_3) H := by rw [hσ4]; exact hP
    have hc5 : σ_3 20 = .inr (3, [.int (nI 1), .ref (ad_ D 21), .ref (ad_ D 22), .ref (ad_ D 23), .ref (ad_ D 24), .int rs, .int sg, .ref (ad_ D 25), .ref (ad_ D 26), .ref (ad_ D 27), .ref (ad_ D 28), .ref (ad_ D 29), .ref (ad_ D 30)]) := by rw [hσ4]; exact g_ups
    have hc6 := (by rw [hσ4]; exact g_upn k21 (by decide) : σ_3 21 = .inl (g_cI D, 2, .inl (S)))
    have hc7 := (by rw [hσ4]; exact g_upn k22 (by decide) : σ_3 22 = .inl (g_cI D, 48, .inl (N)))
    have hc8 := (by rw [hσ4]; exact g_upn k23 (by decide) : σ_3 23 = .inl (g_cI D, 48, .inl (Z)))
    have hc9 := (by rw [hσ4]; exact g_upn k24 (by decide) : σ_3 24 = .inl (g_cI D, 48, .inl (R)))
    have hc10 := (by rw [hσ4]; exact g_upn k25 (by decide) : σ_3 25 = .inl (g_cI D, 96, .inl (T 0)))
    have hc11 := (by rw [hσ4]; exact g_upn k26 (by decide) : σ_3 26 = .inl (g_cI D, 96, .inl (T 1)))
    have hc12 := (by rw [hσ4]; exact g_upn k27 (by decide) : σ_3 27 = .inl (g_cI D, 96, .inl (T 2)))
    have hc13 := (by rw [hσ4]; exact g_upn k28 (by decide) : σ_3 28 = .inl (g_cI D, 96, .inl (T 3)))
    have hc14 := (by rw [hσ4]; exact g_upn k29 (by decide) : σ_3 29 = .inl (g_cI D, 96, .inl (T 4)))
    have hc15 := (by rw [hσ4]; exact g_upn k30 (by decide) : σ_3 30 = .inl (g_cI D, 96, .inl (T 5)))
    have ho16 : g_off 20 30 σ σ_3 := by rw [hσ4]; exact g_off.up (g_off.rf (lo := 20) (hi := 30) (σ := σ)) (by decide) (by decide)
    refine lv_aload_n hx hb dX3_mean_16 rfl (lv_at hl 0 rfl) ?_
    refine g_get hx hb hts hE hown hP g_inX3 rfl (by decide) hc5 0 (by decide) rfl wf_X3_40 (v := .int (nI 1)) rfl dX3_mean_17 ?_
    refine lv_if_gt (tgt := 32) hx hb dX3_mean_20 (by decide) (fun h20 => ?_) (fun h20 => ?_)
    · have hb20 := g_lt (a := 0) (b := 1) h20 (by omega) (by omega)
      refine lv_dconst0 hx hb dX3_mean_32 ?_
      have hMp17 : g_Mf D σ_3 (nI 1) rs sg S N Z R T := ⟨hc5, hc6, hc7, hc8, hc9, hc10, hc11, hc12, hc13, hc14, hc15⟩
      rw [← hQ]
      exact W.dret (v := FP.dconst0) hx hb hr (fun te9 hte9 _ => g_fin (⟨Or.inr ⟨1, by rw [er_wood, if_neg hq5], by decide, rfl, ⟨_, _, _, _, _, _, _, hMp17, hmr⟩⟩, ho16⟩) hP hS hte9) hS.2.2 dX3_mean_33 hlocks
    · have hb20 := g_nlt (a := 0) (b := 1) h20 (by omega) (by omega)
      exact absurd hb20 (by decide)
  · have hq5 := g_pp1 h5
    obtain ⟨w, hw, hwe⟩ := ix_nat hq5 (by decide)
    subst hwe
    have hvw := hvC w hw
    have h24w := hvw.2
    have hvo := hvC (1 - w) (by omega)
    have h24o := hvo.2
    have hwl : wl_ Ls (nI w) = Ls w := wl_n hw
    have hot : ot_ Ls (nI w) = Ls (1 - w) := ot_n hw
    refine lv_iconst (v := nI 0) hx hb dX3_mean_8 (by decide) ?_
    refine lv_goto (tgt := 13) hx hb dX3_mean_9 (by decide) ?_
    refine g_put hx hb hts hE hown hAD hP hS g_inX3 tyX3 tyX3_ok nmX3 rfl (by decide) k20 0 (by decide) rfl rfl (by decide +kernel) wf_X3_40 (v := nI 0) (Nat.le_of_ble_eq_true rfl) dX3_mean_13 (fun H locs hP hS => ?_)
    obtain ⟨σ_18, hσ19⟩ : ∃ z : Nat → va_E, z = va_up σ 20 (.inr (3, [.int (nI 0), .ref (ad_ D 21), .ref (ad_ D 22), .ref (ad_ D 23), .ref (ad_ D 24), .int rs, .int sg, .ref (ad_ D 25), .ref (ad_ D 26), .ref (ad_ D 27), .ref (ad_ D 28), .ref (ad_ D 29), .ref (ad_ D 30)])) := ⟨_, rfl⟩
    have hP : va_P D vwCl (g_W D σ_18) H := by rw [hσ19]; exact hP
    have hc20 : σ_18 20 = .inr (3, [.int (nI 0), .ref (ad_ D 21), .ref (ad_ D 22), .ref (ad_ D 23), .ref (ad_ D 24), .int rs, .int sg, .ref (ad_ D 25), .ref (ad_ D 26), .ref (ad_ D 27), .ref (ad_ D 28), .ref (ad_ D 29), .ref (ad_ D 30)]) := by rw [hσ19]; exact g_ups
    have hc21 := (by rw [hσ19]; exact g_upn k21 (by decide) : σ_18 21 = .inl (g_cI D, 2, .inl (S)))
    have hc22 := (by rw [hσ19]; exact g_upn k22 (by decide) : σ_18 22 = .inl (g_cI D, 48, .inl (N)))
    have hc23 := (by rw [hσ19]; exact g_upn k23 (by decide) : σ_18 23 = .inl (g_cI D, 48, .inl (Z)))
    have hc24 := (by rw [hσ19]; exact g_upn k24 (by decide) : σ_18 24 = .inl (g_cI D, 48, .inl (R)))
    have hc25 := (by rw [hσ19]; exact g_upn k25 (by decide) : σ_18 25 = .inl (g_cI D, 96, .inl (T 0)))
    have hc26 := (by rw [hσ19]; exact g_upn k26 (by decide) : σ_18 26 = .inl (g_cI D, 96, .inl (T 1)))
    have hc27 := (by rw [hσ19]; exact g_upn k27 (by decide) : σ_18 27 = .inl (g_cI D, 96, .inl (T 2)))
    have hc28 := (by rw [hσ19]; exact g_upn k28 (by decide) : σ_18 28 = .inl (g_cI D, 96, .inl (T 3)))
    have hc29 := (by rw [hσ19]; exact g_upn k29 (by decide) : σ_18 29 = .inl (g_cI D, 96, .inl (T 4)))
    have hc30 := (by rw [hσ19]; exact g_upn k30 (by decide) : σ_18 30 = .inl (g_cI D, 96, .inl (T 5)))
    have ho31 : g_off 20 30 σ σ_18 := by rw [hσ19]; exact g_off.up (g_off.rf (lo := 20) (hi := 30) (σ := σ)) (by decide) (by decide)
    refine lv_aload_n hx hb dX3_mean_16 rfl (lv_at hl 0 rfl) ?_
    refine g_get hx hb hts hE hown hP g_inX3 rfl (by decide) hc20 0 (by decide) rfl wf_X3_40 (v := .int (nI 0)) rfl dX3_mean_17 ?_
    refine lv_if_gt (tgt := 32) hx hb dX3_mean_20 (by decide) (fun h20 => ?_) (fun h20 => ?_)
    · have hb20 := g_lt (a := 0) (b := 0) h20 (by omega) (by omega)
      exact absurd hb20 (by decide)
    · have hb20 := g_nlt (a := 0) (b := 0) h20 (by omega) (by omega)
      refine lv_aload_n hx hb dX3_mean_23 rfl (lv_at hl 0 rfl) ?_
      refine g_get hx hb hts hE hown hP g_inX3 rfl (by decide) hc20 1 (by decide) rfl wf_X3_9 (v := .ref (ad_ D 21)) rfl dX3_mean_24 ?_
      refine lv_iload_n hx hb dX3_mean_27 rfl (lv_at hl 1 rfl) ?_
      refine g_ialdN (j := w) hx hb hE hP (by decide) hc21 (by omega) (by decide) (v := nI ((Ls w).length)) (hmr.S (by omega)) dX3_mean_28 ?_
      refine lv_if_ne (tgt := 34) hx hb dX3_mean_29 (by decide) (fun h29 => ?_) (fun h29 => ?_)
      · have hb29 := g_ne (a := (Ls w).length) (b := 0) h29 (by omega) (by omega)
        refine lv_aload_n hx hb dX3_mean_34 rfl (lv_at hl 0 rfl) ?_
        refine lv_iload_n hx hb dX3_mean_35 rfl (lv_at hl 1 rfl) ?_
        have hMp32 : g_Mf D σ_18 (nI 0) rs sg S N Z R T := ⟨hc20, hc21, hc22, hc23, hc24, hc25, hc26, hc27, hc28, hc29, hc30⟩
        refine g_callV0 (y := yX3_look) (n := 1) (As := [.int (nI w)]) (rest := []) hx hb hml hown hts hE hZ hP hS hl.1 (m_X3_look l D hAD σ_18 (nI 0) rs sg S N Z R T hMp32 Ls w hmr (by omega) hvw.1) k_X3_118 (ci := 3) (by decide) hc20 rfl rfl rfl rfl rfl ⟨rfl, rfl⟩ ⟨Nat.le_of_ble_eq_true rfl, Nat.le_of_ble_eq_true rfl⟩ (Nat.le_of_ble_eq_true rfl) ⟨Nat.le_of_ble_eq_true rfl, Nat.le_of_ble_eq_true rfl⟩ dX3_mean_36 (fun v33 σ_34 H locs hq hP hS => ?_)
        obtain ⟨rfl, hq2⟩ := hq
        refine W.eq (g2 := F0 m 39 ls []) rfl ?_
        obtain ⟨⟨Rn35, Tn35, hMn35, hRln35, hTln35⟩, hofn35⟩ := hq2
        obtain ⟨k36_20, k36_21, k36_22, k36_23, k36_24, k36_25, k36_26, k36_27, k36_28, k36_29, k36_30⟩ := id hMn35
        have ho37 := g_off.tr ho31 (g_off.wd hofn35 (by decide) (by decide))
        refine lv_aload_n hx hb dX3_mean_39 rfl (lv_at hl 0 rfl) ?_
        have hMp38 : g_Mf D σ_34 (nI 0) (nI ((Ls w).length)) (nI (zs_ (Ls w).length)) S N Z Rn35 Tn35 := ⟨k36_20, k36_21, k36_22, k36_23, k36_24, k36_25, k36_26, k36_27, k36_28, k36_29, k36_30⟩
        refine g_callV0 (y := yX3_allPaths) (n := 0) (As := []) (rest := []) hx hb hml hown hts hE hZ hP hS hl.1 (m_X3_allPaths l D hAD σ_34 (nI 0) S N Z Rn35 Tn35 (Ls w) hMp38 hvw.1 (by omega) hRln35 hTln35) k_X3_125 (ci := 3) (by decide) k36_20 rfl rfl rfl rfl rfl ⟨rfl, rfl⟩ ⟨Nat.le_of_ble_eq_true rfl, Nat.le_of_ble_eq_true rfl⟩ (Nat.le_of_ble_eq_true rfl) ⟨Nat.le_of_ble_eq_true rfl, Nat.le_of_ble_eq_true rfl⟩ dX3_mean_40 (fun v39 σ_40 H locs hq hP hS => ?_)
        obtain ⟨rfl, rfl⟩ := hq
        refine W.eq (g2 := F0 m 43 ls [.int (ap_ (tb_ (Ls w) 0) (tb_ (Ls w) 7) (zs_ (List.length (Ls w))))]) rfl ?_
        refine lv_i2d hx hb dX3_mean_43 ?_
        refine lv_aload_n hx hb dX3_mean_44 rfl (lv_at hl 0 rfl) ?_
        refine g_get hx hb hts hE hown hP g_inX3 rfl (by decide) k36_20 5 (by decide) rfl wf_X3_79 (v := .int (nI ((Ls w).length))) rfl dX3_mean_45 ?_
        refine lv_i2d hx hb dX3_mean_48 ?_
        refine lv_ddiv hx hb dX3_mean_49 (me_num hvw.1 hb29 h24w (tb_T hvw.1)) ?_
        have hMp41 : g_Mf D σ_34 (nI 0) (nI ((Ls w).length)) (nI (zs_ (Ls w).length)) S N Z Rn35 Tn35 := ⟨k36_20, k36_21, k36_22, k36_23, k36_24, k36_25, k36_26, k36_27, k36_28, k36_29, k36_30⟩
        rw [← hQ]
        exact W.dret (v := FP.ddiv (FP.i2d (ap_ (tb_ (Ls w) 0) (tb_ (Ls w) 7) (zs_ (List.length (Ls w))))) (FP.i2d (nI ((Ls w).length)))) hx hb hr (fun te9 hte9 _ => g_fin (⟨Or.inl ⟨by rw [er_wood, if_pos (ix_of hw (by decide))], w, hw, rfl, by rw [me_, if_neg hb29], ⟨_, _, _, _, _, _, _, hMp41, hmr⟩⟩, ho37⟩) hP hS hte9) hS.2.2 dX3_mean_50 hlocks
      · have hb29 := g_eq (a := (Ls w).length) (b := 0) h29 (by omega) (by omega)
        refine lv_dconst0 hx hb dX3_mean_32 ?_
        have hMp42 : g_Mf D σ_18 (nI 0) rs sg S N Z R T := ⟨hc20, hc21, hc22, hc23, hc24, hc25, hc26, hc27, hc28, hc29, hc30⟩
        rw [← hQ]
        exact W.dret (v := FP.dconst0) hx hb hr (fun te9 hte9 _ => g_fin (⟨Or.inl ⟨by rw [er_wood, if_pos (ix_of hw (by decide))], w, hw, rfl, by rw [me_, if_pos hb29], ⟨_, _, _, _, _, _, _, hMp42, hmr⟩⟩, ho31⟩) hP hS hte9) hS.2.2 dX3_mean_33 hlocks
