abbrev m_X3_thrown_rm : Room := { frames := 8, cells := 0, slots := 0, locals := 200 }
set_option maxHeartbeats 4000000 in
set_option maxRecDepth 100000 in
theorem m_X3_thrown (l : Launch) (D : va_G) (hAD : g_AD D) (σ : Nat → va_E) (th rs sg : Int32) (S N Z R : Nat → Int32) (T : Nat → Nat → Int32) (hM : g_Mf D σ th rs sg S N Z R T)   : g_M l D yX3_thrown cX3_thrown 1 (some .int) m_X3_thrown_rm [.ref (ad_ D 20)] σ (fun v1 σ1 => v1 = some (.int th) ∧ σ = σ1) := by
  refine g_ofW [(0, .ref (ad_ D 20))] (by decide +kernel) (Nat.le_of_ble_eq_true rfl) rfl ?_
  intro p e s m args below meth c hx hb hr hml hown hlocks hts hE hZ hP hS hnm ls hl
  have hown : s.vm.findClass RX3 = some m.cls := hown
  generalize hQ : MQ _ _ _ _ _ _ _ = Q
  obtain ⟨k20, k21, k22, k23, k24, k25, k26, k27, k28, k29, k30⟩ := id hM
  refine lv_aload_n hx hb dX3_thrown_0 rfl (lv_at hl 0 rfl) ?_
  refine g_get hx hb hts hE hown hP g_inX3 rfl (by decide) k20 0 (by decide) rfl wf_X3_40 (v := .int th) rfl dX3_thrown_1 ?_
  rw [← hQ]
  exact W.iret (v := th) hx hb hr (fun te9 hte9 _ => g_fin (⟨rfl, rfl⟩) hP hS hte9) hS.2.2 dX3_thrown_4 hlocks

abbrev m_X3_no_rm : Room := { frames := 8, cells := 0, slots := 0, locals := 200 }
set_option maxHeartbeats 4000000 in
set_option maxRecDepth 100000 in
theorem m_X3_no (l : Launch) (D : va_G) (hAD : g_AD D) (σ : Nat → va_E) (th rs sg : Int32) (S N Z R : Nat → Int32) (T : Nat → Nat → Int32) (hM : g_Mf D σ th rs sg S N Z R T) (n9 : Int32)  : g_M l D yX3_no cX3_no 2 (some .int) m_X3_no_rm [.ref (ad_ D 20), .int n9] σ (fun v1 σ1 => v1 = some (.int 0) ∧ g_Mf D σ1 n9 rs sg S N Z R T ∧ g_off 20 30 σ σ1) := by
  refine g_ofW [(0, .ref (ad_ D 20)), (1, .int n9)] (by decide +kernel) (Nat.le_of_ble_eq_true rfl) rfl ?_
  intro p e s m args below meth c hx hb hr hml hown hlocks hts hE hZ hP hS hnm ls hl
  have hown : s.vm.findClass RX3 = some m.cls := hown
  generalize hQ : MQ _ _ _ _ _ _ _ = Q
  obtain ⟨k20, k21, k22, k23, k24, k25, k26, k27, k28, k29, k30⟩ := id hM
  refine lv_aload_n hx hb dX3_no_0 rfl (lv_at hl 0 rfl) ?_
  refine lv_iload_n hx hb dX3_no_1 rfl (lv_at hl 1 rfl) ?_
  refine g_put hx hb hts hE hown hAD hP hS g_inX3 tyX3 tyX3_ok nmX3 rfl (by decide) k20 0 (by decide) rfl rfl (by decide +kernel) wf_X3_40 (v := n9) (Nat.le_of_ble_eq_true rfl) dX3_no_2 (fun H locs hP hS => ?_)
  obtain ⟨σ_1, hσ2⟩ : ∃ z : Nat → va_E, z = va_up σ 20 (.inr (3, [.int n9, .ref (ad_ D 21), .ref (ad_ D 22), .ref (ad_ D 23), .ref (ad_ D 24), .int rs, .int sg, .ref (ad_ D 25), .ref (ad_ D 26), .ref (ad_ D 27), .ref (ad_ D 28), .ref (ad_ D 29), .ref (ad_ D 30)])) := ⟨_, rfl⟩
  have hP : va_P D vwCl (g_W D σ_1) H := by rw [hσ2]; exact hP
  have hc3 : σ_1 20 = .inr (3, [.int n9, .ref (ad_ D 21), .ref (ad_ D 22), .ref (ad_ D 23), .ref (ad_ D 24), .int rs, .int sg, .ref (ad_ D 25), .ref (ad_ D 26), .ref (ad_ D 27), .ref (ad_ D 28), .ref (ad_ D 29), .ref (ad_ D 30)]) := by rw [hσ2]; exact g_ups
  have hc4 := (by rw [hσ2]; exact g_upn k21 (by decide) : σ_1 21 = .inl (g_cI D, 2, .inl (S)))
  have hc5 := (by rw [hσ2]; exact g_upn k22 (by decide) : σ_1 22 = .inl (g_cI D, 48, .inl (N)))
  have hc6 := (by rw [hσ2]; exact g_upn k23 (by decide) : σ_1 23 = .inl (g_cI D, 48, .inl (Z)))
  have hc7 := (by rw [hσ2]; exact g_upn k24 (by decide) : σ_1 24 = .inl (g_cI D, 48, .inl (R)))
  have hc8 := (by rw [hσ2]; exact g_upn k25 (by decide) : σ_1 25 = .inl (g_cI D, 96, .inl (T 0)))
  have hc9 := (by rw [hσ2]; exact g_upn k26 (by decide) : σ_1 26 = .inl (g_cI D, 96, .inl (T 1)))
  have hc10 := (by rw [hσ2]; exact g_upn k27 (by decide) : σ_1 27 = .inl (g_cI D, 96, .inl (T 2)))
  have hc11 := (by rw [hσ2]; exact g_upn k28 (by decide) : σ_1 28 = .inl (g_cI D, 96, .inl (T 3)))
  have hc12 := (by rw [hσ2]; exact g_upn k29 (by decide) : σ_1 29 = .inl (g_cI D, 96, .inl (T 4)))
  have hc13 := (by rw [hσ2]; exact g_upn k30 (by decide) : σ_1 30 = .inl (g_cI D, 96, .inl (T 5)))
  have ho14 : g_off 20 30 σ σ_1 := by rw [hσ2]; exact g_off.up (g_off.rf (lo := 20) (hi := 30) (σ := σ)) (by decide) (by decide)
  refine lv_iconst (v := nI 0) hx hb dX3_no_5 (by decide) ?_
  have hMp15 : g_Mf D σ_1 n9 rs sg S N Z R T := ⟨hc3, hc4, hc5, hc6, hc7, hc8, hc9, hc10, hc11, hc12, hc13⟩
  rw [← hQ]
  exact W.iret (v := nI 0) hx hb hr (fun te9 hte9 _ => g_fin (⟨rfl, hMp15, ho14⟩) hP hS hte9) hS.2.2 dX3_no_6 hlocks

abbrev m_X3_smaller_rm : Room := { frames := 8, cells := 0, slots := 0, locals := 200 }
set_option maxHeartbeats 4000000 in
set_option maxRecDepth 100000 in
theorem m_X3_smaller (l : Launch) (D : va_G) (hAD : g_AD D) (σ : Nat → va_E) (th rs sg : Int32) (S N Z R : Nat → Int32) (T : Nat → Nat → Int32) (hM : g_Mf D σ th rs sg S N Z R T) (Ls : Nat → g_L) (w : Nat) (x : Int32) (hmr : mr_ Ls S N Z) (hw : w ≤ 1) : g_M l D yX3_smaller cX3_smaller 4 (some .int) m_X3_smaller_rm [.ref (ad_ D 20), .int (nI w), .int x] σ (fun v1 σ1 => v1 = some (.int (nI (rk_ (Ls w) x))) ∧ σ = σ1) := by
  refine g_ofW [(0, .ref (ad_ D 20)), (1, .int (nI w)), (2, .int x)] (by decide +kernel) (Nat.le_of_ble_eq_true rfl) rfl ?_
  intro p e s m args below meth c hx hb hr hml hown hlocks hts hE hZ hP hS hnm ls hl
  have hown : s.vm.findClass RX3 = some m.cls := hown
  generalize hQ : MQ _ _ _ _ _ _ _ = Q
  obtain ⟨k20, k21, k22, k23, k24, k25, k26, k27, k28, k29, k30⟩ := id hM
  have h24w := (hmr w hw).2.1
  refine lv_iconst (v := nI 0) hx hb dX3_smaller_0 (by decide) ?_
  refine lv_istore_n (lv' := [(3, .int (nI 0)), (0, .ref (ad_ D 20)), (1, .int (nI w)), (2, .int x)]) hx hb dX3_smaller_1 rfl hl (by decide) rfl (fun ls hl => ?_)
  have K2 : ∀ (fuel2 : Nat) (i : Nat), ((Ls w).length - i) < fuel2 → (i ≤ (Ls w).length) → (∀ j, j < i → fn_ (Ls w) j < x) → ∀ (H : Heap) (locs : List Loc), va_P D vwCl (g_W D σ) H → va_S (g_A D s.heap.size) s.heap H locs → ∀ ls : Array Slot, lv_has ls 4 [(3, .int (nI i)), (0, .ref (ad_ D 20)), (1, .int (nI w)), (2, .int x)] → W p l e m_X3_smaller_rm s m args below meth c H locs 0 0 Q (F0 m 2 ls []) := by
    intro fuel2
    induction fuel2 with
    | zero => intro i hf; exact absurd hf (Nat.not_lt_zero _)
    | succ fuel2 ih2 =>
      intro i hf2 hi hlt H locs hP hS ls hl
      refine lv_iload_n hx hb dX3_smaller_2 rfl (lv_at hl 0 rfl) ?_
      refine lv_aload_n hx hb dX3_smaller_3 rfl (lv_at hl 1 rfl) ?_
      refine g_get hx hb hts hE hown hP g_inX3 rfl (by decide) k20 1 (by decide) rfl wf_X3_9 (v := .ref (ad_ D 21)) rfl dX3_smaller_4 ?_
      refine lv_iload_n hx hb dX3_smaller_7 rfl (lv_at hl 2 rfl) ?_
      refine g_ialdN (j := w) hx hb hE hP (by decide) k21 (by omega) (by decide) (v := nI ((Ls w).length)) (hmr.S (by omega)) dX3_smaller_8 ?_
      refine lv_icmp_ge (tgt := 33) hx hb dX3_smaller_9 (by decide) (fun h9 => ?_) (fun h9 => ?_)
      · have hb9 := g_le (a := (Ls w).length) (b := i) h9 (by omega) (by omega)
        refine lv_iload_n hx hb dX3_smaller_33 rfl (lv_at hl 0 rfl) ?_
        rw [← hQ]
        exact W.iret (v := nI i) hx hb hr (fun te9 hte9 _ => g_fin (⟨by first | rw [rk_eq hi hlt (fun h => by omega)] | rw [rk_eq hi hlt (fun _ => Int32.not_lt.mpr h24)], rfl⟩) hP hS hte9) hS.2.2 dX3_smaller_34 hlocks
      · have hb9 := g_nle (a := (Ls w).length) (b := i) h9 (by omega) (by omega)
        refine lv_aload_n hx hb dX3_smaller_12 rfl (lv_at hl 1 rfl) ?_
        refine g_get hx hb hts hE hown hP g_inX3 rfl (by decide) k20 2 (by decide) rfl wf_X3_13 (v := .ref (ad_ D 22)) rfl dX3_smaller_13 ?_
        refine lv_bipush (v := nI 24) hx hb dX3_smaller_16 (by decide) ?_
        refine lv_iload_n hx hb dX3_smaller_18 rfl (lv_at hl 2 rfl) ?_
        refine lv_imul hx hb dX3_smaller_19 ?_
        refine g_top (y := nI (24 * w)) (pk_mul 24 w) ?_
        refine lv_iload_n hx hb dX3_smaller_20 rfl (lv_at hl 0 rfl) ?_
        refine lv_iadd hx hb dX3_smaller_21 ?_
        refine g_top (y := nI ((24 * w) + i)) (nI_add (24 * w) i) ?_
        refine g_ialdN (j := (24 * w) + i) hx hb hE hP (by decide) k22 (by omega) (by decide) (v := fn_ (Ls w) i) (hmr.N (by omega) (by omega)) dX3_smaller_22 ?_
        refine lv_iload_n hx hb dX3_smaller_23 rfl (lv_at hl 3 rfl) ?_
        refine lv_icmp_ge (tgt := 33) hx hb dX3_smaller_24 (by decide) (fun h24 => ?_) (fun h24 => ?_)
        · refine lv_iload_n hx hb dX3_smaller_33 rfl (lv_at hl 0 rfl) ?_
          rw [← hQ]
          exact W.iret (v := nI i) hx hb hr (fun te9 hte9 _ => g_fin (⟨by first | rw [rk_eq hi hlt (fun h => by omega)] | rw [rk_eq hi hlt (fun _ => Int32.not_lt.mpr h24)], rfl⟩) hP hS hte9) hS.2.2 dX3_smaller_34 hlocks
        · refine lv_iinc (v := nI (i + 1)) (lv' := [(3, .int (nI (i + 1))), (0, .ref (ad_ D 20)), (1, .int (nI w)), (2, .int x)]) hx hb dX3_smaller_27 hl (k := 0) rfl (g_inc i) (by decide) rfl (fun ls hl => ?_)
          refine lv_goto (tgt := 2) hx hb dX3_smaller_30 (by decide) ?_
          exact ih2 (i + 1) (by omega) (by omega) (fun j hj => by rcases Nat.lt_succ_iff_lt_or_eq.mp hj with q | q; exact hlt j q; rw [q]; exact Int32.not_le.mp h24) _ _ hP hS ls (lv_sub hl [0, 1, 2, 3] rfl)
  exact K2 (((Ls w).length - 0) + 1) 0 (Nat.lt_succ_self _) (Nat.zero_le _) (fun j hj => absurd hj (Nat.not_lt_zero j)) _ _ hP hS ls (lv_sub hl [0, 1, 2, 3] rfl)

abbrev m_X3_isThere_rm : Room := { frames := 9, cells := 0, slots := 0, locals := 223 }
set_option maxHeartbeats 4000000 in
set_option maxRecDepth 100000 in
theorem m_X3_isThere (l : Launch) (D : va_G) (hAD : g_AD D) (σ : Nat → va_E) (th rs sg : Int32) (S N Z R : Nat → Int32) (T : Nat → Nat → Int32) (hM : g_Mf D σ th rs sg S N Z R T) (Ls : Nat → g_L) (w : Nat) (x : Int32) (hmr : mr_ Ls S N Z) (hw : w ≤ 1) (hx1 : x ≠ -1) : g_M l D yX3_isThere cX3_isThere 4 (some .boolean) m_X3_isThere_rm [.ref (ad_ D 20), .int (nI w), .int x] σ (fun v1 σ1 => v1 = some (.int (if fn_ (Ls w) (rk_ (Ls w) x) = x then 1 else 0)) ∧ σ = σ1) := by
  refine g_ofW [(0, .ref (ad_ D 20)), (1, .int (nI w)), (2, .int x)] (by decide +kernel) (Nat.le_of_ble_eq_true rfl) rfl ?_
  intro p e s m args below meth c hx hb hr hml hown hlocks hts hE hZ hP hS hnm ls hl
  have hown : s.vm.findClass RX3 = some m.cls := hown
  generalize hQ : MQ _ _ _ _ _ _ _ = Q
  obtain ⟨k20, k21, k22, k23, k24, k25, k26, k27, k28, k29, k30⟩ := id hM
  have h24w := (hmr w hw).2.1
  refine lv_aload_n hx hb dX3_isThere_0 rfl (lv_at hl 0 rfl) ?_
  refine lv_iload_n hx hb dX3_isThere_1 rfl (lv_at hl 1 rfl) ?_
  refine lv_iload_n hx hb dX3_isThere_2 rfl (lv_at hl 2 rfl) ?_
  have hMp1 : g_Mf D σ th rs sg S N Z R T := ⟨k20, k21, k22, k23, k24, k25, k26, k27, k28, k29, k30⟩
  refine g_callV0 (y := yX3_smaller) (n := 2) (As := [.int (nI w), .int x]) (rest := []) hx hb hml hown hts hE hZ hP hS hl.1 (m_X3_smaller l D hAD σ th rs sg S N Z R T hMp1 Ls w (x) hmr (by omega)) k_X3_55 (ci := 3) (by decide) k20 rfl rfl rfl rfl rfl ⟨rfl, rfl⟩ ⟨Nat.le_of_ble_eq_true rfl, Nat.le_of_ble_eq_true rfl⟩ (Nat.le_of_ble_eq_true rfl) ⟨Nat.le_of_ble_eq_true rfl, Nat.le_of_ble_eq_true rfl⟩ dX3_isThere_3 (fun v2 σ_3 H locs hq hP hS => ?_)
  obtain ⟨rfl, rfl⟩ := hq
  refine W.eq (g2 := F0 m 6 ls [.int (nI (rk_ (Ls w) (x)))]) rfl ?_
  have hrk3 := rk_le (Ls w) (x)
  refine lv_istore_n (lv' := [(3, .int (nI (rk_ (Ls w) (x)))), (0, .ref (ad_ D 20)), (1, .int (nI w)), (2, .int x)]) hx hb dX3_isThere_6 rfl hl (by decide) rfl (fun ls hl => ?_)
  refine lv_iload_n hx hb dX3_isThere_7 rfl (lv_at hl 0 rfl) ?_
  refine lv_aload_n hx hb dX3_isThere_8 rfl (lv_at hl 1 rfl) ?_
  refine g_get hx hb hts hE hown hP g_inX3 rfl (by decide) k20 1 (by decide) rfl wf_X3_9 (v := .ref (ad_ D 21)) rfl dX3_isThere_9 ?_
  refine lv_iload_n hx hb dX3_isThere_12 rfl (lv_at hl 2 rfl) ?_
  refine g_ialdN (j := w) hx hb hE hP (by decide) k21 (by omega) (by decide) (v := nI ((Ls w).length)) (hmr.S (by omega)) dX3_isThere_13 ?_
  refine lv_icmp_ge (tgt := 36) hx hb dX3_isThere_14 (by decide) (fun h14 => ?_) (fun h14 => ?_)
  · have hb14 := g_le (a := (Ls w).length) (b := rk_ (Ls w) (x)) h14 (by omega) (by omega)
    refine lv_iconst (v := nI 0) hx hb dX3_isThere_36 (by decide) ?_
    rw [← hQ]
    exact W.zret (v := nI 0) hx hb hr (by first | rfl | decide | (split <;> rfl)) (fun te9 hte9 _ => g_fin (⟨by rw [if_neg (it_no hb14 hx1)]; rfl, rfl⟩) hP hS hte9) hS.2.2 dX3_isThere_37 hlocks
  · have hb14 := g_nle (a := (Ls w).length) (b := rk_ (Ls w) (x)) h14 (by omega) (by omega)
    refine lv_aload_n hx hb dX3_isThere_17 rfl (lv_at hl 1 rfl) ?_
    refine g_get hx hb hts hE hown hP g_inX3 rfl (by decide) k20 2 (by decide) rfl wf_X3_13 (v := .ref (ad_ D 22)) rfl dX3_isThere_18 ?_
    refine lv_bipush (v := nI 24) hx hb dX3_isThere_21 (by decide) ?_
    refine lv_iload_n hx hb dX3_isThere_23 rfl (lv_at hl 2 rfl) ?_
    refine lv_imul hx hb dX3_isThere_24 ?_
    refine g_top (y := nI (24 * w)) (pk_mul 24 w) ?_
    refine lv_iload_n hx hb dX3_isThere_25 rfl (lv_at hl 0 rfl) ?_
    refine lv_iadd hx hb dX3_isThere_26 ?_
    refine g_top (y := nI ((24 * w) + (rk_ (Ls w) (x)))) (nI_add (24 * w) (rk_ (Ls w) (x))) ?_
    refine g_ialdN (j := (24 * w) + (rk_ (Ls w) (x))) hx hb hE hP (by decide) k22 (by omega) (by decide) (v := fn_ (Ls w) ((rk_ (Ls w) (x)))) (hmr.N (by omega) (by omega)) dX3_isThere_27 ?_
    refine lv_iload_n hx hb dX3_isThere_28 rfl (lv_at hl 3 rfl) ?_
    refine lv_icmp_ne (tgt := 36) hx hb dX3_isThere_29 (by decide) (fun h29 => ?_) (fun h29 => ?_)
    · refine lv_iconst (v := nI 0) hx hb dX3_isThere_36 (by decide) ?_
      rw [← hQ]
      exact W.zret (v := nI 0) hx hb hr (by first | rfl | decide | (split <;> rfl)) (fun te9 hte9 _ => g_fin (⟨by rw [if_neg h29]; rfl, rfl⟩) hP hS hte9) hS.2.2 dX3_isThere_37 hlocks
    · refine lv_iconst (v := nI 1) hx hb dX3_isThere_32 (by decide) ?_
      refine lv_goto (tgt := 37) hx hb dX3_isThere_33 (by decide) ?_
      rw [← hQ]
      exact W.zret (v := nI 1) hx hb hr (by first | rfl | decide | (split <;> rfl)) (fun te9 hte9 _ => g_fin (⟨by rw [if_pos h29]; rfl, rfl⟩) hP hS hte9) hS.2.2 dX3_isThere_37 hlocks

abbrev m_X3_insert_rm : Room := { frames := 9, cells := 0, slots := 0, locals := 223 }
set_option maxHeartbeats 4000000 in
set_option maxRecDepth 100000 in
theorem m_X3_insert (l : Launch) (D : va_G) (hAD : g_AD D) (σ : Nat → va_E) (th rs sg : Int32) (S N Z R : Nat → Int32) (T : Nat → Nat → Int32) (hM : g_Mf D σ th rs sg S N Z R T) (Ls : Nat → g_L) (w : Nat) (x y : Int32) (hmr : mr_ Ls S N Z) (hw : w ≤ 1) (hf : ¬ fn_ (Ls w) (rk_ (Ls w) x) = x) (hl24 : (Ls w).length < 24) : g_M l D yX3_insert cX3_insert 6 none m_X3_insert_rm [.ref (ad_ D 20), .int (nI w), .int x, .int y] σ (fun v1 σ1 => v1 = none ∧ (∃ S1 N1 Q1, g_Mf D σ1 th rs sg S1 N1 Q1 R T ∧ mr_ (ul_ Ls w (st_ (Ls w) x y)) S1 N1 Q1) ∧ g_off 20 30 σ σ1) := by
  refine g_ofW [(0, .ref (ad_ D 20)), (1, .int (nI w)), (2, .int x), (3, .int y)] (by decide +kernel) (Nat.le_of_ble_eq_true rfl) rfl ?_
  intro p e s m args below meth c hx hb hr hml hown hlocks hts hE hZ hP hS hnm ls hl
  have hown : s.vm.findClass RX3 = some m.cls := hown
  generalize hQ : MQ _ _ _ _ _ _ _ = Q
  obtain ⟨k20, k21, k22, k23, k24, k25, k26, k27, k28, k29, k30⟩ := id hM
  have h24w := (hmr w hw).2.1
  refine lv_bipush (v := nI 24) hx hb dX3_insert_0 (by decide) ?_
  refine lv_iload_n hx hb dX3_insert_2 rfl (lv_at hl 1 rfl) ?_
  refine lv_imul hx hb dX3_insert_3 ?_
  refine g_top (y := nI (24 * w)) (pk_mul 24 w) ?_
  refine lv_aload_n hx hb dX3_insert_4 rfl (lv_at hl 0 rfl) ?_
  refine lv_iload_n hx hb dX3_insert_5 rfl (lv_at hl 1 rfl) ?_
  refine lv_iload_n hx hb dX3_insert_6 rfl (lv_at hl 2 rfl) ?_
  have hMp1 : g_Mf D σ th rs sg S N Z R T := ⟨k20, k21, k22, k23, k24, k25, k26, k27, k28, k29, k30⟩
  refine g_callV0 (y := yX3_smaller) (n := 2) (As := [.int (nI w), .int x]) (rest := [.int (nI (24 * w))]) hx hb hml hown hts hE hZ hP hS hl.1 (m_X3_smaller l D hAD σ th rs sg S N Z R T hMp1 Ls w (x) hmr (by omega)) k_X3_55 (ci := 3) (by decide) k20 rfl rfl rfl rfl rfl ⟨rfl, rfl⟩ ⟨Nat.le_of_ble_eq_true rfl, Nat.le_of_ble_eq_true rfl⟩ (Nat.le_of_ble_eq_true rfl) ⟨Nat.le_of_ble_eq_true rfl, Nat.le_of_ble_eq_true rfl⟩ dX3_insert_7 (fun v2 σ_3 H locs hq hP hS => ?_)
  obtain ⟨rfl, rfl⟩ := hq
  refine W.eq (g2 := F0 m 10 ls [.int (nI (rk_ (Ls w) (x))), .int (nI (24 * w))]) rfl ?_
  have hrk7 := rk_le (Ls w) (x)
  refine lv_iadd hx hb dX3_insert_10 ?_
  refine g_top (y := nI ((24 * w) + (rk_ (Ls w) (x)))) (nI_add (24 * w) (rk_ (Ls w) (x))) ?_
  refine lv_istore (lv' := [(4, .int (nI ((24 * w) + (rk_ (Ls w) (x))))), (0, .ref (ad_ D 20)), (1, .int (nI w)), (2, .int x), (3, .int y)]) hx hb dX3_insert_11 hl (by decide) rfl (fun ls hl => ?_)
  refine lv_bipush (v := nI 24) hx hb dX3_insert_13 (by decide) ?_
  refine lv_iload_n hx hb dX3_insert_15 rfl (lv_at hl 2 rfl) ?_
  refine lv_imul hx hb dX3_insert_16 ?_
  refine g_top (y := nI (24 * w)) (pk_mul 24 w) ?_
  refine lv_aload_n hx hb dX3_insert_17 rfl (lv_at hl 1 rfl) ?_
  refine g_get hx hb hts hE hown hP g_inX3 rfl (by decide) k20 1 (by decide) rfl wf_X3_9 (v := .ref (ad_ D 21)) rfl dX3_insert_18 ?_
  refine lv_iload_n hx hb dX3_insert_21 rfl (lv_at hl 2 rfl) ?_
  refine g_ialdN (j := w) hx hb hE hP (by decide) k21 (by omega) (by decide) (v := nI ((Ls w).length)) (hmr.S (by omega)) dX3_insert_22 ?_
  refine lv_iadd hx hb dX3_insert_23 ?_
  refine g_top (y := nI ((24 * w) + ((Ls w).length))) (nI_add (24 * w) ((Ls w).length)) ?_
  refine lv_iload hx hb dX3_insert_24 (lv_at hl 0 rfl) ?_
  refine lv_isub hx hb dX3_insert_26 ?_
  refine g_top (y := nI ((Ls w).length - rk_ (Ls w) x)) ((pk_sub (by omega)).trans (congrArg nI (by omega))) ?_
  refine lv_istore (lv' := [(5, .int (nI ((Ls w).length - rk_ (Ls w) x))), (4, .int (nI ((24 * w) + (rk_ (Ls w) (x))))), (0, .ref (ad_ D 20)), (1, .int (nI w)), (2, .int x), (3, .int y)]) hx hb dX3_insert_27 hl (by decide) rfl (fun ls hl => ?_)
  refine lv_aload_n hx hb dX3_insert_29 rfl (lv_at hl 2 rfl) ?_
  refine g_get hx hb hts hE hown hP g_inX3 rfl (by decide) k20 2 (by decide) rfl wf_X3_13 (v := .ref (ad_ D 22)) rfl dX3_insert_30 ?_
  refine lv_iload hx hb dX3_insert_33 (lv_at hl 1 rfl) ?_
  refine lv_aload_n hx hb dX3_insert_35 rfl (lv_at hl 2 rfl) ?_
  refine g_get hx hb hts hE hown hP g_inX3 rfl (by decide) k20 2 (by decide) rfl wf_X3_13 (v := .ref (ad_ D 22)) rfl dX3_insert_36 ?_
  refine lv_iload hx hb dX3_insert_39 (lv_at hl 1 rfl) ?_
  refine lv_iconst (v := nI 1) hx hb dX3_insert_41 (by decide) ?_
  refine lv_iadd hx hb dX3_insert_42 ?_
  refine g_top (y := nI (((24 * w) + (rk_ (Ls w) (x))) + 1)) (nI_add ((24 * w) + (rk_ (Ls w) (x))) 1) ?_
  refine lv_iload hx hb dX3_insert_43 (lv_at hl 0 rfl) ?_
  refine g_copy (sp := (24 * w) + (rk_ (Ls w) (x))) (dp := ((24 * w) + (rk_ (Ls w) (x))) + 1) (n := (Ls w).length - rk_ (Ls w) x) hx hb (hml.trans hl.1.symm) hown hts k_X3_59 k_copy hE hAD hP hS (by decide) (by decide) k22 k22 ⟨by omega, by omega, by omega⟩ (by omega) (by omega) ⟨Nat.le_of_ble_eq_true rfl, Nat.le_of_ble_eq_true rfl⟩ dX3_insert_45 (fun H locs hP hS => ?_)
  obtain ⟨σ_4, hσ5⟩ : ∃ z : Nat → va_E, z = va_up σ 22 (.inl (g_cI D, 48, .inl (va_cpy N N ((24 * w) + (rk_ (Ls w) (x))) (((24 * w) + (rk_ (Ls w) (x))) + 1) ((Ls w).length - rk_ (Ls w) x)))) := ⟨_, rfl⟩
  have hP : va_P D vwCl (g_W D σ_4) H := by rw [hσ5]; exact hP
  have hc6 := (by rw [hσ5]; exact g_upn k20 (by decide) : σ_4 20 = .inr (3, [.int th, .ref (ad_ D 21), .ref (ad_ D 22), .ref (ad_ D 23), .ref (ad_ D 24), .int rs, .int sg, .ref (ad_ D 25), .ref (ad_ D 26), .ref (ad_ D 27), .ref (ad_ D 28), .ref (ad_ D 29), .ref (ad_ D 30)]))
  have hc7 := (by rw [hσ5]; exact g_upn k21 (by decide) : σ_4 21 = .inl (g_cI D, 2, .inl (S)))
  have hc8 : σ_4 22 = .inl (g_cI D, 48, .inl (va_cpy N N ((24 * w) + (rk_ (Ls w) (x))) (((24 * w) + (rk_ (Ls w) (x))) + 1) ((Ls w).length - rk_ (Ls w) x))) := by rw [hσ5]; exact g_ups
  have hc9 := (by rw [hσ5]; exact g_upn k23 (by decide) : σ_4 23 = .inl (g_cI D, 48, .inl (Z)))
  have hc10 := (by rw [hσ5]; exact g_upn k24 (by decide) : σ_4 24 = .inl (g_cI D, 48, .inl (R)))
  have hc11 := (by rw [hσ5]; exact g_upn k25 (by decide) : σ_4 25 = .inl (g_cI D, 96, .inl (T 0)))
  have hc12 := (by rw [hσ5]; exact g_upn k26 (by decide) : σ_4 26 = .inl (g_cI D, 96, .inl (T 1)))
  have hc13 := (by rw [hσ5]; exact g_upn k27 (by decide) : σ_4 27 = .inl (g_cI D, 96, .inl (T 2)))
  have hc14 := (by rw [hσ5]; exact g_upn k28 (by decide) : σ_4 28 = .inl (g_cI D, 96, .inl (T 3)))
  have hc15 := (by rw [hσ5]; exact g_upn k29 (by decide) : σ_4 29 = .inl (g_cI D, 96, .inl (T 4)))
  have hc16 := (by rw [hσ5]; exact g_upn k30 (by decide) : σ_4 30 = .inl (g_cI D, 96, .inl (T 5)))
  have ho17 : g_off 20 30 σ σ_4 := by rw [hσ5]; exact g_off.up (g_off.rf (lo := 20) (hi := 30) (σ := σ)) (by decide) (by decide)
  refine lv_aload_n hx hb dX3_insert_48 rfl (lv_at hl 2 rfl) ?_
  refine g_get hx hb hts hE hown hP g_inX3 rfl (by decide) hc6 3 (by decide) rfl wf_X3_16 (v := .ref (ad_ D 23)) rfl dX3_insert_49 ?_
  refine lv_iload hx hb dX3_insert_52 (lv_at hl 1 rfl) ?_
  refine lv_aload_n hx hb dX3_insert_54 rfl (lv_at hl 2 rfl) ?_
  refine g_get hx hb hts hE hown hP g_inX3 rfl (by decide) hc6 3 (by decide) rfl wf_X3_16 (v := .ref (ad_ D 23)) rfl dX3_insert_55 ?_
  refine lv_iload hx hb dX3_insert_58 (lv_at hl 1 rfl) ?_
  refine lv_iconst (v := nI 1) hx hb dX3_insert_60 (by decide) ?_
  refine lv_iadd hx hb dX3_insert_61 ?_
  refine g_top (y := nI (((24 * w) + (rk_ (Ls w) (x))) + 1)) (nI_add ((24 * w) + (rk_ (Ls w) (x))) 1) ?_
  refine lv_iload hx hb dX3_insert_62 (lv_at hl 0 rfl) ?_
  refine g_copy (sp := (24 * w) + (rk_ (Ls w) (x))) (dp := ((24 * w) + (rk_ (Ls w) (x))) + 1) (n := (Ls w).length - rk_ (Ls w) x) hx hb (hml.trans hl.1.symm) hown hts k_X3_59 k_copy hE hAD hP hS (by decide) (by decide) hc9 hc9 ⟨by omega, by omega, by omega⟩ (by omega) (by omega) ⟨Nat.le_of_ble_eq_true rfl, Nat.le_of_ble_eq_true rfl⟩ dX3_insert_64 (fun H locs hP hS => ?_)
  obtain ⟨σ_18, hσ19⟩ : ∃ z : Nat → va_E, z = va_up σ_4 23 (.inl (g_cI D, 48, .inl (va_cpy Z Z ((24 * w) + (rk_ (Ls w) (x))) (((24 * w) + (rk_ (Ls w) (x))) + 1) ((Ls w).length - rk_ (Ls w) x)))) := ⟨_, rfl⟩
  have hP : va_P D vwCl (g_W D σ_18) H := by rw [hσ19]; exact hP
  have hc20 := (by rw [hσ19]; exact g_upn hc6 (by decide) : σ_18 20 = .inr (3, [.int th, .ref (ad_ D 21), .ref (ad_ D 22), .ref (ad_ D 23), .ref (ad_ D 24), .int rs, .int sg, .ref (ad_ D 25), .ref (ad_ D 26), .ref (ad_ D 27), .ref (ad_ D 28), .ref (ad_ D 29), .ref (ad_ D 30)]))
  have hc21 := (by rw [hσ19]; exact g_upn hc7 (by decide) : σ_18 21 = .inl (g_cI D, 2, .inl (S)))
  have hc22 := (by rw [hσ19]; exact g_upn hc8 (by decide) : σ_18 22 = .inl (g_cI D, 48, .inl (va_cpy N N ((24 * w) + (rk_ (Ls w) (x))) (((24 * w) + (rk_ (Ls w) (x))) + 1) ((Ls w).length - rk_ (Ls w) x))))
  have hc23 : σ_18 23 = .inl (g_cI D, 48, .inl (va_cpy Z Z ((24 * w) + (rk_ (Ls w) (x))) (((24 * w) + (rk_ (Ls w) (x))) + 1) ((Ls w).length - rk_ (Ls w) x))) := by rw [hσ19]; exact g_ups
  have hc24 := (by rw [hσ19]; exact g_upn hc10 (by decide) : σ_18 24 = .inl (g_cI D, 48, .inl (R)))
  have hc25 := (by rw [hσ19]; exact g_upn hc11 (by decide) : σ_18 25 = .inl (g_cI D, 96, .inl (T 0)))
  have hc26 := (by rw [hσ19]; exact g_upn hc12 (by decide) : σ_18 26 = .inl (g_cI D, 96, .inl (T 1)))
  have hc27 := (by rw [hσ19]; exact g_upn hc13 (by decide) : σ_18 27 = .inl (g_cI D, 96, .inl (T 2)))
  have hc28 := (by rw [hσ19]; exact g_upn hc14 (by decide) : σ_18 28 = .inl (g_cI D, 96, .inl (T 3)))
  have hc29 := (by rw [hσ19]; exact g_upn hc15 (by decide) : σ_18 29 = .inl (g_cI D, 96, .inl (T 4)))
  have hc30 := (by rw [hσ19]; exact g_upn hc16 (by decide) : σ_18 30 = .inl (g_cI D, 96, .inl (T 5)))
  have ho31 : g_off 20 30 σ σ_18 := by rw [hσ19]; exact g_off.up ho17 (by decide) (by decide)
  refine lv_aload_n hx hb dX3_insert_67 rfl (lv_at hl 2 rfl) ?_
  refine g_get hx hb hts hE hown hP g_inX3 rfl (by decide) hc20 2 (by decide) rfl wf_X3_13 (v := .ref (ad_ D 22)) rfl dX3_insert_68 ?_
  refine lv_iload hx hb dX3_insert_71 (lv_at hl 1 rfl) ?_
  refine lv_iload_n hx hb dX3_insert_73 rfl (lv_at hl 4 rfl) ?_
  refine g_iastN (j := (24 * w) + (rk_ (Ls w) (x))) (x := x) hx hb hE hAD hP hS (by decide) hc22 (by omega) (by decide) dX3_insert_74 (fun H locs hP hS => ?_)
  obtain ⟨σ_32, hσ33⟩ : ∃ z : Nat → va_E, z = va_up σ_18 22 (.inl (g_cI D, 48, .inl (upd (va_cpy N N ((24 * w) + (rk_ (Ls w) (x))) (((24 * w) + (rk_ (Ls w) (x))) + 1) ((Ls w).length - rk_ (Ls w) x)) ((24 * w) + (rk_ (Ls w) (x))) x))) := ⟨_, rfl⟩
  have hP : va_P D vwCl (g_W D σ_32) H := by rw [hσ33]; exact hP
  have hc34 := (by rw [hσ33]; exact g_upn hc20 (by decide) : σ_32 20 = .inr (3, [.int th, .ref (ad_ D 21), .ref (ad_ D 22), .ref (ad_ D 23), .ref (ad_ D 24), .int rs, .int sg, .ref (ad_ D 25), .ref (ad_ D 26), .ref (ad_ D 27), .ref (ad_ D 28), .ref (ad_ D 29), .ref (ad_ D 30)]))
  have hc35 := (by rw [hσ33]; exact g_upn hc21 (by decide) : σ_32 21 = .inl (g_cI D, 2, .inl (S)))
  have hc36 : σ_32 22 = .inl (g_cI D, 48, .inl (upd (va_cpy N N ((24 * w) + (rk_ (Ls w) (x))) (((24 * w) + (rk_ (Ls w) (x))) + 1) ((Ls w).length - rk_ (Ls w) x)) ((24 * w) + (rk_ (Ls w) (x))) x)) := by rw [hσ33]; exact g_ups
  have hc37 := (by rw [hσ33]; exact g_upn hc23 (by decide) : σ_32 23 = .inl (g_cI D, 48, .inl (va_cpy Z Z ((24 * w) + (rk_ (Ls w) (x))) (((24 * w) + (rk_ (Ls w) (x))) + 1) ((Ls w).length - rk_ (Ls w) x))))
  have hc38 := (by rw [hσ33]; exact g_upn hc24 (by decide) : σ_32 24 = .inl (g_cI D, 48, .inl (R)))
  have hc39 := (by rw [hσ33]; exact g_upn hc25 (by decide) : σ_32 25 = .inl (g_cI D, 96, .inl (T 0)))
  have hc40 := (by rw [hσ33]; exact g_upn hc26 (by decide) : σ_32 26 = .inl (g_cI D, 96, .inl (T 1)))
  have hc41 := (by rw [hσ33]; exact g_upn hc27 (by decide) : σ_32 27 = .inl (g_cI D, 96, .inl (T 2)))
  have hc42 := (by rw [hσ33]; exact g_upn hc28 (by decide) : σ_32 28 = .inl (g_cI D, 96, .inl (T 3)))
  have hc43 := (by rw [hσ33]; exact g_upn hc29 (by decide) : σ_32 29 = .inl (g_cI D, 96, .inl (T 4)))
  have hc44 := (by rw [hσ33]; exact g_upn hc30 (by decide) : σ_32 30 = .inl (g_cI D, 96, .inl (T 5)))
  have ho45 : g_off 20 30 σ σ_32 := by rw [hσ33]; exact g_off.up ho31 (by decide) (by decide)
  refine lv_aload_n hx hb dX3_insert_75 rfl (lv_at hl 2 rfl) ?_
  refine g_get hx hb hts hE hown hP g_inX3 rfl (by decide) hc34 3 (by decide) rfl wf_X3_16 (v := .ref (ad_ D 23)) rfl dX3_insert_76 ?_
  refine lv_iload hx hb dX3_insert_79 (lv_at hl 1 rfl) ?_
  refine lv_iload_n hx hb dX3_insert_81 rfl (lv_at hl 5 rfl) ?_
  refine g_iastN (j := (24 * w) + (rk_ (Ls w) (x))) (x := y) hx hb hE hAD hP hS (by decide) hc37 (by omega) (by decide) dX3_insert_82 (fun H locs hP hS => ?_)
  obtain ⟨σ_46, hσ47⟩ : ∃ z : Nat → va_E, z = va_up σ_32 23 (.inl (g_cI D, 48, .inl (upd (va_cpy Z Z ((24 * w) + (rk_ (Ls w) (x))) (((24 * w) + (rk_ (Ls w) (x))) + 1) ((Ls w).length - rk_ (Ls w) x)) ((24 * w) + (rk_ (Ls w) (x))) y))) := ⟨_, rfl⟩
  have hP : va_P D vwCl (g_W D σ_46) H := by rw [hσ47]; exact hP
  have hc48 := (by rw [hσ47]; exact g_upn hc34 (by decide) : σ_46 20 = .inr (3, [.int th, .ref (ad_ D 21), .ref (ad_ D 22), .ref (ad_ D 23), .ref (ad_ D 24), .int rs, .int sg, .ref (ad_ D 25), .ref (ad_ D 26), .ref (ad_ D 27), .ref (ad_ D 28), .ref (ad_ D 29), .ref (ad_ D 30)]))
  have hc49 := (by rw [hσ47]; exact g_upn hc35 (by decide) : σ_46 21 = .inl (g_cI D, 2, .inl (S)))
  have hc50 := (by rw [hσ47]; exact g_upn hc36 (by decide) : σ_46 22 = .inl (g_cI D, 48, .inl (upd (va_cpy N N ((24 * w) + (rk_ (Ls w) (x))) (((24 * w) + (rk_ (Ls w) (x))) + 1) ((Ls w).length - rk_ (Ls w) x)) ((24 * w) + (rk_ (Ls w) (x))) x)))
  have hc51 : σ_46 23 = .inl (g_cI D, 48, .inl (upd (va_cpy Z Z ((24 * w) + (rk_ (Ls w) (x))) (((24 * w) + (rk_ (Ls w) (x))) + 1) ((Ls w).length - rk_ (Ls w) x)) ((24 * w) + (rk_ (Ls w) (x))) y)) := by rw [hσ47]; exact g_ups
  have hc52 := (by rw [hσ47]; exact g_upn hc38 (by decide) : σ_46 24 = .inl (g_cI D, 48, .inl (R)))
  have hc53 := (by rw [hσ47]; exact g_upn hc39 (by decide) : σ_46 25 = .inl (g_cI D, 96, .inl (T 0)))
  have hc54 := (by rw [hσ47]; exact g_upn hc40 (by decide) : σ_46 26 = .inl (g_cI D, 96, .inl (T 1)))
  have hc55 := (by rw [hσ47]; exact g_upn hc41 (by decide) : σ_46 27 = .inl (g_cI D, 96, .inl (T 2)))
  have hc56 := (by rw [hσ47]; exact g_upn hc42 (by decide) : σ_46 28 = .inl (g_cI D, 96, .inl (T 3)))
  have hc57 := (by rw [hσ47]; exact g_upn hc43 (by decide) : σ_46 29 = .inl (g_cI D, 96, .inl (T 4)))
  have hc58 := (by rw [hσ47]; exact g_upn hc44 (by decide) : σ_46 30 = .inl (g_cI D, 96, .inl (T 5)))
  have ho59 : g_off 20 30 σ σ_46 := by rw [hσ47]; exact g_off.up ho45 (by decide) (by decide)
  refine lv_aload_n hx hb dX3_insert_83 rfl (lv_at hl 2 rfl) ?_
  refine g_get hx hb hts hE hown hP g_inX3 rfl (by decide) hc48 1 (by decide) rfl wf_X3_9 (v := .ref (ad_ D 21)) rfl dX3_insert_84 ?_
  refine lv_iload_n hx hb dX3_insert_87 rfl (lv_at hl 3 rfl) ?_
  refine lv_dup2_11 hx hb dX3_insert_88 rfl rfl ?_
  refine g_ialdN (j := w) hx hb hE hP (by decide) hc49 (by omega) (by decide) (v := nI ((Ls w).length)) (hmr.S (by omega)) dX3_insert_89 ?_
  refine lv_iconst (v := nI 1) hx hb dX3_insert_90 (by decide) ?_
  refine lv_iadd hx hb dX3_insert_91 ?_
  refine g_top (y := nI (((Ls w).length) + 1)) (nI_add ((Ls w).length) 1) ?_
  refine g_iastN (j := w) (x := nI (((Ls w).length) + 1)) hx hb hE hAD hP hS (by decide) hc49 (by omega) (by decide) dX3_insert_92 (fun H locs hP hS => ?_)
  obtain ⟨σ_60, hσ61⟩ : ∃ z : Nat → va_E, z = va_up σ_46 21 (.inl (g_cI D, 2, .inl (upd S w (nI (((Ls w).length) + 1))))) := ⟨_, rfl⟩
  have hP : va_P D vwCl (g_W D σ_60) H := by rw [hσ61]; exact hP
  have hc62 := (by rw [hσ61]; exact g_upn hc48 (by decide) : σ_60 20 = .inr (3, [.int th, .ref (ad_ D 21), .ref (ad_ D 22), .ref (ad_ D 23), .ref (ad_ D 24), .int rs, .int sg, .ref (ad_ D 25), .ref (ad_ D 26), .ref (ad_ D 27), .ref (ad_ D 28), .ref (ad_ D 29), .ref (ad_ D 30)]))
  have hc63 : σ_60 21 = .inl (g_cI D, 2, .inl (upd S w (nI (((Ls w).length) + 1)))) := by rw [hσ61]; exact g_ups
  have hc64 := (by rw [hσ61]; exact g_upn hc50 (by decide) : σ_60 22 = .inl (g_cI D, 48, .inl (upd (va_cpy N N ((24 * w) + (rk_ (Ls w) (x))) (((24 * w) + (rk_ (Ls w) (x))) + 1) ((Ls w).length - rk_ (Ls w) x)) ((24 * w) + (rk_ (Ls w) (x))) x)))
  have hc65 := (by rw [hσ61]; exact g_upn hc51 (by decide) : σ_60 23 = .inl (g_cI D, 48, .inl (upd (va_cpy Z Z ((24 * w) + (rk_ (Ls w) (x))) (((24 * w) + (rk_ (Ls w) (x))) + 1) ((Ls w).length - rk_ (Ls w) x)) ((24 * w) + (rk_ (Ls w) (x))) y)))
  have hc66 := (by rw [hσ61]; exact g_upn hc52 (by decide) : σ_60 24 = .inl (g_cI D, 48, .inl (R)))
  have hc67 := (by rw [hσ61]; exact g_upn hc53 (by decide) : σ_60 25 = .inl (g_cI D, 96, .inl (T 0)))
  have hc68 := (by rw [hσ61]; exact g_upn hc54 (by decide) : σ_60 26 = .inl (g_cI D, 96, .inl (T 1)))
  have hc69 := (by rw [hσ61]; exact g_upn hc55 (by decide) : σ_60 27 = .inl (g_cI D, 96, .inl (T 2)))
  have hc70 := (by rw [hσ61]; exact g_upn hc56 (by decide) : σ_60 28 = .inl (g_cI D, 96, .inl (T 3)))
  have hc71 := (by rw [hσ61]; exact g_upn hc57 (by decide) : σ_60 29 = .inl (g_cI D, 96, .inl (T 4)))
  have hc72 := (by rw [hσ61]; exact g_upn hc58 (by decide) : σ_60 30 = .inl (g_cI D, 96, .inl (T 5)))
  have ho73 : g_off 20 30 σ σ_60 := by rw [hσ61]; exact g_off.up ho59 (by decide) (by decide)
  have hMp74 : g_Mf D σ_60 th rs sg (upd S w (nI (((Ls w).length) + 1))) (upd (va_cpy N N ((24 * w) + (rk_ (Ls w) (x))) (((24 * w) + (rk_ (Ls w) (x))) + 1) ((Ls w).length - rk_ (Ls w) x)) ((24 * w) + (rk_ (Ls w) (x))) x) (upd (va_cpy Z Z ((24 * w) + (rk_ (Ls w) (x))) (((24 * w) + (rk_ (Ls w) (x))) + 1) ((Ls w).length - rk_ (Ls w) x)) ((24 * w) + (rk_ (Ls w) (x))) y) R T := ⟨hc62, hc63, hc64, hc65, hc66, hc67, hc68, hc69, hc70, hc71, hc72⟩
  rw [← hQ]
  exact W.vret hx hb hr (fun te9 hte9 _ => g_fin (⟨rfl, ⟨_, _, _, hMp74, mr_ins hmr hw hf hl24⟩, ho73⟩) hP hS hte9) hS.2.2 dX3_insert_93 hlocks

abbrev m_X3_remove_rm : Room := { frames := 9, cells := 0, slots := 0, locals := 223 }
set_option maxHeartbeats 4000000 in
set_option maxRecDepth 100000 in
theorem m_X3_remove (l : Launch) (D : va_G) (hAD : g_AD D) (σ : Nat → va_E) (th rs sg : Int32) (S N Z R : Nat → Int32) (T : Nat → Nat → Int32) (hM : g_Mf D σ th rs sg S N Z R T) (Ls : Nat → g_L) (w : Nat) (x : Int32) (hmr : mr_ Ls S N Z) (hw : w ≤ 1) (hlt : rk_ (Ls w) x < (Ls w).length) : g_M l D yX3_remove cX3_remove 6 (some .int) m_X3_remove_rm [.ref (ad_ D 20), .int (nI w), .int x] σ (fun v1 σ1 => v1 = some (.int (gn_ (Ls w) (rk_ (Ls w) x))) ∧ (∃ S1 N1 Q1, g_Mf D σ1 th rs sg S1 N1 Q1 R T ∧ mr_ (ul_ Ls w ((Ls w).eraseIdx (rk_ (Ls w) x))) S1 N1 Q1) ∧ g_off 20 30 σ σ1) := by
  refine g_ofW [(0, .ref (ad_ D 20)), (1, .int (nI w)), (2, .int x)] (by decide +kernel) (Nat.le_of_ble_eq_true rfl) rfl ?_
  intro p e s m args below meth c hx hb hr hml hown hlocks hts hE hZ hP hS hnm ls hl
  have hown : s.vm.findClass RX3 = some m.cls := hown
  generalize hQ : MQ _ _ _ _ _ _ _ = Q
  obtain ⟨k20, k21, k22, k23, k24, k25, k26, k27, k28, k29, k30⟩ := id hM
  have h24w := (hmr w hw).2.1
  refine lv_bipush (v := nI 24) hx hb dX3_remove_0 (by decide) ?_
  refine lv_iload_n hx hb dX3_remove_2 rfl (lv_at hl 1 rfl) ?_
  refine lv_imul hx hb dX3_remove_3 ?_
  refine g_top (y := nI (24 * w)) (pk_mul 24 w) ?_
  refine lv_aload_n hx hb dX3_remove_4 rfl (lv_at hl 0 rfl) ?_
  refine lv_iload_n hx hb dX3_remove_5 rfl (lv_at hl 1 rfl) ?_
  refine lv_iload_n hx hb dX3_remove_6 rfl (lv_at hl 2 rfl) ?_
  have hMp1 : g_Mf D σ th rs sg S N Z R T := ⟨k20, k21, k22, k23, k24, k25, k26, k27, k28, k29, k30⟩
  refine g_callV0 (y := yX3_smaller) (n := 2) (As := [.int (nI w), .int x]) (rest := [.int (nI (24 * w))]) hx hb hml hown hts hE hZ hP hS hl.1 (m_X3_smaller l D hAD σ th rs sg S N Z R T hMp1 Ls w (x) hmr (by omega)) k_X3_55 (ci := 3) (by decide) k20 rfl rfl rfl rfl rfl ⟨rfl, rfl⟩ ⟨Nat.le_of_ble_eq_true rfl, Nat.le_of_ble_eq_true rfl⟩ (Nat.le_of_ble_eq_true rfl) ⟨Nat.le_of_ble_eq_true rfl, Nat.le_of_ble_eq_true rfl⟩ dX3_remove_7 (fun v2 σ_3 H locs hq hP hS => ?_)
  obtain ⟨rfl, rfl⟩ := hq
  refine W.eq (g2 := F0 m 10 ls [.int (nI (rk_ (Ls w) (x))), .int (nI (24 * w))]) rfl ?_
  have hrk7 := rk_le (Ls w) (x)
  refine lv_iadd hx hb dX3_remove_10 ?_
  refine g_top (y := nI ((24 * w) + (rk_ (Ls w) (x)))) (nI_add (24 * w) (rk_ (Ls w) (x))) ?_
  refine lv_istore_n (lv' := [(3, .int (nI ((24 * w) + (rk_ (Ls w) (x))))), (0, .ref (ad_ D 20)), (1, .int (nI w)), (2, .int x)]) hx hb dX3_remove_11 rfl hl (by decide) rfl (fun ls hl => ?_)
  refine lv_aload_n hx hb dX3_remove_12 rfl (lv_at hl 1 rfl) ?_
  refine g_get hx hb hts hE hown hP g_inX3 rfl (by decide) k20 3 (by decide) rfl wf_X3_16 (v := .ref (ad_ D 23)) rfl dX3_remove_13 ?_
  refine lv_iload_n hx hb dX3_remove_16 rfl (lv_at hl 0 rfl) ?_
  refine g_ialdN (j := (24 * w) + (rk_ (Ls w) (x))) hx hb hE hP (by decide) k23 (by omega) (by decide) (v := gn_ (Ls w) ((rk_ (Ls w) (x)))) (hmr.Q (by omega) (by omega)) dX3_remove_17 ?_
  refine lv_istore (lv' := [(4, .int (gn_ (Ls w) ((rk_ (Ls w) (x))))), (3, .int (nI ((24 * w) + (rk_ (Ls w) (x))))), (0, .ref (ad_ D 20)), (1, .int (nI w)), (2, .int x)]) hx hb dX3_remove_18 hl (by decide) rfl (fun ls hl => ?_)
  refine lv_bipush (v := nI 24) hx hb dX3_remove_20 (by decide) ?_
  refine lv_iload_n hx hb dX3_remove_22 rfl (lv_at hl 3 rfl) ?_
  refine lv_imul hx hb dX3_remove_23 ?_
  refine g_top (y := nI (24 * w)) (pk_mul 24 w) ?_
  refine lv_aload_n hx hb dX3_remove_24 rfl (lv_at hl 2 rfl) ?_
  refine g_get hx hb hts hE hown hP g_inX3 rfl (by decide) k20 1 (by decide) rfl wf_X3_9 (v := .ref (ad_ D 21)) rfl dX3_remove_25 ?_
  refine lv_iload_n hx hb dX3_remove_28 rfl (lv_at hl 3 rfl) ?_
  refine g_ialdN (j := w) hx hb hE hP (by decide) k21 (by omega) (by decide) (v := nI ((Ls w).length)) (hmr.S (by omega)) dX3_remove_29 ?_
  refine lv_iadd hx hb dX3_remove_30 ?_
  refine g_top (y := nI ((24 * w) + ((Ls w).length))) (nI_add (24 * w) ((Ls w).length)) ?_
  refine lv_iload_n hx hb dX3_remove_31 rfl (lv_at hl 1 rfl) ?_
  refine lv_isub hx hb dX3_remove_32 ?_
  refine g_top (y := nI ((Ls w).length - rk_ (Ls w) x)) ((pk_sub (by omega)).trans (congrArg nI (by omega))) ?_
  refine lv_iconst (v := nI 1) hx hb dX3_remove_33 (by decide) ?_
  refine lv_isub hx hb dX3_remove_34 ?_
  refine g_top (y := nI (((Ls w).length - rk_ (Ls w) x) - 1)) (pk_sub (by omega)) ?_
  refine lv_istore (lv' := [(5, .int (nI (((Ls w).length - rk_ (Ls w) x) - 1))), (4, .int (gn_ (Ls w) ((rk_ (Ls w) (x))))), (3, .int (nI ((24 * w) + (rk_ (Ls w) (x))))), (0, .ref (ad_ D 20)), (1, .int (nI w)), (2, .int x)]) hx hb dX3_remove_35 hl (by decide) rfl (fun ls hl => ?_)
  refine lv_aload_n hx hb dX3_remove_37 rfl (lv_at hl 3 rfl) ?_
  refine g_get hx hb hts hE hown hP g_inX3 rfl (by decide) k20 2 (by decide) rfl wf_X3_13 (v := .ref (ad_ D 22)) rfl dX3_remove_38 ?_
  refine lv_iload_n hx hb dX3_remove_41 rfl (lv_at hl 2 rfl) ?_
  refine lv_iconst (v := nI 1) hx hb dX3_remove_42 (by decide) ?_
  refine lv_iadd hx hb dX3_remove_43 ?_
  refine g_top (y := nI (((24 * w) + (rk_ (Ls w) (x))) + 1)) (nI_add ((24 * w) + (rk_ (Ls w) (x))) 1) ?_
  refine lv_aload_n hx hb dX3_remove_44 rfl (lv_at hl 3 rfl) ?_
  refine g_get hx hb hts hE hown hP g_inX3 rfl (by decide) k20 2 (by decide) rfl wf_X3_13 (v := .ref (ad_ D 22)) rfl dX3_remove_45 ?_
  refine lv_iload_n hx hb dX3_remove_48 rfl (lv_at hl 2 rfl) ?_
  refine lv_iload hx hb dX3_remove_49 (lv_at hl 0 rfl) ?_
  refine g_copy (sp := ((24 * w) + (rk_ (Ls w) (x))) + 1) (dp := (24 * w) + (rk_ (Ls w) (x))) (n := ((Ls w).length - rk_ (Ls w) x) - 1) hx hb (hml.trans hl.1.symm) hown hts k_X3_59 k_copy hE hAD hP hS (by decide) (by decide) k22 k22 ⟨by omega, by omega, by omega⟩ (by omega) (by omega) ⟨Nat.le_of_ble_eq_true rfl, Nat.le_of_ble_eq_true rfl⟩ dX3_remove_51 (fun H locs hP hS => ?_)
  obtain ⟨σ_4, hσ5⟩ : ∃ z : Nat → va_E, z = va_up σ 22 (.inl (g_cI D, 48, .inl (va_cpy N N (((24 * w) + (rk_ (Ls w) (x))) + 1) ((24 * w) + (rk_ (Ls w) (x))) (((Ls w).length - rk_ (Ls w) x) - 1)))) := ⟨_, rfl⟩
  have hP : va_P D vwCl (g_W D σ_4) H := by rw [hσ5]; exact hP
  have hc6 := (by rw [hσ5]; exact g_upn k20 (by decide) : σ_4 20 = .inr (3, [.int th, .ref (ad_ D 21), .ref (ad_ D 22), .ref (ad_ D 23), .ref (ad_ D 24), .int rs, .int sg, .ref (ad_ D 25), .ref (ad_ D 26), .ref (ad_ D 27), .ref (ad_ D 28), .ref (ad_ D 29), .ref (ad_ D 30)]))
  have hc7 := (by rw [hσ5]; exact g_upn k21 (by decide) : σ_4 21 = .inl (g_cI D, 2, .inl (S)))
  have hc8 : σ_4 22 = .inl (g_cI D, 48, .inl (va_cpy N N (((24 * w) + (rk_ (Ls w) (x))) + 1) ((24 * w) + (rk_ (Ls w) (x))) (((Ls w).length - rk_ (Ls w) x) - 1))) := by rw [hσ5]; exact g_ups
  have hc9 := (by rw [hσ5]; exact g_upn k23 (by decide) : σ_4 23 = .inl (g_cI D, 48, .inl (Z)))
  have hc10 := (by rw [hσ5]; exact g_upn k24 (by decide) : σ_4 24 = .inl (g_cI D, 48, .inl (R)))
  have hc11 := (by rw [hσ5]; exact g_upn k25 (by decide) : σ_4 25 = .inl (g_cI D, 96, .inl (T 0)))
  have hc12 := (by rw [hσ5]; exact g_upn k26 (by decide) : σ_4 26 = .inl (g_cI D, 96, .inl (T 1)))
  have hc13 := (by rw [hσ5]; exact g_upn k27 (by decide) : σ_4 27 = .inl (g_cI D, 96, .inl (T 2)))
  have hc14 := (by rw [hσ5]; exact g_upn k28 (by decide) : σ_4 28 = .inl (g_cI D, 96, .inl (T 3)))
  have hc15 := (by rw [hσ5]; exact g_upn k29 (by decide) : σ_4 29 = .inl (g_cI D, 96, .inl (T 4)))
  have hc16 := (by rw [hσ5]; exact g_upn k30 (by decide) : σ_4 30 = .inl (g_cI D, 96, .inl (T 5)))
  have ho17 : g_off 20 30 σ σ_4 := by rw [hσ5]; exact g_off.up (g_off.rf (lo := 20) (hi := 30) (σ := σ)) (by decide) (by decide)
  refine lv_aload_n hx hb dX3_remove_54 rfl (lv_at hl 3 rfl) ?_
  refine g_get hx hb hts hE hown hP g_inX3 rfl (by decide) hc6 3 (by decide) rfl wf_X3_16 (v := .ref (ad_ D 23)) rfl dX3_remove_55 ?_
  refine lv_iload_n hx hb dX3_remove_58 rfl (lv_at hl 2 rfl) ?_
  refine lv_iconst (v := nI 1) hx hb dX3_remove_59 (by decide) ?_
  refine lv_iadd hx hb dX3_remove_60 ?_
  refine g_top (y := nI (((24 * w) + (rk_ (Ls w) (x))) + 1)) (nI_add ((24 * w) + (rk_ (Ls w) (x))) 1) ?_
  refine lv_aload_n hx hb dX3_remove_61 rfl (lv_at hl 3 rfl) ?_
  refine g_get hx hb hts hE hown hP g_inX3 rfl (by decide) hc6 3 (by decide) rfl wf_X3_16 (v := .ref (ad_ D 23)) rfl dX3_remove_62 ?_
  refine lv_iload_n hx hb dX3_remove_65 rfl (lv_at hl 2 rfl) ?_
  refine lv_iload hx hb dX3_remove_66 (lv_at hl 0 rfl) ?_
  refine g_copy (sp := ((24 * w) + (rk_ (Ls w) (x))) + 1) (dp := (24 * w) + (rk_ (Ls w) (x))) (n := ((Ls w).length - rk_ (Ls w) x) - 1) hx hb (hml.trans hl.1.symm) hown hts k_X3_59 k_copy hE hAD hP hS (by decide) (by decide) hc9 hc9 ⟨by omega, by omega, by omega⟩ (by omega) (by omega) ⟨Nat.le_of_ble_eq_true rfl, Nat.le_of_ble_eq_true rfl⟩ dX3_remove_68 (fun H locs hP hS => ?_)
  obtain ⟨σ_18, hσ19⟩ : ∃ z : Nat → va_E, z = va_up σ_4 23 (.inl (g_cI D, 48, .inl (va_cpy Z Z (((24 * w) + (rk_ (Ls w) (x))) + 1) ((24 * w) + (rk_ (Ls w) (x))) (((Ls w).length - rk_ (Ls w) x) - 1)))) := ⟨_, rfl⟩
  have hP : va_P D vwCl (g_W D σ_18) H := by rw [hσ19]; exact hP
  have hc20 := (by rw [hσ19]; exact g_upn hc6 (by decide) : σ_18 20 = .inr (3, [.int th, .ref (ad_ D 21), .ref (ad_ D 22), .ref (ad_ D 23), .ref (ad_ D 24), .int rs, .int sg, .ref (ad_ D 25), .ref (ad_ D 26), .ref (ad_ D 27), .ref (ad_ D 28), .ref (ad_ D 29), .ref (ad_ D 30)]))
  have hc21 := (by rw [hσ19]; exact g_upn hc7 (by decide) : σ_18 21 = .inl (g_cI D, 2, .inl (S)))
  have hc22 := (by rw [hσ19]; exact g_upn hc8 (by decide) : σ_18 22 = .inl (g_cI D, 48, .inl (va_cpy N N (((24 * w) + (rk_ (Ls w) (x))) + 1) ((24 * w) + (rk_ (Ls w) (x))) (((Ls w).length - rk_ (Ls w) x) - 1))))
  have hc23 : σ_18 23 = .inl (g_cI D, 48, .inl (va_cpy Z Z (((24 * w) + (rk_ (Ls w) (x))) + 1) ((24 * w) + (rk_ (Ls w) (x))) (((Ls w).length - rk_ (Ls w) x) - 1))) := by rw [hσ19]; exact g_ups
  have hc24 := (by rw [hσ19]; exact g_upn hc10 (by decide) : σ_18 24 = .inl (g_cI D, 48, .inl (R)))
  have hc25 := (by rw [hσ19]; exact g_upn hc11 (by decide) : σ_18 25 = .inl (g_cI D, 96, .inl (T 0)))
  have hc26 := (by rw [hσ19]; exact g_upn hc12 (by decide) : σ_18 26 = .inl (g_cI D, 96, .inl (T 1)))
  have hc27 := (by rw [hσ19]; exact g_upn hc13 (by decide) : σ_18 27 = .inl (g_cI D, 96, .inl (T 2)))
  have hc28 := (by rw [hσ19]; exact g_upn hc14 (by decide) : σ_18 28 = .inl (g_cI D, 96, .inl (T 3)))
  have hc29 := (by rw [hσ19]; exact g_upn hc15 (by decide) : σ_18 29 = .inl (g_cI D, 96, .inl (T 4)))
  have hc30 := (by rw [hσ19]; exact g_upn hc16 (by decide) : σ_18 30 = .inl (g_cI D, 96, .inl (T 5)))
  have ho31 : g_off 20 30 σ σ_18 := by rw [hσ19]; exact g_off.up ho17 (by decide) (by decide)
  refine lv_aload_n hx hb dX3_remove_71 rfl (lv_at hl 3 rfl) ?_
  refine g_get hx hb hts hE hown hP g_inX3 rfl (by decide) hc20 1 (by decide) rfl wf_X3_9 (v := .ref (ad_ D 21)) rfl dX3_remove_72 ?_
  refine lv_iload_n hx hb dX3_remove_75 rfl (lv_at hl 4 rfl) ?_
  refine lv_dup2_11 hx hb dX3_remove_76 rfl rfl ?_
  refine g_ialdN (j := w) hx hb hE hP (by decide) hc21 (by omega) (by decide) (v := nI ((Ls w).length)) (hmr.S (by omega)) dX3_remove_77 ?_
  refine lv_iconst (v := nI 1) hx hb dX3_remove_78 (by decide) ?_
  refine lv_isub hx hb dX3_remove_79 ?_
  refine g_top (y := nI (((Ls w).length) - 1)) (pk_sub (by omega)) ?_
  refine g_iastN (j := w) (x := nI (((Ls w).length) - 1)) hx hb hE hAD hP hS (by decide) hc21 (by omega) (by decide) dX3_remove_80 (fun H locs hP hS => ?_)
  obtain ⟨σ_32, hσ33⟩ : ∃ z : Nat → va_E, z = va_up σ_18 21 (.inl (g_cI D, 2, .inl (upd S w (nI (((Ls w).length) - 1))))) := ⟨_, rfl⟩
  have hP : va_P D vwCl (g_W D σ_32) H := by rw [hσ33]; exact hP
  have hc34 := (by rw [hσ33]; exact g_upn hc20 (by decide) : σ_32 20 = .inr (3, [.int th, .ref (ad_ D 21), .ref (ad_ D 22), .ref (ad_ D 23), .ref (ad_ D 24), .int rs, .int sg, .ref (ad_ D 25), .ref (ad_ D 26), .ref (ad_ D 27), .ref (ad_ D 28), .ref (ad_ D 29), .ref (ad_ D 30)]))
  have hc35 : σ_32 21 = .inl (g_cI D, 2, .inl (upd S w (nI (((Ls w).length) - 1)))) := by rw [hσ33]; exact g_ups
  have hc36 := (by rw [hσ33]; exact g_upn hc22 (by decide) : σ_32 22 = .inl (g_cI D, 48, .inl (va_cpy N N (((24 * w) + (rk_ (Ls w) (x))) + 1) ((24 * w) + (rk_ (Ls w) (x))) (((Ls w).length - rk_ (Ls w) x) - 1))))
  have hc37 := (by rw [hσ33]; exact g_upn hc23 (by decide) : σ_32 23 = .inl (g_cI D, 48, .inl (va_cpy Z Z (((24 * w) + (rk_ (Ls w) (x))) + 1) ((24 * w) + (rk_ (Ls w) (x))) (((Ls w).length - rk_ (Ls w) x) - 1))))
  have hc38 := (by rw [hσ33]; exact g_upn hc24 (by decide) : σ_32 24 = .inl (g_cI D, 48, .inl (R)))
  have hc39 := (by rw [hσ33]; exact g_upn hc25 (by decide) : σ_32 25 = .inl (g_cI D, 96, .inl (T 0)))
  have hc40 := (by rw [hσ33]; exact g_upn hc26 (by decide) : σ_32 26 = .inl (g_cI D, 96, .inl (T 1)))
  have hc41 := (by rw [hσ33]; exact g_upn hc27 (by decide) : σ_32 27 = .inl (g_cI D, 96, .inl (T 2)))
  have hc42 := (by rw [hσ33]; exact g_upn hc28 (by decide) : σ_32 28 = .inl (g_cI D, 96, .inl (T 3)))
  have hc43 := (by rw [hσ33]; exact g_upn hc29 (by decide) : σ_32 29 = .inl (g_cI D, 96, .inl (T 4)))
  have hc44 := (by rw [hσ33]; exact g_upn hc30 (by decide) : σ_32 30 = .inl (g_cI D, 96, .inl (T 5)))
  have ho45 : g_off 20 30 σ σ_32 := by rw [hσ33]; exact g_off.up ho31 (by decide) (by decide)
  refine lv_iload hx hb dX3_remove_81 (lv_at hl 1 rfl) ?_
  have hMp46 : g_Mf D σ_32 th rs sg (upd S w (nI (((Ls w).length) - 1))) (va_cpy N N (((24 * w) + (rk_ (Ls w) (x))) + 1) ((24 * w) + (rk_ (Ls w) (x))) (((Ls w).length - rk_ (Ls w) x) - 1)) (va_cpy Z Z (((24 * w) + (rk_ (Ls w) (x))) + 1) ((24 * w) + (rk_ (Ls w) (x))) (((Ls w).length - rk_ (Ls w) x) - 1)) R T := ⟨hc34, hc35, hc36, hc37, hc38, hc39, hc40, hc41, hc42, hc43, hc44⟩
  rw [← hQ]
  exact W.iret (v := gn_ (Ls w) ((rk_ (Ls w) (x)))) hx hb hr (fun te9 hte9 _ => g_fin (⟨rfl, ⟨_, _, _, hMp46, mr_del hmr hw hlt⟩, ho45⟩) hP hS hte9) hS.2.2 dX3_remove_83 hlocks

abbrev m_X3_common_rm : Room := { frames := 10, cells := 0, slots := 0, locals := 246 }
set_option maxHeartbeats 4000000 in
set_option maxRecDepth 100000 in
theorem m_X3_common (l : Launch) (D : va_G) (hAD : g_AD D) (σ : Nat → va_E) (th rs sg : Int32) (S N Z R : Nat → Int32) (T : Nat → Nat → Int32) (hM : g_Mf D σ th rs sg S N Z R T) (Ls : Nat → g_L)  (hmr : mr_ Ls S N Z) (hvC : vC_ Ls) : g_M l D yX3_common cX3_common 3 (some .int) m_X3_common_rm [.ref (ad_ D 20)] σ (fun v1 σ1 => v1 = some (.int (nI (cm_ (Ls 0) (Ls 1) (Ls 0).length))) ∧ σ = σ1) := by
  refine g_ofW [(0, .ref (ad_ D 20))] (by decide +kernel) (Nat.le_of_ble_eq_true rfl) rfl ?_
  intro p e s m args below meth c hx hb hr hml hown hlocks hts hE hZ hP hS hnm ls hl
  have hown : s.vm.findClass RX3 = some m.cls := hown
  generalize hQ : MQ _ _ _ _ _ _ _ = Q
  obtain ⟨k20, k21, k22, k23, k24, k25, k26, k27, k28, k29, k30⟩ := id hM
  have h240 := (hmr 0 (by decide)).2.1
  refine lv_iconst (v := nI 0) hx hb dX3_common_0 (by decide) ?_
  refine lv_istore_n (lv' := [(1, .int (nI 0)), (0, .ref (ad_ D 20))]) hx hb dX3_common_1 rfl hl (by decide) rfl (fun ls hl => ?_)
  refine lv_iconst (v := nI 0) hx hb dX3_common_2 (by decide) ?_
  refine lv_istore_n (lv' := [(2, .int (nI 0)), (1, .int (nI 0)), (0, .ref (ad_ D 20))]) hx hb dX3_common_3 rfl hl (by decide) rfl (fun ls hl => ?_)
  have K4 : ∀ (fuel4 : Nat) (i : Nat), ((Ls 0).length - i) < fuel4 → (i ≤ (Ls 0).length) → ∀ (H : Heap) (locs : List Loc), va_P D vwCl (g_W D σ) H → va_S (g_A D s.heap.size) s.heap H locs → ∀ ls : Array Slot, lv_has ls 3 [(2, .int (nI i)), (1, .int (nI (cm_ (Ls 0) (Ls 1) i))), (0, .ref (ad_ D 20))] → W p l e m_X3_common_rm s m args below meth c H locs 0 0 Q (F0 m 4 ls []) := by
    intro fuel4
    induction fuel4 with
    | zero => intro i hf; exact absurd hf (Nat.not_lt_zero _)
    | succ fuel4 ih4 =>
      intro i hf4 hi H locs hP hS ls hl
      refine lv_iload_n hx hb dX3_common_4 rfl (lv_at hl 0 rfl) ?_
      refine lv_aload_n hx hb dX3_common_5 rfl (lv_at hl 2 rfl) ?_
      refine g_get hx hb hts hE hown hP g_inX3 rfl (by decide) k20 1 (by decide) rfl wf_X3_9 (v := .ref (ad_ D 21)) rfl dX3_common_6 ?_
      refine lv_iconst (v := nI 0) hx hb dX3_common_9 (by decide) ?_
      refine g_ialdN (j := 0) hx hb hE hP (by decide) k21 (by omega) (by decide) (v := nI ((Ls 0).length)) (hmr.S (by omega)) dX3_common_10 ?_
      refine lv_icmp_ge (tgt := 42) hx hb dX3_common_11 (by decide) (fun h11 => ?_) (fun h11 => ?_)
      · have hb11 := g_le (a := (Ls 0).length) (b := i) h11 (by omega) (by omega)
        have hi2 : i = (Ls 0).length := by omega
        refine lv_iload_n hx hb dX3_common_42 rfl (lv_at hl 1 rfl) ?_
        rw [← hQ]
        exact W.iret (v := nI (cm_ (Ls 0) (Ls 1) i)) hx hb hr (fun te9 hte9 _ => g_fin (⟨by rw [← hi2], rfl⟩) hP hS hte9) hS.2.2 dX3_common_43 hlocks
      · have hb11 := g_nle (a := (Ls 0).length) (b := i) h11 (by omega) (by omega)
        refine lv_iload_n hx hb dX3_common_14 rfl (lv_at hl 1 rfl) ?_
        refine lv_aload_n hx hb dX3_common_15 rfl (lv_at hl 2 rfl) ?_
        refine lv_iconst (v := nI 1) hx hb dX3_common_16 (by decide) ?_
        refine lv_aload_n hx hb dX3_common_17 rfl (lv_at hl 2 rfl) ?_
        refine g_get hx hb hts hE hown hP g_inX3 rfl (by decide) k20 2 (by decide) rfl wf_X3_13 (v := .ref (ad_ D 22)) rfl dX3_common_18 ?_
        refine lv_iload_n hx hb dX3_common_21 rfl (lv_at hl 0 rfl) ?_
        refine g_ialdN (j := i) hx hb hE hP (by decide) k22 (by omega) (by decide) (v := fn_ (Ls 0) i) (hmr.N0 (by omega)) dX3_common_22 ?_
        have hMp1 : g_Mf D σ th rs sg S N Z R T := ⟨k20, k21, k22, k23, k24, k25, k26, k27, k28, k29, k30⟩
        refine g_callV0 (y := yX3_isThere) (n := 2) (As := [.int (nI 1), .int (fn_ (Ls 0) i)]) (rest := [.int (nI (cm_ (Ls 0) (Ls 1) i))]) hx hb hml hown hts hE hZ hP hS hl.1 (m_X3_isThere l D hAD σ th rs sg S N Z R T hMp1 Ls 1 (fn_ (Ls 0) i) hmr (by omega) (vL_ne (hvC 0 (by decide)).1 i (by omega))) k_X3_65 (ci := 3) (by decide) k20 rfl rfl rfl rfl rfl ⟨rfl, rfl⟩ ⟨Nat.le_of_ble_eq_true rfl, Nat.le_of_ble_eq_true rfl⟩ (Nat.le_of_ble_eq_true rfl) ⟨Nat.le_of_ble_eq_true rfl, Nat.le_of_ble_eq_true rfl⟩ dX3_common_23 (fun v2 σ_3 H locs hq hP hS => ?_)
        obtain ⟨rfl, rfl⟩ := hq
        refine W.eq (g2 := F0 m 26 ls [.int (if fn_ (Ls 1) (rk_ (Ls 1) (fn_ (Ls 0) i)) = fn_ (Ls 0) i then 1 else 0), .int (nI (cm_ (Ls 0) (Ls 1) i))]) rfl ?_
        refine lv_if_eq (tgt := 33) hx hb dX3_common_26 (by decide) (fun h26 => ?_) (fun h26 => ?_)
        · have hq26 := g_pp0 h26
          refine lv_iconst (v := nI 0) hx hb dX3_common_33 (by decide) ?_
          refine lv_iadd hx hb dX3_common_34 ?_
          refine g_top (y := nI ((cm_ (Ls 0) (Ls 1) i) + 0)) (nI_add (cm_ (Ls 0) (Ls 1) i) 0) ?_
          refine lv_istore_n (lv' := [(1, .int (nI ((cm_ (Ls 0) (Ls 1) i) + 0))), (2, .int (nI i)), (0, .ref (ad_ D 20))]) hx hb dX3_common_35 rfl hl (by decide) rfl (fun ls hl => ?_)
          have hfx4 : nI ((cm_ (Ls 0) (Ls 1) i) + 0) = nI (cm_ (Ls 0) (Ls 1) (i + 1)) := congrArg nI (by rw [cm_, if_pos ((mo_not (hvC 1 (by decide)).1 (vL_ne (hvC 0 (by decide)).1 i (by omega))).mpr hq26)])
          rw [hfx4] at hl
          refine lv_iinc (v := nI (i + 1)) (lv' := [(2, .int (nI (i + 1))), (1, .int (nI (cm_ (Ls 0) (Ls 1) (i + 1)))), (0, .ref (ad_ D 20))]) hx hb dX3_common_36 hl (k := 1) rfl (g_inc i) (by decide) rfl (fun ls hl => ?_)
          refine lv_goto (tgt := 4) hx hb dX3_common_39 (by decide) ?_
          exact ih4 (i + 1) (by omega) (by omega) _ _ hP hS ls (lv_sub hl [0, 1, 2] rfl)
        · have hq26 := g_pp1 h26
          refine lv_iconst (v := nI 1) hx hb dX3_common_29 (by decide) ?_
          refine lv_goto (tgt := 34) hx hb dX3_common_30 (by decide) ?_
          refine lv_iadd hx hb dX3_common_34 ?_
          refine g_top (y := nI ((cm_ (Ls 0) (Ls 1) i) + 1)) (nI_add (cm_ (Ls 0) (Ls 1) i) 1) ?_
          refine lv_istore_n (lv' := [(1, .int (nI ((cm_ (Ls 0) (Ls 1) i) + 1))), (2, .int (nI i)), (0, .ref (ad_ D 20))]) hx hb dX3_common_35 rfl hl (by decide) rfl (fun ls hl => ?_)
          have hfx5 : nI ((cm_ (Ls 0) (Ls 1) i) + 1) = nI (cm_ (Ls 0) (Ls 1) (i + 1)) := congrArg nI (by rw [cm_, if_neg (mt (mo_not (hvC 1 (by decide)).1 (vL_ne (hvC 0 (by decide)).1 i (by omega))).mp (not_not_intro hq26))])
          rw [hfx5] at hl
          refine lv_iinc (v := nI (i + 1)) (lv' := [(2, .int (nI (i + 1))), (1, .int (nI (cm_ (Ls 0) (Ls 1) (i + 1)))), (0, .ref (ad_ D 20))]) hx hb dX3_common_36 hl (k := 1) rfl (g_inc i) (by decide) rfl (fun ls hl => ?_)
          refine lv_goto (tgt := 4) hx hb dX3_common_39 (by decide) ?_
          exact ih4 (i + 1) (by omega) (by omega) _ _ hP hS ls (lv_sub hl [0, 1, 2] rfl)
  exact K4 (((Ls 0).length - 0) + 1) 0 (Nat.lt_succ_self _) (Nat.zero_le _) _ _ hP hS ls (lv_sub hl [0, 1, 2] rfl)
