def hs_ (L : g_L) (a t : Nat) : Int32 := if a < t then nI 15 - fub_ (fn_ L a) (fn_ L (t - 1)) else 0
abbrev m_X1_keepFirst_rm : Room := { frames := 8, cells := 0, slots := 0, locals := 200 }
set_option maxHeartbeats 4000000 in
set_option maxRecDepth 100000 in
theorem m_X1_keepFirst (l : Launch) (D : va_G) (hAD : g_AD D) (σ : Nat → va_E) (v : Nat) (L : g_L) (F G : Nat → Int32) (hV : g_VF D σ v L F G) (k : Nat) (hk : k ≤ L.length) : g_M l D yX1_keepFirst cX1_keepFirst 2 none m_X1_keepFirst_rm [.ref (ad_ D v), .int (nI k)] σ (fun v1 σ1 => v1 = none ∧ g_VF D σ1 v (L.take k) F G ∧ g_off v (v + 2) σ σ1) := by
  refine g_ofW [(0, .ref (ad_ D v)), (1, .int (nI k))] (by decide +kernel) (Nat.le_of_ble_eq_true rfl) rfl ?_
  intro p e s m args below meth c hx hb hr hml hown hlocks hts hE hZ hP hS hnm ls hl
  have hown : s.vm.findClass RX1 = some m.cls := hown
  generalize hQ : MQ _ _ _ _ _ _ _ = Q
  obtain ⟨h0, h1, h2, hFG, hLn, hvv⟩ := id hV
  refine lv_aload_n hx hb dX1_keepFirst_0 rfl (lv_at hl 0 rfl) ?_
  refine lv_iload_n hx hb dX1_keepFirst_1 rfl (lv_at hl 1 rfl) ?_
  refine g_put hx hb hts hE hown hAD hP hS g_inX1 tyX1 tyX1_ok nmX1 rfl (by omega) h0 2 (by decide) rfl rfl (by decide +kernel) wf_X1_18 (v := nI k) (Nat.le_of_ble_eq_true rfl) dX1_keepFirst_2 (fun H locs hP hS => ?_)
  obtain ⟨σ_1, hσ2⟩ : ∃ z : Nat → va_E, z = va_up σ v (.inr (1, [.ref (ad_ D (v + 1)), .ref (ad_ D (v + 2)), .int (nI k)])) := ⟨_, rfl⟩
  have hP : va_P D vwCl (g_W D σ_1) H := by rw [hσ2]; exact hP
  have hc3 : σ_1 v = .inr (1, [.ref (ad_ D (v + 1)), .ref (ad_ D (v + 2)), .int (nI k)]) := by rw [hσ2]; exact g_ups
  have hc4 := (by rw [hσ2]; exact g_upn h1 (by omega) : σ_1 (v + 1) = .inl (g_cI D, 48, .inl (F)))
  have hc5 := (by rw [hσ2]; exact g_upn h2 (by omega) : σ_1 (v + 2) = .inl (g_cI D, 48, .inl (G)))
  have ho6 : g_off v (v + 2) σ σ_1 := by rw [hσ2]; exact g_off.up (g_off.rf (lo := v) (hi := (v + 2)) (σ := σ)) (by omega) (by omega)
  rw [← hQ]
  exact W.vret hx hb hr (fun te9 hte9 _ => g_fin (⟨rfl, ⟨by rw [List.length_take, Nat.min_eq_left hk]; exact hc3, hc4, hc5, rep_take hFG, by rw [List.length_take]; omega, hvv⟩, ho6⟩) hP hS hte9) hS.2.2 dX1_keepFirst_5 hlocks

abbrev m_X1_removeName_rm : Room := { frames := 10, cells := 0, slots := 0, locals := 243 }
set_option maxHeartbeats 4000000 in
set_option maxRecDepth 100000 in
theorem m_X1_removeName (l : Launch) (D : va_G) (hAD : g_AD D) (σ : Nat → va_E) (v : Nat) (L : g_L) (F G : Nat → Int32) (hV : g_VF D σ v L F G) (x : Int32) (hlt : rk_ L x < L.length) : g_M l D yX1_removeName cX1_removeName 3 none m_X1_removeName_rm [.ref (ad_ D v), .int x] σ (fun v1 σ1 => v1 = none ∧ g_V D σ1 v (L.eraseIdx (rk_ L x)) ∧ g_off v (v + 2) σ σ1) := by
  refine g_ofW [(0, .ref (ad_ D v)), (1, .int x)] (by decide +kernel) (Nat.le_of_ble_eq_true rfl) rfl ?_
  intro p e s m args below meth c hx hb hr hml hown hlocks hts hE hZ hP hS hnm ls hl
  have hown : s.vm.findClass RX1 = some m.cls := hown
  generalize hQ : MQ _ _ _ _ _ _ _ = Q
  obtain ⟨h0, h1, h2, hFG, hLn, hvv⟩ := id hV
  refine lv_aload_n hx hb dX1_removeName_0 rfl (lv_at hl 0 rfl) ?_
  refine lv_iload_n hx hb dX1_removeName_1 rfl (lv_at hl 1 rfl) ?_
  refine g_callV0 (y := yX1_smallerThan) (n := 1) (As := [.int x]) (rest := []) hx hb hml hown hts hE hZ hP hS hl.1 (m_X1_smallerThan l D hAD σ v L F G hV (x)) k_X1_26 (ci := 1) (by omega) hV.1 rfl rfl rfl rfl rfl ⟨rfl, rfl⟩ ⟨Nat.le_of_ble_eq_true rfl, Nat.le_of_ble_eq_true rfl⟩ (Nat.le_of_ble_eq_true rfl) ⟨Nat.le_of_ble_eq_true rfl, Nat.le_of_ble_eq_true rfl⟩ dX1_removeName_2 (fun v1 σ_2 H locs hq hP hS => ?_)
  obtain ⟨rfl, rfl⟩ := hq
  refine W.eq (g2 := F0 m 5 ls [.int (nI (rk_ L (x)))]) rfl ?_
  refine lv_istore_n (lv' := [(2, .int (nI (rk_ L (x)))), (0, .ref (ad_ D v)), (1, .int x)]) hx hb dX1_removeName_5 rfl hl (by decide) rfl (fun ls hl => ?_)
  have K6 : ∀ (fuel6 : Nat) (j : Nat) (σ2 : Nat → va_E), (L.length - j) < fuel6 → (rk_ L x ≤ j ∧ j ≤ L.length - 1) → (σ2 v = .inr (1, [.ref (ad_ D (v + 1)), .ref (ad_ D (v + 2)), .int (nI L.length)])) → (σ2 (v + 1) = .inl (g_cI D, 48, .inl (rm_ F (rk_ L x) j))) → (σ2 (v + 2) = .inl (g_cI D, 48, .inl (rm_ G (rk_ L x) j))) → (g_off v (v + 2) σ σ2) → ∀ (H : Heap) (locs : List Loc), va_P D vwCl (g_W D σ2) H → va_S (g_A D s.heap.size) s.heap H locs → ∀ ls : Array Slot, lv_has ls 3 [(2, .int (nI j)), (0, .ref (ad_ D v)), (1, .int x)] → W p l e m_X1_removeName_rm s m args below meth c H locs 0 0 Q (F0 m 6 ls []) := by
    intro fuel6
    induction fuel6 with
    | zero => intro j σ2 hf; exact absurd hf (Nat.not_lt_zero _)
    | succ fuel6 ih6 =>
      intro j σ2 hf6 hj i0 i1 i2 io H locs hP hS ls hl
      refine lv_iload_n hx hb dX1_removeName_6 rfl (lv_at hl 0 rfl) ?_
      refine lv_aload_n hx hb dX1_removeName_7 rfl (lv_at hl 1 rfl) ?_
      refine g_get hx hb hts hE hown hP g_inX1 rfl (by omega) i0 2 (by decide) rfl wf_X1_18 (v := .int (nI L.length)) rfl dX1_removeName_8 ?_
      refine lv_iconst (v := nI 1) hx hb dX1_removeName_11 (by decide) ?_
      refine lv_isub hx hb dX1_removeName_12 ?_
      refine g_top (y := nI (L.length - 1)) (pk_sub (by omega)) ?_
      refine lv_icmp_ge (tgt := 58) hx hb dX1_removeName_13 (by decide) (fun h13 => ?_) (fun h13 => ?_)
      · have hb13 := g_le (a := L.length - 1) (b := j) h13 (by omega) (by omega)
        refine lv_aload_n hx hb dX1_removeName_58 rfl (lv_at hl 1 rfl) ?_
        refine lv_dup hx hb dX1_removeName_59 rfl ?_
        refine g_get hx hb hts hE hown hP g_inX1 rfl (by omega) i0 2 (by decide) rfl wf_X1_18 (v := .int (nI L.length)) rfl dX1_removeName_60 ?_
        refine lv_iconst (v := nI 1) hx hb dX1_removeName_63 (by decide) ?_
        refine lv_isub hx hb dX1_removeName_64 ?_
        refine g_top (y := nI (L.length - 1)) (pk_sub (by omega)) ?_
        refine g_put hx hb hts hE hown hAD hP hS g_inX1 tyX1 tyX1_ok nmX1 rfl (by omega) i0 2 (by decide) rfl rfl (by decide +kernel) wf_X1_18 (v := nI (L.length - 1)) (Nat.le_of_ble_eq_true rfl) dX1_removeName_65 (fun H locs hP hS => ?_)
        obtain ⟨σ_3, hσ4⟩ : ∃ z : Nat → va_E, z = va_up σ2 v (.inr (1, [.ref (ad_ D (v + 1)), .ref (ad_ D (v + 2)), .int (nI (L.length - 1))])) := ⟨_, rfl⟩
        have hP : va_P D vwCl (g_W D σ_3) H := by rw [hσ4]; exact hP
        have hc5 : σ_3 v = .inr (1, [.ref (ad_ D (v + 1)), .ref (ad_ D (v + 2)), .int (nI (L.length - 1))]) := by rw [hσ4]; exact g_ups
        have hc6 := (by rw [hσ4]; exact g_upn i1 (by omega) : σ_3 (v + 1) = .inl (g_cI D, 48, .inl (rm_ F (rk_ L x) j)))
        have hc7 := (by rw [hσ4]; exact g_upn i2 (by omega) : σ_3 (v + 2) = .inl (g_cI D, 48, .inl (rm_ G (rk_ L x) j)))
        have ho8 : g_off v (v + 2) σ σ_3 := by rw [hσ4]; exact g_off.up io (by omega) (by omega)
        have hjk : j = L.length - 1 := by omega
        subst hjk
        rw [← hQ]
        exact W.vret hx hb hr (fun te9 hte9 _ => g_fin (⟨rfl, ⟨_, _, by rw [List.length_eraseIdx_of_lt hlt]; exact hc5, hc6, hc7, rep_erase hlt hFG, by rw [List.length_eraseIdx_of_lt hlt]; omega, hvv⟩, ho8⟩) hP hS hte9) hS.2.2 dX1_removeName_68 hlocks
      · have hb13 := g_nle (a := L.length - 1) (b := j) h13 (by omega) (by omega)
        refine lv_aload_n hx hb dX1_removeName_16 rfl (lv_at hl 1 rfl) ?_
        refine g_get hx hb hts hE hown hP g_inX1 rfl (by omega) i0 0 (by decide) rfl wf_X1_9 (v := .ref (ad_ D (v + 1))) rfl dX1_removeName_17 ?_
        refine lv_iload_n hx hb dX1_removeName_20 rfl (lv_at hl 0 rfl) ?_
        refine lv_aload_n hx hb dX1_removeName_21 rfl (lv_at hl 1 rfl) ?_
        refine g_get hx hb hts hE hown hP g_inX1 rfl (by omega) i0 0 (by decide) rfl wf_X1_9 (v := .ref (ad_ D (v + 1))) rfl dX1_removeName_22 ?_
        refine lv_iload_n hx hb dX1_removeName_25 rfl (lv_at hl 0 rfl) ?_
        refine lv_iconst (v := nI 1) hx hb dX1_removeName_26 (by decide) ?_
        refine lv_iadd hx hb dX1_removeName_27 ?_
        refine g_top (y := nI (j + 1)) (nI_add j 1) ?_
        refine g_callN0 (y := yX2_read) (n := 2) (As := [.ref (ad_ D (v + 1)), .int (nI (j + 1))]) (rest := [.int (nI j), .ref (ad_ D (v + 1))]) hx hb hml hown hts hE hZ hP hS hl.1 (m_X2_read l D hAD σ2 (v + 1) 48 (rm_ F (rk_ L x) j) (nI (j + 1)) (by omega) (by decide) i1) k_X1_22 rfl rfl ⟨rfl, rfl⟩ ⟨Nat.le_of_ble_eq_true rfl, Nat.le_of_ble_eq_true rfl⟩ (Nat.le_of_ble_eq_true rfl) ⟨Nat.le_of_ble_eq_true rfl, Nat.le_of_ble_eq_true rfl⟩ dX1_removeName_28 (fun v9 σ_10 H locs hq hP hS => ?_)
        obtain ⟨rfl, rfl⟩ := hq
        refine W.eq (g2 := F0 m 31 ls [.int (rd_ (rm_ F (rk_ L x) j) 48 (nI (j + 1))), .int (nI j), .ref (ad_ D (v + 1))]) rfl ?_
        refine g_top (y := F (j + 1)) ((rd_in (by omega) (by decide)).trans (rm_at (by omega))) ?_
        refine g_callN0 (y := yX2_write) (n := 3) (As := [.ref (ad_ D (v + 1)), .int (nI j), .int (F (j + 1))]) (rest := []) hx hb hml hown hts hE hZ hP hS hl.1 (m_X2_write l D hAD σ2 (v + 1) 48 (rm_ F (rk_ L x) j) (nI j) (F (j + 1)) (by omega) (by decide) i1) k_X1_43 rfl rfl ⟨rfl, rfl⟩ ⟨Nat.le_of_ble_eq_true rfl, Nat.le_of_ble_eq_true rfl⟩ (Nat.le_of_ble_eq_true rfl) ⟨Nat.le_of_ble_eq_true rfl, Nat.le_of_ble_eq_true rfl⟩ dX1_removeName_31 (fun v11 σ_12 H locs hq hP hS => ?_)
        obtain ⟨rfl, hw, hfr⟩ := hq
        refine W.eq (g2 := F0 m 34 ls []) rfl ?_
        rw [wr_in (by omega) (by decide)] at hw
        have hc13 := (hfr v (by omega)).trans i0
        have hc14 := hw
        have hc15 := (hfr (v + 2) (by omega)).trans i2
        have ho16 := g_off.one io hfr (by omega) (by omega)
        refine lv_aload_n hx hb dX1_removeName_34 rfl (lv_at hl 1 rfl) ?_
        refine g_get hx hb hts hE hown hP g_inX1 rfl (by omega) hc13 1 (by decide) rfl wf_X1_15 (v := .ref (ad_ D (v + 2))) rfl dX1_removeName_35 ?_
        refine lv_iload_n hx hb dX1_removeName_38 rfl (lv_at hl 0 rfl) ?_
        refine lv_aload_n hx hb dX1_removeName_39 rfl (lv_at hl 1 rfl) ?_
        refine g_get hx hb hts hE hown hP g_inX1 rfl (by omega) hc13 1 (by decide) rfl wf_X1_15 (v := .ref (ad_ D (v + 2))) rfl dX1_removeName_40 ?_
        refine lv_iload_n hx hb dX1_removeName_43 rfl (lv_at hl 0 rfl) ?_
        refine lv_iconst (v := nI 1) hx hb dX1_removeName_44 (by decide) ?_
        refine lv_iadd hx hb dX1_removeName_45 ?_
        refine g_top (y := nI (j + 1)) (nI_add j 1) ?_
        refine g_callN0 (y := yX2_read) (n := 2) (As := [.ref (ad_ D (v + 2)), .int (nI (j + 1))]) (rest := [.int (nI j), .ref (ad_ D (v + 2))]) hx hb hml hown hts hE hZ hP hS hl.1 (m_X2_read l D hAD σ_12 (v + 2) 48 (rm_ G (rk_ L x) j) (nI (j + 1)) (by omega) (by decide) hc15) k_X1_22 rfl rfl ⟨rfl, rfl⟩ ⟨Nat.le_of_ble_eq_true rfl, Nat.le_of_ble_eq_true rfl⟩ (Nat.le_of_ble_eq_true rfl) ⟨Nat.le_of_ble_eq_true rfl, Nat.le_of_ble_eq_true rfl⟩ dX1_removeName_46 (fun v17 σ_18 H locs hq hP hS => ?_)
        obtain ⟨rfl, rfl⟩ := hq
        refine W.eq (g2 := F0 m 49 ls [.int (rd_ (rm_ G (rk_ L x) j) 48 (nI (j + 1))), .int (nI j), .ref (ad_ D (v + 2))]) rfl ?_
        refine g_top (y := G (j + 1)) ((rd_in (by omega) (by decide)).trans (rm_at (by omega))) ?_
        refine g_callN0 (y := yX2_write) (n := 3) (As := [.ref (ad_ D (v + 2)), .int (nI j), .int (G (j + 1))]) (rest := []) hx hb hml hown hts hE hZ hP hS hl.1 (m_X2_write l D hAD σ_12 (v + 2) 48 (rm_ G (rk_ L x) j) (nI j) (G (j + 1)) (by omega) (by decide) hc15) k_X1_43 rfl rfl ⟨rfl, rfl⟩ ⟨Nat.le_of_ble_eq_true rfl, Nat.le_of_ble_eq_true rfl⟩ (Nat.le_of_ble_eq_true rfl) ⟨Nat.le_of_ble_eq_true rfl, Nat.le_of_ble_eq_true rfl⟩ dX1_removeName_49 (fun v19 σ_20 H locs hq hP hS => ?_)
        obtain ⟨rfl, hw, hfr⟩ := hq
        refine W.eq (g2 := F0 m 52 ls []) rfl ?_
        rw [wr_in (by omega) (by decide)] at hw
        have hc21 := (hfr v (by omega)).trans hc13
        have hc22 := (hfr (v + 1) (by omega)).trans hc14
        have hc23 := hw
        have ho24 := g_off.one ho16 hfr (by omega) (by omega)
        refine lv_iinc (v := nI (j + 1)) (lv' := [(2, .int (nI (j + 1))), (0, .ref (ad_ D v)), (1, .int x)]) hx hb dX1_removeName_52 hl (k := 0) rfl (g_inc j) (by decide) rfl (fun ls hl => ?_)
        refine lv_goto (tgt := 6) hx hb dX1_removeName_55 (by decide) ?_
        exact ih6 (j + 1) σ_20 (by omega) (by omega) hc21 (by rw [← rm_step (F := F) (a := rk_ L x) (b := j) (by omega)]; exact hc22) (by rw [← rm_step (F := G) (a := rk_ L x) (b := j) (by omega)]; exact hc23) ho24 _ _ hP hS ls (lv_sub hl [0, 1, 2] rfl)
  exact K6 ((L.length - (rk_ L x)) + 1) (rk_ L x) σ (Nat.lt_succ_self _) (by omega) h0 (by rw [rm_0]; exact h1) (by rw [rm_0]; exact h2) g_off.rf _ _ hP hS ls (lv_sub hl [0, 1, 2] rfl)

abbrev m_X1_setAll_rm : Room := { frames := 11, cells := 0, slots := 0, locals := 267 }
set_option maxHeartbeats 4000000 in
set_option maxRecDepth 100000 in
theorem m_X1_setAll (l : Launch) (D : va_G) (hAD : g_AD D) (σ : Nat → va_E) (v : Nat) (L : g_L) (F G : Nat → Int32) (hV : g_VF D σ v L F G) (w : Nat) (M : g_L) (F2 G2 : Nat → Int32) (hV2 : g_VF D σ w M F2 G2) (hvw : v + 2 < w ∨ w + 2 < v) (hM : ∀ j, j < M.length → fn_ M j ≠ -1) (hlen : L.length + M.length ≤ 48) : g_M l D yX1_setAll cX1_setAll 3 none m_X1_setAll_rm [.ref (ad_ D v), .ref (ad_ D w)] σ (fun v1 σ1 => v1 = none ∧ g_V D σ1 v (sa_ L M M.length) ∧ g_off v (v + 2) σ σ1) := by
  refine g_ofW [(0, .ref (ad_ D v)), (1, .ref (ad_ D w))] (by decide +kernel) (Nat.le_of_ble_eq_true rfl) rfl ?_
  intro p e s m args below meth c hx hb hr hml hown hlocks hts hE hZ hP hS hnm ls hl
  have hown : s.vm.findClass RX1 = some m.cls := hown
  generalize hQ : MQ _ _ _ _ _ _ _ = Q
  obtain ⟨h0, h1, h2, hFG, hLn, hvv⟩ := id hV
  have hvv2 := hV2.2.2.2.2.2
  have hM48 := hV2.2.2.2.2.1
  refine lv_iconst (v := nI 0) hx hb dX1_setAll_0 (by decide) ?_
  refine lv_istore_n (lv' := [(2, .int (nI 0)), (0, .ref (ad_ D v)), (1, .ref (ad_ D w))]) hx hb dX1_setAll_1 rfl hl (by decide) rfl (fun ls hl => ?_)
  have K2 : ∀ (fuel2 : Nat) (i : Nat) (σ2 : Nat → va_E) (F3 G3 : Nat → Int32), (M.length - i) < fuel2 → (i ≤ M.length) → (g_VF D σ2 v (sa_ L M i) F3 G3) → (g_VF D σ2 w M F2 G2) → (g_off v (v + 2) σ σ2) → ∀ (H : Heap) (locs : List Loc), va_P D vwCl (g_W D σ2) H → va_S (g_A D s.heap.size) s.heap H locs → ∀ ls : Array Slot, lv_has ls 3 [(2, .int (nI i)), (0, .ref (ad_ D v)), (1, .ref (ad_ D w))] → W p l e m_X1_setAll_rm s m args below meth c H locs 0 0 Q (F0 m 2 ls []) := by
    intro fuel2
    induction fuel2 with
    | zero => intro i σ2 F3 G3 hf; exact absurd hf (Nat.not_lt_zero _)
    | succ fuel2 ih2 =>
      intro i σ2 F3 G3 hf2 hi i0 i1 io H locs hP hS ls hl
      refine lv_iload_n hx hb dX1_setAll_2 rfl (lv_at hl 0 rfl) ?_
      refine lv_aload_n hx hb dX1_setAll_3 rfl (lv_at hl 2 rfl) ?_
      refine g_callV0 (y := yX1_size) (n := 0) (As := []) (rest := [.int (nI i)]) hx hb hml hown hts hE hZ hP hS hl.1 (m_X1_size l D hAD σ2 w M F2 G2 i1) k_X1_47 (ci := 1) (by omega) i1.1 rfl rfl rfl rfl rfl ⟨rfl, rfl⟩ ⟨Nat.le_of_ble_eq_true rfl, Nat.le_of_ble_eq_true rfl⟩ (Nat.le_of_ble_eq_true rfl) ⟨Nat.le_of_ble_eq_true rfl, Nat.le_of_ble_eq_true rfl⟩ dX1_setAll_4 (fun v1 σ_2 H locs hq hP hS => ?_)
      obtain ⟨rfl, rfl⟩ := hq
      refine W.eq (g2 := F0 m 7 ls [.int (nI M.length), .int (nI i)]) rfl ?_
      refine lv_icmp_ge (tgt := 30) hx hb dX1_setAll_7 (by decide) (fun h7 => ?_) (fun h7 => ?_)
      · have hb7 := g_le (a := M.length) (b := i) h7 (by omega) (by omega)
        have hi2 : i = M.length := by omega
        subst hi2
        rw [← hQ]
        exact W.vret hx hb hr (fun te9 hte9 _ => g_fin (⟨rfl, ⟨F3, G3, i0⟩, io⟩) hP hS hte9) hS.2.2 dX1_setAll_30 hlocks
      · have hb7 := g_nle (a := M.length) (b := i) h7 (by omega) (by omega)
        have hsl := sa_len L M i
        have hxx := hM i (by omega)
        have hrr : fn_ (sa_ L M i) (rk_ (sa_ L M i) (fn_ M i)) = fn_ M i ∨ (sa_ L M i).length < 48 := Or.inr (by omega)
        refine lv_aload_n hx hb dX1_setAll_10 rfl (lv_at hl 1 rfl) ?_
        refine lv_aload_n hx hb dX1_setAll_11 rfl (lv_at hl 2 rfl) ?_
        refine lv_iload_n hx hb dX1_setAll_12 rfl (lv_at hl 0 rfl) ?_
        refine g_callV0 (y := yX1_nameAt) (n := 1) (As := [.int (nI i)]) (rest := [.ref (ad_ D v)]) hx hb hml hown hts hE hZ hP hS hl.1 (m_X1_nameAtN l D hAD σ2 w M F2 G2 i1 i (by omega)) k_X1_30 (ci := 1) (by omega) i1.1 rfl rfl rfl rfl rfl ⟨rfl, rfl⟩ ⟨Nat.le_of_ble_eq_true rfl, Nat.le_of_ble_eq_true rfl⟩ (Nat.le_of_ble_eq_true rfl) ⟨Nat.le_of_ble_eq_true rfl, Nat.le_of_ble_eq_true rfl⟩ dX1_setAll_13 (fun v3 σ_4 H locs hq hP hS => ?_)
        obtain ⟨rfl, rfl⟩ := hq
        refine W.eq (g2 := F0 m 16 ls [.int (fn_ M i), .ref (ad_ D v)]) rfl ?_
        refine lv_aload_n hx hb dX1_setAll_16 rfl (lv_at hl 2 rfl) ?_
        refine lv_iload_n hx hb dX1_setAll_17 rfl (lv_at hl 0 rfl) ?_
        refine g_callV0 (y := yX1_milesAt) (n := 1) (As := [.int (nI i)]) (rest := [.int (fn_ M i), .ref (ad_ D v)]) hx hb hml hown hts hE hZ hP hS hl.1 (m_X1_milesAtN l D hAD σ2 w M F2 G2 i1 i (by omega)) k_X1_33 (ci := 1) (by omega) i1.1 rfl rfl rfl rfl rfl ⟨rfl, rfl⟩ ⟨Nat.le_of_ble_eq_true rfl, Nat.le_of_ble_eq_true rfl⟩ (Nat.le_of_ble_eq_true rfl) ⟨Nat.le_of_ble_eq_true rfl, Nat.le_of_ble_eq_true rfl⟩ dX1_setAll_18 (fun v5 σ_6 H locs hq hP hS => ?_)
        obtain ⟨rfl, rfl⟩ := hq
        refine W.eq (g2 := F0 m 21 ls [.int (gn_ M i), .int (fn_ M i), .ref (ad_ D v)]) rfl ?_
        refine g_callV0 (y := yX1_set) (n := 2) (As := [.int (fn_ M i), .int (gn_ M i)]) (rest := []) hx hb hml hown hts hE hZ hP hS hl.1 (m_X1_set l D hAD σ2 v (sa_ L M i) F3 G3 i0 (fn_ M i) (gn_ M i) hxx hrr) k_X1_50 (ci := 1) (by omega) i0.1 rfl rfl rfl rfl rfl ⟨rfl, rfl⟩ ⟨Nat.le_of_ble_eq_true rfl, Nat.le_of_ble_eq_true rfl⟩ (Nat.le_of_ble_eq_true rfl) ⟨Nat.le_of_ble_eq_true rfl, Nat.le_of_ble_eq_true rfl⟩ dX1_setAll_21 (fun v7 σ_8 H locs hq hP hS => ?_)
        obtain ⟨rfl, hq2⟩ := hq
        refine W.eq (g2 := F0 m 24 ls []) rfl ?_
        obtain ⟨Fs9, Gs10, hVs11, hos12, hgs13⟩ := hq2
        have hV14 := g_VF.off i1 hos12 (by omega)
        have ho15 := g_off.tr io (g_off.wd hos12 (by omega) (by omega))
        refine lv_iinc (v := nI (i + 1)) (lv' := [(2, .int (nI (i + 1))), (0, .ref (ad_ D v)), (1, .ref (ad_ D w))]) hx hb dX1_setAll_24 hl (k := 0) rfl (g_inc i) (by decide) rfl (fun ls hl => ?_)
        refine lv_goto (tgt := 2) hx hb dX1_setAll_27 (by decide) ?_
        exact ih2 (i + 1) σ_8 Fs9 Gs10 (by omega) (by omega) hVs11 hV14 ho15 _ _ hP hS ls (lv_sub hl [0, 1, 2] rfl)
  exact K2 ((M.length - 0) + 1) 0 σ F G (Nat.lt_succ_self _) (Nat.zero_le _) hV hV2 g_off.rf _ _ hP hS ls (lv_sub hl [0, 1, 2] rfl)

abbrev m_X1_changeBits_rm : Room := { frames := 11, cells := 0, slots := 0, locals := 267 }
set_option maxHeartbeats 4000000 in
set_option maxRecDepth 100000 in
theorem m_X1_changeBits (l : Launch) (D : va_G) (hAD : g_AD D) (σ : Nat → va_E) (v : Nat) (L : g_L) (F G : Nat → Int32) (hV : g_VF D σ v L F G) (b : Int32) (hb9 : ∀ j, j < L.length → fn_ L j ^^^ b ≠ -1) : g_M l D yX1_changeBits cX1_changeBits 4 none m_X1_changeBits_rm [.ref (ad_ D v), .int b] σ (fun v1 σ1 => v1 = none ∧ g_V D σ1 v (cb_ L b L.length) ∧ g_off v (v + 2) σ σ1) := by
  refine g_ofW [(0, .ref (ad_ D v)), (1, .int b)] (by decide +kernel) (Nat.le_of_ble_eq_true rfl) rfl ?_
  intro p e s m args below meth c hx hb hr hml hown hlocks hts hE hZ hP hS hnm ls hl
  have hown : s.vm.findClass RX1 = some m.cls := hown
  generalize hQ : MQ _ _ _ _ _ _ _ = Q
  obtain ⟨h0, h1, h2, hFG, hLn, hvv⟩ := id hV
  refine lv_aload_n hx hb dX1_changeBits_0 rfl (lv_at hl 0 rfl) ?_
  refine g_get hx hb hts hE hown hP g_inX1 rfl (by omega) h0 2 (by decide) rfl wf_X1_18 (v := .int (nI L.length)) rfl dX1_changeBits_1 ?_
  refine lv_istore_n (lv' := [(2, .int (nI L.length)), (0, .ref (ad_ D v)), (1, .int b)]) hx hb dX1_changeBits_4 rfl hl (by decide) rfl (fun ls hl => ?_)
  refine lv_aload_n hx hb dX1_changeBits_5 rfl (lv_at hl 1 rfl) ?_
  refine lv_iconst (v := nI 0) hx hb dX1_changeBits_6 (by decide) ?_
  refine g_callV0 (y := yX1_keepFirst) (n := 1) (As := [.int (nI 0)]) (rest := []) hx hb hml hown hts hE hZ hP hS hl.1 (m_X1_keepFirst l D hAD σ v L F G hV 0 (by omega)) k_X1_54 (ci := 1) (by omega) hV.1 rfl rfl rfl rfl rfl ⟨rfl, rfl⟩ ⟨Nat.le_of_ble_eq_true rfl, Nat.le_of_ble_eq_true rfl⟩ (Nat.le_of_ble_eq_true rfl) ⟨Nat.le_of_ble_eq_true rfl, Nat.le_of_ble_eq_true rfl⟩ dX1_changeBits_7 (fun v1 σ_2 H locs hq hP hS => ?_)
  obtain ⟨rfl, hq2⟩ := hq
  refine W.eq (g2 := F0 m 10 ls []) rfl ?_
  obtain ⟨hVk3, hok4⟩ := hq2
  have hok0 := hok4
  refine lv_iconst (v := nI 0) hx hb dX1_changeBits_10 (by decide) ?_
  refine lv_istore_n (lv' := [(3, .int (nI 0)), (2, .int (nI L.length)), (0, .ref (ad_ D v)), (1, .int b)]) hx hb dX1_changeBits_11 rfl hl (by decide) rfl (fun ls hl => ?_)
  have K12 : ∀ (fuel12 : Nat) (i : Nat) (σ2 : Nat → va_E) (F3 G3 : Nat → Int32), (L.length - i) < fuel12 → (i ≤ L.length) → (g_VF D σ2 v (cb_ L b i) F3 G3) → (∀ j, i ≤ j → j < L.length → F3 j = fn_ L j ∧ G3 j = gn_ L j) → (g_off v (v + 2) σ σ2) → ∀ (H : Heap) (locs : List Loc), va_P D vwCl (g_W D σ2) H → va_S (g_A D s.heap.size) s.heap H locs → ∀ ls : Array Slot, lv_has ls 4 [(3, .int (nI i)), (2, .int (nI L.length)), (0, .ref (ad_ D v)), (1, .int b)] → W p l e m_X1_changeBits_rm s m args below meth c H locs 0 0 Q (F0 m 12 ls []) := by
    intro fuel12
    induction fuel12 with
    | zero => intro i σ2 F3 G3 hf; exact absurd hf (Nat.not_lt_zero _)
    | succ fuel12 ih12 =>
      intro i σ2 F3 G3 hf12 hi i0 ig io H locs hP hS ls hl
      have hcl := cb_len L b i
      refine lv_iload_n hx hb dX1_changeBits_12 rfl (lv_at hl 0 rfl) ?_
      refine lv_iload_n hx hb dX1_changeBits_13 rfl (lv_at hl 1 rfl) ?_
      refine lv_icmp_ge (tgt := 45) hx hb dX1_changeBits_14 (by decide) (fun h14 => ?_) (fun h14 => ?_)
      · have hb14 := g_le (a := L.length) (b := i) h14 (by omega) (by omega)
        have hi2 : i = L.length := by omega
        subst hi2
        rw [← hQ]
        exact W.vret hx hb hr (fun te9 hte9 _ => g_fin (⟨rfl, ⟨F3, G3, i0⟩, io⟩) hP hS hte9) hS.2.2 dX1_changeBits_45 hlocks
      · have hb14 := g_nle (a := L.length) (b := i) h14 (by omega) (by omega)
        have hxx := hb9 i (by omega)
        have hrr : fn_ (cb_ L b i) (rk_ (cb_ L b i) (fn_ L i ^^^ b)) = fn_ L i ^^^ b ∨ (cb_ L b i).length < 48 := Or.inr (by omega)
        refine lv_aload_n hx hb dX1_changeBits_17 rfl (lv_at hl 2 rfl) ?_
        refine lv_aload_n hx hb dX1_changeBits_18 rfl (lv_at hl 2 rfl) ?_
        refine g_get hx hb hts hE hown hP g_inX1 rfl (by omega) i0.1 0 (by decide) rfl wf_X1_9 (v := .ref (ad_ D (v + 1))) rfl dX1_changeBits_19 ?_
        refine lv_iload_n hx hb dX1_changeBits_22 rfl (lv_at hl 0 rfl) ?_
        refine g_callN0 (y := yX2_read) (n := 2) (As := [.ref (ad_ D (v + 1)), .int (nI i)]) (rest := [.ref (ad_ D v)]) hx hb hml hown hts hE hZ hP hS hl.1 (m_X2_read l D hAD σ2 (v + 1) 48 (F3) (nI i) (by omega) (by decide) i0.2.1) k_X1_22 rfl rfl ⟨rfl, rfl⟩ ⟨Nat.le_of_ble_eq_true rfl, Nat.le_of_ble_eq_true rfl⟩ (Nat.le_of_ble_eq_true rfl) ⟨Nat.le_of_ble_eq_true rfl, Nat.le_of_ble_eq_true rfl⟩ dX1_changeBits_23 (fun v5 σ_6 H locs hq hP hS => ?_)
        obtain ⟨rfl, rfl⟩ := hq
        refine W.eq (g2 := F0 m 26 ls [.int (rd_ (F3) 48 (nI i)), .ref (ad_ D v)]) rfl ?_
        refine g_top (y := fn_ L i) ((rd_in (by omega) (by decide)).trans (ig i (Nat.le_refl _) (by omega)).1) ?_
        refine lv_iload_n hx hb dX1_changeBits_26 rfl (lv_at hl 3 rfl) ?_
        refine lv_ixor hx hb dX1_changeBits_27 ?_
        refine lv_aload_n hx hb dX1_changeBits_28 rfl (lv_at hl 2 rfl) ?_
        refine g_get hx hb hts hE hown hP g_inX1 rfl (by omega) i0.1 1 (by decide) rfl wf_X1_15 (v := .ref (ad_ D (v + 2))) rfl dX1_changeBits_29 ?_
        refine lv_iload_n hx hb dX1_changeBits_32 rfl (lv_at hl 0 rfl) ?_
        refine g_callN0 (y := yX2_read) (n := 2) (As := [.ref (ad_ D (v + 2)), .int (nI i)]) (rest := [.int ((fn_ L i) ^^^ b), .ref (ad_ D v)]) hx hb hml hown hts hE hZ hP hS hl.1 (m_X2_read l D hAD σ2 (v + 2) 48 (G3) (nI i) (by omega) (by decide) i0.2.2.1) k_X1_22 rfl rfl ⟨rfl, rfl⟩ ⟨Nat.le_of_ble_eq_true rfl, Nat.le_of_ble_eq_true rfl⟩ (Nat.le_of_ble_eq_true rfl) ⟨Nat.le_of_ble_eq_true rfl, Nat.le_of_ble_eq_true rfl⟩ dX1_changeBits_33 (fun v7 σ_8 H locs hq hP hS => ?_)
        obtain ⟨rfl, rfl⟩ := hq
        refine W.eq (g2 := F0 m 36 ls [.int (rd_ (G3) 48 (nI i)), .int ((fn_ L i) ^^^ b), .ref (ad_ D v)]) rfl ?_
        refine g_top (y := gn_ L i) ((rd_in (by omega) (by decide)).trans (ig i (Nat.le_refl _) (by omega)).2) ?_
        refine g_callV0 (y := yX1_set) (n := 2) (As := [.int ((fn_ L i) ^^^ b), .int (gn_ L i)]) (rest := []) hx hb hml hown hts hE hZ hP hS hl.1 (m_X1_set l D hAD σ2 v (cb_ L b i) F3 G3 i0 ((fn_ L i) ^^^ b) (gn_ L i) hxx hrr) k_X1_50 (ci := 1) (by omega) i0.1 rfl rfl rfl rfl rfl ⟨rfl, rfl⟩ ⟨Nat.le_of_ble_eq_true rfl, Nat.le_of_ble_eq_true rfl⟩ (Nat.le_of_ble_eq_true rfl) ⟨Nat.le_of_ble_eq_true rfl, Nat.le_of_ble_eq_true rfl⟩ dX1_changeBits_36 (fun v9 σ_10 H locs hq hP hS => ?_)
        obtain ⟨rfl, hq2⟩ := hq
        refine W.eq (g2 := F0 m 39 ls []) rfl ?_
        obtain ⟨Fs11, Gs12, hVs13, hos14, hgs15⟩ := hq2
        have ho16 := g_off.tr io (g_off.wd hos14 (by omega) (by omega))
        refine lv_iinc (v := nI (i + 1)) (lv' := [(3, .int (nI (i + 1))), (2, .int (nI L.length)), (0, .ref (ad_ D v)), (1, .int b)]) hx hb dX1_changeBits_39 hl (k := 0) rfl (g_inc i) (by decide) rfl (fun ls hl => ?_)
        refine lv_goto (tgt := 12) hx hb dX1_changeBits_42 (by decide) ?_
        exact ih12 (i + 1) σ_10 Fs11 Gs12 (by omega) (by omega) hVs13 (fun j hj1 hj2 => by have q9 := hgs15 j (by omega); rw [q9.1, q9.2]; exact ig j (by omega) hj2) ho16 _ _ hP hS ls (lv_sub hl [0, 1, 2, 3] rfl)
  exact K12 ((L.length - 0) + 1) 0 σ_2 F G (Nat.lt_succ_self _) (Nat.zero_le _) hVk3 (fun j _ hj => hFG j hj) hok0 _ _ hP hS ls (lv_sub hl [0, 1, 2, 3] rfl)

abbrev m_X1_addedMiles_rm : Room := { frames := 10, cells := 0, slots := 0, locals := 242 }
set_option maxHeartbeats 4000000 in
set_option maxRecDepth 100000 in
theorem m_X1_addedMiles (l : Launch) (D : va_G) (hAD : g_AD D) (σ : Nat → va_E) (v : Nat) (L : g_L) (F G : Nat → Int32) (hV : g_VF D σ v L F G) (a t : Nat) (ht48 : a < 2 ^ 30 ∧ t ≤ 48) : g_M l D yX1_addedMiles cX1_addedMiles 5 (some .int) m_X1_addedMiles_rm [.ref (ad_ D v), .int (nI a), .int (nI t)] σ (fun v1 σ1 => v1 = some (.int (sm_ L a (t - a))) ∧ σ = σ1) := by
  refine g_ofW [(0, .ref (ad_ D v)), (1, .int (nI a)), (2, .int (nI t))] (by decide +kernel) (Nat.le_of_ble_eq_true rfl) rfl ?_
  intro p e s m args below meth c hx hb hr hml hown hlocks hts hE hZ hP hS hnm ls hl
  have hown : s.vm.findClass RX1 = some m.cls := hown
  generalize hQ : MQ _ _ _ _ _ _ _ = Q
  obtain ⟨h0, h1, h2, hFG, hLn, hvv⟩ := id hV
  refine lv_iconst (v := nI 0) hx hb dX1_addedMiles_0 (by decide) ?_
  refine lv_istore_n (lv' := [(3, .int (nI 0)), (0, .ref (ad_ D v)), (1, .int (nI a)), (2, .int (nI t))]) hx hb dX1_addedMiles_1 rfl hl (by decide) rfl (fun ls hl => ?_)
  refine lv_iload_n hx hb dX1_addedMiles_2 rfl (lv_at hl 2 rfl) ?_
  refine lv_istore (lv' := [(4, .int (nI a)), (3, .int (nI 0)), (0, .ref (ad_ D v)), (1, .int (nI a)), (2, .int (nI t))]) hx hb dX1_addedMiles_3 hl (by decide) rfl (fun ls hl => ?_)
  have K5 : ∀ (fuel5 : Nat) (c9 : Nat), (t - (a + c9)) < fuel5 → (a + c9 ≤ t ∨ c9 = 0) → ∀ (H : Heap) (locs : List Loc), va_P D vwCl (g_W D σ) H → va_S (g_A D s.heap.size) s.heap H locs → ∀ ls : Array Slot, lv_has ls 5 [(4, .int (nI (a + c9))), (3, .int (sm_ L a c9)), (0, .ref (ad_ D v)), (1, .int (nI a)), (2, .int (nI t))] → W p l e m_X1_addedMiles_rm s m args below meth c H locs 0 0 Q (F0 m 5 ls []) := by
    intro fuel5
    induction fuel5 with
    | zero => intro c9 hf; exact absurd hf (Nat.not_lt_zero _)
    | succ fuel5 ih5 =>
      intro c9 hf5 hi H locs hP hS ls hl
      refine lv_iload hx hb dX1_addedMiles_5 (lv_at hl 0 rfl) ?_
      refine lv_iload_n hx hb dX1_addedMiles_7 rfl (lv_at hl 4 rfl) ?_
      refine lv_icmp_ge (tgt := 26) hx hb dX1_addedMiles_8 (by decide) (fun h8 => ?_) (fun h8 => ?_)
      · have hb8 := g_le (a := t) (b := a + c9) h8 (by omega) (by omega)
        have hi2 : c9 = t - a := by omega
        refine lv_iload_n hx hb dX1_addedMiles_26 rfl (lv_at hl 1 rfl) ?_
        rw [← hQ]
        exact W.iret (v := sm_ L a c9) hx hb hr (fun te9 hte9 _ => g_fin (⟨by rw [hi2], rfl⟩) hP hS hte9) hS.2.2 dX1_addedMiles_27 hlocks
      · have hb8 := g_nle (a := t) (b := a + c9) h8 (by omega) (by omega)
        refine lv_iload_n hx hb dX1_addedMiles_11 rfl (lv_at hl 1 rfl) ?_
        refine lv_aload_n hx hb dX1_addedMiles_12 rfl (lv_at hl 2 rfl) ?_
        refine lv_iload hx hb dX1_addedMiles_13 (lv_at hl 0 rfl) ?_
        refine g_callV0 (y := yX1_milesAt) (n := 1) (As := [.int (nI (a + c9))]) (rest := [.int (sm_ L a c9)]) hx hb hml hown hts hE hZ hP hS hl.1 (m_X1_milesAtN l D hAD σ v L F G hV (a + c9) (by omega)) k_X1_33 (ci := 1) (by omega) hV.1 rfl rfl rfl rfl rfl ⟨rfl, rfl⟩ ⟨Nat.le_of_ble_eq_true rfl, Nat.le_of_ble_eq_true rfl⟩ (Nat.le_of_ble_eq_true rfl) ⟨Nat.le_of_ble_eq_true rfl, Nat.le_of_ble_eq_true rfl⟩ dX1_addedMiles_15 (fun v1 σ_2 H locs hq hP hS => ?_)
        obtain ⟨rfl, rfl⟩ := hq
        refine W.eq (g2 := F0 m 18 ls [.int (gn_ L (a + c9)), .int (sm_ L a c9)]) rfl ?_
        refine lv_iadd hx hb dX1_addedMiles_18 ?_
        refine lv_istore_n (lv' := [(3, .int ((sm_ L a c9) + (gn_ L (a + c9)))), (4, .int (nI (a + c9))), (0, .ref (ad_ D v)), (1, .int (nI a)), (2, .int (nI t))]) hx hb dX1_addedMiles_19 rfl hl (by decide) rfl (fun ls hl => ?_)
        refine lv_iinc (v := nI (a + c9 + 1)) (lv' := [(4, .int (nI (a + c9 + 1))), (3, .int ((sm_ L a c9) + (gn_ L (a + c9)))), (0, .ref (ad_ D v)), (1, .int (nI a)), (2, .int (nI t))]) hx hb dX1_addedMiles_20 hl (k := 1) rfl (g_inc (a + c9)) (by decide) rfl (fun ls hl => ?_)
        refine lv_goto (tgt := 5) hx hb dX1_addedMiles_23 (by decide) ?_
        exact ih5 (c9 + 1) (by omega) (Or.inl (by omega)) _ _ hP hS ls (lv_sub hl [0, 1, 2, 3, 4] rfl)
  exact K5 ((t - (a + 0)) + 1) 0 (Nat.lt_succ_self _) (Or.inr rfl) _ _ hP hS ls (lv_sub hl [0, 1, 2, 3, 4] rfl)


abbrev m_X1_sharedBits_rm : Room := { frames := 10, cells := 0, slots := 0, locals := 242 }
set_option maxHeartbeats 4000000 in
set_option maxRecDepth 100000 in
theorem m_X1_sharedBits (l : Launch) (D : va_G) (hAD : g_AD D) (σ : Nat → va_E) (v : Nat) (L : g_L) (F G : Nat → Int32) (hV : g_VF D σ v L F G) (a t : Nat) (ht48 : a < 2 ^ 30 ∧ t ≤ 48) : g_M l D yX1_sharedBits cX1_sharedBits 3 (some .int) m_X1_sharedBits_rm [.ref (ad_ D v), .int (nI a), .int (nI t)] σ (fun v1 σ1 => v1 = some (.int (hs_ L a t)) ∧ σ = σ1) := by
  refine g_ofW [(0, .ref (ad_ D v)), (1, .int (nI a)), (2, .int (nI t))] (by decide +kernel) (Nat.le_of_ble_eq_true rfl) rfl ?_
  intro p e s m args below meth c hx hb hr hml hown hlocks hts hE hZ hP hS hnm ls hl
  have hown : s.vm.findClass RX1 = some m.cls := hown
  generalize hQ : MQ _ _ _ _ _ _ _ = Q
  obtain ⟨h0, h1, h2, hFG, hLn, hvv⟩ := id hV
  refine lv_iload_n hx hb dX1_sharedBits_0 rfl (lv_at hl 1 rfl) ?_
  refine lv_iload_n hx hb dX1_sharedBits_1 rfl (lv_at hl 2 rfl) ?_
  refine lv_icmp_lt (tgt := 7) hx hb dX1_sharedBits_2 (by decide) (fun h2 => ?_) (fun h2 => ?_)
  · have hb2 := g_lt (a := a) (b := t) h2 (by omega) (by omega)
    refine lv_bipush (v := nI 15) hx hb dX1_sharedBits_7 (by decide) ?_
    refine lv_aload_n hx hb dX1_sharedBits_9 rfl (lv_at hl 0 rfl) ?_
    refine lv_iload_n hx hb dX1_sharedBits_10 rfl (lv_at hl 1 rfl) ?_
    refine g_callV0 (y := yX1_nameAt) (n := 1) (As := [.int (nI a)]) (rest := [.int (nI 15)]) hx hb hml hown hts hE hZ hP hS hl.1 (m_X1_nameAtN l D hAD σ v L F G hV a (by omega)) k_X1_30 (ci := 1) (by omega) hV.1 rfl rfl rfl rfl rfl ⟨rfl, rfl⟩ ⟨Nat.le_of_ble_eq_true rfl, Nat.le_of_ble_eq_true rfl⟩ (Nat.le_of_ble_eq_true rfl) ⟨Nat.le_of_ble_eq_true rfl, Nat.le_of_ble_eq_true rfl⟩ dX1_sharedBits_11 (fun v1 σ_2 H locs hq hP hS => ?_)
    obtain ⟨rfl, rfl⟩ := hq
    refine W.eq (g2 := F0 m 14 ls [.int (fn_ L a), .int (nI 15)]) rfl ?_
    refine lv_aload_n hx hb dX1_sharedBits_14 rfl (lv_at hl 0 rfl) ?_
    refine lv_iload_n hx hb dX1_sharedBits_15 rfl (lv_at hl 2 rfl) ?_
    refine lv_iconst (v := nI 1) hx hb dX1_sharedBits_16 (by decide) ?_
    refine lv_isub hx hb dX1_sharedBits_17 ?_
    refine g_top (y := nI (t - 1)) (pk_sub (by omega)) ?_
    refine g_callV0 (y := yX1_nameAt) (n := 1) (As := [.int (nI (t - 1))]) (rest := [.int (fn_ L a), .int (nI 15)]) hx hb hml hown hts hE hZ hP hS hl.1 (m_X1_nameAtN l D hAD σ v L F G hV (t - 1) (by omega)) k_X1_30 (ci := 1) (by omega) hV.1 rfl rfl rfl rfl rfl ⟨rfl, rfl⟩ ⟨Nat.le_of_ble_eq_true rfl, Nat.le_of_ble_eq_true rfl⟩ (Nat.le_of_ble_eq_true rfl) ⟨Nat.le_of_ble_eq_true rfl, Nat.le_of_ble_eq_true rfl⟩ dX1_sharedBits_18 (fun v3 σ_4 H locs hq hP hS => ?_)
    obtain ⟨rfl, rfl⟩ := hq
    refine W.eq (g2 := F0 m 21 ls [.int (fn_ L (t - 1)), .int (fn_ L a), .int (nI 15)]) rfl ?_
    refine g_callN0 (y := yX2_firstUnlikeBit) (n := 2) (As := [.int (fn_ L a), .int (fn_ L (t - 1))]) (rest := [.int (nI 15)]) hx hb hml hown hts hE hZ hP hS hl.1 (m_X2_firstUnlikeBit l D hAD σ (fn_ L a) (fn_ L (t - 1))) k_X1_63 rfl rfl ⟨rfl, rfl⟩ ⟨Nat.le_of_ble_eq_true rfl, Nat.le_of_ble_eq_true rfl⟩ (Nat.le_of_ble_eq_true rfl) ⟨Nat.le_of_ble_eq_true rfl, Nat.le_of_ble_eq_true rfl⟩ dX1_sharedBits_21 (fun v5 σ_6 H locs hq hP hS => ?_)
    obtain ⟨rfl, rfl⟩ := hq
    refine W.eq (g2 := F0 m 24 ls [.int (fub_ (fn_ L a) (fn_ L (t - 1))), .int (nI 15)]) rfl ?_
    refine lv_isub hx hb dX1_sharedBits_24 ?_
    rw [← hQ]
    exact W.iret (v := (nI 15) - (fub_ (fn_ L a) (fn_ L (t - 1)))) hx hb hr (fun te9 hte9 _ => g_fin (⟨by first | rw [hs_, if_pos hb2] | rw [hs_, if_neg (by omega)]; rfl, rfl⟩) hP hS hte9) hS.2.2 dX1_sharedBits_25 hlocks
  · have hb2 := g_nlt (a := a) (b := t) h2 (by omega) (by omega)
    refine lv_iconst (v := nI 0) hx hb dX1_sharedBits_5 (by decide) ?_
    rw [← hQ]
    exact W.iret (v := nI 0) hx hb hr (fun te9 hte9 _ => g_fin (⟨by first | rw [hs_, if_pos hb2] | rw [hs_, if_neg (by omega)]; rfl, rfl⟩) hP hS hte9) hS.2.2 dX1_sharedBits_6 hlocks

abbrev m_X1_nearest_rm : Room := { frames := 10, cells := 0, slots := 0, locals := 242 }
set_option maxHeartbeats 4000000 in
set_option maxRecDepth 100000 in
theorem m_X1_nearest (l : Launch) (D : va_G) (hAD : g_AD D) (σ : Nat → va_E) (v : Nat) (L : g_L) (F G : Nat → Int32) (hV : g_VF D σ v L F G) (x : Int32)  : g_M l D yX1_nearest cX1_nearest 4 (some .int) m_X1_nearest_rm [.ref (ad_ D v), .int x] σ (fun v1 σ1 => v1 = some (.int (ne_ L x L.length)) ∧ σ = σ1) := by
  refine g_ofW [(0, .ref (ad_ D v)), (1, .int x)] (by decide +kernel) (Nat.le_of_ble_eq_true rfl) rfl ?_
  intro p e s m args below meth c hx hb hr hml hown hlocks hts hE hZ hP hS hnm ls hl
  have hown : s.vm.findClass RX1 = some m.cls := hown
  generalize hQ : MQ _ _ _ _ _ _ _ = Q
  obtain ⟨h0, h1, h2, hFG, hLn, hvv⟩ := id hV
  refine lv_iconst (v := (-1)) hx hb dX1_nearest_0 (by decide) ?_
  refine lv_istore_n (lv' := [(2, .int ((-1))), (0, .ref (ad_ D v)), (1, .int x)]) hx hb dX1_nearest_1 rfl hl (by decide) rfl (fun ls hl => ?_)
  refine lv_iconst (v := nI 0) hx hb dX1_nearest_2 (by decide) ?_
  refine lv_istore_n (lv' := [(3, .int (nI 0)), (2, .int ((-1))), (0, .ref (ad_ D v)), (1, .int x)]) hx hb dX1_nearest_3 rfl hl (by decide) rfl (fun ls hl => ?_)
  have K4 : ∀ (fuel4 : Nat) (i : Nat), (L.length - i) < fuel4 → (i ≤ L.length) → ∀ (H : Heap) (locs : List Loc), va_P D vwCl (g_W D σ) H → va_S (g_A D s.heap.size) s.heap H locs → ∀ ls : Array Slot, lv_has ls 4 [(3, .int (nI i)), (2, .int (ne_ L x i)), (0, .ref (ad_ D v)), (1, .int x)] → W p l e m_X1_nearest_rm s m args below meth c H locs 0 0 Q (F0 m 4 ls []) := by
    intro fuel4
    induction fuel4 with
    | zero => intro i hf; exact absurd hf (Nat.not_lt_zero _)
    | succ fuel4 ih4 =>
      intro i hf4 hi H locs hP hS ls hl
      refine lv_iload_n hx hb dX1_nearest_4 rfl (lv_at hl 0 rfl) ?_
      refine lv_aload_n hx hb dX1_nearest_5 rfl (lv_at hl 2 rfl) ?_
      refine g_get hx hb hts hE hown hP g_inX1 rfl (by omega) h0 2 (by decide) rfl wf_X1_18 (v := .int (nI L.length)) rfl dX1_nearest_6 ?_
      refine lv_icmp_ge (tgt := 42) hx hb dX1_nearest_9 (by decide) (fun h9 => ?_) (fun h9 => ?_)
      · have hb9 := g_le (a := L.length) (b := i) h9 (by omega) (by omega)
        have hi2 : i = L.length := by omega
        refine lv_iload_n hx hb dX1_nearest_42 rfl (lv_at hl 1 rfl) ?_
        rw [← hQ]
        exact W.iret (v := ne_ L x i) hx hb hr (fun te9 hte9 _ => g_fin (⟨by rw [hi2], rfl⟩) hP hS hte9) hS.2.2 dX1_nearest_43 hlocks
      · have hb9 := g_nle (a := L.length) (b := i) h9 (by omega) (by omega)
        refine lv_iload_n hx hb dX1_nearest_12 rfl (lv_at hl 1 rfl) ?_
        refine lv_iconst (v := (-1)) hx hb dX1_nearest_13 (by decide) ?_
        refine lv_icmp_eq (tgt := 30) hx hb dX1_nearest_14 (by decide) (fun h14 => ?_) (fun h14 => ?_)
        · refine lv_aload_n hx hb dX1_nearest_30 rfl (lv_at hl 2 rfl) ?_
          refine lv_iload_n hx hb dX1_nearest_31 rfl (lv_at hl 0 rfl) ?_
          refine g_callV0 (y := yX1_nameAt) (n := 1) (As := [.int (nI i)]) (rest := []) hx hb hml hown hts hE hZ hP hS hl.1 (m_X1_nameAtN l D hAD σ v L F G hV i (by omega)) k_X1_30 (ci := 1) (by omega) hV.1 rfl rfl rfl rfl rfl ⟨rfl, rfl⟩ ⟨Nat.le_of_ble_eq_true rfl, Nat.le_of_ble_eq_true rfl⟩ (Nat.le_of_ble_eq_true rfl) ⟨Nat.le_of_ble_eq_true rfl, Nat.le_of_ble_eq_true rfl⟩ dX1_nearest_32 (fun v1 σ_2 H locs hq hP hS => ?_)
          obtain ⟨rfl, rfl⟩ := hq
          refine W.eq (g2 := F0 m 35 ls [.int (fn_ L i)]) rfl ?_
          refine lv_istore_n (lv' := [(2, .int (fn_ L i)), (3, .int (nI i)), (0, .ref (ad_ D v)), (1, .int x)]) hx hb dX1_nearest_35 rfl hl (by decide) rfl (fun ls hl => ?_)
          have hne : fn_ L i = ne_ L x (i + 1) := (by rw [show ne_ L x (i + 1) = if ne_ L x i = -1 ∨ fn_ L i ^^^ x < ne_ L x i ^^^ x then fn_ L i else ne_ L x i from rfl, if_pos (by first | exact Or.inl h14 | exact Or.inr (Int32.not_le.mp h27))])
          rw [hne] at hl
          refine lv_iinc (v := nI (i + 1)) (lv' := [(3, .int (nI (i + 1))), (2, .int (ne_ L x (i + 1))), (0, .ref (ad_ D v)), (1, .int x)]) hx hb dX1_nearest_36 hl (k := 1) rfl (g_inc i) (by decide) rfl (fun ls hl => ?_)
          refine lv_goto (tgt := 4) hx hb dX1_nearest_39 (by decide) ?_
          exact ih4 (i + 1) (by omega) (by omega) _ _ hP hS ls (lv_sub hl [0, 1, 2, 3] rfl)
        · refine lv_aload_n hx hb dX1_nearest_17 rfl (lv_at hl 2 rfl) ?_
          refine lv_iload_n hx hb dX1_nearest_18 rfl (lv_at hl 0 rfl) ?_
          refine g_callV0 (y := yX1_nameAt) (n := 1) (As := [.int (nI i)]) (rest := []) hx hb hml hown hts hE hZ hP hS hl.1 (m_X1_nameAtN l D hAD σ v L F G hV i (by omega)) k_X1_30 (ci := 1) (by omega) hV.1 rfl rfl rfl rfl rfl ⟨rfl, rfl⟩ ⟨Nat.le_of_ble_eq_true rfl, Nat.le_of_ble_eq_true rfl⟩ (Nat.le_of_ble_eq_true rfl) ⟨Nat.le_of_ble_eq_true rfl, Nat.le_of_ble_eq_true rfl⟩ dX1_nearest_19 (fun v3 σ_4 H locs hq hP hS => ?_)
          obtain ⟨rfl, rfl⟩ := hq
          refine W.eq (g2 := F0 m 22 ls [.int (fn_ L i)]) rfl ?_
          refine lv_iload_n hx hb dX1_nearest_22 rfl (lv_at hl 3 rfl) ?_
          refine lv_ixor hx hb dX1_nearest_23 ?_
          refine lv_iload_n hx hb dX1_nearest_24 rfl (lv_at hl 1 rfl) ?_
          refine lv_iload_n hx hb dX1_nearest_25 rfl (lv_at hl 3 rfl) ?_
          refine lv_ixor hx hb dX1_nearest_26 ?_
          refine lv_icmp_ge (tgt := 36) hx hb dX1_nearest_27 (by decide) (fun h27 => ?_) (fun h27 => ?_)
          · have h27 := Int32.not_lt.mpr h27
            have hne : ne_ L x i = ne_ L x (i + 1) := (by rw [show ne_ L x (i + 1) = if ne_ L x i = -1 ∨ fn_ L i ^^^ x < ne_ L x i ^^^ x then fn_ L i else ne_ L x i from rfl, if_neg (fun h => h.elim (fun q => h14 q) h27)])
            rw [hne] at hl
            refine lv_iinc (v := nI (i + 1)) (lv' := [(3, .int (nI (i + 1))), (2, .int (ne_ L x (i + 1))), (0, .ref (ad_ D v)), (1, .int x)]) hx hb dX1_nearest_36 hl (k := 0) rfl (g_inc i) (by decide) rfl (fun ls hl => ?_)
            refine lv_goto (tgt := 4) hx hb dX1_nearest_39 (by decide) ?_
            exact ih4 (i + 1) (by omega) (by omega) _ _ hP hS ls (lv_sub hl [0, 1, 2, 3] rfl)
          · refine lv_aload_n hx hb dX1_nearest_30 rfl (lv_at hl 2 rfl) ?_
            refine lv_iload_n hx hb dX1_nearest_31 rfl (lv_at hl 0 rfl) ?_
            refine g_callV0 (y := yX1_nameAt) (n := 1) (As := [.int (nI i)]) (rest := []) hx hb hml hown hts hE hZ hP hS hl.1 (m_X1_nameAtN l D hAD σ v L F G hV i (by omega)) k_X1_30 (ci := 1) (by omega) hV.1 rfl rfl rfl rfl rfl ⟨rfl, rfl⟩ ⟨Nat.le_of_ble_eq_true rfl, Nat.le_of_ble_eq_true rfl⟩ (Nat.le_of_ble_eq_true rfl) ⟨Nat.le_of_ble_eq_true rfl, Nat.le_of_ble_eq_true rfl⟩ dX1_nearest_32 (fun v5 σ_6 H locs hq hP hS => ?_)
            obtain ⟨rfl, rfl⟩ := hq
            refine W.eq (g2 := F0 m 35 ls [.int (fn_ L i)]) rfl ?_
            refine lv_istore_n (lv' := [(2, .int (fn_ L i)), (3, .int (nI i)), (0, .ref (ad_ D v)), (1, .int x)]) hx hb dX1_nearest_35 rfl hl (by decide) rfl (fun ls hl => ?_)
            have hne : fn_ L i = ne_ L x (i + 1) := (by rw [show ne_ L x (i + 1) = if ne_ L x i = -1 ∨ fn_ L i ^^^ x < ne_ L x i ^^^ x then fn_ L i else ne_ L x i from rfl, if_pos (by first | exact Or.inl h14 | exact Or.inr (Int32.not_le.mp h27))])
            rw [hne] at hl
            refine lv_iinc (v := nI (i + 1)) (lv' := [(3, .int (nI (i + 1))), (2, .int (ne_ L x (i + 1))), (0, .ref (ad_ D v)), (1, .int x)]) hx hb dX1_nearest_36 hl (k := 1) rfl (g_inc i) (by decide) rfl (fun ls hl => ?_)
            refine lv_goto (tgt := 4) hx hb dX1_nearest_39 (by decide) ?_
            exact ih4 (i + 1) (by omega) (by omega) _ _ hP hS ls (lv_sub hl [0, 1, 2, 3] rfl)
  exact K4 ((L.length - 0) + 1) 0 (Nat.lt_succ_self _) (Nat.zero_le _) _ _ hP hS ls (lv_sub hl [0, 1, 2, 3] rfl)

abbrev m_X1_farthest_rm : Room := { frames := 10, cells := 0, slots := 0, locals := 242 }
set_option maxHeartbeats 4000000 in
set_option maxRecDepth 100000 in
theorem m_X1_farthest (l : Launch) (D : va_G) (hAD : g_AD D) (σ : Nat → va_E) (v : Nat) (L : g_L) (F G : Nat → Int32) (hV : g_VF D σ v L F G)   : g_M l D yX1_farthest cX1_farthest 4 (some .int) m_X1_farthest_rm [.ref (ad_ D v)] σ (fun v1 σ1 => v1 = some (.int (fa_ L L.length)) ∧ σ = σ1) := by
  refine g_ofW [(0, .ref (ad_ D v))] (by decide +kernel) (Nat.le_of_ble_eq_true rfl) rfl ?_
  intro p e s m args below meth c hx hb hr hml hown hlocks hts hE hZ hP hS hnm ls hl
  have hown : s.vm.findClass RX1 = some m.cls := hown
  generalize hQ : MQ _ _ _ _ _ _ _ = Q
  obtain ⟨h0, h1, h2, hFG, hLn, hvv⟩ := id hV
  refine lv_iconst (v := (-1)) hx hb dX1_farthest_0 (by decide) ?_
  refine lv_istore_n (lv' := [(1, .int ((-1))), (0, .ref (ad_ D v))]) hx hb dX1_farthest_1 rfl hl (by decide) rfl (fun ls hl => ?_)
  refine lv_iconst (v := nI 0) hx hb dX1_farthest_2 (by decide) ?_
  refine lv_istore_n (lv' := [(2, .int (nI 0)), (1, .int ((-1))), (0, .ref (ad_ D v))]) hx hb dX1_farthest_3 rfl hl (by decide) rfl (fun ls hl => ?_)
  have K4 : ∀ (fuel4 : Nat) (i : Nat), (L.length - i) < fuel4 → (i ≤ L.length) → ∀ (H : Heap) (locs : List Loc), va_P D vwCl (g_W D σ) H → va_S (g_A D s.heap.size) s.heap H locs → ∀ ls : Array Slot, lv_has ls 4 [(2, .int (nI i)), (1, .int (fa_ L i)), (0, .ref (ad_ D v))] → W p l e m_X1_farthest_rm s m args below meth c H locs 0 0 Q (F0 m 4 ls []) := by
    intro fuel4
    induction fuel4 with
    | zero => intro i hf; exact absurd hf (Nat.not_lt_zero _)
    | succ fuel4 ih4 =>
      intro i hf4 hi H locs hP hS ls hl
      refine lv_iload_n hx hb dX1_farthest_4 rfl (lv_at hl 0 rfl) ?_
      refine lv_aload_n hx hb dX1_farthest_5 rfl (lv_at hl 2 rfl) ?_
      refine g_get hx hb hts hE hown hP g_inX1 rfl (by omega) h0 2 (by decide) rfl wf_X1_18 (v := .int (nI L.length)) rfl dX1_farthest_6 ?_
      refine lv_icmp_ge (tgt := 52) hx hb dX1_farthest_9 (by decide) (fun h9 => ?_) (fun h9 => ?_)
      · have hb9 := g_le (a := L.length) (b := i) h9 (by omega) (by omega)
        have hi2 : i = L.length := by omega
        refine lv_iload_n hx hb dX1_farthest_52 rfl (lv_at hl 1 rfl) ?_
        rw [← hQ]
        exact W.iret (v := fa_ L i) hx hb hr (fun te9 hte9 _ => g_fin (⟨by rw [hi2], rfl⟩) hP hS hte9) hS.2.2 dX1_farthest_53 hlocks
      · have hb9 := g_nle (a := L.length) (b := i) h9 (by omega) (by omega)
        refine lv_iload_n hx hb dX1_farthest_12 rfl (lv_at hl 0 rfl) ?_
        refine lv_iconst (v := nI 1) hx hb dX1_farthest_13 (by decide) ?_
        refine lv_iadd hx hb dX1_farthest_14 ?_
        refine g_top (y := nI (i + 1)) (nI_add i 1) ?_
        refine lv_istore_n (lv' := [(3, .int (nI (i + 1))), (2, .int (nI i)), (1, .int (fa_ L i)), (0, .ref (ad_ D v))]) hx hb dX1_farthest_15 rfl hl (by decide) rfl (fun ls hl => ?_)
        have K16 : ∀ (fuel16 : Nat) (c9 : Nat), (L.length - c9) < fuel16 → (i + 1 + c9 ≤ L.length) → ∀ (H : Heap) (locs : List Loc), va_P D vwCl (g_W D σ) H → va_S (g_A D s.heap.size) s.heap H locs → ∀ ls : Array Slot, lv_has ls 4 [(3, .int (nI (i + 1 + c9))), (1, .int (fi_ L i (fa_ L i) c9)), (2, .int (nI i)), (0, .ref (ad_ D v))] → W p l e m_X1_farthest_rm s m args below meth c H locs 0 0 Q (F0 m 16 ls []) := by
          intro fuel16
          induction fuel16 with
          | zero => intro c9 hf; exact absurd hf (Nat.not_lt_zero _)
          | succ fuel16 ih16 =>
            intro c9 hf16 hc H locs hP hS ls hl
            refine lv_iload_n hx hb dX1_farthest_16 rfl (lv_at hl 0 rfl) ?_
            refine lv_aload_n hx hb dX1_farthest_17 rfl (lv_at hl 3 rfl) ?_
            refine g_get hx hb hts hE hown hP g_inX1 rfl (by omega) h0 2 (by decide) rfl wf_X1_18 (v := .int (nI L.length)) rfl dX1_farthest_18 ?_
            refine lv_icmp_ge (tgt := 46) hx hb dX1_farthest_21 (by decide) (fun h21 => ?_) (fun h21 => ?_)
            · have hb21 := g_le (a := L.length) (b := i + 1 + c9) h21 (by omega) (by omega)
              have hfa : fi_ L i (fa_ L i) c9 = fa_ L (i + 1) := by rw [show c9 = L.length - (i + 1) by omega]; rfl
              rw [hfa] at hl
              refine lv_iinc (v := nI (i + 1)) (lv' := [(2, .int (nI (i + 1))), (3, .int (nI (i + 1 + c9))), (1, .int (fa_ L (i + 1))), (0, .ref (ad_ D v))]) hx hb dX1_farthest_46 hl (k := 2) rfl (g_inc i) (by decide) rfl (fun ls hl => ?_)
              refine lv_goto (tgt := 4) hx hb dX1_farthest_49 (by decide) ?_
              exact ih4 (i + 1) (by omega) (by omega) _ _ hP hS ls (lv_sub hl [0, 2, 3] rfl)
            · have hb21 := g_nle (a := L.length) (b := i + 1 + c9) h21 (by omega) (by omega)
              refine lv_iload_n hx hb dX1_farthest_24 rfl (lv_at hl 1 rfl) ?_
              refine lv_aload_n hx hb dX1_farthest_25 rfl (lv_at hl 3 rfl) ?_
              refine lv_iload_n hx hb dX1_farthest_26 rfl (lv_at hl 2 rfl) ?_
              refine g_callV0 (y := yX1_nameAt) (n := 1) (As := [.int (nI i)]) (rest := [.int (fi_ L i (fa_ L i) c9)]) hx hb hml hown hts hE hZ hP hS hl.1 (m_X1_nameAtN l D hAD σ v L F G hV i (by omega)) k_X1_30 (ci := 1) (by omega) hV.1 rfl rfl rfl rfl rfl ⟨rfl, rfl⟩ ⟨Nat.le_of_ble_eq_true rfl, Nat.le_of_ble_eq_true rfl⟩ (Nat.le_of_ble_eq_true rfl) ⟨Nat.le_of_ble_eq_true rfl, Nat.le_of_ble_eq_true rfl⟩ dX1_farthest_27 (fun v1 σ_2 H locs hq hP hS => ?_)
              obtain ⟨rfl, rfl⟩ := hq
              refine W.eq (g2 := F0 m 30 ls [.int (fn_ L i), .int (fi_ L i (fa_ L i) c9)]) rfl ?_
              refine lv_aload_n hx hb dX1_farthest_30 rfl (lv_at hl 3 rfl) ?_
              refine lv_iload_n hx hb dX1_farthest_31 rfl (lv_at hl 0 rfl) ?_
              refine g_callV0 (y := yX1_nameAt) (n := 1) (As := [.int (nI (i + 1 + c9))]) (rest := [.int (fn_ L i), .int (fi_ L i (fa_ L i) c9)]) hx hb hml hown hts hE hZ hP hS hl.1 (m_X1_nameAtN l D hAD σ v L F G hV (i + 1 + c9) (by omega)) k_X1_30 (ci := 1) (by omega) hV.1 rfl rfl rfl rfl rfl ⟨rfl, rfl⟩ ⟨Nat.le_of_ble_eq_true rfl, Nat.le_of_ble_eq_true rfl⟩ (Nat.le_of_ble_eq_true rfl) ⟨Nat.le_of_ble_eq_true rfl, Nat.le_of_ble_eq_true rfl⟩ dX1_farthest_32 (fun v3 σ_4 H locs hq hP hS => ?_)
              obtain ⟨rfl, rfl⟩ := hq
              refine W.eq (g2 := F0 m 35 ls [.int (fn_ L (i + 1 + c9)), .int (fn_ L i), .int (fi_ L i (fa_ L i) c9)]) rfl ?_
              refine lv_ixor hx hb dX1_farthest_35 ?_
              refine g_mmax hx hb (hml.trans hl.1.symm) hown hts k_X1_57 k_max ⟨Nat.le_of_ble_eq_true rfl, Nat.le_of_ble_eq_true rfl, by omega, by omega⟩ dX1_farthest_36 ?_
              refine lv_istore_n (lv' := [(1, .int (if fi_ L i (fa_ L i) c9 < (fn_ L i) ^^^ (fn_ L (i + 1 + c9)) then (fn_ L i) ^^^ (fn_ L (i + 1 + c9)) else fi_ L i (fa_ L i) c9)), (3, .int (nI (i + 1 + c9))), (2, .int (nI i)), (0, .ref (ad_ D v))]) hx hb dX1_farthest_39 rfl hl (by decide) rfl (fun ls hl => ?_)
              refine lv_iinc (v := nI (i + 1 + c9 + 1)) (lv' := [(3, .int (nI (i + 1 + c9 + 1))), (1, .int (if fi_ L i (fa_ L i) c9 < (fn_ L i) ^^^ (fn_ L (i + 1 + c9)) then (fn_ L i) ^^^ (fn_ L (i + 1 + c9)) else fi_ L i (fa_ L i) c9)), (2, .int (nI i)), (0, .ref (ad_ D v))]) hx hb dX1_farthest_40 hl (k := 1) rfl (g_inc (i + 1 + c9)) (by decide) rfl (fun ls hl => ?_)
              refine lv_goto (tgt := 16) hx hb dX1_farthest_43 (by decide) ?_
              exact ih16 (c9 + 1) (by omega) (by omega) _ _ hP hS ls (lv_sub hl [0, 1, 2, 3] rfl)
        exact K16 ((L.length - 0) + 1) 0 (Nat.lt_succ_self _) (by omega) _ _ hP hS ls (lv_sub hl [0, 2, 1, 3] rfl)
  exact K4 ((L.length - 0) + 1) 0 (Nat.lt_succ_self _) (Nat.zero_le _) _ _ hP hS ls (lv_sub hl [0, 1, 2] rfl)
