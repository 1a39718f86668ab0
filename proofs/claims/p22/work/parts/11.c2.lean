abbrev m_X1_size_rm : Room := { frames := 8, cells := 0, slots := 0, locals := 200 }
set_option maxHeartbeats 4000000 in
set_option maxRecDepth 100000 in
theorem m_X1_size (l : Launch) (D : va_G) (hAD : g_AD D) (σ : Nat → va_E) (v : Nat) (L : g_L) (F G : Nat → Int32) (hV : g_VF D σ v L F G)   : g_M l D yX1_size cX1_size 1 (some .int) m_X1_size_rm [.ref (ad_ D v)] σ (fun v1 σ1 => v1 = some (.int (nI L.length)) ∧ σ = σ1) := by
  refine g_ofW [(0, .ref (ad_ D v))] (by decide +kernel) (Nat.le_of_ble_eq_true rfl) rfl ?_
  intro p e s m args below meth c hx hb hr hml hown hlocks hts hE hZ hP hS hnm ls hl
  have hown : s.vm.findClass RX1 = some m.cls := hown
  generalize hQ : MQ _ _ _ _ _ _ _ = Q
  obtain ⟨h0, h1, h2, hFG, hLn, hvv⟩ := id hV
  refine lv_aload_n hx hb dX1_size_0 rfl (lv_at hl 0 rfl) ?_
  refine g_get hx hb hts hE hown hP g_inX1 rfl (by omega) h0 2 (by decide) rfl wf_X1_18 (v := .int (nI L.length)) rfl dX1_size_1 ?_
  rw [← hQ]
  exact W.iret (v := nI L.length) hx hb hr (fun te9 hte9 _ => g_fin (⟨rfl, rfl⟩) hP hS hte9) hS.2.2 dX1_size_4 hlocks

abbrev m_X1_nameAt_rm : Room := { frames := 9, cells := 0, slots := 0, locals := 221 }
set_option maxHeartbeats 4000000 in
set_option maxRecDepth 100000 in
theorem m_X1_nameAt (l : Launch) (D : va_G) (hAD : g_AD D) (σ : Nat → va_E) (v : Nat) (L : g_L) (F G : Nat → Int32) (hV : g_VF D σ v L F G) (k : Int32)  : g_M l D yX1_nameAt cX1_nameAt 2 (some .int) m_X1_nameAt_rm [.ref (ad_ D v), .int k] σ (fun v1 σ1 => v1 = some (.int (na_ L k)) ∧ σ = σ1) := by
  refine g_ofW [(0, .ref (ad_ D v)), (1, .int k)] (by decide +kernel) (Nat.le_of_ble_eq_true rfl) rfl ?_
  intro p e s m args below meth c hx hb hr hml hown hlocks hts hE hZ hP hS hnm ls hl
  have hown : s.vm.findClass RX1 = some m.cls := hown
  generalize hQ : MQ _ _ _ _ _ _ _ = Q
  obtain ⟨h0, h1, h2, hFG, hLn, hvv⟩ := id hV
  refine lv_iload_n hx hb dX1_nameAt_0 rfl (lv_at hl 1 rfl) ?_
  refine lv_aload_n hx hb dX1_nameAt_1 rfl (lv_at hl 0 rfl) ?_
  refine g_get hx hb hts hE hown hP g_inX1 rfl (by omega) h0 2 (by decide) rfl wf_X1_18 (v := .int (nI L.length)) rfl dX1_nameAt_2 ?_
  refine lv_icmp_ge (tgt := 19) hx hb dX1_nameAt_5 (by decide) (fun h5 => ?_) (fun h5 => ?_)
  · refine lv_iconst (v := (-1)) hx hb dX1_nameAt_19 (by decide) ?_
    rw [← hQ]
    exact W.iret (v := (-1)) hx hb hr (fun te9 hte9 _ => g_fin (⟨by first | rw [na_out h5 (by omega)] | rw [na_rd h5 hLn (fun j hj => (hFG j hj).1)], rfl⟩) hP hS hte9) hS.2.2 dX1_nameAt_20 hlocks
  · refine lv_aload_n hx hb dX1_nameAt_8 rfl (lv_at hl 0 rfl) ?_
    refine g_get hx hb hts hE hown hP g_inX1 rfl (by omega) h0 0 (by decide) rfl wf_X1_9 (v := .ref (ad_ D (v + 1))) rfl dX1_nameAt_9 ?_
    refine lv_iload_n hx hb dX1_nameAt_12 rfl (lv_at hl 1 rfl) ?_
    refine g_callN0 (y := yX2_read) (n := 2) (As := [.ref (ad_ D (v + 1)), .int k]) (rest := []) hx hb hml hown hts hE hZ hP hS hl.1 (m_X2_read l D hAD σ (v + 1) 48 (F) (k) (by omega) (by decide) h1) k_X1_22 rfl rfl ⟨rfl, rfl⟩ ⟨Nat.le_of_ble_eq_true rfl, Nat.le_of_ble_eq_true rfl⟩ (Nat.le_of_ble_eq_true rfl) ⟨Nat.le_of_ble_eq_true rfl, Nat.le_of_ble_eq_true rfl⟩ dX1_nameAt_13 (fun v1 σ_2 H locs hq hP hS => ?_)
    obtain ⟨rfl, rfl⟩ := hq
    refine W.eq (g2 := F0 m 16 ls [.int (rd_ (F) 48 (k))]) rfl ?_
    refine lv_goto (tgt := 20) hx hb dX1_nameAt_16 (by decide) ?_
    rw [← hQ]
    exact W.iret (v := rd_ (F) 48 (k)) hx hb hr (fun te9 hte9 _ => g_fin (⟨by first | rw [na_out h5 (by omega)] | rw [na_rd h5 hLn (fun j hj => (hFG j hj).1)], rfl⟩) hP hS hte9) hS.2.2 dX1_nameAt_20 hlocks

theorem m_X1_nameAtN (l : Launch) (D : va_G) (hAD : g_AD D) (σ : Nat → va_E) (v : Nat) (L : g_L) (F G : Nat → Int32) (hV : g_VF D σ v L F G) (j : Nat) (hj : j < 2 ^ 31) : g_M l D yX1_nameAt cX1_nameAt 2 (some .int) m_X1_nameAt_rm [.ref (ad_ D v), .int (nI j)] σ (fun v1 σ1 => v1 = some (.int (fn_ L j)) ∧ σ = σ1) := by
  have h := m_X1_nameAt l D hAD σ v L F G hV (nI j)
  rw [na_n hj] at h
  exact h

abbrev m_X1_milesAt_rm : Room := { frames := 9, cells := 0, slots := 0, locals := 221 }
set_option maxHeartbeats 4000000 in
set_option maxRecDepth 100000 in
theorem m_X1_milesAt (l : Launch) (D : va_G) (hAD : g_AD D) (σ : Nat → va_E) (v : Nat) (L : g_L) (F G : Nat → Int32) (hV : g_VF D σ v L F G) (k : Int32)  : g_M l D yX1_milesAt cX1_milesAt 2 (some .int) m_X1_milesAt_rm [.ref (ad_ D v), .int k] σ (fun v1 σ1 => v1 = some (.int (ma_ L k)) ∧ σ = σ1) := by
  refine g_ofW [(0, .ref (ad_ D v)), (1, .int k)] (by decide +kernel) (Nat.le_of_ble_eq_true rfl) rfl ?_
  intro p e s m args below meth c hx hb hr hml hown hlocks hts hE hZ hP hS hnm ls hl
  have hown : s.vm.findClass RX1 = some m.cls := hown
  generalize hQ : MQ _ _ _ _ _ _ _ = Q
  obtain ⟨h0, h1, h2, hFG, hLn, hvv⟩ := id hV
  refine lv_iload_n hx hb dX1_milesAt_0 rfl (lv_at hl 1 rfl) ?_
  refine lv_aload_n hx hb dX1_milesAt_1 rfl (lv_at hl 0 rfl) ?_
  refine g_get hx hb hts hE hown hP g_inX1 rfl (by omega) h0 2 (by decide) rfl wf_X1_18 (v := .int (nI L.length)) rfl dX1_milesAt_2 ?_
  refine lv_icmp_ge (tgt := 19) hx hb dX1_milesAt_5 (by decide) (fun h5 => ?_) (fun h5 => ?_)
  · refine lv_iconst (v := (-1)) hx hb dX1_milesAt_19 (by decide) ?_
    rw [← hQ]
    exact W.iret (v := (-1)) hx hb hr (fun te9 hte9 _ => g_fin (⟨by first | rw [ma_out h5 (by omega)] | rw [ma_rd h5 hLn (fun j hj => (hFG j hj).2)], rfl⟩) hP hS hte9) hS.2.2 dX1_milesAt_20 hlocks
  · refine lv_aload_n hx hb dX1_milesAt_8 rfl (lv_at hl 0 rfl) ?_
    refine g_get hx hb hts hE hown hP g_inX1 rfl (by omega) h0 1 (by decide) rfl wf_X1_15 (v := .ref (ad_ D (v + 2))) rfl dX1_milesAt_9 ?_
    refine lv_iload_n hx hb dX1_milesAt_12 rfl (lv_at hl 1 rfl) ?_
    refine g_callN0 (y := yX2_read) (n := 2) (As := [.ref (ad_ D (v + 2)), .int k]) (rest := []) hx hb hml hown hts hE hZ hP hS hl.1 (m_X2_read l D hAD σ (v + 2) 48 (G) (k) (by omega) (by decide) h2) k_X1_22 rfl rfl ⟨rfl, rfl⟩ ⟨Nat.le_of_ble_eq_true rfl, Nat.le_of_ble_eq_true rfl⟩ (Nat.le_of_ble_eq_true rfl) ⟨Nat.le_of_ble_eq_true rfl, Nat.le_of_ble_eq_true rfl⟩ dX1_milesAt_13 (fun v1 σ_2 H locs hq hP hS => ?_)
    obtain ⟨rfl, rfl⟩ := hq
    refine W.eq (g2 := F0 m 16 ls [.int (rd_ (G) 48 (k))]) rfl ?_
    refine lv_goto (tgt := 20) hx hb dX1_milesAt_16 (by decide) ?_
    rw [← hQ]
    exact W.iret (v := rd_ (G) 48 (k)) hx hb hr (fun te9 hte9 _ => g_fin (⟨by first | rw [ma_out h5 (by omega)] | rw [ma_rd h5 hLn (fun j hj => (hFG j hj).2)], rfl⟩) hP hS hte9) hS.2.2 dX1_milesAt_20 hlocks

theorem m_X1_milesAtN (l : Launch) (D : va_G) (hAD : g_AD D) (σ : Nat → va_E) (v : Nat) (L : g_L) (F G : Nat → Int32) (hV : g_VF D σ v L F G) (j : Nat) (hj : j < 2 ^ 31) : g_M l D yX1_milesAt cX1_milesAt 2 (some .int) m_X1_milesAt_rm [.ref (ad_ D v), .int (nI j)] σ (fun v1 σ1 => v1 = some (.int (gn_ L j)) ∧ σ = σ1) := by
  have h := m_X1_milesAt l D hAD σ v L F G hV (nI j)
  rw [ma_n hj] at h
  exact h

abbrev m_X1_smallerThan_rm : Room := { frames := 9, cells := 0, slots := 0, locals := 221 }
set_option maxHeartbeats 4000000 in
set_option maxRecDepth 100000 in
theorem m_X1_smallerThan (l : Launch) (D : va_G) (hAD : g_AD D) (σ : Nat → va_E) (v : Nat) (L : g_L) (F G : Nat → Int32) (hV : g_VF D σ v L F G) (x : Int32)  : g_M l D yX1_smallerThan cX1_smallerThan 3 (some .int) m_X1_smallerThan_rm [.ref (ad_ D v), .int x] σ (fun v1 σ1 => v1 = some (.int (nI (rk_ L x))) ∧ σ = σ1) := by
  refine g_ofW [(0, .ref (ad_ D v)), (1, .int x)] (by decide +kernel) (Nat.le_of_ble_eq_true rfl) rfl ?_
  intro p e s m args below meth c hx hb hr hml hown hlocks hts hE hZ hP hS hnm ls hl
  have hown : s.vm.findClass RX1 = some m.cls := hown
  generalize hQ : MQ _ _ _ _ _ _ _ = Q
  obtain ⟨h0, h1, h2, hFG, hLn, hvv⟩ := id hV
  refine lv_iconst (v := nI 0) hx hb dX1_smallerThan_0 (by decide) ?_
  refine lv_istore_n (lv' := [(2, .int (nI 0)), (0, .ref (ad_ D v)), (1, .int x)]) hx hb dX1_smallerThan_1 rfl hl (by decide) rfl (fun ls hl => ?_)
  have K2 : ∀ (fuel2 : Nat) (i : Nat), (L.length - i) < fuel2 → (i ≤ L.length) → (∀ j, j < i → fn_ L j < x) → ∀ (H : Heap) (locs : List Loc), va_P D vwCl (g_W D σ) H → va_S (g_A D s.heap.size) s.heap H locs → ∀ ls : Array Slot, lv_has ls 3 [(2, .int (nI i)), (0, .ref (ad_ D v)), (1, .int x)] → W p l e m_X1_smallerThan_rm s m args below meth c H locs 0 0 Q (F0 m 2 ls []) := by
    intro fuel2
    induction fuel2 with
    | zero => intro i hf; exact absurd hf (Nat.not_lt_zero _)
    | succ fuel2 ih2 =>
      intro i hf2 hi hlt H locs hP hS ls hl
      refine lv_iload_n hx hb dX1_smallerThan_2 rfl (lv_at hl 0 rfl) ?_
      refine lv_aload_n hx hb dX1_smallerThan_3 rfl (lv_at hl 1 rfl) ?_
      refine g_get hx hb hts hE hown hP g_inX1 rfl (by omega) h0 2 (by decide) rfl wf_X1_18 (v := .int (nI L.length)) rfl dX1_smallerThan_4 ?_
      refine lv_icmp_ge (tgt := 28) hx hb dX1_smallerThan_7 (by decide) (fun h7 => ?_) (fun h7 => ?_)
      · have hb7 := g_le (a := L.length) (b := i) h7 (by omega) (by omega)
        refine lv_iload_n hx hb dX1_smallerThan_28 rfl (lv_at hl 0 rfl) ?_
        rw [← hQ]
        exact W.iret (v := nI i) hx hb hr (fun te9 hte9 _ => g_fin (⟨by first | rw [rk_eq hi hlt (fun h => by omega)] | rw [rk_eq hi hlt (fun _ => Int32.not_lt.mpr h19)], rfl⟩) hP hS hte9) hS.2.2 dX1_smallerThan_29 hlocks
      · have hb7 := g_nle (a := L.length) (b := i) h7 (by omega) (by omega)
        refine lv_aload_n hx hb dX1_smallerThan_10 rfl (lv_at hl 1 rfl) ?_
        refine g_get hx hb hts hE hown hP g_inX1 rfl (by omega) h0 0 (by decide) rfl wf_X1_9 (v := .ref (ad_ D (v + 1))) rfl dX1_smallerThan_11 ?_
        refine lv_iload_n hx hb dX1_smallerThan_14 rfl (lv_at hl 0 rfl) ?_
        refine g_callN0 (y := yX2_read) (n := 2) (As := [.ref (ad_ D (v + 1)), .int (nI i)]) (rest := []) hx hb hml hown hts hE hZ hP hS hl.1 (m_X2_read l D hAD σ (v + 1) 48 (F) (nI i) (by omega) (by decide) h1) k_X1_22 rfl rfl ⟨rfl, rfl⟩ ⟨Nat.le_of_ble_eq_true rfl, Nat.le_of_ble_eq_true rfl⟩ (Nat.le_of_ble_eq_true rfl) ⟨Nat.le_of_ble_eq_true rfl, Nat.le_of_ble_eq_true rfl⟩ dX1_smallerThan_15 (fun v1 σ_2 H locs hq hP hS => ?_)
        obtain ⟨rfl, rfl⟩ := hq
        refine W.eq (g2 := F0 m 18 ls [.int (rd_ (F) 48 (nI i))]) rfl ?_
        refine g_top (y := fn_ L i) ((rd_in (by omega) (by decide)).trans (hFG i (by omega)).1) ?_
        refine lv_iload_n hx hb dX1_smallerThan_18 rfl (lv_at hl 2 rfl) ?_
        refine lv_icmp_ge (tgt := 28) hx hb dX1_smallerThan_19 (by decide) (fun h19 => ?_) (fun h19 => ?_)
        · refine lv_iload_n hx hb dX1_smallerThan_28 rfl (lv_at hl 0 rfl) ?_
          rw [← hQ]
          exact W.iret (v := nI i) hx hb hr (fun te9 hte9 _ => g_fin (⟨by first | rw [rk_eq hi hlt (fun h => by omega)] | rw [rk_eq hi hlt (fun _ => Int32.not_lt.mpr h19)], rfl⟩) hP hS hte9) hS.2.2 dX1_smallerThan_29 hlocks
        · refine lv_iinc (v := nI (i + 1)) (lv' := [(2, .int (nI (i + 1))), (0, .ref (ad_ D v)), (1, .int x)]) hx hb dX1_smallerThan_22 hl (k := 0) rfl (g_inc i) (by decide) rfl (fun ls hl => ?_)
          refine lv_goto (tgt := 2) hx hb dX1_smallerThan_25 (by decide) ?_
          exact ih2 (i + 1) (by omega) (by omega) (fun j hj => by rcases Nat.lt_succ_iff_lt_or_eq.mp hj with q | q; exact hlt j q; rw [q]; exact Int32.not_le.mp h19) _ _ hP hS ls (lv_sub hl [0, 1, 2] rfl)
  exact K2 ((L.length - 0) + 1) 0 (Nat.lt_succ_self _) (Nat.zero_le _) (fun j hj => absurd hj (Nat.not_lt_zero j)) _ _ hP hS ls (lv_sub hl [0, 1, 2] rfl)

abbrev m_X1_milesOf_rm : Room := { frames := 10, cells := 0, slots := 0, locals := 243 }
set_option maxHeartbeats 4000000 in
set_option maxRecDepth 100000 in
theorem m_X1_milesOf (l : Launch) (D : va_G) (hAD : g_AD D) (σ : Nat → va_E) (v : Nat) (L : g_L) (F G : Nat → Int32) (hV : g_VF D σ v L F G) (x : Int32)  : g_M l D yX1_milesOf cX1_milesOf 3 (some .int) m_X1_milesOf_rm [.ref (ad_ D v), .int x] σ (fun v1 σ1 => v1 = some (.int (mo_ L x)) ∧ σ = σ1) := by
  refine g_ofW [(0, .ref (ad_ D v)), (1, .int x)] (by decide +kernel) (Nat.le_of_ble_eq_true rfl) rfl ?_
  intro p e s m args below meth c hx hb hr hml hown hlocks hts hE hZ hP hS hnm ls hl
  have hown : s.vm.findClass RX1 = some m.cls := hown
  generalize hQ : MQ _ _ _ _ _ _ _ = Q
  obtain ⟨h0, h1, h2, hFG, hLn, hvv⟩ := id hV
  have hrk := rk_le L x
  refine lv_aload_n hx hb dX1_milesOf_0 rfl (lv_at hl 0 rfl) ?_
  refine lv_iload_n hx hb dX1_milesOf_1 rfl (lv_at hl 1 rfl) ?_
  refine g_callV0 (y := yX1_smallerThan) (n := 1) (As := [.int x]) (rest := []) hx hb hml hown hts hE hZ hP hS hl.1 (m_X1_smallerThan l D hAD σ v L F G hV (x)) k_X1_26 (ci := 1) (by omega) hV.1 rfl rfl rfl rfl rfl ⟨rfl, rfl⟩ ⟨Nat.le_of_ble_eq_true rfl, Nat.le_of_ble_eq_true rfl⟩ (Nat.le_of_ble_eq_true rfl) ⟨Nat.le_of_ble_eq_true rfl, Nat.le_of_ble_eq_true rfl⟩ dX1_milesOf_2 (fun v1 σ_2 H locs hq hP hS => ?_)
  obtain ⟨rfl, rfl⟩ := hq
  refine W.eq (g2 := F0 m 5 ls [.int (nI (rk_ L (x)))]) rfl ?_
  refine lv_istore_n (lv' := [(2, .int (nI (rk_ L (x)))), (0, .ref (ad_ D v)), (1, .int x)]) hx hb dX1_milesOf_5 rfl hl (by decide) rfl (fun ls hl => ?_)
  refine lv_aload_n hx hb dX1_milesOf_6 rfl (lv_at hl 1 rfl) ?_
  refine lv_iload_n hx hb dX1_milesOf_7 rfl (lv_at hl 0 rfl) ?_
  refine g_callV0 (y := yX1_nameAt) (n := 1) (As := [.int (nI (rk_ L (x)))]) (rest := []) hx hb hml hown hts hE hZ hP hS hl.1 (m_X1_nameAtN l D hAD σ v L F G hV (rk_ L (x)) (by omega)) k_X1_30 (ci := 1) (by omega) hV.1 rfl rfl rfl rfl rfl ⟨rfl, rfl⟩ ⟨Nat.le_of_ble_eq_true rfl, Nat.le_of_ble_eq_true rfl⟩ (Nat.le_of_ble_eq_true rfl) ⟨Nat.le_of_ble_eq_true rfl, Nat.le_of_ble_eq_true rfl⟩ dX1_milesOf_8 (fun v3 σ_4 H locs hq hP hS => ?_)
  obtain ⟨rfl, rfl⟩ := hq
  refine W.eq (g2 := F0 m 11 ls [.int (fn_ L (rk_ L (x)))]) rfl ?_
  refine lv_iload_n hx hb dX1_milesOf_11 rfl (lv_at hl 2 rfl) ?_
  refine lv_icmp_ne (tgt := 23) hx hb dX1_milesOf_12 (by decide) (fun h12 => ?_) (fun h12 => ?_)
  · refine lv_iconst (v := (-1)) hx hb dX1_milesOf_23 (by decide) ?_
    rw [← hQ]
    exact W.iret (v := (-1)) hx hb hr (fun te9 hte9 _ => g_fin (⟨by first | rw [mo_, if_pos h12] | rw [mo_, if_neg h12], rfl⟩) hP hS hte9) hS.2.2 dX1_milesOf_24 hlocks
  · refine lv_aload_n hx hb dX1_milesOf_15 rfl (lv_at hl 1 rfl) ?_
    refine lv_iload_n hx hb dX1_milesOf_16 rfl (lv_at hl 0 rfl) ?_
    refine g_callV0 (y := yX1_milesAt) (n := 1) (As := [.int (nI (rk_ L (x)))]) (rest := []) hx hb hml hown hts hE hZ hP hS hl.1 (m_X1_milesAtN l D hAD σ v L F G hV (rk_ L (x)) (by omega)) k_X1_33 (ci := 1) (by omega) hV.1 rfl rfl rfl rfl rfl ⟨rfl, rfl⟩ ⟨Nat.le_of_ble_eq_true rfl, Nat.le_of_ble_eq_true rfl⟩ (Nat.le_of_ble_eq_true rfl) ⟨Nat.le_of_ble_eq_true rfl, Nat.le_of_ble_eq_true rfl⟩ dX1_milesOf_17 (fun v5 σ_6 H locs hq hP hS => ?_)
    obtain ⟨rfl, rfl⟩ := hq
    refine W.eq (g2 := F0 m 20 ls [.int (gn_ L (rk_ L (x)))]) rfl ?_
    refine lv_goto (tgt := 24) hx hb dX1_milesOf_20 (by decide) ?_
    rw [← hQ]
    exact W.iret (v := gn_ L (rk_ L (x))) hx hb hr (fun te9 hte9 _ => g_fin (⟨by first | rw [mo_, if_pos h12] | rw [mo_, if_neg h12], rfl⟩) hP hS hte9) hS.2.2 dX1_milesOf_24 hlocks

abbrev m_X1_namesAlsoIn_rm : Room := { frames := 11, cells := 0, slots := 0, locals := 265 }
set_option maxHeartbeats 4000000 in
set_option maxRecDepth 100000 in
theorem m_X1_namesAlsoIn (l : Launch) (D : va_G) (hAD : g_AD D) (σ : Nat → va_E) (v : Nat) (L : g_L) (F G : Nat → Int32) (hV : g_VF D σ v L F G) (w : Nat) (M : g_L) (F2 G2 : Nat → Int32) (hV2 : g_VF D σ w M F2 G2) : g_M l D yX1_namesAlsoIn cX1_namesAlsoIn 4 (some .int) m_X1_namesAlsoIn_rm [.ref (ad_ D v), .ref (ad_ D w)] σ (fun v1 σ1 => v1 = some (.int (nI (cm_ L M L.length))) ∧ σ = σ1) := by
  refine g_ofW [(0, .ref (ad_ D v)), (1, .ref (ad_ D w))] (by decide +kernel) (Nat.le_of_ble_eq_true rfl) rfl ?_
  intro p e s m args below meth c hx hb hr hml hown hlocks hts hE hZ hP hS hnm ls hl
  have hown : s.vm.findClass RX1 = some m.cls := hown
  generalize hQ : MQ _ _ _ _ _ _ _ = Q
  obtain ⟨h0, h1, h2, hFG, hLn, hvv⟩ := id hV
  have hvv2 := hV2.2.2.2.2.2
  refine lv_iconst (v := nI 0) hx hb dX1_namesAlsoIn_0 (by decide) ?_
  refine lv_istore_n (lv' := [(2, .int (nI 0)), (0, .ref (ad_ D v)), (1, .ref (ad_ D w))]) hx hb dX1_namesAlsoIn_1 rfl hl (by decide) rfl (fun ls hl => ?_)
  refine lv_iconst (v := nI 0) hx hb dX1_namesAlsoIn_2 (by decide) ?_
  refine lv_istore_n (lv' := [(3, .int (nI 0)), (2, .int (nI 0)), (0, .ref (ad_ D v)), (1, .ref (ad_ D w))]) hx hb dX1_namesAlsoIn_3 rfl hl (by decide) rfl (fun ls hl => ?_)
  have K4 : ∀ (fuel4 : Nat) (i : Nat), (L.length - i) < fuel4 → (i ≤ L.length) → ∀ (H : Heap) (locs : List Loc), va_P D vwCl (g_W D σ) H → va_S (g_A D s.heap.size) s.heap H locs → ∀ ls : Array Slot, lv_has ls 4 [(3, .int (nI i)), (2, .int (nI (cm_ L M i))), (0, .ref (ad_ D v)), (1, .ref (ad_ D w))] → W p l e m_X1_namesAlsoIn_rm s m args below meth c H locs 0 0 Q (F0 m 4 ls []) := by
    intro fuel4
    induction fuel4 with
    | zero => intro i hf; exact absurd hf (Nat.not_lt_zero _)
    | succ fuel4 ih4 =>
      intro i hf4 hi H locs hP hS ls hl
      refine lv_iload_n hx hb dX1_namesAlsoIn_4 rfl (lv_at hl 0 rfl) ?_
      refine lv_aload_n hx hb dX1_namesAlsoIn_5 rfl (lv_at hl 2 rfl) ?_
      refine g_get hx hb hts hE hown hP g_inX1 rfl (by omega) h0 2 (by decide) rfl wf_X1_18 (v := .int (nI L.length)) rfl dX1_namesAlsoIn_6 ?_
      refine lv_icmp_ge (tgt := 34) hx hb dX1_namesAlsoIn_9 (by decide) (fun h9 => ?_) (fun h9 => ?_)
      · have hb9 := g_le (a := L.length) (b := i) h9 (by omega) (by omega)
        have hi2 : i = L.length := by omega
        refine lv_iload_n hx hb dX1_namesAlsoIn_34 rfl (lv_at hl 1 rfl) ?_
        rw [← hQ]
        exact W.iret (v := nI (cm_ L M i)) hx hb hr (fun te9 hte9 _ => g_fin (⟨by rw [hi2], rfl⟩) hP hS hte9) hS.2.2 dX1_namesAlsoIn_35 hlocks
      · have hb9 := g_nle (a := L.length) (b := i) h9 (by omega) (by omega)
        refine lv_aload_n hx hb dX1_namesAlsoIn_12 rfl (lv_at hl 3 rfl) ?_
        refine lv_aload_n hx hb dX1_namesAlsoIn_13 rfl (lv_at hl 2 rfl) ?_
        refine lv_iload_n hx hb dX1_namesAlsoIn_14 rfl (lv_at hl 0 rfl) ?_
        refine g_callV0 (y := yX1_nameAt) (n := 1) (As := [.int (nI i)]) (rest := [.ref (ad_ D w)]) hx hb hml hown hts hE hZ hP hS hl.1 (m_X1_nameAtN l D hAD σ v L F G hV i (by omega)) k_X1_30 (ci := 1) (by omega) hV.1 rfl rfl rfl rfl rfl ⟨rfl, rfl⟩ ⟨Nat.le_of_ble_eq_true rfl, Nat.le_of_ble_eq_true rfl⟩ (Nat.le_of_ble_eq_true rfl) ⟨Nat.le_of_ble_eq_true rfl, Nat.le_of_ble_eq_true rfl⟩ dX1_namesAlsoIn_15 (fun v1 σ_2 H locs hq hP hS => ?_)
        obtain ⟨rfl, rfl⟩ := hq
        refine W.eq (g2 := F0 m 18 ls [.int (fn_ L i), .ref (ad_ D w)]) rfl ?_
        refine g_callV0 (y := yX1_milesOf) (n := 1) (As := [.int (fn_ L i)]) (rest := []) hx hb hml hown hts hE hZ hP hS hl.1 (m_X1_milesOf l D hAD σ w M F2 G2 hV2 (fn_ L i)) k_X1_36 (ci := 1) (by omega) hV2.1 rfl rfl rfl rfl rfl ⟨rfl, rfl⟩ ⟨Nat.le_of_ble_eq_true rfl, Nat.le_of_ble_eq_true rfl⟩ (Nat.le_of_ble_eq_true rfl) ⟨Nat.le_of_ble_eq_true rfl, Nat.le_of_ble_eq_true rfl⟩ dX1_namesAlsoIn_18 (fun v3 σ_4 H locs hq hP hS => ?_)
        obtain ⟨rfl, rfl⟩ := hq
        refine W.eq (g2 := F0 m 21 ls [.int (mo_ M (fn_ L i))]) rfl ?_
        refine lv_iconst (v := (-1)) hx hb dX1_namesAlsoIn_21 (by decide) ?_
        refine lv_icmp_eq (tgt := 28) hx hb dX1_namesAlsoIn_22 (by decide) (fun h22 => ?_) (fun h22 => ?_)
        · have hcm := (show cm_ L M (i + 1) = cm_ L M i by rw [cm_, if_pos h22]; rfl)
          rw [← hcm] at hl
          refine lv_iinc (v := nI (i + 1)) (lv' := [(3, .int (nI (i + 1))), (2, .int (nI (cm_ L M (i + 1)))), (0, .ref (ad_ D v)), (1, .ref (ad_ D w))]) hx hb dX1_namesAlsoIn_28 hl (k := 0) rfl (g_inc i) (by decide) rfl (fun ls hl => ?_)
          refine lv_goto (tgt := 4) hx hb dX1_namesAlsoIn_31 (by decide) ?_
          exact ih4 (i + 1) (by omega) (by omega) _ _ hP hS ls (lv_sub hl [0, 1, 2, 3] rfl)
        · refine lv_iinc (v := nI (cm_ L M i + 1)) (lv' := [(2, .int (nI (cm_ L M i + 1))), (3, .int (nI i)), (0, .ref (ad_ D v)), (1, .ref (ad_ D w))]) hx hb dX1_namesAlsoIn_25 hl (k := 1) rfl (g_inc (cm_ L M i)) (by decide) rfl (fun ls hl => ?_)
          have hcm := (show cm_ L M (i + 1) = cm_ L M i + 1 by rw [cm_, if_neg h22])
          rw [← hcm] at hl
          refine lv_iinc (v := nI (i + 1)) (lv' := [(3, .int (nI (i + 1))), (2, .int (nI (cm_ L M (i + 1)))), (0, .ref (ad_ D v)), (1, .ref (ad_ D w))]) hx hb dX1_namesAlsoIn_28 hl (k := 1) rfl (g_inc i) (by decide) rfl (fun ls hl => ?_)
          refine lv_goto (tgt := 4) hx hb dX1_namesAlsoIn_31 (by decide) ?_
          exact ih4 (i + 1) (by omega) (by omega) _ _ hP hS ls (lv_sub hl [0, 1, 2, 3] rfl)
  exact K4 ((L.length - 0) + 1) 0 (Nat.lt_succ_self _) (Nat.zero_le _) _ _ hP hS ls (lv_sub hl [0, 1, 2, 3] rfl)

abbrev m_X1_makeRoomAt_rm : Room := { frames := 9, cells := 0, slots := 0, locals := 222 }
set_option maxHeartbeats 4000000 in
set_option maxRecDepth 100000 in
theorem m_X1_makeRoomAt (l : Launch) (D : va_G) (hAD : g_AD D) (σ : Nat → va_E) (v n k : Nat) (F G : Nat → Int32) (h0 : σ v = .inr (1, [.ref (ad_ D (v + 1)), .ref (ad_ D (v + 2)), .int (nI n)])) (h1 : σ (v + 1) = .inl (g_cI D, 48, .inl F)) (h2 : σ (v + 2) = .inl (g_cI D, 48, .inl G)) (hvv : v + 2 < 20) (hn : n < 48) (hk : k ≤ n) : g_M l D yX1_makeRoomAt cX1_makeRoomAt 3 none m_X1_makeRoomAt_rm [.ref (ad_ D v), .int (nI k)] σ (fun v1 σ1 => v1 = none ∧ σ1 v = .inr (1, [.ref (ad_ D (v + 1)), .ref (ad_ D (v + 2)), .int (nI (n + 1))]) ∧ σ1 (v + 1) = .inl (g_cI D, 48, .inl (sh_ F k n)) ∧ σ1 (v + 2) = .inl (g_cI D, 48, .inl (sh_ G k n)) ∧ g_off v (v + 2) σ σ1) := by
  refine g_ofW [(0, .ref (ad_ D v)), (1, .int (nI k))] (by decide +kernel) (Nat.le_of_ble_eq_true rfl) rfl ?_
  intro p e s m args below meth c hx hb hr hml hown hlocks hts hE hZ hP hS hnm ls hl
  have hown : s.vm.findClass RX1 = some m.cls := hown
  generalize hQ : MQ _ _ _ _ _ _ _ = Q
  refine lv_aload_n hx hb dX1_makeRoomAt_0 rfl (lv_at hl 0 rfl) ?_
  refine g_get hx hb hts hE hown hP g_inX1 rfl (by omega) h0 2 (by decide) rfl wf_X1_18 (v := .int (nI n)) rfl dX1_makeRoomAt_1 ?_
  refine lv_istore_n (lv' := [(2, .int (nI n)), (0, .ref (ad_ D v)), (1, .int (nI k))]) hx hb dX1_makeRoomAt_4 rfl hl (by decide) rfl (fun ls hl => ?_)
  have K5 : ∀ (fuel5 : Nat) (j : Nat) (σ2 : Nat → va_E), (j) < fuel5 → (k ≤ j ∧ j ≤ n) → (σ2 v = .inr (1, [.ref (ad_ D (v + 1)), .ref (ad_ D (v + 2)), .int (nI n)])) → (σ2 (v + 1) = .inl (g_cI D, 48, .inl (sh_ F j n))) → (σ2 (v + 2) = .inl (g_cI D, 48, .inl (sh_ G j n))) → (g_off v (v + 2) σ σ2) → ∀ (H : Heap) (locs : List Loc), va_P D vwCl (g_W D σ2) H → va_S (g_A D s.heap.size) s.heap H locs → ∀ ls : Array Slot, lv_has ls 3 [(2, .int (nI j)), (0, .ref (ad_ D v)), (1, .int (nI k))] → W p l e m_X1_makeRoomAt_rm s m args below meth c H locs 0 0 Q (F0 m 5 ls []) := by
    intro fuel5
    induction fuel5 with
    | zero => intro j σ2 hf; exact absurd hf (Nat.not_lt_zero _)
    | succ fuel5 ih5 =>
      intro j σ2 hf5 hj i0 i1 i2 io H locs hP hS ls hl
      refine lv_iload_n hx hb dX1_makeRoomAt_5 rfl (lv_at hl 0 rfl) ?_
      refine lv_iload_n hx hb dX1_makeRoomAt_6 rfl (lv_at hl 2 rfl) ?_
      refine lv_icmp_le (tgt := 52) hx hb dX1_makeRoomAt_7 (by decide) (fun h7 => ?_) (fun h7 => ?_)
      · have hb7 := g_le (a := j) (b := k) h7 (by omega) (by omega)
        refine lv_aload_n hx hb dX1_makeRoomAt_52 rfl (lv_at hl 1 rfl) ?_
        refine lv_dup hx hb dX1_makeRoomAt_53 rfl ?_
        refine g_get hx hb hts hE hown hP g_inX1 rfl (by omega) i0 2 (by decide) rfl wf_X1_18 (v := .int (nI n)) rfl dX1_makeRoomAt_54 ?_
        refine lv_iconst (v := nI 1) hx hb dX1_makeRoomAt_57 (by decide) ?_
        refine lv_iadd hx hb dX1_makeRoomAt_58 ?_
        refine g_top (y := nI (n + 1)) (nI_add n 1) ?_
        refine g_put hx hb hts hE hown hAD hP hS g_inX1 tyX1 tyX1_ok nmX1 rfl (by omega) i0 2 (by decide) rfl rfl (by decide +kernel) wf_X1_18 (v := nI (n + 1)) (Nat.le_of_ble_eq_true rfl) dX1_makeRoomAt_59 (fun H locs hP hS => ?_)
        obtain ⟨σ_1, hσ2⟩ : ∃ z : Nat → va_E, z = va_up σ2 v (.inr (1, [.ref (ad_ D (v + 1)), .ref (ad_ D (v + 2)), .int (nI (n + 1))])) := ⟨_, rfl⟩
        have hP : va_P D vwCl (g_W D σ_1) H := by rw [hσ2]; exact hP
        have hc3 : σ_1 v = .inr (1, [.ref (ad_ D (v + 1)), .ref (ad_ D (v + 2)), .int (nI (n + 1))]) := by rw [hσ2]; exact g_ups
        have hc4 := (by rw [hσ2]; exact g_upn i1 (by omega) : σ_1 (v + 1) = .inl (g_cI D, 48, .inl (sh_ F j n)))
        have hc5 := (by rw [hσ2]; exact g_upn i2 (by omega) : σ_1 (v + 2) = .inl (g_cI D, 48, .inl (sh_ G j n)))
        have ho6 : g_off v (v + 2) σ σ_1 := by rw [hσ2]; exact g_off.up io (by omega) (by omega)
        have hjk : j = k := by omega
        subst hjk
        rw [← hQ]
        exact W.vret hx hb hr (fun te9 hte9 _ => g_fin (⟨rfl, hc3, hc4, hc5, ho6⟩) hP hS hte9) hS.2.2 dX1_makeRoomAt_62 hlocks
      · have hb7 := g_nle (a := j) (b := k) h7 (by omega) (by omega)
        refine lv_aload_n hx hb dX1_makeRoomAt_10 rfl (lv_at hl 1 rfl) ?_
        refine g_get hx hb hts hE hown hP g_inX1 rfl (by omega) i0 0 (by decide) rfl wf_X1_9 (v := .ref (ad_ D (v + 1))) rfl dX1_makeRoomAt_11 ?_
        refine lv_iload_n hx hb dX1_makeRoomAt_14 rfl (lv_at hl 0 rfl) ?_
        refine lv_aload_n hx hb dX1_makeRoomAt_15 rfl (lv_at hl 1 rfl) ?_
        refine g_get hx hb hts hE hown hP g_inX1 rfl (by omega) i0 0 (by decide) rfl wf_X1_9 (v := .ref (ad_ D (v + 1))) rfl dX1_makeRoomAt_16 ?_
        refine lv_iload_n hx hb dX1_makeRoomAt_19 rfl (lv_at hl 0 rfl) ?_
        refine lv_iconst (v := nI 1) hx hb dX1_makeRoomAt_20 (by decide) ?_
        refine lv_isub hx hb dX1_makeRoomAt_21 ?_
        refine g_top (y := nI (j - 1)) (pk_sub (by omega)) ?_
        refine g_callN0 (y := yX2_read) (n := 2) (As := [.ref (ad_ D (v + 1)), .int (nI (j - 1))]) (rest := [.int (nI j), .ref (ad_ D (v + 1))]) hx hb hml hown hts hE hZ hP hS hl.1 (m_X2_read l D hAD σ2 (v + 1) 48 (sh_ F j n) (nI (j - 1)) (by omega) (by decide) i1) k_X1_22 rfl rfl ⟨rfl, rfl⟩ ⟨Nat.le_of_ble_eq_true rfl, Nat.le_of_ble_eq_true rfl⟩ (Nat.le_of_ble_eq_true rfl) ⟨Nat.le_of_ble_eq_true rfl, Nat.le_of_ble_eq_true rfl⟩ dX1_makeRoomAt_22 (fun v7 σ_8 H locs hq hP hS => ?_)
        obtain ⟨rfl, rfl⟩ := hq
        refine W.eq (g2 := F0 m 25 ls [.int (rd_ (sh_ F j n) 48 (nI (j - 1))), .int (nI j), .ref (ad_ D (v + 1))]) rfl ?_
        refine g_top (y := F (j - 1)) ((rd_in (by omega) (by decide)).trans (sh_lo (by omega))) ?_
        refine g_callN0 (y := yX2_write) (n := 3) (As := [.ref (ad_ D (v + 1)), .int (nI j), .int (F (j - 1))]) (rest := []) hx hb hml hown hts hE hZ hP hS hl.1 (m_X2_write l D hAD σ2 (v + 1) 48 (sh_ F j n) (nI j) (F (j - 1)) (by omega) (by decide) i1) k_X1_43 rfl rfl ⟨rfl, rfl⟩ ⟨Nat.le_of_ble_eq_true rfl, Nat.le_of_ble_eq_true rfl⟩ (Nat.le_of_ble_eq_true rfl) ⟨Nat.le_of_ble_eq_true rfl, Nat.le_of_ble_eq_true rfl⟩ dX1_makeRoomAt_25 (fun v9 σ_10 H locs hq hP hS => ?_)
        obtain ⟨rfl, hw, hfr⟩ := hq
        refine W.eq (g2 := F0 m 28 ls []) rfl ?_
        rw [wr_in (by omega) (by decide)] at hw
        have hc11 := (hfr v (by omega)).trans i0
        have hc12 := hw
        have hc13 := (hfr (v + 2) (by omega)).trans i2
        have ho14 := g_off.one io hfr (by omega) (by omega)
        refine lv_aload_n hx hb dX1_makeRoomAt_28 rfl (lv_at hl 1 rfl) ?_
        refine g_get hx hb hts hE hown hP g_inX1 rfl (by omega) hc11 1 (by decide) rfl wf_X1_15 (v := .ref (ad_ D (v + 2))) rfl dX1_makeRoomAt_29 ?_
        refine lv_iload_n hx hb dX1_makeRoomAt_32 rfl (lv_at hl 0 rfl) ?_
        refine lv_aload_n hx hb dX1_makeRoomAt_33 rfl (lv_at hl 1 rfl) ?_
        refine g_get hx hb hts hE hown hP g_inX1 rfl (by omega) hc11 1 (by decide) rfl wf_X1_15 (v := .ref (ad_ D (v + 2))) rfl dX1_makeRoomAt_34 ?_
        refine lv_iload_n hx hb dX1_makeRoomAt_37 rfl (lv_at hl 0 rfl) ?_
        refine lv_iconst (v := nI 1) hx hb dX1_makeRoomAt_38 (by decide) ?_
        refine lv_isub hx hb dX1_makeRoomAt_39 ?_
        refine g_top (y := nI (j - 1)) (pk_sub (by omega)) ?_
        refine g_callN0 (y := yX2_read) (n := 2) (As := [.ref (ad_ D (v + 2)), .int (nI (j - 1))]) (rest := [.int (nI j), .ref (ad_ D (v + 2))]) hx hb hml hown hts hE hZ hP hS hl.1 (m_X2_read l D hAD σ_10 (v + 2) 48 (sh_ G j n) (nI (j - 1)) (by omega) (by decide) hc13) k_X1_22 rfl rfl ⟨rfl, rfl⟩ ⟨Nat.le_of_ble_eq_true rfl, Nat.le_of_ble_eq_true rfl⟩ (Nat.le_of_ble_eq_true rfl) ⟨Nat.le_of_ble_eq_true rfl, Nat.le_of_ble_eq_true rfl⟩ dX1_makeRoomAt_40 (fun v15 σ_16 H locs hq hP hS => ?_)
        obtain ⟨rfl, rfl⟩ := hq
        refine W.eq (g2 := F0 m 43 ls [.int (rd_ (sh_ G j n) 48 (nI (j - 1))), .int (nI j), .ref (ad_ D (v + 2))]) rfl ?_
        refine g_top (y := G (j - 1)) ((rd_in (by omega) (by decide)).trans (sh_lo (by omega))) ?_
        refine g_callN0 (y := yX2_write) (n := 3) (As := [.ref (ad_ D (v + 2)), .int (nI j), .int (G (j - 1))]) (rest := []) hx hb hml hown hts hE hZ hP hS hl.1 (m_X2_write l D hAD σ_10 (v + 2) 48 (sh_ G j n) (nI j) (G (j - 1)) (by omega) (by decide) hc13) k_X1_43 rfl rfl ⟨rfl, rfl⟩ ⟨Nat.le_of_ble_eq_true rfl, Nat.le_of_ble_eq_true rfl⟩ (Nat.le_of_ble_eq_true rfl) ⟨Nat.le_of_ble_eq_true rfl, Nat.le_of_ble_eq_true rfl⟩ dX1_makeRoomAt_43 (fun v17 σ_18 H locs hq hP hS => ?_)
        obtain ⟨rfl, hw, hfr⟩ := hq
        refine W.eq (g2 := F0 m 46 ls []) rfl ?_
        rw [wr_in (by omega) (by decide)] at hw
        have hc19 := (hfr v (by omega)).trans hc11
        have hc20 := (hfr (v + 1) (by omega)).trans hc12
        have hc21 := hw
        have ho22 := g_off.one ho14 hfr (by omega) (by omega)
        refine lv_iinc (v := nI (j - 1)) (lv' := [(2, .int (nI (j - 1))), (0, .ref (ad_ D v)), (1, .int (nI k))]) hx hb dX1_makeRoomAt_46 hl (k := 0) rfl (g_dec (by omega)) (by decide) rfl (fun ls hl => ?_)
        refine lv_goto (tgt := 5) hx hb dX1_makeRoomAt_49 (by decide) ?_
        exact ih5 (j - 1) σ_18 (by omega) (by omega) hc19 (by rw [← sh_step (F := F) (j := j) (by omega) (by omega)]; exact hc20) (by rw [← sh_step (F := G) (j := j) (by omega) (by omega)]; exact hc21) ho22 _ _ hP hS ls (lv_sub hl [0, 1, 2] rfl)
  exact K5 ((n) + 1) n σ (Nat.lt_succ_self _) (by omega) h0 (by rw [sh_0]; exact h1) (by rw [sh_0]; exact h2) g_off.rf _ _ hP hS ls (lv_sub hl [0, 1, 2] rfl)

abbrev m_X1_set_rm : Room := { frames := 10, cells := 0, slots := 0, locals := 244 }
set_option maxHeartbeats 4000000 in
set_option maxRecDepth 100000 in
theorem m_X1_set (l : Launch) (D : va_G) (hAD : g_AD D) (σ : Nat → va_E) (v : Nat) (L : g_L) (F G : Nat → Int32) (hV : g_VF D σ v L F G) (x y : Int32) (hxx : x ≠ -1) (hrr : fn_ L (rk_ L x) = x ∨ L.length < 48) : g_M l D yX1_set cX1_set 4 none m_X1_set_rm [.ref (ad_ D v), .int x, .int y] σ (fun v1 σ1 => v1 = none ∧ ∃ F1 G1 : Nat → Int32, g_VF D σ1 v (st_ L x y) F1 G1 ∧ g_off v (v + 2) σ σ1 ∧ ∀ j, L.length < j → F1 j = F j ∧ G1 j = G j) := by
  refine g_ofW [(0, .ref (ad_ D v)), (1, .int x), (2, .int y)] (by decide +kernel) (Nat.le_of_ble_eq_true rfl) rfl ?_
  intro p e s m args below meth c hx hb hr hml hown hlocks hts hE hZ hP hS hnm ls hl
  have hown : s.vm.findClass RX1 = some m.cls := hown
  generalize hQ : MQ _ _ _ _ _ _ _ = Q
  obtain ⟨h0, h1, h2, hFG, hLn, hvv⟩ := id hV
  have hrk := rk_le L x
  refine lv_aload_n hx hb dX1_set_0 rfl (lv_at hl 0 rfl) ?_
  refine lv_iload_n hx hb dX1_set_1 rfl (lv_at hl 1 rfl) ?_
  refine g_callV0 (y := yX1_smallerThan) (n := 1) (As := [.int x]) (rest := []) hx hb hml hown hts hE hZ hP hS hl.1 (m_X1_smallerThan l D hAD σ v L F G hV (x)) k_X1_26 (ci := 1) (by omega) hV.1 rfl rfl rfl rfl rfl ⟨rfl, rfl⟩ ⟨Nat.le_of_ble_eq_true rfl, Nat.le_of_ble_eq_true rfl⟩ (Nat.le_of_ble_eq_true rfl) ⟨Nat.le_of_ble_eq_true rfl, Nat.le_of_ble_eq_true rfl⟩ dX1_set_2 (fun v1 σ_2 H locs hq hP hS => ?_)
  obtain ⟨rfl, rfl⟩ := hq
  refine W.eq (g2 := F0 m 5 ls [.int (nI (rk_ L (x)))]) rfl ?_
  refine lv_istore_n (lv' := [(3, .int (nI (rk_ L (x)))), (0, .ref (ad_ D v)), (1, .int x), (2, .int y)]) hx hb dX1_set_5 rfl hl (by decide) rfl (fun ls hl => ?_)
  refine lv_aload_n hx hb dX1_set_6 rfl (lv_at hl 1 rfl) ?_
  refine lv_iload_n hx hb dX1_set_7 rfl (lv_at hl 0 rfl) ?_
  refine g_callV0 (y := yX1_nameAt) (n := 1) (As := [.int (nI (rk_ L (x)))]) (rest := []) hx hb hml hown hts hE hZ hP hS hl.1 (m_X1_nameAtN l D hAD σ v L F G hV (rk_ L (x)) (by omega)) k_X1_30 (ci := 1) (by omega) hV.1 rfl rfl rfl rfl rfl ⟨rfl, rfl⟩ ⟨Nat.le_of_ble_eq_true rfl, Nat.le_of_ble_eq_true rfl⟩ (Nat.le_of_ble_eq_true rfl) ⟨Nat.le_of_ble_eq_true rfl, Nat.le_of_ble_eq_true rfl⟩ dX1_set_8 (fun v3 σ_4 H locs hq hP hS => ?_)
  obtain ⟨rfl, rfl⟩ := hq
  refine W.eq (g2 := F0 m 11 ls [.int (fn_ L (rk_ L (x)))]) rfl ?_
  refine lv_iload_n hx hb dX1_set_11 rfl (lv_at hl 2 rfl) ?_
  refine lv_icmp_eq (tgt := 20) hx hb dX1_set_12 (by decide) (fun h12 => ?_) (fun h12 => ?_)
  · have hlt := fn_in h12 hxx
    refine lv_aload_n hx hb dX1_set_20 rfl (lv_at hl 1 rfl) ?_
    refine g_get hx hb hts hE hown hP g_inX1 rfl (by omega) h0 0 (by decide) rfl wf_X1_9 (v := .ref (ad_ D (v + 1))) rfl dX1_set_21 ?_
    refine lv_iload_n hx hb dX1_set_24 rfl (lv_at hl 0 rfl) ?_
    refine lv_iload_n hx hb dX1_set_25 rfl (lv_at hl 2 rfl) ?_
    refine g_callN0 (y := yX2_write) (n := 3) (As := [.ref (ad_ D (v + 1)), .int (nI (rk_ L (x))), .int x]) (rest := []) hx hb hml hown hts hE hZ hP hS hl.1 (m_X2_write l D hAD σ (v + 1) 48 (F) (nI (rk_ L (x))) (x) (by omega) (by decide) h1) k_X1_43 rfl rfl ⟨rfl, rfl⟩ ⟨Nat.le_of_ble_eq_true rfl, Nat.le_of_ble_eq_true rfl⟩ (Nat.le_of_ble_eq_true rfl) ⟨Nat.le_of_ble_eq_true rfl, Nat.le_of_ble_eq_true rfl⟩ dX1_set_26 (fun v5 σ_6 H locs hq hP hS => ?_)
    obtain ⟨rfl, hw, hfr⟩ := hq
    refine W.eq (g2 := F0 m 29 ls []) rfl ?_
    rw [wr_in (by omega) (by decide)] at hw
    have hc7 := (hfr v (by omega)).trans h0
    have hc8 := hw
    have hc9 := (hfr (v + 2) (by omega)).trans h2
    have ho10 := g_off.one (g_off.rf (lo := v) (hi := (v + 2)) (σ := σ)) hfr (by omega) (by omega)
    refine lv_aload_n hx hb dX1_set_29 rfl (lv_at hl 1 rfl) ?_
    refine g_get hx hb hts hE hown hP g_inX1 rfl (by omega) hc7 1 (by decide) rfl wf_X1_15 (v := .ref (ad_ D (v + 2))) rfl dX1_set_30 ?_
    refine lv_iload_n hx hb dX1_set_33 rfl (lv_at hl 0 rfl) ?_
    refine lv_iload_n hx hb dX1_set_34 rfl (lv_at hl 3 rfl) ?_
    refine g_callN0 (y := yX2_write) (n := 3) (As := [.ref (ad_ D (v + 2)), .int (nI (rk_ L (x))), .int y]) (rest := []) hx hb hml hown hts hE hZ hP hS hl.1 (m_X2_write l D hAD σ_6 (v + 2) 48 (G) (nI (rk_ L (x))) (y) (by omega) (by decide) hc9) k_X1_43 rfl rfl ⟨rfl, rfl⟩ ⟨Nat.le_of_ble_eq_true rfl, Nat.le_of_ble_eq_true rfl⟩ (Nat.le_of_ble_eq_true rfl) ⟨Nat.le_of_ble_eq_true rfl, Nat.le_of_ble_eq_true rfl⟩ dX1_set_35 (fun v11 σ_12 H locs hq hP hS => ?_)
    obtain ⟨rfl, hw, hfr⟩ := hq
    refine W.eq (g2 := F0 m 38 ls []) rfl ?_
    rw [wr_in (by omega) (by decide)] at hw
    have hc13 := (hfr v (by omega)).trans hc7
    have hc14 := (hfr (v + 1) (by omega)).trans hc8
    have hc15 := hw
    have ho16 := g_off.one ho10 hfr (by omega) (by omega)
    rw [← hQ]
    exact W.vret hx hb hr (fun te9 hte9 _ => g_fin (⟨rfl, upd F (rk_ L x) x, upd G (rk_ L x) y, ⟨by rw [st_len, if_pos h12]; exact hc13, hc14, hc15, rep_set hxx h12 hFG, by rw [st_len, if_pos h12]; exact hLn, hvv⟩, ho16, fun j hj => (by have q9 := fn_in h12 hxx; have e : ¬ j = rk_ L x := (by omega); simp only [upd, if_neg e]; exact ⟨trivial, trivial⟩)⟩) hP hS hte9) hS.2.2 dX1_set_38 hlocks
  · have hrr := hrr.resolve_left h12
    refine lv_aload_n hx hb dX1_set_15 rfl (lv_at hl 1 rfl) ?_
    refine lv_iload_n hx hb dX1_set_16 rfl (lv_at hl 0 rfl) ?_
    refine g_callV0 (y := yX1_makeRoomAt) (n := 1) (As := [.int (nI (rk_ L (x)))]) (rest := []) hx hb hml hown hts hE hZ hP hS hl.1 (m_X1_makeRoomAt l D hAD σ v L.length (rk_ L x) F G h0 h1 h2 hvv (by omega) hrk) k_X1_39 (ci := 1) (by omega) h0 rfl rfl rfl rfl rfl ⟨rfl, rfl⟩ ⟨Nat.le_of_ble_eq_true rfl, Nat.le_of_ble_eq_true rfl⟩ (Nat.le_of_ble_eq_true rfl) ⟨Nat.le_of_ble_eq_true rfl, Nat.le_of_ble_eq_true rfl⟩ dX1_set_17 (fun v17 σ_18 H locs hq hP hS => ?_)
    obtain ⟨rfl, hq2⟩ := hq
    refine W.eq (g2 := F0 m 20 ls []) rfl ?_
    obtain ⟨q0, q1, q2, qo⟩ := hq2
    refine lv_aload_n hx hb dX1_set_20 rfl (lv_at hl 1 rfl) ?_
    refine g_get hx hb hts hE hown hP g_inX1 rfl (by omega) q0 0 (by decide) rfl wf_X1_9 (v := .ref (ad_ D (v + 1))) rfl dX1_set_21 ?_
    refine lv_iload_n hx hb dX1_set_24 rfl (lv_at hl 0 rfl) ?_
    refine lv_iload_n hx hb dX1_set_25 rfl (lv_at hl 2 rfl) ?_
    refine g_callN0 (y := yX2_write) (n := 3) (As := [.ref (ad_ D (v + 1)), .int (nI (rk_ L (x))), .int x]) (rest := []) hx hb hml hown hts hE hZ hP hS hl.1 (m_X2_write l D hAD σ_18 (v + 1) 48 (sh_ F (rk_ L x) L.length) (nI (rk_ L (x))) (x) (by omega) (by decide) q1) k_X1_43 rfl rfl ⟨rfl, rfl⟩ ⟨Nat.le_of_ble_eq_true rfl, Nat.le_of_ble_eq_true rfl⟩ (Nat.le_of_ble_eq_true rfl) ⟨Nat.le_of_ble_eq_true rfl, Nat.le_of_ble_eq_true rfl⟩ dX1_set_26 (fun v19 σ_20 H locs hq hP hS => ?_)
    obtain ⟨rfl, hw, hfr⟩ := hq
    refine W.eq (g2 := F0 m 29 ls []) rfl ?_
    rw [wr_in (by omega) (by decide)] at hw
    have hc21 := (hfr v (by omega)).trans q0
    have hc22 := hw
    have hc23 := (hfr (v + 2) (by omega)).trans q2
    have ho24 := g_off.one qo hfr (by omega) (by omega)
    refine lv_aload_n hx hb dX1_set_29 rfl (lv_at hl 1 rfl) ?_
    refine g_get hx hb hts hE hown hP g_inX1 rfl (by omega) hc21 1 (by decide) rfl wf_X1_15 (v := .ref (ad_ D (v + 2))) rfl dX1_set_30 ?_
    refine lv_iload_n hx hb dX1_set_33 rfl (lv_at hl 0 rfl) ?_
    refine lv_iload_n hx hb dX1_set_34 rfl (lv_at hl 3 rfl) ?_
    refine g_callN0 (y := yX2_write) (n := 3) (As := [.ref (ad_ D (v + 2)), .int (nI (rk_ L (x))), .int y]) (rest := []) hx hb hml hown hts hE hZ hP hS hl.1 (m_X2_write l D hAD σ_20 (v + 2) 48 (sh_ G (rk_ L x) L.length) (nI (rk_ L (x))) (y) (by omega) (by decide) hc23) k_X1_43 rfl rfl ⟨rfl, rfl⟩ ⟨Nat.le_of_ble_eq_true rfl, Nat.le_of_ble_eq_true rfl⟩ (Nat.le_of_ble_eq_true rfl) ⟨Nat.le_of_ble_eq_true rfl, Nat.le_of_ble_eq_true rfl⟩ dX1_set_35 (fun v25 σ_26 H locs hq hP hS => ?_)
    obtain ⟨rfl, hw, hfr⟩ := hq
    refine W.eq (g2 := F0 m 38 ls []) rfl ?_
    rw [wr_in (by omega) (by decide)] at hw
    have hc27 := (hfr v (by omega)).trans hc21
    have hc28 := (hfr (v + 1) (by omega)).trans hc22
    have hc29 := hw
    have ho30 := g_off.one ho24 hfr (by omega) (by omega)
    rw [← hQ]
    exact W.vret hx hb hr (fun te9 hte9 _ => g_fin (⟨rfl, upd (sh_ F (rk_ L x) L.length) (rk_ L x) x, upd (sh_ G (rk_ L x) L.length) (rk_ L x) y, ⟨by rw [st_len, if_neg h12]; exact hc27, hc28, hc29, rep_ins h12 hFG, by rw [st_len, if_neg h12]; omega, hvv⟩, ho30, fun j hj => (by have e : ¬ j = rk_ L x := (by omega); simp only [upd, if_neg e]; exact ⟨sh_hi hj, sh_hi hj⟩)⟩) hP hS hte9) hS.2.2 dX1_set_38 hlocks
