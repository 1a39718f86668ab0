abbrev m_X0_size_rm : Room := { frames := 8, cells := 0, slots := 0, locals := 200 }
set_option maxHeartbeats 4000000 in
set_option maxRecDepth 100000 in
theorem m_X0_size (l : Launch) (D : va_G) (hAD : g_AD D) (σ : Nat → va_E) (sz : Nat) (T : Nat → Nat → Int32) (hG : g_S D σ sz T)   : g_M l D yX0_size cX0_size 1 (some .int) m_X0_size_rm [.ref (ad_ D 10)] σ (fun v1 σ1 => v1 = some (.int (nI sz)) ∧ σ = σ1) := by
  refine g_ofW [(0, .ref (ad_ D 10))] (by decide +kernel) (Nat.le_of_ble_eq_true rfl) rfl ?_
  intro p e s m args below meth c hx hb hr hml hown hlocks hts hE hZ hP hS hnm ls hl
  have hown : s.vm.findClass RX0 = some m.cls := hown
  generalize hQ : MQ _ _ _ _ _ _ _ = Q
  obtain ⟨h10, h11, h12, h13, h14, h15, h16, h17, h18, h19, hsz⟩ := id hG
  refine lv_aload_n hx hb dX0_size_0 rfl (lv_at hl 0 rfl) ?_
  refine g_get hx hb hts hE hown hP g_inX0 rfl (by decide) h10 9 (by decide) rfl wf_X0_39 (v := .int (nI sz)) rfl dX0_size_1 ?_
  rw [← hQ]
  exact W.iret (v := nI sz) hx hb hr (fun te9 hte9 _ => g_fin (⟨rfl, rfl⟩) hP hS hte9) hS.2.2 dX0_size_4 hlocks

abbrev m_X0_begin_rm : Room := { frames := 9, cells := 0, slots := 0, locals := 222 }
set_option maxHeartbeats 4000000 in
set_option maxRecDepth 100000 in
theorem m_X0_begin (l : Launch) (D : va_G) (hAD : g_AD D) (σ : Nat → va_E) (sz : Nat) (T : Nat → Nat → Int32) (hG : g_S D σ sz T) (p9 a9 c9 q9 b9 : Nat) (hp : p9 < 95) : g_M l D yX0_begin cX0_begin 6 none m_X0_begin_rm [.ref (ad_ D 10), .int (nI p9), .int (nI a9), .int (nI c9), .int (nI q9), .int (nI b9)] σ (fun v1 σ1 => v1 = none ∧ g_S D σ1 sz (bg_ T p9 a9 c9 q9 b9) ∧ g_off 10 19 σ σ1) := by
  refine g_ofW [(0, .ref (ad_ D 10)), (1, .int (nI p9)), (2, .int (nI a9)), (3, .int (nI c9)), (4, .int (nI q9)), (5, .int (nI b9))] (by decide +kernel) (Nat.le_of_ble_eq_true rfl) rfl ?_
  intro p e s m args below meth c hx hb hr hml hown hlocks hts hE hZ hP hS hnm ls hl
  have hown : s.vm.findClass RX0 = some m.cls := hown
  generalize hQ : MQ _ _ _ _ _ _ _ = Q
  obtain ⟨h10, h11, h12, h13, h14, h15, h16, h17, h18, h19, hsz⟩ := id hG
  refine lv_aload_n hx hb dX0_begin_0 rfl (lv_at hl 0 rfl) ?_
  refine g_get hx hb hts hE hown hP g_inX0 rfl (by decide) h10 1 (by decide) rfl wf_X0_15 (v := .ref (ad_ D 12)) rfl dX0_begin_1 ?_
  refine lv_iload_n hx hb dX0_begin_4 rfl (lv_at hl 1 rfl) ?_
  refine lv_iload_n hx hb dX0_begin_5 rfl (lv_at hl 2 rfl) ?_
  refine g_callN0 (y := yX2_write) (n := 3) (As := [.ref (ad_ D 12), .int (nI p9), .int (nI a9)]) (rest := []) hx hb hml hown hts hE hZ hP hS hl.1 (m_X2_write l D hAD σ 12 95 (T 1) (nI p9) (nI a9) (by decide) (by decide) h12) k_X0_81 rfl rfl ⟨rfl, rfl⟩ ⟨Nat.le_of_ble_eq_true rfl, Nat.le_of_ble_eq_true rfl⟩ (Nat.le_of_ble_eq_true rfl) ⟨Nat.le_of_ble_eq_true rfl, Nat.le_of_ble_eq_true rfl⟩ dX0_begin_6 (fun v1 σ_2 H locs hq hP hS => ?_)
  obtain ⟨rfl, hw, hfr⟩ := hq
  refine W.eq (g2 := F0 m 9 ls []) rfl ?_
  rw [wr_in (by omega) (by decide)] at hw
  have hc3 := (hfr 10 (by decide)).trans h10
  have hc4 := (hfr 11 (by decide)).trans h11
  have hc5 := hw
  have hc6 := (hfr 13 (by decide)).trans h13
  have hc7 := (hfr 14 (by decide)).trans h14
  have hc8 := (hfr 15 (by decide)).trans h15
  have hc9 := (hfr 16 (by decide)).trans h16
  have hc10 := (hfr 17 (by decide)).trans h17
  have hc11 := (hfr 18 (by decide)).trans h18
  have hc12 := (hfr 19 (by decide)).trans h19
  have ho13 := g_off.one (g_off.rf (lo := 10) (hi := 19) (σ := σ)) hfr (by omega) (by omega)
  refine lv_aload_n hx hb dX0_begin_9 rfl (lv_at hl 0 rfl) ?_
  refine g_get hx hb hts hE hown hP g_inX0 rfl (by decide) hc3 2 (by decide) rfl wf_X0_18 (v := .ref (ad_ D 13)) rfl dX0_begin_10 ?_
  refine lv_iload_n hx hb dX0_begin_13 rfl (lv_at hl 1 rfl) ?_
  refine lv_iload_n hx hb dX0_begin_14 rfl (lv_at hl 3 rfl) ?_
  refine g_callN0 (y := yX2_write) (n := 3) (As := [.ref (ad_ D 13), .int (nI p9), .int (nI c9)]) (rest := []) hx hb hml hown hts hE hZ hP hS hl.1 (m_X2_write l D hAD σ_2 13 95 (T 2) (nI p9) (nI c9) (by decide) (by decide) hc6) k_X0_81 rfl rfl ⟨rfl, rfl⟩ ⟨Nat.le_of_ble_eq_true rfl, Nat.le_of_ble_eq_true rfl⟩ (Nat.le_of_ble_eq_true rfl) ⟨Nat.le_of_ble_eq_true rfl, Nat.le_of_ble_eq_true rfl⟩ dX0_begin_15 (fun v14 σ_15 H locs hq hP hS => ?_)
  obtain ⟨rfl, hw, hfr⟩ := hq
  refine W.eq (g2 := F0 m 18 ls []) rfl ?_
  rw [wr_in (by omega) (by decide)] at hw
  have hc16 := (hfr 10 (by decide)).trans hc3
  have hc17 := (hfr 11 (by decide)).trans hc4
  have hc18 := (hfr 12 (by decide)).trans hc5
  have hc19 := hw
  have hc20 := (hfr 14 (by decide)).trans hc7
  have hc21 := (hfr 15 (by decide)).trans hc8
  have hc22 := (hfr 16 (by decide)).trans hc9
  have hc23 := (hfr 17 (by decide)).trans hc10
  have hc24 := (hfr 18 (by decide)).trans hc11
  have hc25 := (hfr 19 (by decide)).trans hc12
  have ho26 := g_off.one ho13 hfr (by omega) (by omega)
  refine lv_aload_n hx hb dX0_begin_18 rfl (lv_at hl 0 rfl) ?_
  refine g_get hx hb hts hE hown hP g_inX0 rfl (by decide) hc16 7 (by decide) rfl wf_X0_33 (v := .ref (ad_ D 18)) rfl dX0_begin_19 ?_
  refine lv_iload_n hx hb dX0_begin_22 rfl (lv_at hl 1 rfl) ?_
  refine lv_iload hx hb dX0_begin_23 (lv_at hl 4 rfl) ?_
  refine g_callN0 (y := yX2_write) (n := 3) (As := [.ref (ad_ D 18), .int (nI p9), .int (nI q9)]) (rest := []) hx hb hml hown hts hE hZ hP hS hl.1 (m_X2_write l D hAD σ_15 18 95 (T 7) (nI p9) (nI q9) (by decide) (by decide) hc24) k_X0_81 rfl rfl ⟨rfl, rfl⟩ ⟨Nat.le_of_ble_eq_true rfl, Nat.le_of_ble_eq_true rfl⟩ (Nat.le_of_ble_eq_true rfl) ⟨Nat.le_of_ble_eq_true rfl, Nat.le_of_ble_eq_true rfl⟩ dX0_begin_25 (fun v27 σ_28 H locs hq hP hS => ?_)
  obtain ⟨rfl, hw, hfr⟩ := hq
  refine W.eq (g2 := F0 m 28 ls []) rfl ?_
  rw [wr_in (by omega) (by decide)] at hw
  have hc29 := (hfr 10 (by decide)).trans hc16
  have hc30 := (hfr 11 (by decide)).trans hc17
  have hc31 := (hfr 12 (by decide)).trans hc18
  have hc32 := (hfr 13 (by decide)).trans hc19
  have hc33 := (hfr 14 (by decide)).trans hc20
  have hc34 := (hfr 15 (by decide)).trans hc21
  have hc35 := (hfr 16 (by decide)).trans hc22
  have hc36 := (hfr 17 (by decide)).trans hc23
  have hc37 := hw
  have hc38 := (hfr 19 (by decide)).trans hc25
  have ho39 := g_off.one ho26 hfr (by omega) (by omega)
  refine lv_aload_n hx hb dX0_begin_28 rfl (lv_at hl 0 rfl) ?_
  refine g_get hx hb hts hE hown hP g_inX0 rfl (by decide) hc29 8 (by decide) rfl wf_X0_36 (v := .ref (ad_ D 19)) rfl dX0_begin_29 ?_
  refine lv_iload_n hx hb dX0_begin_32 rfl (lv_at hl 1 rfl) ?_
  refine lv_iload hx hb dX0_begin_33 (lv_at hl 5 rfl) ?_
  refine g_callN0 (y := yX2_write) (n := 3) (As := [.ref (ad_ D 19), .int (nI p9), .int (nI b9)]) (rest := []) hx hb hml hown hts hE hZ hP hS hl.1 (m_X2_write l D hAD σ_28 19 95 (T 8) (nI p9) (nI b9) (by decide) (by decide) hc38) k_X0_81 rfl rfl ⟨rfl, rfl⟩ ⟨Nat.le_of_ble_eq_true rfl, Nat.le_of_ble_eq_true rfl⟩ (Nat.le_of_ble_eq_true rfl) ⟨Nat.le_of_ble_eq_true rfl, Nat.le_of_ble_eq_true rfl⟩ dX0_begin_35 (fun v40 σ_41 H locs hq hP hS => ?_)
  obtain ⟨rfl, hw, hfr⟩ := hq
  refine W.eq (g2 := F0 m 38 ls []) rfl ?_
  rw [wr_in (by omega) (by decide)] at hw
  have hc42 := (hfr 10 (by decide)).trans hc29
  have hc43 := (hfr 11 (by decide)).trans hc30
  have hc44 := (hfr 12 (by decide)).trans hc31
  have hc45 := (hfr 13 (by decide)).trans hc32
  have hc46 := (hfr 14 (by decide)).trans hc33
  have hc47 := (hfr 15 (by decide)).trans hc34
  have hc48 := (hfr 16 (by decide)).trans hc35
  have hc49 := (hfr 17 (by decide)).trans hc36
  have hc50 := (hfr 18 (by decide)).trans hc37
  have hc51 := hw
  have ho52 := g_off.one ho39 hfr (by omega) (by omega)
  rw [← hQ]
  exact W.vret hx hb hr (fun te9 hte9 _ => g_fin (⟨rfl, ⟨hc42, hc43, hc44, hc45, hc46, hc47, hc48, hc49, hc50, hc51, hsz⟩, ho52⟩) hP hS hte9) hS.2.2 dX0_begin_38 hlocks

abbrev m_X0_fillSides_rm : Room := { frames := 10, cells := 0, slots := 0, locals := 247 }
set_option maxHeartbeats 4000000 in
set_option maxRecDepth 100000 in
theorem m_X0_fillSides (l : Launch) (D : va_G) (hAD : g_AD D) (σ : Nat → va_E) (sz : Nat) (T : Nat → Nat → Int32) (hG : g_S D σ sz T) (v : Nat) (L : g_L) (F G : Nat → Int32) (p9 a9 c9 q9 : Nat) (hV : g_VF D σ v L F G) (hvd : v + 2 < 10 ∨ 19 < v) (e1 : T 1 p9 = nI a9) (e2 : T 2 p9 = nI c9) (e7 : T 7 p9 = nI q9) (hac : a9 + c9 ≤ L.length) (hp : p9 + 2 * c9 ≤ 96) (hg1 : sp_ (fn_ L) (T 0 p9) a9 c9 < c9) (h2c : 2 ≤ c9) (hq9 : q9 < 1000) : g_M l D yX0_fillSides cX0_fillSides 8 none m_X0_fillSides_rm [.ref (ad_ D 10), .int (nI p9), .ref (ad_ D v)] σ (fun v1 σ1 => v1 = none ∧ g_S D σ1 sz (fsd_ (fn_ L) T p9 a9 c9 q9) ∧ g_off 10 19 σ σ1) := by
  refine g_ofW [(0, .ref (ad_ D 10)), (1, .int (nI p9)), (2, .ref (ad_ D v))] (by decide +kernel) (Nat.le_of_ble_eq_true rfl) rfl ?_
  intro p e s m args below meth c hx hb hr hml hown hlocks hts hE hZ hP hS hnm ls hl
  have hown : s.vm.findClass RX0 = some m.cls := hown
  generalize hQ : MQ _ _ _ _ _ _ _ = Q
  obtain ⟨h10, h11, h12, h13, h14, h15, h16, h17, h18, h19, hsz⟩ := id hG
  have hvv := hV.2.2.2.2.2
  have hLn := hV.2.2.2.2.1
  refine lv_aload_n hx hb dX0_fillSides_0 rfl (lv_at hl 0 rfl) ?_
  refine g_get hx hb hts hE hown hP g_inX0 rfl (by decide) h10 1 (by decide) rfl wf_X0_15 (v := .ref (ad_ D 12)) rfl dX0_fillSides_1 ?_
  refine lv_iload_n hx hb dX0_fillSides_4 rfl (lv_at hl 1 rfl) ?_
  refine g_callN0 (y := yX2_read) (n := 2) (As := [.ref (ad_ D 12), .int (nI p9)]) (rest := []) hx hb hml hown hts hE hZ hP hS hl.1 (m_X2_read l D hAD σ 12 95 (T 1) (nI p9) (by decide) (by decide) h12) k_X0_56 rfl rfl ⟨rfl, rfl⟩ ⟨Nat.le_of_ble_eq_true rfl, Nat.le_of_ble_eq_true rfl⟩ (Nat.le_of_ble_eq_true rfl) ⟨Nat.le_of_ble_eq_true rfl, Nat.le_of_ble_eq_true rfl⟩ dX0_fillSides_5 (fun v1 σ_2 H locs hq hP hS => ?_)
  obtain ⟨rfl, rfl⟩ := hq
  refine W.eq (g2 := F0 m 8 ls [.int (rd_ (T 1) 95 (nI p9))]) rfl ?_
  refine g_top (y := nI a9) ((rd_in (by omega) (by decide)).trans e1) ?_
  refine lv_istore_n (lv' := [(3, .int (nI a9)), (0, .ref (ad_ D 10)), (1, .int (nI p9)), (2, .ref (ad_ D v))]) hx hb dX0_fillSides_8 rfl hl (by decide) rfl (fun ls hl => ?_)
  refine lv_iload_n hx hb dX0_fillSides_9 rfl (lv_at hl 0 rfl) ?_
  refine lv_aload_n hx hb dX0_fillSides_10 rfl (lv_at hl 1 rfl) ?_
  refine g_get hx hb hts hE hown hP g_inX0 rfl (by decide) h10 2 (by decide) rfl wf_X0_18 (v := .ref (ad_ D 13)) rfl dX0_fillSides_11 ?_
  refine lv_iload_n hx hb dX0_fillSides_14 rfl (lv_at hl 2 rfl) ?_
  refine g_callN0 (y := yX2_read) (n := 2) (As := [.ref (ad_ D 13), .int (nI p9)]) (rest := [.int (nI a9)]) hx hb hml hown hts hE hZ hP hS hl.1 (m_X2_read l D hAD σ 13 95 (T 2) (nI p9) (by decide) (by decide) h13) k_X0_56 rfl rfl ⟨rfl, rfl⟩ ⟨Nat.le_of_ble_eq_true rfl, Nat.le_of_ble_eq_true rfl⟩ (Nat.le_of_ble_eq_true rfl) ⟨Nat.le_of_ble_eq_true rfl, Nat.le_of_ble_eq_true rfl⟩ dX0_fillSides_15 (fun v3 σ_4 H locs hq hP hS => ?_)
  obtain ⟨rfl, rfl⟩ := hq
  refine W.eq (g2 := F0 m 18 ls [.int (rd_ (T 2) 95 (nI p9)), .int (nI a9)]) rfl ?_
  refine g_top (y := nI c9) ((rd_in (by omega) (by decide)).trans e2) ?_
  refine lv_iadd hx hb dX0_fillSides_18 ?_
  refine g_top (y := nI (a9 + c9)) (nI_add a9 c9) ?_
  refine lv_istore (lv' := [(4, .int (nI (a9 + c9))), (3, .int (nI a9)), (0, .ref (ad_ D 10)), (1, .int (nI p9)), (2, .ref (ad_ D v))]) hx hb dX0_fillSides_19 hl (by decide) rfl (fun ls hl => ?_)
  refine lv_iload_n hx hb dX0_fillSides_21 rfl (lv_at hl 1 rfl) ?_
  refine lv_istore (lv' := [(5, .int (nI a9)), (4, .int (nI (a9 + c9))), (3, .int (nI a9)), (0, .ref (ad_ D 10)), (1, .int (nI p9)), (2, .ref (ad_ D v))]) hx hb dX0_fillSides_22 hl (by decide) rfl (fun ls hl => ?_)
  have K24 : ∀ (fuel24 : Nat) (i : Nat), (c9 - i) < fuel24 → (i ≤ c9) → (∀ j, j < i → hb_ (fn_ L (a9 + j)) (T 0 p9) = false) → ∀ (H : Heap) (locs : List Loc), va_P D vwCl (g_W D σ) H → va_S (g_A D s.heap.size) s.heap H locs → ∀ ls : Array Slot, lv_has ls 8 [(5, .int (nI (a9 + i))), (4, .int (nI (a9 + c9))), (3, .int (nI a9)), (0, .ref (ad_ D 10)), (1, .int (nI p9)), (2, .ref (ad_ D v))] → W p l e m_X0_fillSides_rm s m args below meth c H locs 0 0 Q (F0 m 24 ls []) := by
    intro fuel24
    induction fuel24 with
    | zero => intro i hf; exact absurd hf (Nat.not_lt_zero _)
    | succ fuel24 ih24 =>
      intro i hf24 hi hno H locs hP hS ls hl
      refine lv_iload hx hb dX0_fillSides_24 (lv_at hl 0 rfl) ?_
      refine lv_iload hx hb dX0_fillSides_26 (lv_at hl 1 rfl) ?_
      refine lv_icmp_ge (tgt := 57) hx hb dX0_fillSides_28 (by decide) (fun h28 => ?_) (fun h28 => ?_)
      · have hb28 := g_le (a := a9 + c9) (b := a9 + i) h28 (by omega) (by omega)
        have hsp : sp_ (fn_ L) (T 0 p9) a9 c9 = i := sp_eq hi hno (fun h => by omega)
        rw [← hsp] at hl
        have hsp1 := hg1
        refine lv_aload_n hx hb dX0_fillSides_57 rfl (lv_at hl 3 rfl) ?_
        refine g_get hx hb hts hE hown hP g_inX0 rfl (by decide) h10 7 (by decide) rfl wf_X0_33 (v := .ref (ad_ D 18)) rfl dX0_fillSides_58 ?_
        refine lv_iload_n hx hb dX0_fillSides_61 rfl (lv_at hl 4 rfl) ?_
        refine g_callN0 (y := yX2_read) (n := 2) (As := [.ref (ad_ D 18), .int (nI p9)]) (rest := []) hx hb hml hown hts hE hZ hP hS hl.1 (m_X2_read l D hAD σ 18 95 (T 7) (nI p9) (by decide) (by decide) h18) k_X0_56 rfl rfl ⟨rfl, rfl⟩ ⟨Nat.le_of_ble_eq_true rfl, Nat.le_of_ble_eq_true rfl⟩ (Nat.le_of_ble_eq_true rfl) ⟨Nat.le_of_ble_eq_true rfl, Nat.le_of_ble_eq_true rfl⟩ dX0_fillSides_62 (fun v5 σ_6 H locs hq hP hS => ?_)
        obtain ⟨rfl, rfl⟩ := hq
        refine W.eq (g2 := F0 m 65 ls [.int (rd_ (T 7) 95 (nI p9))]) rfl ?_
        refine g_top (y := nI q9) ((rd_in (by omega) (by decide)).trans e7) ?_
        refine lv_iconst (v := nI 1) hx hb dX0_fillSides_65 (by decide) ?_
        refine lv_iadd hx hb dX0_fillSides_66 ?_
        refine g_top (y := nI (q9 + 1)) (nI_add q9 1) ?_
        refine lv_istore (lv' := [(6, .int (nI (q9 + 1))), (5, .int (nI (a9 + sp_ (fn_ L) (T 0 p9) a9 c9))), (4, .int (nI (a9 + c9))), (3, .int (nI a9)), (0, .ref (ad_ D 10)), (1, .int (nI p9)), (2, .ref (ad_ D v))]) hx hb dX0_fillSides_67 hl (by decide) rfl (fun ls hl => ?_)
        refine lv_iload_n hx hb dX0_fillSides_69 rfl (lv_at hl 5 rfl) ?_
        refine lv_iconst (v := nI 2) hx hb dX0_fillSides_70 (by decide) ?_
        refine lv_iload hx hb dX0_fillSides_71 (lv_at hl 1 rfl) ?_
        refine lv_iload_n hx hb dX0_fillSides_73 rfl (lv_at hl 3 rfl) ?_
        refine lv_isub hx hb dX0_fillSides_74 ?_
        refine g_top (y := nI ((a9 + sp_ (fn_ L) (T 0 p9) a9 c9) - a9)) (pk_sub (by omega)) ?_
        refine g_top (y := nI (sp_ (fn_ L) (T 0 p9) a9 c9)) (congrArg nI (by omega)) ?_
        refine lv_imul hx hb dX0_fillSides_75 ?_
        refine g_top (y := nI (2 * (sp_ (fn_ L) (T 0 p9) a9 c9))) (pk_mul 2 (sp_ (fn_ L) (T 0 p9) a9 c9)) ?_
        refine lv_iadd hx hb dX0_fillSides_76 ?_
        refine g_top (y := nI (p9 + (2 * (sp_ (fn_ L) (T 0 p9) a9 c9)))) (nI_add p9 (2 * (sp_ (fn_ L) (T 0 p9) a9 c9))) ?_
        refine lv_istore (lv' := [(7, .int (nI (p9 + (2 * (sp_ (fn_ L) (T 0 p9) a9 c9))))), (6, .int (nI (q9 + 1))), (5, .int (nI (a9 + sp_ (fn_ L) (T 0 p9) a9 c9))), (4, .int (nI (a9 + c9))), (3, .int (nI a9)), (0, .ref (ad_ D 10)), (1, .int (nI p9)), (2, .ref (ad_ D v))]) hx hb dX0_fillSides_77 hl (by decide) rfl (fun ls hl => ?_)
        refine lv_aload_n hx hb dX0_fillSides_79 rfl (lv_at hl 5 rfl) ?_
        refine g_get hx hb hts hE hown hP g_inX0 rfl (by decide) h10 5 (by decide) rfl wf_X0_27 (v := .ref (ad_ D 16)) rfl dX0_fillSides_80 ?_
        refine lv_iload_n hx hb dX0_fillSides_83 rfl (lv_at hl 6 rfl) ?_
        refine lv_iload_n hx hb dX0_fillSides_84 rfl (lv_at hl 6 rfl) ?_
        refine lv_iconst (v := nI 1) hx hb dX0_fillSides_85 (by decide) ?_
        refine lv_iadd hx hb dX0_fillSides_86 ?_
        refine g_top (y := nI (p9 + 1)) (nI_add p9 1) ?_
        refine g_callN0 (y := yX2_write) (n := 3) (As := [.ref (ad_ D 16), .int (nI p9), .int (nI (p9 + 1))]) (rest := []) hx hb hml hown hts hE hZ hP hS hl.1 (m_X2_write l D hAD σ 16 95 (T 5) (nI p9) (nI (p9 + 1)) (by decide) (by decide) h16) k_X0_81 rfl rfl ⟨rfl, rfl⟩ ⟨Nat.le_of_ble_eq_true rfl, Nat.le_of_ble_eq_true rfl⟩ (Nat.le_of_ble_eq_true rfl) ⟨Nat.le_of_ble_eq_true rfl, Nat.le_of_ble_eq_true rfl⟩ dX0_fillSides_87 (fun v7 σ_8 H locs hq hP hS => ?_)
        obtain ⟨rfl, hw, hfr⟩ := hq
        refine W.eq (g2 := F0 m 90 ls []) rfl ?_
        have hVw9 := g_VF.one hV hfr (by omega)
        rw [wr_in (by omega) (by decide)] at hw
        have hc10 := (hfr 10 (by decide)).trans h10
        have hc11 := (hfr 11 (by decide)).trans h11
        have hc12 := (hfr 12 (by decide)).trans h12
        have hc13 := (hfr 13 (by decide)).trans h13
        have hc14 := (hfr 14 (by decide)).trans h14
        have hc15 := (hfr 15 (by decide)).trans h15
        have hc16 := hw
        have hc17 := (hfr 17 (by decide)).trans h17
        have hc18 := (hfr 18 (by decide)).trans h18
        have hc19 := (hfr 19 (by decide)).trans h19
        have ho20 := g_off.one (g_off.rf (lo := 10) (hi := 19) (σ := σ)) hfr (by omega) (by omega)
        refine lv_aload_n hx hb dX0_fillSides_90 rfl (lv_at hl 5 rfl) ?_
        refine g_get hx hb hts hE hown hP g_inX0 rfl (by decide) hc10 6 (by decide) rfl wf_X0_30 (v := .ref (ad_ D 17)) rfl dX0_fillSides_91 ?_
        refine lv_iload_n hx hb dX0_fillSides_94 rfl (lv_at hl 6 rfl) ?_
        refine lv_iload hx hb dX0_fillSides_95 (lv_at hl 0 rfl) ?_
        refine g_callN0 (y := yX2_write) (n := 3) (As := [.ref (ad_ D 17), .int (nI p9), .int (nI (p9 + (2 * (sp_ (fn_ L) (T 0 p9) a9 c9))))]) (rest := []) hx hb hml hown hts hE hZ hP hS hl.1 (m_X2_write l D hAD σ_8 17 95 (T 6) (nI p9) (nI (p9 + (2 * (sp_ (fn_ L) (T 0 p9) a9 c9)))) (by decide) (by decide) hc17) k_X0_81 rfl rfl ⟨rfl, rfl⟩ ⟨Nat.le_of_ble_eq_true rfl, Nat.le_of_ble_eq_true rfl⟩ (Nat.le_of_ble_eq_true rfl) ⟨Nat.le_of_ble_eq_true rfl, Nat.le_of_ble_eq_true rfl⟩ dX0_fillSides_97 (fun v21 σ_22 H locs hq hP hS => ?_)
        obtain ⟨rfl, hw, hfr⟩ := hq
        refine W.eq (g2 := F0 m 100 ls []) rfl ?_
        have hVw23 := g_VF.one hVw9 hfr (by omega)
        rw [wr_in (by omega) (by decide)] at hw
        have hc24 := (hfr 10 (by decide)).trans hc10
        have hc25 := (hfr 11 (by decide)).trans hc11
        have hc26 := (hfr 12 (by decide)).trans hc12
        have hc27 := (hfr 13 (by decide)).trans hc13
        have hc28 := (hfr 14 (by decide)).trans hc14
        have hc29 := (hfr 15 (by decide)).trans hc15
        have hc30 := (hfr 16 (by decide)).trans hc16
        have hc31 := hw
        have hc32 := (hfr 18 (by decide)).trans hc18
        have hc33 := (hfr 19 (by decide)).trans hc19
        have ho34 := g_off.one ho20 hfr (by omega) (by omega)
        refine lv_aload_n hx hb dX0_fillSides_100 rfl (lv_at hl 5 rfl) ?_
        refine lv_iload_n hx hb dX0_fillSides_101 rfl (lv_at hl 6 rfl) ?_
        refine lv_iconst (v := nI 1) hx hb dX0_fillSides_102 (by decide) ?_
        refine lv_iadd hx hb dX0_fillSides_103 ?_
        refine g_top (y := nI (p9 + 1)) (nI_add p9 1) ?_
        refine lv_iload_n hx hb dX0_fillSides_104 rfl (lv_at hl 4 rfl) ?_
        refine lv_iload hx hb dX0_fillSides_105 (lv_at hl 2 rfl) ?_
        refine lv_iload_n hx hb dX0_fillSides_107 rfl (lv_at hl 4 rfl) ?_
        refine lv_isub hx hb dX0_fillSides_108 ?_
        refine g_top (y := nI ((a9 + sp_ (fn_ L) (T 0 p9) a9 c9) - a9)) (pk_sub (by omega)) ?_
        refine g_top (y := nI (sp_ (fn_ L) (T 0 p9) a9 c9)) (congrArg nI (by omega)) ?_
        refine lv_iload hx hb dX0_fillSides_109 (lv_at hl 1 rfl) ?_
        refine lv_iload hx hb dX0_fillSides_111 (lv_at hl 3 rfl) ?_
        refine lv_iload hx hb dX0_fillSides_113 (lv_at hl 2 rfl) ?_
        refine lv_isub hx hb dX0_fillSides_115 ?_
        refine g_top (y := nI ((a9 + c9) - (a9 + sp_ (fn_ L) (T 0 p9) a9 c9))) (pk_sub (by omega)) ?_
        refine g_top (y := nI (c9 - sp_ (fn_ L) (T 0 p9) a9 c9)) (congrArg nI (by omega)) ?_
        have hGp35 : g_S D σ_22 sz (fs2_ (fn_ L) T p9 a9 c9 q9) := ⟨hc24, hc25, hc26, hc27, hc28, hc29, hc30, hc31, hc32, hc33, hsz⟩
        refine g_callV0 (y := yX0_begin) (n := 5) (As := [.int (nI (p9 + 1)), .int (nI a9), .int (nI (sp_ (fn_ L) (T 0 p9) a9 c9)), .int (nI (q9 + 1)), .int (nI (c9 - sp_ (fn_ L) (T 0 p9) a9 c9))]) (rest := []) hx hb hml hown hts hE hZ hP hS hl.1 (m_X0_begin l D hAD σ_22 sz (fs2_ (fn_ L) T p9 a9 c9 q9) hGp35 (p9 + 1) a9 (sp_ (fn_ L) (T 0 p9) a9 c9) (q9 + 1) (c9 - sp_ (fn_ L) (T 0 p9) a9 c9) (by omega)) k_X0_48 (ci := 0) (by decide) hc24 rfl rfl rfl rfl rfl ⟨rfl, rfl⟩ ⟨Nat.le_of_ble_eq_true rfl, Nat.le_of_ble_eq_true rfl⟩ (Nat.le_of_ble_eq_true rfl) ⟨Nat.le_of_ble_eq_true rfl, Nat.le_of_ble_eq_true rfl⟩ dX0_fillSides_116 (fun v36 σ_37 H locs hq hP hS => ?_)
        obtain ⟨rfl, hq2⟩ := hq
        refine W.eq (g2 := F0 m 119 ls []) rfl ?_
        obtain ⟨hGb38, hob39⟩ := hq2
        have hV40 := g_VF.off hVw23 hob39 (by omega)
        obtain ⟨s41_10, s41_11, s41_12, s41_13, s41_14, s41_15, s41_16, s41_17, s41_18, s41_19, s41_sz⟩ := id hGb38
        have ho42 := g_off.tr ho34 hob39
        refine lv_aload_n hx hb dX0_fillSides_119 rfl (lv_at hl 5 rfl) ?_
        refine lv_iload hx hb dX0_fillSides_120 (lv_at hl 0 rfl) ?_
        refine lv_iload hx hb dX0_fillSides_122 (lv_at hl 2 rfl) ?_
        refine lv_iload hx hb dX0_fillSides_124 (lv_at hl 3 rfl) ?_
        refine lv_iload hx hb dX0_fillSides_126 (lv_at hl 2 rfl) ?_
        refine lv_isub hx hb dX0_fillSides_128 ?_
        refine g_top (y := nI ((a9 + c9) - (a9 + sp_ (fn_ L) (T 0 p9) a9 c9))) (pk_sub (by omega)) ?_
        refine g_top (y := nI (c9 - sp_ (fn_ L) (T 0 p9) a9 c9)) (congrArg nI (by omega)) ?_
        refine lv_iload hx hb dX0_fillSides_129 (lv_at hl 1 rfl) ?_
        refine lv_iload hx hb dX0_fillSides_131 (lv_at hl 2 rfl) ?_
        refine lv_iload_n hx hb dX0_fillSides_133 rfl (lv_at hl 4 rfl) ?_
        refine lv_isub hx hb dX0_fillSides_134 ?_
        refine g_top (y := nI ((a9 + sp_ (fn_ L) (T 0 p9) a9 c9) - a9)) (pk_sub (by omega)) ?_
        refine g_top (y := nI (sp_ (fn_ L) (T 0 p9) a9 c9)) (congrArg nI (by omega)) ?_
        have hGp43 : g_S D σ_37 sz (bg_ (fs2_ (fn_ L) T p9 a9 c9 q9) (p9 + 1) a9 (sp_ (fn_ L) (T 0 p9) a9 c9) (q9 + 1) (c9 - sp_ (fn_ L) (T 0 p9) a9 c9)) := ⟨s41_10, s41_11, s41_12, s41_13, s41_14, s41_15, s41_16, s41_17, s41_18, s41_19, hsz⟩
        refine g_callV0 (y := yX0_begin) (n := 5) (As := [.int (nI (p9 + (2 * (sp_ (fn_ L) (T 0 p9) a9 c9)))), .int (nI (a9 + sp_ (fn_ L) (T 0 p9) a9 c9)), .int (nI (c9 - sp_ (fn_ L) (T 0 p9) a9 c9)), .int (nI (q9 + 1)), .int (nI (sp_ (fn_ L) (T 0 p9) a9 c9))]) (rest := []) hx hb hml hown hts hE hZ hP hS hl.1 (m_X0_begin l D hAD σ_37 sz (bg_ (fs2_ (fn_ L) T p9 a9 c9 q9) (p9 + 1) a9 (sp_ (fn_ L) (T 0 p9) a9 c9) (q9 + 1) (c9 - sp_ (fn_ L) (T 0 p9) a9 c9)) hGp43 (p9 + (2 * (sp_ (fn_ L) (T 0 p9) a9 c9))) (a9 + sp_ (fn_ L) (T 0 p9) a9 c9) (c9 - sp_ (fn_ L) (T 0 p9) a9 c9) (q9 + 1) (sp_ (fn_ L) (T 0 p9) a9 c9) (by omega)) k_X0_48 (ci := 0) (by decide) s41_10 rfl rfl rfl rfl rfl ⟨rfl, rfl⟩ ⟨Nat.le_of_ble_eq_true rfl, Nat.le_of_ble_eq_true rfl⟩ (Nat.le_of_ble_eq_true rfl) ⟨Nat.le_of_ble_eq_true rfl, Nat.le_of_ble_eq_true rfl⟩ dX0_fillSides_135 (fun v44 σ_45 H locs hq hP hS => ?_)
        obtain ⟨rfl, hq2⟩ := hq
        refine W.eq (g2 := F0 m 138 ls []) rfl ?_
        obtain ⟨hGb46, hob47⟩ := hq2
        have hV48 := g_VF.off hV40 hob47 (by omega)
        obtain ⟨s49_10, s49_11, s49_12, s49_13, s49_14, s49_15, s49_16, s49_17, s49_18, s49_19, s49_sz⟩ := id hGb46
        have ho50 := g_off.tr ho42 hob47
        rw [← hQ]
        exact W.vret hx hb hr (fun te9 hte9 _ => g_fin (⟨rfl, hGb46, ho50⟩) hP hS hte9) hS.2.2 dX0_fillSides_138 hlocks
      · have hb28 := g_nle (a := a9 + c9) (b := a9 + i) h28 (by omega) (by omega)
        refine lv_aload_n hx hb dX0_fillSides_31 rfl (lv_at hl 5 rfl) ?_
        refine lv_iload hx hb dX0_fillSides_32 (lv_at hl 0 rfl) ?_
        refine g_callV0 (y := yX1_nameAt) (n := 1) (As := [.int (nI (a9 + i))]) (rest := []) hx hb hml hown hts hE hZ hP hS hl.1 (m_X1_nameAtN l D hAD σ v L F G hV (a9 + i) (by omega)) k_X0_85 (ci := 1) (by omega) hV.1 rfl rfl rfl rfl rfl ⟨rfl, rfl⟩ ⟨Nat.le_of_ble_eq_true rfl, Nat.le_of_ble_eq_true rfl⟩ (Nat.le_of_ble_eq_true rfl) ⟨Nat.le_of_ble_eq_true rfl, Nat.le_of_ble_eq_true rfl⟩ dX0_fillSides_34 (fun v51 σ_52 H locs hq hP hS => ?_)
        obtain ⟨rfl, rfl⟩ := hq
        refine W.eq (g2 := F0 m 37 ls [.int (fn_ L (a9 + i))]) rfl ?_
        refine lv_aload_n hx hb dX0_fillSides_37 rfl (lv_at hl 3 rfl) ?_
        refine g_get hx hb hts hE hown hP g_inX0 rfl (by decide) h10 0 (by decide) rfl wf_X0_9 (v := .ref (ad_ D 11)) rfl dX0_fillSides_38 ?_
        refine lv_iload_n hx hb dX0_fillSides_41 rfl (lv_at hl 4 rfl) ?_
        refine g_callN0 (y := yX2_read) (n := 2) (As := [.ref (ad_ D 11), .int (nI p9)]) (rest := [.int (fn_ L (a9 + i))]) hx hb hml hown hts hE hZ hP hS hl.1 (m_X2_read l D hAD σ 11 95 (T 0) (nI p9) (by decide) (by decide) h11) k_X0_56 rfl rfl ⟨rfl, rfl⟩ ⟨Nat.le_of_ble_eq_true rfl, Nat.le_of_ble_eq_true rfl⟩ (Nat.le_of_ble_eq_true rfl) ⟨Nat.le_of_ble_eq_true rfl, Nat.le_of_ble_eq_true rfl⟩ dX0_fillSides_42 (fun v53 σ_54 H locs hq hP hS => ?_)
        obtain ⟨rfl, rfl⟩ := hq
        refine W.eq (g2 := F0 m 45 ls [.int (rd_ (T 0) 95 (nI p9)), .int (fn_ L (a9 + i))]) rfl ?_
        refine g_top (y := T 0 p9) (rd_in (by omega) (by decide)) ?_
        refine g_callN0 (y := yX2_hasBit) (n := 2) (As := [.int (fn_ L (a9 + i)), .int (T 0 p9)]) (rest := []) hx hb hml hown hts hE hZ hP hS hl.1 (m_X2_hasBit l D hAD σ (fn_ L (a9 + i)) (T 0 p9)) k_X0_77 rfl rfl ⟨rfl, rfl⟩ ⟨Nat.le_of_ble_eq_true rfl, Nat.le_of_ble_eq_true rfl⟩ (Nat.le_of_ble_eq_true rfl) ⟨Nat.le_of_ble_eq_true rfl, Nat.le_of_ble_eq_true rfl⟩ dX0_fillSides_45 (fun v55 σ_56 H locs hq hP hS => ?_)
        obtain ⟨rfl, rfl⟩ := hq
        refine W.eq (g2 := F0 m 48 ls [.int (if hb_ (fn_ L (a9 + i)) (T 0 p9) then 1 else 0)]) rfl ?_
        refine lv_if_ne (tgt := 57) hx hb dX0_fillSides_48 (by decide) (fun h48 => ?_) (fun h48 => ?_)
        · have hbt : hb_ (fn_ L (a9 + i)) (T 0 p9) = true := by cases hz : hb_ (fn_ L (a9 + i)) (T 0 p9) with | true => rfl | false => exact absurd (by rw [hz]; rfl) h48
          have hsp : sp_ (fn_ L) (T 0 p9) a9 c9 = i := sp_eq hi hno (fun _ => hbt)
          rw [← hsp] at hl
          have hsp1 := hg1
          refine lv_aload_n hx hb dX0_fillSides_57 rfl (lv_at hl 3 rfl) ?_
          refine g_get hx hb hts hE hown hP g_inX0 rfl (by decide) h10 7 (by decide) rfl wf_X0_33 (v := .ref (ad_ D 18)) rfl dX0_fillSides_58 ?_
          refine lv_iload_n hx hb dX0_fillSides_61 rfl (lv_at hl 4 rfl) ?_
          refine g_callN0 (y := yX2_read) (n := 2) (As := [.ref (ad_ D 18), .int (nI p9)]) (rest := []) hx hb hml hown hts hE hZ hP hS hl.1 (m_X2_read l D hAD σ 18 95 (T 7) (nI p9) (by decide) (by decide) h18) k_X0_56 rfl rfl ⟨rfl, rfl⟩ ⟨Nat.le_of_ble_eq_true rfl, Nat.le_of_ble_eq_true rfl⟩ (Nat.le_of_ble_eq_true rfl) ⟨Nat.le_of_ble_eq_true rfl, Nat.le_of_ble_eq_true rfl⟩ dX0_fillSides_62 (fun v57 σ_58 H locs hq hP hS => ?_)
          obtain ⟨rfl, rfl⟩ := hq
          refine W.eq (g2 := F0 m 65 ls [.int (rd_ (T 7) 95 (nI p9))]) rfl ?_
          refine g_top (y := nI q9) ((rd_in (by omega) (by decide)).trans e7) ?_
          refine lv_iconst (v := nI 1) hx hb dX0_fillSides_65 (by decide) ?_
          refine lv_iadd hx hb dX0_fillSides_66 ?_
          refine g_top (y := nI (q9 + 1)) (nI_add q9 1) ?_
          refine lv_istore (lv' := [(6, .int (nI (q9 + 1))), (5, .int (nI (a9 + sp_ (fn_ L) (T 0 p9) a9 c9))), (4, .int (nI (a9 + c9))), (3, .int (nI a9)), (0, .ref (ad_ D 10)), (1, .int (nI p9)), (2, .ref (ad_ D v))]) hx hb dX0_fillSides_67 hl (by decide) rfl (fun ls hl => ?_)
          refine lv_iload_n hx hb dX0_fillSides_69 rfl (lv_at hl 5 rfl) ?_
          refine lv_iconst (v := nI 2) hx hb dX0_fillSides_70 (by decide) ?_
          refine lv_iload hx hb dX0_fillSides_71 (lv_at hl 1 rfl) ?_
          refine lv_iload_n hx hb dX0_fillSides_73 rfl (lv_at hl 3 rfl) ?_
          refine lv_isub hx hb dX0_fillSides_74 ?_
          refine g_top (y := nI ((a9 + sp_ (fn_ L) (T 0 p9) a9 c9) - a9)) (pk_sub (by omega)) ?_
          refine g_top (y := nI (sp_ (fn_ L) (T 0 p9) a9 c9)) (congrArg nI (by omega)) ?_
          refine lv_imul hx hb dX0_fillSides_75 ?_
          refine g_top (y := nI (2 * (sp_ (fn_ L) (T 0 p9) a9 c9))) (pk_mul 2 (sp_ (fn_ L) (T 0 p9) a9 c9)) ?_
          refine lv_iadd hx hb dX0_fillSides_76 ?_
          refine g_top (y := nI (p9 + (2 * (sp_ (fn_ L) (T 0 p9) a9 c9)))) (nI_add p9 (2 * (sp_ (fn_ L) (T 0 p9) a9 c9))) ?_
          refine lv_istore (lv' := [(7, .int (nI (p9 + (2 * (sp_ (fn_ L) (T 0 p9) a9 c9))))), (6, .int (nI (q9 + 1))), (5, .int (nI (a9 + sp_ (fn_ L) (T 0 p9) a9 c9))), (4, .int (nI (a9 + c9))), (3, .int (nI a9)), (0, .ref (ad_ D 10)), (1, .int (nI p9)), (2, .ref (ad_ D v))]) hx hb dX0_fillSides_77 hl (by decide) rfl (fun ls hl => ?_)
          refine lv_aload_n hx hb dX0_fillSides_79 rfl (lv_at hl 5 rfl) ?_
          refine g_get hx hb hts hE hown hP g_inX0 rfl (by decide) h10 5 (by decide) rfl wf_X0_27 (v := .ref (ad_ D 16)) rfl dX0_fillSides_80 ?_
          refine lv_iload_n hx hb dX0_fillSides_83 rfl (lv_at hl 6 rfl) ?_
          refine lv_iload_n hx hb dX0_fillSides_84 rfl (lv_at hl 6 rfl) ?_
          refine lv_iconst (v := nI 1) hx hb dX0_fillSides_85 (by decide) ?_
          refine lv_iadd hx hb dX0_fillSides_86 ?_
          refine g_top (y := nI (p9 + 1)) (nI_add p9 1) ?_
          refine g_callN0 (y := yX2_write) (n := 3) (As := [.ref (ad_ D 16), .int (nI p9), .int (nI (p9 + 1))]) (rest := []) hx hb hml hown hts hE hZ hP hS hl.1 (m_X2_write l D hAD σ 16 95 (T 5) (nI p9) (nI (p9 + 1)) (by decide) (by decide) h16) k_X0_81 rfl rfl ⟨rfl, rfl⟩ ⟨Nat.le_of_ble_eq_true rfl, Nat.le_of_ble_eq_true rfl⟩ (Nat.le_of_ble_eq_true rfl) ⟨Nat.le_of_ble_eq_true rfl, Nat.le_of_ble_eq_true rfl⟩ dX0_fillSides_87 (fun v59 σ_60 H locs hq hP hS => ?_)
          obtain ⟨rfl, hw, hfr⟩ := hq
          refine W.eq (g2 := F0 m 90 ls []) rfl ?_
          have hVw61 := g_VF.one hV hfr (by omega)
          rw [wr_in (by omega) (by decide)] at hw
          have hc62 := (hfr 10 (by decide)).trans h10
          have hc63 := (hfr 11 (by decide)).trans h11
          have hc64 := (hfr 12 (by decide)).trans h12
          have hc65 := (hfr 13 (by decide)).trans h13
          have hc66 := (hfr 14 (by decide)).trans h14
          have hc67 := (hfr 15 (by decide)).trans h15
          have hc68 := hw
          have hc69 := (hfr 17 (by decide)).trans h17
          have hc70 := (hfr 18 (by decide)).trans h18
          have hc71 := (hfr 19 (by decide)).trans h19
          have ho72 := g_off.one (g_off.rf (lo := 10) (hi := 19) (σ := σ)) hfr (by omega) (by omega)
          refine lv_aload_n hx hb dX0_fillSides_90 rfl (lv_at hl 5 rfl) ?_
          refine g_get hx hb hts hE hown hP g_inX0 rfl (by decide) hc62 6 (by decide) rfl wf_X0_30 (v := .ref (ad_ D 17)) rfl dX0_fillSides_91 ?_
          refine lv_iload_n hx hb dX0_fillSides_94 rfl (lv_at hl 6 rfl) ?_
          refine lv_iload hx hb dX0_fillSides_95 (lv_at hl 0 rfl) ?_
          refine g_callN0 (y := yX2_write) (n := 3) (As := [.ref (ad_ D 17), .int (nI p9), .int (nI (p9 + (2 * (sp_ (fn_ L) (T 0 p9) a9 c9))))]) (rest := []) hx hb hml hown hts hE hZ hP hS hl.1 (m_X2_write l D hAD σ_60 17 95 (T 6) (nI p9) (nI (p9 + (2 * (sp_ (fn_ L) (T 0 p9) a9 c9)))) (by decide) (by decide) hc69) k_X0_81 rfl rfl ⟨rfl, rfl⟩ ⟨Nat.le_of_ble_eq_true rfl, Nat.le_of_ble_eq_true rfl⟩ (Nat.le_of_ble_eq_true rfl) ⟨Nat.le_of_ble_eq_true rfl, Nat.le_of_ble_eq_true rfl⟩ dX0_fillSides_97 (fun v73 σ_74 H locs hq hP hS => ?_)
          obtain ⟨rfl, hw, hfr⟩ := hq
          refine W.eq (g2 := F0 m 100 ls []) rfl ?_
          have hVw75 := g_VF.one hVw61 hfr (by omega)
          rw [wr_in (by omega) (by decide)] at hw
          have hc76 := (hfr 10 (by decide)).trans hc62
          have hc77 := (hfr 11 (by decide)).trans hc63
          have hc78 := (hfr 12 (by decide)).trans hc64
          have hc79 := (hfr 13 (by decide)).trans hc65
          have hc80 := (hfr 14 (by decide)).trans hc66
          have hc81 := (hfr 15 (by decide)).trans hc67
          have hc82 := (hfr 16 (by decide)).trans hc68
          have hc83 := hw
          have hc84 := (hfr 18 (by decide)).trans hc70
          have hc85 := (hfr 19 (by decide)).trans hc71
          have ho86 := g_off.one ho72 hfr (by omega) (by omega)
          refine lv_aload_n hx hb dX0_fillSides_100 rfl (lv_at hl 5 rfl) ?_
          refine lv_iload_n hx hb dX0_fillSides_101 rfl (lv_at hl 6 rfl) ?_
          refine lv_iconst (v := nI 1) hx hb dX0_fillSides_102 (by decide) ?_
          refine lv_iadd hx hb dX0_fillSides_103 ?_
          refine g_top (y := nI (p9 + 1)) (nI_add p9 1) ?_
          refine lv_iload_n hx hb dX0_fillSides_104 rfl (lv_at hl 4 rfl) ?_
          refine lv_iload hx hb dX0_fillSides_105 (lv_at hl 2 rfl) ?_
          refine lv_iload_n hx hb dX0_fillSides_107 rfl (lv_at hl 4 rfl) ?_
          refine lv_isub hx hb dX0_fillSides_108 ?_
          refine g_top (y := nI ((a9 + sp_ (fn_ L) (T 0 p9) a9 c9) - a9)) (pk_sub (by omega)) ?_
          refine g_top (y := nI (sp_ (fn_ L) (T 0 p9) a9 c9)) (congrArg nI (by omega)) ?_
          refine lv_iload hx hb dX0_fillSides_109 (lv_at hl 1 rfl) ?_
          refine lv_iload hx hb dX0_fillSides_111 (lv_at hl 3 rfl) ?_
          refine lv_iload hx hb dX0_fillSides_113 (lv_at hl 2 rfl) ?_
          refine lv_isub hx hb dX0_fillSides_115 ?_
          refine g_top (y := nI ((a9 + c9) - (a9 + sp_ (fn_ L) (T 0 p9) a9 c9))) (pk_sub (by omega)) ?_
          refine g_top (y := nI (c9 - sp_ (fn_ L) (T 0 p9) a9 c9)) (congrArg nI (by omega)) ?_
          have hGp87 : g_S D σ_74 sz (fs2_ (fn_ L) T p9 a9 c9 q9) := ⟨hc76, hc77, hc78, hc79, hc80, hc81, hc82, hc83, hc84, hc85, hsz⟩
          refine g_callV0 (y := yX0_begin) (n := 5) (As := [.int (nI (p9 + 1)), .int (nI a9), .int (nI (sp_ (fn_ L) (T 0 p9) a9 c9)), .int (nI (q9 + 1)), .int (nI (c9 - sp_ (fn_ L) (T 0 p9) a9 c9))]) (rest := []) hx hb hml hown hts hE hZ hP hS hl.1 (m_X0_begin l D hAD σ_74 sz (fs2_ (fn_ L) T p9 a9 c9 q9) hGp87 (p9 + 1) a9 (sp_ (fn_ L) (T 0 p9) a9 c9) (q9 + 1) (c9 - sp_ (fn_ L) (T 0 p9) a9 c9) (by omega)) k_X0_48 (ci := 0) (by decide) hc76 rfl rfl rfl rfl rfl ⟨rfl, rfl⟩ ⟨Nat.le_of_ble_eq_true rfl, Nat.le_of_ble_eq_true rfl⟩ (Nat.le_of_ble_eq_true rfl) ⟨Nat.le_of_ble_eq_true rfl, Nat.le_of_ble_eq_true rfl⟩ dX0_fillSides_116 (fun v88 σ_89 H locs hq hP hS => ?_)
          obtain ⟨rfl, hq2⟩ := hq
          refine W.eq (g2 := F0 m 119 ls []) rfl ?_
          obtain ⟨hGb90, hob91⟩ := hq2
          have hV92 := g_VF.off hVw75 hob91 (by omega)
          obtain ⟨s93_10, s93_11, s93_12, s93_13, s93_14, s93_15, s93_16, s93_17, s93_18, s93_19, s93_sz⟩ := id hGb90
          have ho94 := g_off.tr ho86 hob91
          refine lv_aload_n hx hb dX0_fillSides_119 rfl (lv_at hl 5 rfl) ?_
          refine lv_iload hx hb dX0_fillSides_120 (lv_at hl 0 rfl) ?_
          refine lv_iload hx hb dX0_fillSides_122 (lv_at hl 2 rfl) ?_
          refine lv_iload hx hb dX0_fillSides_124 (lv_at hl 3 rfl) ?_
          refine lv_iload hx hb dX0_fillSides_126 (lv_at hl 2 rfl) ?_
          refine lv_isub hx hb dX0_fillSides_128 ?_
          refine g_top (y := nI ((a9 + c9) - (a9 + sp_ (fn_ L) (T 0 p9) a9 c9))) (pk_sub (by omega)) ?_
          refine g_top (y := nI (c9 - sp_ (fn_ L) (T 0 p9) a9 c9)) (congrArg nI (by omega)) ?_
          refine lv_iload hx hb dX0_fillSides_129 (lv_at hl 1 rfl) ?_
          refine lv_iload hx hb dX0_fillSides_131 (lv_at hl 2 rfl) ?_
          refine lv_iload_n hx hb dX0_fillSides_133 rfl (lv_at hl 4 rfl) ?_
          refine lv_isub hx hb dX0_fillSides_134 ?_
          refine g_top (y := nI ((a9 + sp_ (fn_ L) (T 0 p9) a9 c9) - a9)) (pk_sub (by omega)) ?_
          refine g_top (y := nI (sp_ (fn_ L) (T 0 p9) a9 c9)) (congrArg nI (by omega)) ?_
          have hGp95 : g_S D σ_89 sz (bg_ (fs2_ (fn_ L) T p9 a9 c9 q9) (p9 + 1) a9 (sp_ (fn_ L) (T 0 p9) a9 c9) (q9 + 1) (c9 - sp_ (fn_ L) (T 0 p9) a9 c9)) := ⟨s93_10, s93_11, s93_12, s93_13, s93_14, s93_15, s93_16, s93_17, s93_18, s93_19, hsz⟩
          refine g_callV0 (y := yX0_begin) (n := 5) (As := [.int (nI (p9 + (2 * (sp_ (fn_ L) (T 0 p9) a9 c9)))), .int (nI (a9 + sp_ (fn_ L) (T 0 p9) a9 c9)), .int (nI (c9 - sp_ (fn_ L) (T 0 p9) a9 c9)), .int (nI (q9 + 1)), .int (nI (sp_ (fn_ L) (T 0 p9) a9 c9))]) (rest := []) hx hb hml hown hts hE hZ hP hS hl.1 (m_X0_begin l D hAD σ_89 sz (bg_ (fs2_ (fn_ L) T p9 a9 c9 q9) (p9 + 1) a9 (sp_ (fn_ L) (T 0 p9) a9 c9) (q9 + 1) (c9 - sp_ (fn_ L) (T 0 p9) a9 c9)) hGp95 (p9 + (2 * (sp_ (fn_ L) (T 0 p9) a9 c9))) (a9 + sp_ (fn_ L) (T 0 p9) a9 c9) (c9 - sp_ (fn_ L) (T 0 p9) a9 c9) (q9 + 1) (sp_ (fn_ L) (T 0 p9) a9 c9) (by omega)) k_X0_48 (ci := 0) (by decide) s93_10 rfl rfl rfl rfl rfl ⟨rfl, rfl⟩ ⟨Nat.le_of_ble_eq_true rfl, Nat.le_of_ble_eq_true rfl⟩ (Nat.le_of_ble_eq_true rfl) ⟨Nat.le_of_ble_eq_true rfl, Nat.le_of_ble_eq_true rfl⟩ dX0_fillSides_135 (fun v96 σ_97 H locs hq hP hS => ?_)
          obtain ⟨rfl, hq2⟩ := hq
          refine W.eq (g2 := F0 m 138 ls []) rfl ?_
          obtain ⟨hGb98, hob99⟩ := hq2
          have hV100 := g_VF.off hV92 hob99 (by omega)
          obtain ⟨s101_10, s101_11, s101_12, s101_13, s101_14, s101_15, s101_16, s101_17, s101_18, s101_19, s101_sz⟩ := id hGb98
          have ho102 := g_off.tr ho94 hob99
          rw [← hQ]
          exact W.vret hx hb hr (fun te9 hte9 _ => g_fin (⟨rfl, hGb98, ho102⟩) hP hS hte9) hS.2.2 dX0_fillSides_138 hlocks
        · have hbf : hb_ (fn_ L (a9 + i)) (T 0 p9) = false := by cases hz : hb_ (fn_ L (a9 + i)) (T 0 p9) with | false => rfl | true => exact absurd h48 (by rw [hz]; decide)
          refine lv_iinc (v := nI (a9 + i + 1)) (lv' := [(5, .int (nI (a9 + i + 1))), (4, .int (nI (a9 + c9))), (3, .int (nI a9)), (0, .ref (ad_ D 10)), (1, .int (nI p9)), (2, .ref (ad_ D v))]) hx hb dX0_fillSides_51 hl (k := 0) rfl (g_inc (a9 + i)) (by decide) rfl (fun ls hl => ?_)
          refine lv_goto (tgt := 24) hx hb dX0_fillSides_54 (by decide) ?_
          exact ih24 (i + 1) (by omega) (by omega) (fun j hj => (by rcases Nat.lt_succ_iff_lt_or_eq.mp hj with q | q; exact hno j q; rw [q]; exact hbf)) _ _ hP hS ls (lv_sub hl [0, 1, 2, 3, 4, 5] rfl)
  exact K24 ((c9 - 0) + 1) 0 (Nat.lt_succ_self _) (Nat.zero_le _) (fun j hj => absurd hj (Nat.not_lt_zero j)) _ _ hP hS ls (lv_sub hl [0, 1, 2, 3, 4, 5] rfl)

abbrev m_X0_fillAt_rm : Room := { frames := 11, cells := 0, slots := 0, locals := 274 }
set_option maxHeartbeats 4000000 in
set_option maxRecDepth 100000 in
theorem m_X0_fillAt (l : Launch) (D : va_G) (hAD : g_AD D) (σ : Nat → va_E) (sz : Nat) (T : Nat → Nat → Int32) (hG : g_S D σ sz T) (v : Nat) (L : g_L) (F G : Nat → Int32) (p9 a9 c9 q9 : Nat) (hV : g_VF D σ v L F G) (hvd : v + 2 < 10 ∨ 19 < v) (e1 : T 1 p9 = nI a9) (e2 : T 2 p9 = nI c9) (e7 : T 7 p9 = nI q9) (hac : a9 + c9 ≤ L.length) (hc1 : 1 ≤ c9) (hp : p9 + 2 * c9 ≤ 96) (hg2 : 2 ≤ c9 → sp_ (fn_ L) (fub_ (fn_ L a9) (fn_ L (a9 + c9 - 1))) a9 c9 < c9) (hq9 : q9 < 1000) : g_M l D yX0_fillAt cX0_fillAt 7 none m_X0_fillAt_rm [.ref (ad_ D 10), .int (nI p9), .ref (ad_ D v)] σ (fun v1 σ1 => v1 = none ∧ g_S D σ1 sz (fat_ (fn_ L) T p9 a9 c9 q9) ∧ g_off 10 19 σ σ1) := by
  refine g_ofW [(0, .ref (ad_ D 10)), (1, .int (nI p9)), (2, .ref (ad_ D v))] (by decide +kernel) (Nat.le_of_ble_eq_true rfl) rfl ?_
  intro p e s m args below meth c hx hb hr hml hown hlocks hts hE hZ hP hS hnm ls hl
  have hown : s.vm.findClass RX0 = some m.cls := hown
  generalize hQ : MQ _ _ _ _ _ _ _ = Q
  obtain ⟨h10, h11, h12, h13, h14, h15, h16, h17, h18, h19, hsz⟩ := id hG
  have hvv := hV.2.2.2.2.2
  have hLn := hV.2.2.2.2.1
  refine lv_aload_n hx hb dX0_fillAt_0 rfl (lv_at hl 0 rfl) ?_
  refine g_get hx hb hts hE hown hP g_inX0 rfl (by decide) h10 1 (by decide) rfl wf_X0_15 (v := .ref (ad_ D 12)) rfl dX0_fillAt_1 ?_
  refine lv_iload_n hx hb dX0_fillAt_4 rfl (lv_at hl 1 rfl) ?_
  refine g_callN0 (y := yX2_read) (n := 2) (As := [.ref (ad_ D 12), .int (nI p9)]) (rest := []) hx hb hml hown hts hE hZ hP hS hl.1 (m_X2_read l D hAD σ 12 95 (T 1) (nI p9) (by decide) (by decide) h12) k_X0_56 rfl rfl ⟨rfl, rfl⟩ ⟨Nat.le_of_ble_eq_true rfl, Nat.le_of_ble_eq_true rfl⟩ (Nat.le_of_ble_eq_true rfl) ⟨Nat.le_of_ble_eq_true rfl, Nat.le_of_ble_eq_true rfl⟩ dX0_fillAt_5 (fun v1 σ_2 H locs hq hP hS => ?_)
  obtain ⟨rfl, rfl⟩ := hq
  refine W.eq (g2 := F0 m 8 ls [.int (rd_ (T 1) 95 (nI p9))]) rfl ?_
  refine g_top (y := nI a9) ((rd_in (by omega) (by decide)).trans e1) ?_
  refine lv_istore_n (lv' := [(3, .int (nI a9)), (0, .ref (ad_ D 10)), (1, .int (nI p9)), (2, .ref (ad_ D v))]) hx hb dX0_fillAt_8 rfl hl (by decide) rfl (fun ls hl => ?_)
  refine lv_iload_n hx hb dX0_fillAt_9 rfl (lv_at hl 0 rfl) ?_
  refine lv_aload_n hx hb dX0_fillAt_10 rfl (lv_at hl 1 rfl) ?_
  refine g_get hx hb hts hE hown hP g_inX0 rfl (by decide) h10 2 (by decide) rfl wf_X0_18 (v := .ref (ad_ D 13)) rfl dX0_fillAt_11 ?_
  refine lv_iload_n hx hb dX0_fillAt_14 rfl (lv_at hl 2 rfl) ?_
  refine g_callN0 (y := yX2_read) (n := 2) (As := [.ref (ad_ D 13), .int (nI p9)]) (rest := [.int (nI a9)]) hx hb hml hown hts hE hZ hP hS hl.1 (m_X2_read l D hAD σ 13 95 (T 2) (nI p9) (by decide) (by decide) h13) k_X0_56 rfl rfl ⟨rfl, rfl⟩ ⟨Nat.le_of_ble_eq_true rfl, Nat.le_of_ble_eq_true rfl⟩ (Nat.le_of_ble_eq_true rfl) ⟨Nat.le_of_ble_eq_true rfl, Nat.le_of_ble_eq_true rfl⟩ dX0_fillAt_15 (fun v3 σ_4 H locs hq hP hS => ?_)
  obtain ⟨rfl, rfl⟩ := hq
  refine W.eq (g2 := F0 m 18 ls [.int (rd_ (T 2) 95 (nI p9)), .int (nI a9)]) rfl ?_
  refine g_top (y := nI c9) ((rd_in (by omega) (by decide)).trans e2) ?_
  refine lv_iadd hx hb dX0_fillAt_18 ?_
  refine g_top (y := nI (a9 + c9)) (nI_add a9 c9) ?_
  refine lv_iconst (v := nI 1) hx hb dX0_fillAt_19 (by decide) ?_
  refine lv_isub hx hb dX0_fillAt_20 ?_
  refine g_top (y := nI ((a9 + c9) - 1)) (pk_sub (by omega)) ?_
  refine lv_istore (lv' := [(4, .int (nI ((a9 + c9) - 1))), (3, .int (nI a9)), (0, .ref (ad_ D 10)), (1, .int (nI p9)), (2, .ref (ad_ D v))]) hx hb dX0_fillAt_21 hl (by decide) rfl (fun ls hl => ?_)
  refine lv_aload_n hx hb dX0_fillAt_23 rfl (lv_at hl 4 rfl) ?_
  refine lv_iload_n hx hb dX0_fillAt_24 rfl (lv_at hl 1 rfl) ?_
  refine g_callV0 (y := yX1_nameAt) (n := 1) (As := [.int (nI a9)]) (rest := []) hx hb hml hown hts hE hZ hP hS hl.1 (m_X1_nameAtN l D hAD σ v L F G hV a9 (by omega)) k_X0_85 (ci := 1) (by omega) hV.1 rfl rfl rfl rfl rfl ⟨rfl, rfl⟩ ⟨Nat.le_of_ble_eq_true rfl, Nat.le_of_ble_eq_true rfl⟩ (Nat.le_of_ble_eq_true rfl) ⟨Nat.le_of_ble_eq_true rfl, Nat.le_of_ble_eq_true rfl⟩ dX0_fillAt_25 (fun v5 σ_6 H locs hq hP hS => ?_)
  obtain ⟨rfl, rfl⟩ := hq
  refine W.eq (g2 := F0 m 28 ls [.int (fn_ L a9)]) rfl ?_
  refine lv_istore (lv' := [(5, .int (fn_ L a9)), (4, .int (nI ((a9 + c9) - 1))), (3, .int (nI a9)), (0, .ref (ad_ D 10)), (1, .int (nI p9)), (2, .ref (ad_ D v))]) hx hb dX0_fillAt_28 hl (by decide) rfl (fun ls hl => ?_)
  refine lv_aload_n hx hb dX0_fillAt_30 rfl (lv_at hl 5 rfl) ?_
  refine lv_iload hx hb dX0_fillAt_31 (lv_at hl 1 rfl) ?_
  refine g_callV0 (y := yX1_nameAt) (n := 1) (As := [.int (nI ((a9 + c9) - 1))]) (rest := []) hx hb hml hown hts hE hZ hP hS hl.1 (m_X1_nameAtN l D hAD σ v L F G hV ((a9 + c9) - 1) (by omega)) k_X0_85 (ci := 1) (by omega) hV.1 rfl rfl rfl rfl rfl ⟨rfl, rfl⟩ ⟨Nat.le_of_ble_eq_true rfl, Nat.le_of_ble_eq_true rfl⟩ (Nat.le_of_ble_eq_true rfl) ⟨Nat.le_of_ble_eq_true rfl, Nat.le_of_ble_eq_true rfl⟩ dX0_fillAt_33 (fun v7 σ_8 H locs hq hP hS => ?_)
  obtain ⟨rfl, rfl⟩ := hq
  refine W.eq (g2 := F0 m 36 ls [.int (fn_ L ((a9 + c9) - 1))]) rfl ?_
  refine lv_istore (lv' := [(6, .int (fn_ L ((a9 + c9) - 1))), (5, .int (fn_ L a9)), (4, .int (nI ((a9 + c9) - 1))), (3, .int (nI a9)), (0, .ref (ad_ D 10)), (1, .int (nI p9)), (2, .ref (ad_ D v))]) hx hb dX0_fillAt_36 hl (by decide) rfl (fun ls hl => ?_)
  refine lv_aload_n hx hb dX0_fillAt_38 rfl (lv_at hl 4 rfl) ?_
  refine g_get hx hb hts hE hown hP g_inX0 rfl (by decide) h10 3 (by decide) rfl wf_X0_21 (v := .ref (ad_ D 14)) rfl dX0_fillAt_39 ?_
  refine lv_iload_n hx hb dX0_fillAt_42 rfl (lv_at hl 5 rfl) ?_
  refine lv_iload hx hb dX0_fillAt_43 (lv_at hl 1 rfl) ?_
  refine g_callN0 (y := yX2_write) (n := 3) (As := [.ref (ad_ D 14), .int (nI p9), .int (fn_ L a9)]) (rest := []) hx hb hml hown hts hE hZ hP hS hl.1 (m_X2_write l D hAD σ 14 95 (T 3) (nI p9) (fn_ L a9) (by decide) (by decide) h14) k_X0_81 rfl rfl ⟨rfl, rfl⟩ ⟨Nat.le_of_ble_eq_true rfl, Nat.le_of_ble_eq_true rfl⟩ (Nat.le_of_ble_eq_true rfl) ⟨Nat.le_of_ble_eq_true rfl, Nat.le_of_ble_eq_true rfl⟩ dX0_fillAt_45 (fun v9 σ_10 H locs hq hP hS => ?_)
  obtain ⟨rfl, hw, hfr⟩ := hq
  refine W.eq (g2 := F0 m 48 ls []) rfl ?_
  have hVw11 := g_VF.one hV hfr (by omega)
  rw [wr_in (by omega) (by decide)] at hw
  have hc12 := (hfr 10 (by decide)).trans h10
  have hc13 := (hfr 11 (by decide)).trans h11
  have hc14 := (hfr 12 (by decide)).trans h12
  have hc15 := (hfr 13 (by decide)).trans h13
  have hc16 := hw
  have hc17 := (hfr 15 (by decide)).trans h15
  have hc18 := (hfr 16 (by decide)).trans h16
  have hc19 := (hfr 17 (by decide)).trans h17
  have hc20 := (hfr 18 (by decide)).trans h18
  have hc21 := (hfr 19 (by decide)).trans h19
  have ho22 := g_off.one (g_off.rf (lo := 10) (hi := 19) (σ := σ)) hfr (by omega) (by omega)
  refine lv_aload_n hx hb dX0_fillAt_48 rfl (lv_at hl 4 rfl) ?_
  refine g_get hx hb hts hE hown hP g_inX0 rfl (by decide) hc12 4 (by decide) rfl wf_X0_24 (v := .ref (ad_ D 15)) rfl dX0_fillAt_49 ?_
  refine lv_iload_n hx hb dX0_fillAt_52 rfl (lv_at hl 5 rfl) ?_
  refine lv_iload hx hb dX0_fillAt_53 (lv_at hl 0 rfl) ?_
  refine g_callN0 (y := yX2_write) (n := 3) (As := [.ref (ad_ D 15), .int (nI p9), .int (fn_ L ((a9 + c9) - 1))]) (rest := []) hx hb hml hown hts hE hZ hP hS hl.1 (m_X2_write l D hAD σ_10 15 95 (T 4) (nI p9) (fn_ L ((a9 + c9) - 1)) (by decide) (by decide) hc17) k_X0_81 rfl rfl ⟨rfl, rfl⟩ ⟨Nat.le_of_ble_eq_true rfl, Nat.le_of_ble_eq_true rfl⟩ (Nat.le_of_ble_eq_true rfl) ⟨Nat.le_of_ble_eq_true rfl, Nat.le_of_ble_eq_true rfl⟩ dX0_fillAt_55 (fun v23 σ_24 H locs hq hP hS => ?_)
  obtain ⟨rfl, hw, hfr⟩ := hq
  refine W.eq (g2 := F0 m 58 ls []) rfl ?_
  have hVw25 := g_VF.one hVw11 hfr (by omega)
  rw [wr_in (by omega) (by decide)] at hw
  have hc26 := (hfr 10 (by decide)).trans hc12
  have hc27 := (hfr 11 (by decide)).trans hc13
  have hc28 := (hfr 12 (by decide)).trans hc14
  have hc29 := (hfr 13 (by decide)).trans hc15
  have hc30 := (hfr 14 (by decide)).trans hc16
  have hc31 := hw
  have hc32 := (hfr 16 (by decide)).trans hc18
  have hc33 := (hfr 17 (by decide)).trans hc19
  have hc34 := (hfr 18 (by decide)).trans hc20
  have hc35 := (hfr 19 (by decide)).trans hc21
  have ho36 := g_off.one ho22 hfr (by omega) (by omega)
  refine lv_aload_n hx hb dX0_fillAt_58 rfl (lv_at hl 4 rfl) ?_
  refine g_get hx hb hts hE hown hP g_inX0 rfl (by decide) hc26 0 (by decide) rfl wf_X0_9 (v := .ref (ad_ D 11)) rfl dX0_fillAt_59 ?_
  refine lv_iload_n hx hb dX0_fillAt_62 rfl (lv_at hl 5 rfl) ?_
  refine lv_iload hx hb dX0_fillAt_63 (lv_at hl 1 rfl) ?_
  refine lv_iload hx hb dX0_fillAt_65 (lv_at hl 0 rfl) ?_
  refine g_callN0 (y := yX2_firstUnlikeBit) (n := 2) (As := [.int (fn_ L a9), .int (fn_ L ((a9 + c9) - 1))]) (rest := [.int (nI p9), .ref (ad_ D 11)]) hx hb hml hown hts hE hZ hP hS hl.1 (m_X2_firstUnlikeBit l D hAD σ_24 (fn_ L a9) (fn_ L ((a9 + c9) - 1))) k_X0_64 rfl rfl ⟨rfl, rfl⟩ ⟨Nat.le_of_ble_eq_true rfl, Nat.le_of_ble_eq_true rfl⟩ (Nat.le_of_ble_eq_true rfl) ⟨Nat.le_of_ble_eq_true rfl, Nat.le_of_ble_eq_true rfl⟩ dX0_fillAt_67 (fun v37 σ_38 H locs hq hP hS => ?_)
  obtain ⟨rfl, rfl⟩ := hq
  refine W.eq (g2 := F0 m 70 ls [.int (fub_ (fn_ L a9) (fn_ L ((a9 + c9) - 1))), .int (nI p9), .ref (ad_ D 11)]) rfl ?_
  refine g_callN0 (y := yX2_write) (n := 3) (As := [.ref (ad_ D 11), .int (nI p9), .int (fub_ (fn_ L a9) (fn_ L ((a9 + c9) - 1)))]) (rest := []) hx hb hml hown hts hE hZ hP hS hl.1 (m_X2_write l D hAD σ_24 11 95 (T 0) (nI p9) (fub_ (fn_ L a9) (fn_ L ((a9 + c9) - 1))) (by decide) (by decide) hc27) k_X0_81 rfl rfl ⟨rfl, rfl⟩ ⟨Nat.le_of_ble_eq_true rfl, Nat.le_of_ble_eq_true rfl⟩ (Nat.le_of_ble_eq_true rfl) ⟨Nat.le_of_ble_eq_true rfl, Nat.le_of_ble_eq_true rfl⟩ dX0_fillAt_70 (fun v39 σ_40 H locs hq hP hS => ?_)
  obtain ⟨rfl, hw, hfr⟩ := hq
  refine W.eq (g2 := F0 m 73 ls []) rfl ?_
  have hVw41 := g_VF.one hVw25 hfr (by omega)
  rw [wr_in (by omega) (by decide)] at hw
  have hc42 := (hfr 10 (by decide)).trans hc26
  have hc43 := hw
  have hc44 := (hfr 12 (by decide)).trans hc28
  have hc45 := (hfr 13 (by decide)).trans hc29
  have hc46 := (hfr 14 (by decide)).trans hc30
  have hc47 := (hfr 15 (by decide)).trans hc31
  have hc48 := (hfr 16 (by decide)).trans hc32
  have hc49 := (hfr 17 (by decide)).trans hc33
  have hc50 := (hfr 18 (by decide)).trans hc34
  have hc51 := (hfr 19 (by decide)).trans hc35
  have ho52 := g_off.one ho36 hfr (by omega) (by omega)
  refine lv_aload_n hx hb dX0_fillAt_73 rfl (lv_at hl 4 rfl) ?_
  refine g_get hx hb hts hE hown hP g_inX0 rfl (by decide) hc42 5 (by decide) rfl wf_X0_27 (v := .ref (ad_ D 16)) rfl dX0_fillAt_74 ?_
  refine lv_iload_n hx hb dX0_fillAt_77 rfl (lv_at hl 5 rfl) ?_
  refine lv_iconst (v := (-1)) hx hb dX0_fillAt_78 (by decide) ?_
  refine g_callN0 (y := yX2_write) (n := 3) (As := [.ref (ad_ D 16), .int (nI p9), .int ((-1))]) (rest := []) hx hb hml hown hts hE hZ hP hS hl.1 (m_X2_write l D hAD σ_40 16 95 (T 5) (nI p9) ((-1)) (by decide) (by decide) hc48) k_X0_81 rfl rfl ⟨rfl, rfl⟩ ⟨Nat.le_of_ble_eq_true rfl, Nat.le_of_ble_eq_true rfl⟩ (Nat.le_of_ble_eq_true rfl) ⟨Nat.le_of_ble_eq_true rfl, Nat.le_of_ble_eq_true rfl⟩ dX0_fillAt_79 (fun v53 σ_54 H locs hq hP hS => ?_)
  obtain ⟨rfl, hw, hfr⟩ := hq
  refine W.eq (g2 := F0 m 82 ls []) rfl ?_
  have hVw55 := g_VF.one hVw41 hfr (by omega)
  rw [wr_in (by omega) (by decide)] at hw
  have hc56 := (hfr 10 (by decide)).trans hc42
  have hc57 := (hfr 11 (by decide)).trans hc43
  have hc58 := (hfr 12 (by decide)).trans hc44
  have hc59 := (hfr 13 (by decide)).trans hc45
  have hc60 := (hfr 14 (by decide)).trans hc46
  have hc61 := (hfr 15 (by decide)).trans hc47
  have hc62 := hw
  have hc63 := (hfr 17 (by decide)).trans hc49
  have hc64 := (hfr 18 (by decide)).trans hc50
  have hc65 := (hfr 19 (by decide)).trans hc51
  have ho66 := g_off.one ho52 hfr (by omega) (by omega)
  refine lv_aload_n hx hb dX0_fillAt_82 rfl (lv_at hl 4 rfl) ?_
  refine g_get hx hb hts hE hown hP g_inX0 rfl (by decide) hc56 6 (by decide) rfl wf_X0_30 (v := .ref (ad_ D 17)) rfl dX0_fillAt_83 ?_
  refine lv_iload_n hx hb dX0_fillAt_86 rfl (lv_at hl 5 rfl) ?_
  refine lv_iconst (v := (-1)) hx hb dX0_fillAt_87 (by decide) ?_
  refine g_callN0 (y := yX2_write) (n := 3) (As := [.ref (ad_ D 17), .int (nI p9), .int ((-1))]) (rest := []) hx hb hml hown hts hE hZ hP hS hl.1 (m_X2_write l D hAD σ_54 17 95 (T 6) (nI p9) ((-1)) (by decide) (by decide) hc63) k_X0_81 rfl rfl ⟨rfl, rfl⟩ ⟨Nat.le_of_ble_eq_true rfl, Nat.le_of_ble_eq_true rfl⟩ (Nat.le_of_ble_eq_true rfl) ⟨Nat.le_of_ble_eq_true rfl, Nat.le_of_ble_eq_true rfl⟩ dX0_fillAt_88 (fun v67 σ_68 H locs hq hP hS => ?_)
  obtain ⟨rfl, hw, hfr⟩ := hq
  refine W.eq (g2 := F0 m 91 ls []) rfl ?_
  have hVw69 := g_VF.one hVw55 hfr (by omega)
  rw [wr_in (by omega) (by decide)] at hw
  have hc70 := (hfr 10 (by decide)).trans hc56
  have hc71 := (hfr 11 (by decide)).trans hc57
  have hc72 := (hfr 12 (by decide)).trans hc58
  have hc73 := (hfr 13 (by decide)).trans hc59
  have hc74 := (hfr 14 (by decide)).trans hc60
  have hc75 := (hfr 15 (by decide)).trans hc61
  have hc76 := (hfr 16 (by decide)).trans hc62
  have hc77 := hw
  have hc78 := (hfr 18 (by decide)).trans hc64
  have hc79 := (hfr 19 (by decide)).trans hc65
  have ho80 := g_off.one ho66 hfr (by omega) (by omega)
  refine lv_iload_n hx hb dX0_fillAt_91 rfl (lv_at hl 3 rfl) ?_
  refine lv_iload hx hb dX0_fillAt_92 (lv_at hl 2 rfl) ?_
  refine lv_icmp_ge (tgt := 103) hx hb dX0_fillAt_94 (by decide) (fun h94 => ?_) (fun h94 => ?_)
  · have hb94 := g_le (a := (a9 + c9) - 1) (b := a9) h94 (by omega) (by omega)
    have hGp81 : g_S D σ_68 sz (fa0_ (fn_ L) T p9 a9 c9) := ⟨hc70, hc71, hc72, hc73, hc74, hc75, hc76, hc77, hc78, hc79, hsz⟩
    rw [← hQ]
    exact W.vret hx hb hr (fun te9 hte9 _ => g_fin (⟨rfl, by rw [fat_, if_neg (by omega)]; exact hGp81, ho80⟩) hP hS hte9) hS.2.2 dX0_fillAt_103 hlocks
  · have hb94 := g_nle (a := (a9 + c9) - 1) (b := a9) h94 (by omega) (by omega)
    have h2c : 2 ≤ c9 := by omega
    have hg1 : sp_ (fn_ L) (fa0_ (fn_ L) T p9 a9 c9 0 p9) a9 c9 < c9 := by rw [show fa0_ (fn_ L) T p9 a9 c9 0 p9 = fub_ (fn_ L a9) (fn_ L (a9 + c9 - 1)) from upd_at]; exact hg2 h2c
    refine lv_aload_n hx hb dX0_fillAt_97 rfl (lv_at hl 4 rfl) ?_
    refine lv_iload_n hx hb dX0_fillAt_98 rfl (lv_at hl 5 rfl) ?_
    refine lv_aload_n hx hb dX0_fillAt_99 rfl (lv_at hl 6 rfl) ?_
    have hGp82 : g_S D σ_68 sz (fa0_ (fn_ L) T p9 a9 c9) := ⟨hc70, hc71, hc72, hc73, hc74, hc75, hc76, hc77, hc78, hc79, hsz⟩
    refine g_callV0 (y := yX0_fillSides) (n := 2) (As := [.int (nI p9), .ref (ad_ D v)]) (rest := []) hx hb hml hown hts hE hZ hP hS hl.1 (m_X0_fillSides l D hAD σ_68 sz (fa0_ (fn_ L) T p9 a9 c9) hGp82 v L F G p9 a9 c9 q9 hVw69 hvd e1 e2 e7 hac hp hg1 h2c hq9) k_X0_88 (ci := 0) (by decide) hc70 rfl rfl rfl rfl rfl ⟨rfl, rfl⟩ ⟨Nat.le_of_ble_eq_true rfl, Nat.le_of_ble_eq_true rfl⟩ (Nat.le_of_ble_eq_true rfl) ⟨Nat.le_of_ble_eq_true rfl, Nat.le_of_ble_eq_true rfl⟩ dX0_fillAt_100 (fun v83 σ_84 H locs hq hP hS => ?_)
    obtain ⟨rfl, hq2⟩ := hq
    refine W.eq (g2 := F0 m 103 ls []) rfl ?_
    obtain ⟨hGb85, hob86⟩ := hq2
    have hV87 := g_VF.off hVw69 hob86 (by omega)
    obtain ⟨s88_10, s88_11, s88_12, s88_13, s88_14, s88_15, s88_16, s88_17, s88_18, s88_19, s88_sz⟩ := id hGb85
    have ho89 := g_off.tr ho80 hob86
    rw [← hQ]
    exact W.vret hx hb hr (fun te9 hte9 _ => g_fin (⟨rfl, by rw [fat_, if_pos h2c]; exact hGb85, ho89⟩) hP hS hte9) hS.2.2 dX0_fillAt_103 hlocks
