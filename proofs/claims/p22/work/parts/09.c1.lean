abbrev m_X2_read_rm : Room := { frames := 8, cells := 0, slots := 0, locals := 200 }
set_option maxHeartbeats 4000000 in
set_option maxRecDepth 100000 in
theorem m_X2_read (l : Launch) (D : va_G) (hAD : g_AD D) (σ : Nat → va_E) (q n : Nat) (F : Nat → Int32) (i : Int32) (hq : q < 20) (hn : n < 2 ^ 31) (h0 : σ q = .inl (g_cI D, n, .inl F)) : g_M l D yX2_read cX2_read 2 (some .int) m_X2_read_rm [.ref (ad_ D q), .int i] σ (fun v1 σ1 => v1 = some (.int (rd_ F n i)) ∧ σ = σ1) := by
  refine g_ofW [(0, .ref (ad_ D q)), (1, .int i)] (by decide +kernel) (Nat.le_of_ble_eq_true rfl) rfl ?_
  intro p e s m args below meth c hx hb hr hml hown hlocks hts hE hZ hP hS hnm ls hl
  have hown : s.vm.findClass RX2 = some m.cls := hown
  generalize hQ : MQ _ _ _ _ _ _ _ = Q
  refine lv_iload_n hx hb dX2_read_0 rfl (lv_at hl 1 rfl) ?_
  refine lv_if_lt (tgt := 16) hx hb dX2_read_1 (by decide) (fun h1 => ?_) (fun h1 => ?_)
  · refine lv_iconst (v := (-1)) hx hb dX2_read_16 (by decide) ?_
    rw [← hQ]
    exact W.iret (v := (-1)) hx hb hr (fun te9 hte9 _ => g_fin (⟨by first | rw [rd_, if_pos h1] | rw [rd_, if_neg h1, if_pos h7] | rw [rd_, if_neg h1, if_neg h7], rfl⟩) hP hS hte9) hS.2.2 dX2_read_17 hlocks
  · refine lv_iload_n hx hb dX2_read_4 rfl (lv_at hl 1 rfl) ?_
    refine lv_aload_n hx hb dX2_read_5 rfl (lv_at hl 0 rfl) ?_
    refine g_alen hx hb hE hP (by omega) h0 dX2_read_6 ?_
    refine lv_icmp_ge (tgt := 16) hx hb dX2_read_7 (by decide) (fun h7 => ?_) (fun h7 => ?_)
    · refine lv_iconst (v := (-1)) hx hb dX2_read_16 (by decide) ?_
      rw [← hQ]
      exact W.iret (v := (-1)) hx hb hr (fun te9 hte9 _ => g_fin (⟨by first | rw [rd_, if_pos h1] | rw [rd_, if_neg h1, if_pos h7] | rw [rd_, if_neg h1, if_neg h7], rfl⟩) hP hS hte9) hS.2.2 dX2_read_17 hlocks
    · refine lv_aload_n hx hb dX2_read_10 rfl (lv_at hl 0 rfl) ?_
      refine lv_iload_n hx hb dX2_read_11 rfl (lv_at hl 1 rfl) ?_
      refine g_iald hx hb hE hP (by omega) h0 (i := i) (g_vpin h1 h7 hn) dX2_read_12 ?_
      refine lv_goto (tgt := 17) hx hb dX2_read_13 (by decide) ?_
      rw [← hQ]
      exact W.iret (v := F (i).toNatClampNeg) hx hb hr (fun te9 hte9 _ => g_fin (⟨by first | rw [rd_, if_pos h1] | rw [rd_, if_neg h1, if_pos h7] | rw [rd_, if_neg h1, if_neg h7], rfl⟩) hP hS hte9) hS.2.2 dX2_read_17 hlocks

abbrev m_X2_write_rm : Room := { frames := 8, cells := 0, slots := 0, locals := 200 }
set_option maxHeartbeats 4000000 in
set_option maxRecDepth 100000 in
theorem m_X2_write (l : Launch) (D : va_G) (hAD : g_AD D) (σ : Nat → va_E) (q n : Nat) (F : Nat → Int32) (i x : Int32) (hq : q < 20) (hn : n < 2 ^ 31) (h0 : σ q = .inl (g_cI D, n, .inl F)) : g_M l D yX2_write cX2_write 3 none m_X2_write_rm [.ref (ad_ D q), .int i, .int x] σ (fun v1 σ1 => v1 = none ∧ σ1 q = .inl (g_cI D, n, .inl (wr_ F n i x)) ∧ ∀ k, k ≠ q → σ1 k = σ k) := by
  refine g_ofW [(0, .ref (ad_ D q)), (1, .int i), (2, .int x)] (by decide +kernel) (Nat.le_of_ble_eq_true rfl) rfl ?_
  intro p e s m args below meth c hx hb hr hml hown hlocks hts hE hZ hP hS hnm ls hl
  have hown : s.vm.findClass RX2 = some m.cls := hown
  generalize hQ : MQ _ _ _ _ _ _ _ = Q
  refine lv_iload_n hx hb dX2_write_0 rfl (lv_at hl 1 rfl) ?_
  refine lv_if_lt (tgt := 14) hx hb dX2_write_1 (by decide) (fun h1 => ?_) (fun h1 => ?_)
  · rw [← hQ]
    exact W.vret hx hb hr (fun te9 hte9 _ => g_fin (⟨rfl, by first | rw [wr_, if_pos h1]; exact h0 | rw [wr_, if_neg h1, if_pos h7]; exact h0, fun k hk => rfl⟩) hP hS hte9) hS.2.2 dX2_write_14 hlocks
  · refine lv_iload_n hx hb dX2_write_4 rfl (lv_at hl 1 rfl) ?_
    refine lv_aload_n hx hb dX2_write_5 rfl (lv_at hl 0 rfl) ?_
    refine g_alen hx hb hE hP (by omega) h0 dX2_write_6 ?_
    refine lv_icmp_ge (tgt := 14) hx hb dX2_write_7 (by decide) (fun h7 => ?_) (fun h7 => ?_)
    · rw [← hQ]
      exact W.vret hx hb hr (fun te9 hte9 _ => g_fin (⟨rfl, by first | rw [wr_, if_pos h1]; exact h0 | rw [wr_, if_neg h1, if_pos h7]; exact h0, fun k hk => rfl⟩) hP hS hte9) hS.2.2 dX2_write_14 hlocks
    · refine lv_aload_n hx hb dX2_write_10 rfl (lv_at hl 0 rfl) ?_
      refine lv_iload_n hx hb dX2_write_11 rfl (lv_at hl 1 rfl) ?_
      refine lv_iload_n hx hb dX2_write_12 rfl (lv_at hl 2 rfl) ?_
      refine g_iast (i := i) (x := x) hx hb hE hAD hP hS (by omega) h0 (g_vpin h1 h7 hn) dX2_write_13 (fun H locs hP hS => ?_)
      obtain ⟨σ_1, hσ2⟩ : ∃ z : Nat → va_E, z = va_up σ q (.inl (g_cI D, n, .inl (upd F (i).toNatClampNeg x))) := ⟨_, rfl⟩
      have hP : va_P D vwCl (g_W D σ_1) H := by rw [hσ2]; exact hP
      have hc3 : σ_1 q = .inl (g_cI D, n, .inl (upd F (i).toNatClampNeg x)) := by rw [hσ2]; exact g_ups
      rw [← hQ]
      exact W.vret hx hb hr (fun te9 hte9 _ => g_fin (⟨rfl, by rw [wr_, if_neg h1, if_neg h7]; exact hc3, fun k hk => by rw [hσ2]; simp [va_up, hk]⟩) hP hS hte9) hS.2.2 dX2_write_14 hlocks

abbrev m_X2_hasBit_rm : Room := { frames := 8, cells := 0, slots := 0, locals := 200 }
set_option maxHeartbeats 4000000 in
set_option maxRecDepth 100000 in
theorem m_X2_hasBit (l : Launch) (D : va_G) (hAD : g_AD D) (σ : Nat → va_E) (x b : Int32)  : g_M l D yX2_hasBit cX2_hasBit 2 (some .boolean) m_X2_hasBit_rm [.int x, .int b] σ (fun v1 σ1 => v1 = some (.int (if hb_ x b then 1 else 0)) ∧ σ = σ1) := by
  refine g_ofW [(0, .int x), (1, .int b)] (by decide +kernel) (Nat.le_of_ble_eq_true rfl) rfl ?_
  intro p e s m args below meth c hx hb hr hml hown hlocks hts hE hZ hP hS hnm ls hl
  have hown : s.vm.findClass RX2 = some m.cls := hown
  generalize hQ : MQ _ _ _ _ _ _ _ = Q
  refine lv_iload_n hx hb dX2_hasBit_0 rfl (lv_at hl 0 rfl) ?_
  refine lv_iload_n hx hb dX2_hasBit_1 rfl (lv_at hl 1 rfl) ?_
  refine lv_ishr hx hb dX2_hasBit_2 ?_
  refine lv_iconst (v := nI 1) hx hb dX2_hasBit_3 (by decide) ?_
  refine lv_iand hx hb dX2_hasBit_4 ?_
  refine lv_iconst (v := nI 1) hx hb dX2_hasBit_5 (by decide) ?_
  refine lv_icmp_ne (tgt := 13) hx hb dX2_hasBit_6 (by decide) (fun h6 => ?_) (fun h6 => ?_)
  · refine lv_iconst (v := nI 0) hx hb dX2_hasBit_13 (by decide) ?_
    rw [← hQ]
    exact W.zret (v := nI 0) hx hb hr (by first | rfl | decide | (split <;> rfl)) (fun te9 hte9 _ => g_fin (⟨by first | (rw [show hb_ x b = true from decide_eq_true h6]; rfl) | (rw [show hb_ x b = false from decide_eq_false h6]; rfl), rfl⟩) hP hS hte9) hS.2.2 dX2_hasBit_14 hlocks
  · refine lv_iconst (v := nI 1) hx hb dX2_hasBit_9 (by decide) ?_
    refine lv_goto (tgt := 14) hx hb dX2_hasBit_10 (by decide) ?_
    rw [← hQ]
    exact W.zret (v := nI 1) hx hb hr (by first | rfl | decide | (split <;> rfl)) (fun te9 hte9 _ => g_fin (⟨by first | (rw [show hb_ x b = true from decide_eq_true h6]; rfl) | (rw [show hb_ x b = false from decide_eq_false h6]; rfl), rfl⟩) hP hS hte9) hS.2.2 dX2_hasBit_14 hlocks

abbrev m_X2_firstUnlikeBit_rm : Room := { frames := 8, cells := 0, slots := 0, locals := 200 }
set_option maxHeartbeats 4000000 in
set_option maxRecDepth 100000 in
theorem m_X2_firstUnlikeBit (l : Launch) (D : va_G) (hAD : g_AD D) (σ : Nat → va_E) (a b : Int32)  : g_M l D yX2_firstUnlikeBit cX2_firstUnlikeBit 5 (some .int) m_X2_firstUnlikeBit_rm [.int a, .int b] σ (fun v1 σ1 => v1 = some (.int (fub_ a b)) ∧ σ = σ1) := by
  refine g_ofW [(0, .int a), (1, .int b)] (by decide +kernel) (Nat.le_of_ble_eq_true rfl) rfl ?_
  intro p e s m args below meth c hx hb hr hml hown hlocks hts hE hZ hP hS hnm ls hl
  have hown : s.vm.findClass RX2 = some m.cls := hown
  generalize hQ : MQ _ _ _ _ _ _ _ = Q
  refine lv_iload_n hx hb dX2_firstUnlikeBit_0 rfl (lv_at hl 0 rfl) ?_
  refine lv_iload_n hx hb dX2_firstUnlikeBit_1 rfl (lv_at hl 1 rfl) ?_
  refine lv_ixor hx hb dX2_firstUnlikeBit_2 ?_
  refine lv_istore_n (lv' := [(2, .int (a ^^^ b)), (0, .int a), (1, .int b)]) hx hb dX2_firstUnlikeBit_3 rfl hl (by decide) rfl (fun ls hl => ?_)
  refine lv_iload_n hx hb dX2_firstUnlikeBit_4 rfl (lv_at hl 0 rfl) ?_
  refine lv_if_ne (tgt := 10) hx hb dX2_firstUnlikeBit_5 (by decide) (fun h5 => ?_) (fun h5 => ?_)
  · refine lv_iconst (v := nI 0) hx hb dX2_firstUnlikeBit_10 (by decide) ?_
    refine lv_istore_n (lv' := [(3, .int (nI 0)), (2, .int (a ^^^ b)), (0, .int a), (1, .int b)]) hx hb dX2_firstUnlikeBit_11 rfl hl (by decide) rfl (fun ls hl => ?_)
    refine lv_bipush (v := nI 8) hx hb dX2_firstUnlikeBit_12 (by decide) ?_
    refine lv_istore (lv' := [(4, .int (nI 8)), (3, .int (nI 0)), (2, .int (a ^^^ b)), (0, .int a), (1, .int b)]) hx hb dX2_firstUnlikeBit_14 hl (by decide) rfl (fun ls hl => ?_)
    have K16 : ∀ (fuel16 : Nat) (h c1 : Nat), (h) < fuel16 → (fo_ (a ^^^ b) c1 h = fo_ (a ^^^ b) 0 8 ∧ c1 + 2 * h ≤ 16) → ∀ (H : Heap) (locs : List Loc), va_P D vwCl (g_W D σ) H → va_S (g_A D s.heap.size) s.heap H locs → ∀ ls : Array Slot, lv_has ls 5 [(0, .int a), (1, .int b), (2, .int (a ^^^ b)), (3, .int (nI c1)), (4, .int (nI h))] → W p l e m_X2_firstUnlikeBit_rm s m args below meth c H locs 0 0 Q (F0 m 16 ls []) := by
      intro fuel16
      induction fuel16 with
      | zero => intro h c1 hf; exact absurd hf (Nat.not_lt_zero _)
      | succ fuel16 ih16 =>
        intro h c1 hf16 hI H locs hP hS ls hl
        refine lv_iload hx hb dX2_firstUnlikeBit_16 (lv_at hl 4 rfl) ?_
        refine lv_if_le (tgt := 44) hx hb dX2_firstUnlikeBit_18 (by decide) (fun h18 => ?_) (fun h18 => ?_)
        · have hb18 := g_le (a := h) (b := 0) h18 (by omega) (by omega)
          refine lv_iload_n hx hb dX2_firstUnlikeBit_44 rfl (lv_at hl 3 rfl) ?_
          rw [← hQ]
          exact W.iret (v := nI c1) hx hb hr (fun te9 hte9 _ => g_fin (⟨by rw [fub_, if_neg h5, ← hI.1, show h = 0 by omega, fo_0], rfl⟩) hP hS hte9) hS.2.2 dX2_firstUnlikeBit_45 hlocks
        · have hb18 := g_nle (a := h) (b := 0) h18 (by omega) (by omega)
          refine lv_iload_n hx hb dX2_firstUnlikeBit_21 rfl (lv_at hl 2 rfl) ?_
          refine lv_iload_n hx hb dX2_firstUnlikeBit_22 rfl (lv_at hl 3 rfl) ?_
          refine lv_iload hx hb dX2_firstUnlikeBit_23 (lv_at hl 4 rfl) ?_
          refine lv_iadd hx hb dX2_firstUnlikeBit_25 ?_
          refine g_top (y := nI (c1 + h)) (nI_add c1 h) ?_
          refine lv_ishr hx hb dX2_firstUnlikeBit_26 ?_
          refine lv_if_eq (tgt := 35) hx hb dX2_firstUnlikeBit_27 (by decide) (fun h27 => ?_) (fun h27 => ?_)
          · have hB : fo_ (a ^^^ b) (fs_ (a ^^^ b) c1 h) (h / 2) = fo_ (a ^^^ b) 0 8 ∧ fs_ (a ^^^ b) c1 h + 2 * (h / 2) ≤ 16 := ⟨by rw [← hI.1]; exact (fo_s _ _ _ hb18).symm, by have := fs_le (a ^^^ b) c1 h; omega⟩
            rw [show fs_ (a ^^^ b) c1 h = c1 from if_pos h27] at hB
            refine lv_iload hx hb dX2_firstUnlikeBit_35 (lv_at hl 4 rfl) ?_
            refine lv_iconst (v := nI 1) hx hb dX2_firstUnlikeBit_37 (by decide) ?_
            refine lv_ishr hx hb dX2_firstUnlikeBit_38 ?_
            refine g_top (y := nI (h / 2)) (pk_shrN (by omega) _ 1 (by decide)) ?_
            refine lv_istore (lv' := [(4, .int (nI (h / 2))), (0, .int a), (1, .int b), (2, .int (a ^^^ b)), (3, .int (nI c1))]) hx hb dX2_firstUnlikeBit_39 hl (by decide) rfl (fun ls hl => ?_)
            refine lv_goto (tgt := 16) hx hb dX2_firstUnlikeBit_41 (by decide) ?_
            exact ih16 (h / 2) c1 (by omega) hB _ _ hP hS ls (lv_sub hl [1, 2, 3, 4, 0] rfl)
          · refine lv_iload_n hx hb dX2_firstUnlikeBit_30 rfl (lv_at hl 3 rfl) ?_
            refine lv_iload hx hb dX2_firstUnlikeBit_31 (lv_at hl 4 rfl) ?_
            refine lv_iadd hx hb dX2_firstUnlikeBit_33 ?_
            refine g_top (y := nI (c1 + h)) (nI_add c1 h) ?_
            refine lv_istore_n (lv' := [(3, .int (nI (c1 + h))), (0, .int a), (1, .int b), (2, .int (a ^^^ b)), (4, .int (nI h))]) hx hb dX2_firstUnlikeBit_34 rfl hl (by decide) rfl (fun ls hl => ?_)
            have hB : fo_ (a ^^^ b) (fs_ (a ^^^ b) c1 h) (h / 2) = fo_ (a ^^^ b) 0 8 ∧ fs_ (a ^^^ b) c1 h + 2 * (h / 2) ≤ 16 := ⟨by rw [← hI.1]; exact (fo_s _ _ _ hb18).symm, by have := fs_le (a ^^^ b) c1 h; omega⟩
            rw [show fs_ (a ^^^ b) c1 h = c1 + h from if_neg h27] at hB
            refine lv_iload hx hb dX2_firstUnlikeBit_35 (lv_at hl 4 rfl) ?_
            refine lv_iconst (v := nI 1) hx hb dX2_firstUnlikeBit_37 (by decide) ?_
            refine lv_ishr hx hb dX2_firstUnlikeBit_38 ?_
            refine g_top (y := nI (h / 2)) (pk_shrN (by omega) _ 1 (by decide)) ?_
            refine lv_istore (lv' := [(4, .int (nI (h / 2))), (3, .int (nI (c1 + h))), (0, .int a), (1, .int b), (2, .int (a ^^^ b))]) hx hb dX2_firstUnlikeBit_39 hl (by decide) rfl (fun ls hl => ?_)
            refine lv_goto (tgt := 16) hx hb dX2_firstUnlikeBit_41 (by decide) ?_
            exact ih16 (h / 2) (c1 + h) (by omega) hB _ _ hP hS ls (lv_sub hl [2, 3, 4, 1, 0] rfl)
    exact K16 ((8) + 1) 8 0 (Nat.lt_succ_self _) (⟨rfl, by decide⟩) _ _ hP hS ls (lv_sub hl [3, 4, 2, 1, 0] rfl)
  · refine lv_iconst (v := (-1)) hx hb dX2_firstUnlikeBit_8 (by decide) ?_
    rw [← hQ]
    exact W.iret (v := (-1)) hx hb hr (fun te9 hte9 _ => g_fin (⟨by rw [fub_, if_pos h5], rfl⟩) hP hS hte9) hS.2.2 dX2_firstUnlikeBit_9 hlocks
