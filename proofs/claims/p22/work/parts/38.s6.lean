theorem and_mx (x : Int32) : ∃ k : Nat, k < 2 ^ 31 ∧ x &&& nI 2147483647 = nI k := by
  refine ⟨x.toBitVec.toNat % 2 ^ 31, Nat.mod_lt _ (by decide), ?_⟩
  apply Int32.toBitVec_inj.mp
  apply BitVec.eq_of_toNat_eq
  rw [Int32.toBitVec_and, BitVec.toNat_and, show (nI 2147483647).toBitVec.toNat = 2 ^ 31 - 1 from by decide, Nat.and_two_pow_sub_one_eq_mod]
  have h : x.toBitVec.toNat % 2 ^ 31 < 2 ^ 31 := Nat.mod_lt _ (by decide)
  show x.toBitVec.toNat % 2 ^ 31 = (BitVec.ofNat 32 (x.toBitVec.toNat % 2 ^ 31)).toNat
  rw [BitVec.toNat_ofNat, Nat.mod_eq_of_lt (show x.toBitVec.toNat % 2 ^ 31 < 2 ^ 32 by omega)]
theorem sh1_ : ∀ k, k < 16 → nI 1 <<< (nI k &&& 31) = nI (2 ^ k) := by decide
theorem sh13_ : ∀ k, k < 8 → nI k <<< (nI 13 &&& 31) = nI (k * 8192) := by decide
theorem pw16 {k : Nat} (h : k < 16) : 2 ^ k ≤ 65535 := Nat.le_trans (Nat.pow_le_pow_right (by decide) (show k ≤ 15 by omega)) (by decide)
theorem nm_xor {x y : Int32} (hx : nm1_ x) (hy : nm1_ y) : nm1_ (x ^^^ y) := by
  have h := xor_ok (nm_le hx).1 (nm_le hx).2 (nm_le hy).1 (nm_le hy).2
  exact ⟨Int32.not_lt.mpr h.1, Int32.not_lt.mpr h.2⟩
theorem h_Xc {A : Nat → Prop} {b L : Nat} {xs : Nat → Int32} {s : State} {H : Heap} {locs : List Loc} {wc : va_W} (hX : va_X b L xs s s.heap) (hbl : b < s.heap.size) (hbA : ¬ A b) (hS : va_S A s.heap H locs) (hA : ∀ q, va_A wc H.size q → A q) : ∀ U : State, U.heap = H → s.vm.Alike U.vm → h_X (some (b, L, xs)) wc U := fun U hU hW => by
  subst hU
  exact ⟨va_X.moved hW (hX.kept (hS.2.1 b hbl hbA)), Nat.lt_of_lt_of_le hbl hS.1, fun h => hbA (hA b h)⟩
abbrev m_L_below_rm  : Room := { frames := 8, cells := 0, slots := 0, locals := 200 }
set_option maxHeartbeats 4000000 in
set_option maxRecDepth 100000 in
theorem m_L_below (l : Launch) (D : va_G) (x : Int32) (n : Nat) (hn0 : 0 < n) (hn : n < 2 ^ 31) : h_M l D yL_below cL_below 2 (some .int) m_L_below_rm [.int x, .int (nI n)] none ([]) ([]) (fun v1 w1 => ∃ k, k < n ∧ v1 = some (.int (nI k)) ∧ w1 = []) := by
  refine h_ofW [(0, .int x), (1, .int (nI n))] (by decide +kernel) (Nat.le_of_ble_eq_true rfl) rfl ?_
  intro p e s m args below meth c hx hb hr hml hown hlocks hts hE hZ hR hP hS hX ls hl
  have hown : s.vm.findClass RL = some m.cls := hown
  generalize hQ : MQ _ _ _ _ _ _ _ = Q
  have hap : h_ap ([]) [] := h_ap.nil
  have hD : va_D (va_A ([]) s.heap.size) [] := h_D0
  refine lv_iload_n hx hb dL_below_0 rfl (lv_at hl 0 rfl) ?_
  refine lv_ldc (v := 2147483647) hx hb hown (hts _ wc_L_7) dL_below_1 ?_
  refine g_top (y := nI 2147483647) (by decide) ?_
  refine lv_iand hx hb dL_below_3 ?_
  obtain ⟨a, ha, ea⟩ := and_mx x
  refine g_top (y := nI a) ea ?_
  refine lv_iload_n hx hb dL_below_4 rfl (lv_at hl 1 rfl) ?_
  refine lv_irem hx hb dL_below_5 (fun h => by have := g_eq (b := 0) h (by omega) (by decide); omega) ?_
  refine g_top (y := nI (a % n)) (pk_rem (by omega) (by omega) (by omega)) ?_
  refine W.widen (k := 0) (n := 0) (by omega) (by omega) ?_
  rw [← hQ]
  exact W.iret (v := nI (a % n)) hx hb hr (fun te9 hte9 _ => h_fin (⟨a % n, Nat.mod_lt _ (by omega), rfl, rfl⟩) hP hD hS hte9) hS.2.2 dL_below_6 hlocks

abbrev m_L_cell_rm  : Room := { frames := 8, cells := 0, slots := 0, locals := 200 }
set_option maxHeartbeats 4000000 in
set_option maxRecDepth 100000 in
theorem m_L_cell (l : Launch) (D : va_G) (b L : Nat) (xs : Nat → Int32) (k : Nat) (hL : L ≤ 260) (hk : k < 2 ^ 30) : h_M l D yL_cell cL_cell 2 (some .int) m_L_cell_rm [.ref b, .int (nI k)] (some (b, L, xs)) ([]) ([]) (fun v1 w1 => ∃ x, v1 = some (.int x) ∧ w1 = []) := by
  refine h_ofW [(0, .ref b), (1, .int (nI k))] (by decide +kernel) (Nat.le_of_ble_eq_true rfl) rfl ?_
  intro p e s m args below meth c hx hb hr hml hown hlocks hts hE hZ hR hP hS hX ls hl
  have hown : s.vm.findClass RL = some m.cls := hown
  generalize hQ : MQ _ _ _ _ _ _ _ = Q
  have hap : h_ap ([]) [] := h_ap.nil
  have hD : va_D (va_A ([]) s.heap.size) [] := h_D0
  obtain ⟨hX1, hX2, hX3⟩ := hX
  have hX1 : va_X b L xs s s.heap := hX1
  have hX2 : b < s.heap.size := hX2
  refine lv_iload_n hx hb dL_cell_0 rfl (lv_at hl 1 rfl) ?_
  refine lv_aload_n hx hb dL_cell_1 rfl (lv_at hl 0 rfl) ?_
  refine va_slen hx hb hX1 hX2 hX3 hS dL_cell_2 ?_
  refine g_top (y := nI L) rfl ?_
  refine lv_icmp_ge (tgt := 12) hx hb dL_cell_3 (by decide) (fun h3 => ?_) (fun h3 => ?_)
  · have hb3 := g_le (a := L) (b := k) h3 (by omega) (by omega)
    refine lv_ldc (v := 790386105) hx hb hown (hts _ wc_L_8) dL_cell_12 ?_
    refine g_top (y := nI 790386105) (by decide) ?_
    refine lv_iload_n hx hb dL_cell_14 rfl (lv_at hl 1 rfl) ?_
    refine lv_iconst (v := nI 3) hx hb dL_cell_15 (by decide) ?_
    refine lv_iadd hx hb dL_cell_16 ?_
    refine g_top (y := nI (k + 3)) (nI_add k 3) ?_
    refine lv_imul hx hb dL_cell_17 ?_
    refine g_top (y := nI (790386105 * (k + 3))) (pk_mul 790386105 (k + 3)) ?_
    refine W.widen (k := 0) (n := 0) (by omega) (by omega) ?_
    rw [← hQ]
    exact W.iret (v := nI (790386105 * (k + 3))) hx hb hr (fun te9 hte9 _ => h_fin (⟨_, rfl, rfl⟩) hP hD hS hte9) hS.2.2 dL_cell_18 hlocks
  · have hb3 := g_nle (a := L) (b := k) h3 (by omega) (by omega)
    refine lv_aload_n hx hb dL_cell_6 rfl (lv_at hl 0 rfl) ?_
    refine lv_iload_n hx hb dL_cell_7 rfl (lv_at hl 1 rfl) ?_
    refine va_sld hx hb hX1 hX2 hX3 hS (i := nI k) (vp_in_nI (by omega) (by omega)) dL_cell_8 ?_
    refine lv_goto (tgt := 18) hx hb dL_cell_9 (by decide) ?_
    refine W.widen (k := 0) (n := 0) (by omega) (by omega) ?_
    rw [← hQ]
    exact W.iret (v := xs (nI k).toNatClampNeg) hx hb hr (fun te9 hte9 _ => h_fin (⟨_, rfl, rfl⟩) hP hD hS hte9) hS.2.2 dL_cell_18 hlocks

abbrev m_L_name_rm  : Room := { frames := 9, cells := 0, slots := 0, locals := 221 }
set_option maxHeartbeats 4000000 in
set_option maxRecDepth 100000 in
theorem m_L_name (l : Launch) (D : va_G) (q : Nat → Nat) (Z : g_Z) (x : Int32) (hn : ∀ w, w ≤ 1 → (Z w).length ≤ 24) (hrz : ∀ w, w ≤ 1 → rn_ (nZ Z w)) : h_M l D yL_name cL_name 3 (some .int) m_L_name_rm [.ref (q 0), .int x] none ((h_SW D q ((nZ Z)) ((mZ Z)))) ([]) (fun v1 w1 => ∃ nm, v1 = some (.int nm) ∧ nm1_ nm ∧ w1 = []) := by
  refine h_ofW [(0, .ref (q 0)), (1, .int x)] (by decide +kernel) (Nat.le_of_ble_eq_true rfl) rfl ?_
  intro p e s m args below meth c hx hb hr hml hown hlocks hts hE hZ hR hP hS hX ls hl
  have hown : s.vm.findClass RL = some m.cls := hown
  generalize hQ : MQ _ _ _ _ _ _ _ = Q
  have hap : h_ap ((h_SW D q ((nZ Z)) ((mZ Z)))) [] := h_ap.nil
  have hD : va_D (va_A ([]) s.heap.size) [] := h_D0
  refine lv_iload_n hx hb dL_name_0 rfl (lv_at hl 1 rfl) ?_
  refine lv_iconst (v := nI 4) hx hb dL_name_1 (by decide) ?_
  refine h_callS (y := yL_below) (n := 2) (As := [.int x, .int (nI 4)]) (rest := []) hx hb hml hown hts hE hZ hS hl.1 (m_L_below l D (x) 4 (by decide) (by decide)) h_P0 h_P0 (h_Anil hS h_Asz) (fun _ _ _ => trivial) (h_jR hP hD (h_Anil hS h_Asz)) k_L_9 rfl rfl ⟨Nat.le_of_ble_eq_true rfl, Nat.le_of_ble_eq_true rfl⟩ (Nat.le_of_ble_eq_true rfl) ⟨Nat.le_of_ble_eq_true rfl, Nat.le_of_ble_eq_true rfl⟩ dL_name_2 (fun v2 w1 H locs hq hP hD hS => ?_)
  obtain ⟨bk1, hbk1, rfl, rfl⟩ := hq
  rw [List.append_nil] at hP hD
  have hP : va_P D vwCl [] H := hP
  have hD : va_D (va_A ([]) s.heap.size) [] := hD
  refine W.widen (k := 0) (n := 0) (Nat.le_of_ble_eq_true rfl) (Nat.le_of_ble_eq_true rfl) ?_
  refine W.eq (g2 := F0 m 5 ls [.int (nI bk1)]) rfl ?_
  rcases (show bk1 = 0 ∨ bk1 = 1 ∨ bk1 = 2 ∨ bk1 = 3 by omega) with rfl | rfl | rfl | rfl
  · refine lv_tableIn (x := nI 0) (off := 27) (tgt := 32) hx hb dL_name_5 (by decide) (by decide) rfl (by decide) ?_
    refine lv_iload_n hx hb dL_name_32 rfl (lv_at hl 1 rfl) ?_
    refine lv_iconst (v := nI 2) hx hb dL_name_33 (by decide) ?_
    refine lv_ishr hx hb dL_name_34 ?_
    refine lv_bipush (v := nI 16) hx hb dL_name_35 (by decide) ?_
    refine h_callS (y := yL_below) (n := 2) (As := [.int (x >>> ((nI 2) &&& 31)), .int (nI 16)]) (rest := []) hx hb hml hown hts hE hZ hS hl.1 (m_L_below l D (x >>> ((nI 2) &&& 31)) 16 (by decide) (by decide)) h_P0 h_P0 (h_Anil hS h_Asz) (fun _ _ _ => trivial) (h_jR hP hD (h_Anil hS h_Asz)) k_L_9 rfl rfl ⟨Nat.le_of_ble_eq_true rfl, Nat.le_of_ble_eq_true rfl⟩ (Nat.le_of_ble_eq_true rfl) ⟨Nat.le_of_ble_eq_true rfl, Nat.le_of_ble_eq_true rfl⟩ dL_name_37 (fun v4 w1 H locs hq hP hD hS => ?_)
    obtain ⟨bk3, hbk3, rfl, rfl⟩ := hq
    rw [List.append_nil] at hP hD
    have hP : va_P D vwCl [] H := hP
    have hD : va_D (va_A ([]) s.heap.size) [] := hD
    refine W.widen (k := 0) (n := 0) (Nat.le_of_ble_eq_true rfl) (Nat.le_of_ble_eq_true rfl) ?_
    refine W.eq (g2 := F0 m 40 ls [.int (nI bk3)]) rfl ?_
    refine W.widen (k := 0) (n := 0) (by omega) (by omega) ?_
    rw [← hQ]
    exact W.iret (v := nI bk3) hx hb hr (fun te9 hte9 _ => h_fin (⟨_, rfl, nm_of (by omega), rfl⟩) hP hD hS hte9) hS.2.2 dL_name_40 hlocks
  · refine lv_tableIn (x := nI 1) (off := 36) (tgt := 41) hx hb dL_name_5 (by decide) (by decide) rfl (by decide) ?_
    refine lv_iload_n hx hb dL_name_41 rfl (lv_at hl 1 rfl) ?_
    refine lv_iconst (v := nI 2) hx hb dL_name_42 (by decide) ?_
    refine lv_ishr hx hb dL_name_43 ?_
    refine lv_ldc (v := 65536) hx hb hown (hts _ wc_L_15) dL_name_44 ?_
    refine g_top (y := nI 65536) (by decide) ?_
    refine h_callS (y := yL_below) (n := 2) (As := [.int (x >>> ((nI 2) &&& 31)), .int (nI 65536)]) (rest := []) hx hb hml hown hts hE hZ hS hl.1 (m_L_below l D (x >>> ((nI 2) &&& 31)) 65536 (by decide) (by decide)) h_P0 h_P0 (h_Anil hS h_Asz) (fun _ _ _ => trivial) (h_jR hP hD (h_Anil hS h_Asz)) k_L_9 rfl rfl ⟨Nat.le_of_ble_eq_true rfl, Nat.le_of_ble_eq_true rfl⟩ (Nat.le_of_ble_eq_true rfl) ⟨Nat.le_of_ble_eq_true rfl, Nat.le_of_ble_eq_true rfl⟩ dL_name_46 (fun v6 w1 H locs hq hP hD hS => ?_)
    obtain ⟨bk5, hbk5, rfl, rfl⟩ := hq
    rw [List.append_nil] at hP hD
    have hP : va_P D vwCl [] H := hP
    have hD : va_D (va_A ([]) s.heap.size) [] := hD
    refine W.widen (k := 0) (n := 0) (Nat.le_of_ble_eq_true rfl) (Nat.le_of_ble_eq_true rfl) ?_
    refine W.eq (g2 := F0 m 49 ls [.int (nI bk5)]) rfl ?_
    refine W.widen (k := 0) (n := 0) (by omega) (by omega) ?_
    rw [← hQ]
    exact W.iret (v := nI bk5) hx hb hr (fun te9 hte9 _ => h_fin (⟨_, rfl, nm_of (by omega), rfl⟩) hP hD hS hte9) hS.2.2 dL_name_49 hlocks
  · refine lv_tableIn (x := nI 2) (off := 45) (tgt := 50) hx hb dL_name_5 (by decide) (by decide) rfl (by decide) ?_
    refine lv_iload_n hx hb dL_name_50 rfl (lv_at hl 1 rfl) ?_
    refine lv_iconst (v := nI 2) hx hb dL_name_51 (by decide) ?_
    refine lv_ishr hx hb dL_name_52 ?_
    refine lv_bipush (v := nI 8) hx hb dL_name_53 (by decide) ?_
    refine h_callS (y := yL_below) (n := 2) (As := [.int (x >>> ((nI 2) &&& 31)), .int (nI 8)]) (rest := []) hx hb hml hown hts hE hZ hS hl.1 (m_L_below l D (x >>> ((nI 2) &&& 31)) 8 (by decide) (by decide)) h_P0 h_P0 (h_Anil hS h_Asz) (fun _ _ _ => trivial) (h_jR hP hD (h_Anil hS h_Asz)) k_L_9 rfl rfl ⟨Nat.le_of_ble_eq_true rfl, Nat.le_of_ble_eq_true rfl⟩ (Nat.le_of_ble_eq_true rfl) ⟨Nat.le_of_ble_eq_true rfl, Nat.le_of_ble_eq_true rfl⟩ dL_name_55 (fun v8 w1 H locs hq hP hD hS => ?_)
    obtain ⟨bk7, hbk7, rfl, rfl⟩ := hq
    rw [List.append_nil] at hP hD
    have hP : va_P D vwCl [] H := hP
    have hD : va_D (va_A ([]) s.heap.size) [] := hD
    refine W.widen (k := 0) (n := 0) (Nat.le_of_ble_eq_true rfl) (Nat.le_of_ble_eq_true rfl) ?_
    refine W.eq (g2 := F0 m 58 ls [.int (nI bk7)]) rfl ?_
    refine lv_bipush (v := nI 13) hx hb dL_name_58 (by decide) ?_
    refine lv_ishl hx hb dL_name_60 ?_
    refine g_top (y := nI (bk7 * 8192)) (sh13_ _ hbk7) ?_
    refine lv_iload_n hx hb dL_name_61 rfl (lv_at hl 1 rfl) ?_
    refine lv_iconst (v := nI 5) hx hb dL_name_62 (by decide) ?_
    refine lv_ishr hx hb dL_name_63 ?_
    refine lv_iconst (v := nI 4) hx hb dL_name_64 (by decide) ?_
    refine h_callS (y := yL_below) (n := 2) (As := [.int (x >>> ((nI 5) &&& 31)), .int (nI 4)]) (rest := [.int (nI (bk7 * 8192))]) hx hb hml hown hts hE hZ hS hl.1 (m_L_below l D (x >>> ((nI 5) &&& 31)) 4 (by decide) (by decide)) h_P0 h_P0 (h_Anil hS h_Asz) (fun _ _ _ => trivial) (h_jR hP hD (h_Anil hS h_Asz)) k_L_9 rfl rfl ⟨Nat.le_of_ble_eq_true rfl, Nat.le_of_ble_eq_true rfl⟩ (Nat.le_of_ble_eq_true rfl) ⟨Nat.le_of_ble_eq_true rfl, Nat.le_of_ble_eq_true rfl⟩ dL_name_65 (fun v10 w1 H locs hq hP hD hS => ?_)
    obtain ⟨bk9, hbk9, rfl, rfl⟩ := hq
    rw [List.append_nil] at hP hD
    have hP : va_P D vwCl [] H := hP
    have hD : va_D (va_A ([]) s.heap.size) [] := hD
    refine W.widen (k := 0) (n := 0) (Nat.le_of_ble_eq_true rfl) (Nat.le_of_ble_eq_true rfl) ?_
    refine W.eq (g2 := F0 m 68 ls [.int (nI bk9), .int (nI (bk7 * 8192))]) rfl ?_
    refine lv_iadd hx hb dL_name_68 ?_
    refine g_top (y := nI ((bk7 * 8192) + bk9)) (nI_add (bk7 * 8192) bk9) ?_
    refine W.widen (k := 0) (n := 0) (by omega) (by omega) ?_
    rw [← hQ]
    exact W.iret (v := nI ((bk7 * 8192) + bk9)) hx hb hr (fun te9 hte9 _ => h_fin (⟨_, rfl, nm_of (by omega), rfl⟩) hP hD hS hte9) hS.2.2 dL_name_69 hlocks
  · refine lv_tableOut (x := nI 3) (tgt := 70) hx hb dL_name_5 (by decide) (by decide) ?_
    refine lv_aload_n hx hb dL_name_70 rfl (lv_at hl 0 rfl) ?_
    refine h_get (w := []) (xs := (h_SW D q ((nZ Z)) ((mZ Z)))) (i := 0) hx hb hts hE hown (h_rk hR hap hS) rfl 0 (by decide) rfl wf_L_16 (v := .ref (q 1)) rfl dL_name_71 ?_
    refine lv_iload_n hx hb dL_name_74 rfl (lv_at hl 1 rfl) ?_
    refine lv_iconst (v := nI 3) hx hb dL_name_75 (by decide) ?_
    refine lv_ishr hx hb dL_name_76 ?_
    refine lv_iconst (v := nI 2) hx hb dL_name_77 (by decide) ?_
    refine h_callS (y := yL_below) (n := 2) (As := [.int (x >>> ((nI 3) &&& 31)), .int (nI 2)]) (rest := [.ref (q 1)]) hx hb hml hown hts hE hZ hS hl.1 (m_L_below l D (x >>> ((nI 3) &&& 31)) 2 (by decide) (by decide)) h_P0 h_P0 (h_Anil hS h_Asz) (fun _ _ _ => trivial) (h_jR hP hD (h_Anil hS h_Asz)) k_L_9 rfl rfl ⟨Nat.le_of_ble_eq_true rfl, Nat.le_of_ble_eq_true rfl⟩ (Nat.le_of_ble_eq_true rfl) ⟨Nat.le_of_ble_eq_true rfl, Nat.le_of_ble_eq_true rfl⟩ dL_name_78 (fun v12 w1 H locs hq hP hD hS => ?_)
    obtain ⟨bk11, hbk11, rfl, rfl⟩ := hq
    rw [List.append_nil] at hP hD
    have hP : va_P D vwCl [] H := hP
    have hD : va_D (va_A ([]) s.heap.size) [] := hD
    refine W.widen (k := 0) (n := 0) (Nat.le_of_ble_eq_true rfl) (Nat.le_of_ble_eq_true rfl) ?_
    refine W.eq (g2 := F0 m 81 ls [.int (nI bk11), .ref (q 1)]) rfl ?_
    refine h_ald (w := []) (xs := (h_SW D q ((nZ Z)) ((mZ Z)))) (i := 1) (q := q) (o := 3) (j := bk11) hx hb hE (h_rk hR hap hS) rfl (by omega) dL_name_81 ?_
    have hln := hn bk11 (by omega)
    have hrw := hrz bk11 (by omega)
    have hzl : (nZ Z bk11).length = (Z bk11).length := nZ_len
    have hZe : ((nZ Z) bk11).length = (Z bk11).length := nZ_len
    refine lv_astore_n (lv' := [(2, .ref (q (3 + bk11))), (0, .ref (q 0)), (1, .int x)]) hx hb dL_name_82 rfl hl (by decide) rfl (fun ls hl => ?_)
    refine lv_aload_n hx hb dL_name_83 rfl (lv_at hl 0 rfl) ?_
    refine h_aln (w := []) (xs := (h_SW D q ((nZ Z)) ((mZ Z)))) (i := (3 + bk11)) (R := (nZ Z) bk11) hx hb hE (h_rk hR hap hS) (h_SWn (by omega)) dL_name_84 ?_
    refine lv_if_ne (tgt := 98) hx hb dL_name_85 (by decide) (fun h85 => ?_) (fun h85 => ?_)
    · have hb85 := g_ne (a := ((nZ Z) bk11).length) (b := 0) h85 (by omega) (by omega)
      refine lv_aload_n hx hb dL_name_98 rfl (lv_at hl 0 rfl) ?_
      refine lv_iload_n hx hb dL_name_99 rfl (lv_at hl 2 rfl) ?_
      refine lv_iconst (v := nI 4) hx hb dL_name_100 (by decide) ?_
      refine lv_ishr hx hb dL_name_101 ?_
      refine lv_aload_n hx hb dL_name_102 rfl (lv_at hl 0 rfl) ?_
      refine h_aln (w := []) (xs := (h_SW D q ((nZ Z)) ((mZ Z)))) (i := (3 + bk11)) (R := (nZ Z) bk11) hx hb hE (h_rk hR hap hS) (h_SWn (by omega)) dL_name_103 ?_
      refine h_callS (y := yL_below) (n := 2) (As := [.int (x >>> ((nI 4) &&& 31)), .int (nI (((nZ Z) bk11).length))]) (rest := [.ref (q (3 + bk11))]) hx hb hml hown hts hE hZ hS hl.1 (m_L_below l D (x >>> ((nI 4) &&& 31)) (((nZ Z) bk11).length) (by omega) (by omega)) h_P0 h_P0 (h_Anil hS h_Asz) (fun _ _ _ => trivial) (h_jR hP hD (h_Anil hS h_Asz)) k_L_9 rfl rfl ⟨Nat.le_of_ble_eq_true rfl, Nat.le_of_ble_eq_true rfl⟩ (Nat.le_of_ble_eq_true rfl) ⟨Nat.le_of_ble_eq_true rfl, Nat.le_of_ble_eq_true rfl⟩ dL_name_104 (fun v14 w1 H locs hq hP hD hS => ?_)
      obtain ⟨bk13, hbk13, rfl, rfl⟩ := hq
      rw [List.append_nil] at hP hD
      have hP : va_P D vwCl [] H := hP
      have hD : va_D (va_A ([]) s.heap.size) [] := hD
      refine W.widen (k := 0) (n := 0) (Nat.le_of_ble_eq_true rfl) (Nat.le_of_ble_eq_true rfl) ?_
      refine W.eq (g2 := F0 m 107 ls [.int (nI bk13), .ref (q (3 + bk11))]) rfl ?_
      refine h_ild (w := []) (xs := (h_SW D q ((nZ Z)) ((mZ Z)))) (i := (3 + bk11)) (R := (nZ Z) bk11) (j := bk13) hx hb hE (h_rk hR hap hS) (h_SWn (by omega)) (by omega) (by omega) (v := ((nZ Z) bk11).getD bk13 0) (rfl) dL_name_107 ?_
      refine lv_iload_n hx hb dL_name_108 rfl (lv_at hl 2 rfl) ?_
      refine lv_bipush (v := nI 6) hx hb dL_name_109 (by decide) ?_
      refine lv_ishr hx hb dL_name_111 ?_
      refine lv_iconst (v := nI 3) hx hb dL_name_112 (by decide) ?_
      refine h_callS (y := yL_below) (n := 2) (As := [.int (x >>> ((nI 6) &&& 31)), .int (nI 3)]) (rest := [.int (((nZ Z) bk11).getD bk13 0)]) hx hb hml hown hts hE hZ hS hl.1 (m_L_below l D (x >>> ((nI 6) &&& 31)) 3 (by decide) (by decide)) h_P0 h_P0 (h_Anil hS h_Asz) (fun _ _ _ => trivial) (h_jR hP hD (h_Anil hS h_Asz)) k_L_9 rfl rfl ⟨Nat.le_of_ble_eq_true rfl, Nat.le_of_ble_eq_true rfl⟩ (Nat.le_of_ble_eq_true rfl) ⟨Nat.le_of_ble_eq_true rfl, Nat.le_of_ble_eq_true rfl⟩ dL_name_113 (fun v16 w1 H locs hq hP hD hS => ?_)
      obtain ⟨bk15, hbk15, rfl, rfl⟩ := hq
      rw [List.append_nil] at hP hD
      have hP : va_P D vwCl [] H := hP
      have hD : va_D (va_A ([]) s.heap.size) [] := hD
      refine W.widen (k := 0) (n := 0) (Nat.le_of_ble_eq_true rfl) (Nat.le_of_ble_eq_true rfl) ?_
      refine W.eq (g2 := F0 m 116 ls [.int (nI bk15), .int (((nZ Z) bk11).getD bk13 0)]) rfl ?_
      refine lv_if_ne (tgt := 123) hx hb dL_name_116 (by decide) (fun h116 => ?_) (fun h116 => ?_)
      · have hb116 := g_ne (a := bk15) (b := 0) h116 (by omega) (by omega)
        refine lv_iconst (v := nI 1) hx hb dL_name_123 (by decide) ?_
        refine lv_iload_n hx hb dL_name_124 rfl (lv_at hl 2 rfl) ?_
        refine lv_iconst (v := nI 5) hx hb dL_name_125 (by decide) ?_
        refine lv_ishr hx hb dL_name_126 ?_
        refine lv_bipush (v := nI 16) hx hb dL_name_127 (by decide) ?_
        refine h_callS (y := yL_below) (n := 2) (As := [.int (x >>> ((nI 5) &&& 31)), .int (nI 16)]) (rest := [.int (nI 1), .int (((nZ Z) bk11).getD bk13 0)]) hx hb hml hown hts hE hZ hS hl.1 (m_L_below l D (x >>> ((nI 5) &&& 31)) 16 (by decide) (by decide)) h_P0 h_P0 (h_Anil hS h_Asz) (fun _ _ _ => trivial) (h_jR hP hD (h_Anil hS h_Asz)) k_L_9 rfl rfl ⟨Nat.le_of_ble_eq_true rfl, Nat.le_of_ble_eq_true rfl⟩ (Nat.le_of_ble_eq_true rfl) ⟨Nat.le_of_ble_eq_true rfl, Nat.le_of_ble_eq_true rfl⟩ dL_name_129 (fun v18 w1 H locs hq hP hD hS => ?_)
        obtain ⟨bk17, hbk17, rfl, rfl⟩ := hq
        rw [List.append_nil] at hP hD
        have hP : va_P D vwCl [] H := hP
        have hD : va_D (va_A ([]) s.heap.size) [] := hD
        refine W.widen (k := 0) (n := 0) (Nat.le_of_ble_eq_true rfl) (Nat.le_of_ble_eq_true rfl) ?_
        refine W.eq (g2 := F0 m 132 ls [.int (nI bk17), .int (nI 1), .int (((nZ Z) bk11).getD bk13 0)]) rfl ?_
        refine lv_ishl hx hb dL_name_132 ?_
        refine lv_ixor hx hb dL_name_133 ?_
        refine W.widen (k := 0) (n := 0) (by omega) (by omega) ?_
        rw [← hQ]
        exact W.iret (v := (((nZ Z) bk11).getD bk13 0) ^^^ ((nI 1) <<< ((nI bk17) &&& 31))) hx hb hr (fun te9 hte9 _ => h_fin (⟨_, rfl, nm_xor (hrw _ (gD_mem (by omega))) (by rw [sh1_ _ hbk17]; exact nm_of (pw16 hbk17)), rfl⟩) hP hD hS hte9) hS.2.2 dL_name_134 hlocks
      · have hb116 := g_eq (a := bk15) (b := 0) h116 (by omega) (by omega)
        refine lv_iconst (v := nI 0) hx hb dL_name_119 (by decide) ?_
        refine lv_goto (tgt := 133) hx hb dL_name_120 (by decide) ?_
        refine lv_ixor hx hb dL_name_133 ?_
        refine W.widen (k := 0) (n := 0) (by omega) (by omega) ?_
        rw [← hQ]
        exact W.iret (v := (((nZ Z) bk11).getD bk13 0) ^^^ (nI 0)) hx hb hr (fun te9 hte9 _ => h_fin (⟨_, rfl, nm_xor (hrw _ (gD_mem (by omega))) (nm_of (by decide)), rfl⟩) hP hD hS hte9) hS.2.2 dL_name_134 hlocks
    · have hb85 := g_eq (a := ((nZ Z) bk11).length) (b := 0) h85 (by omega) (by omega)
      refine lv_iload_n hx hb dL_name_88 rfl (lv_at hl 2 rfl) ?_
      refine lv_iconst (v := nI 2) hx hb dL_name_89 (by decide) ?_
      refine lv_ishr hx hb dL_name_90 ?_
      refine lv_sipush (v := nI 300) hx hb dL_name_91 (by decide) ?_
      refine h_callS (y := yL_below) (n := 2) (As := [.int (x >>> ((nI 2) &&& 31)), .int (nI 300)]) (rest := []) hx hb hml hown hts hE hZ hS hl.1 (m_L_below l D (x >>> ((nI 2) &&& 31)) 300 (by decide) (by decide)) h_P0 h_P0 (h_Anil hS h_Asz) (fun _ _ _ => trivial) (h_jR hP hD (h_Anil hS h_Asz)) k_L_9 rfl rfl ⟨Nat.le_of_ble_eq_true rfl, Nat.le_of_ble_eq_true rfl⟩ (Nat.le_of_ble_eq_true rfl) ⟨Nat.le_of_ble_eq_true rfl, Nat.le_of_ble_eq_true rfl⟩ dL_name_94 (fun v20 w1 H locs hq hP hD hS => ?_)
      obtain ⟨bk19, hbk19, rfl, rfl⟩ := hq
      rw [List.append_nil] at hP hD
      have hP : va_P D vwCl [] H := hP
      have hD : va_D (va_A ([]) s.heap.size) [] := hD
      refine W.widen (k := 0) (n := 0) (Nat.le_of_ble_eq_true rfl) (Nat.le_of_ble_eq_true rfl) ?_
      refine W.eq (g2 := F0 m 97 ls [.int (nI bk19)]) rfl ?_
      refine W.widen (k := 0) (n := 0) (by omega) (by omega) ?_
      rw [← hQ]
      exact W.iret (v := nI bk19) hx hb hr (fun te9 hte9 _ => h_fin (⟨_, rfl, nm_of (by omega), rfl⟩) hP hD hS hte9) hS.2.2 dL_name_97 hlocks
