abbrev m_X3_isIn_rm : Room := { frames := 8, cells := 0, slots := 0, locals := 200 }
set_option maxHeartbeats 4000000 in
set_option maxRecDepth 100000 in
theorem m_X3_isIn (l : Launch) (D : va_G) (hAD : g_AD D) (σ : Nat → va_E) (v lo9 hi9 : Int32)  : g_M l D yX3_isIn cX3_isIn 3 (some .boolean) m_X3_isIn_rm [.int v, .int lo9, .int hi9] σ (fun v1 σ1 => v1 = some (.int (if ¬ v < lo9 ∧ ¬ hi9 < v then 1 else 0)) ∧ σ = σ1) := by
  refine g_ofW [(0, .int v), (1, .int lo9), (2, .int hi9)] (by decide +kernel) (Nat.le_of_ble_eq_true rfl) rfl ?_
  intro p e s m args below meth c hx hb hr hml hown hlocks hts hE hZ hP hS hnm ls hl
  have hown : s.vm.findClass RX3 = some m.cls := hown
  generalize hQ : MQ _ _ _ _ _ _ _ = Q
  refine lv_iload_n hx hb dX3_isIn_0 rfl (lv_at hl 0 rfl) ?_
  refine lv_iload_n hx hb dX3_isIn_1 rfl (lv_at hl 1 rfl) ?_
  refine lv_icmp_lt (tgt := 14) hx hb dX3_isIn_2 (by decide) (fun h2 => ?_) (fun h2 => ?_)
  · refine lv_iconst (v := nI 0) hx hb dX3_isIn_14 (by decide) ?_
    rw [← hQ]
    exact W.zret (v := nI 0) hx hb hr (by first | rfl | decide | (split <;> rfl)) (fun te9 hte9 _ => g_fin (⟨by simp only [*, not_true_eq_false, not_false_eq_true, and_self, and_false, false_and, if_true, if_false, ite_true, ite_false] <;> rfl, rfl⟩) hP hS hte9) hS.2.2 dX3_isIn_15 hlocks
  · refine lv_iload_n hx hb dX3_isIn_5 rfl (lv_at hl 0 rfl) ?_
    refine lv_iload_n hx hb dX3_isIn_6 rfl (lv_at hl 2 rfl) ?_
    refine lv_icmp_gt (tgt := 14) hx hb dX3_isIn_7 (by decide) (fun h7 => ?_) (fun h7 => ?_)
    · refine lv_iconst (v := nI 0) hx hb dX3_isIn_14 (by decide) ?_
      rw [← hQ]
      exact W.zret (v := nI 0) hx hb hr (by first | rfl | decide | (split <;> rfl)) (fun te9 hte9 _ => g_fin (⟨by simp only [*, not_true_eq_false, not_false_eq_true, and_self, and_false, false_and, if_true, if_false, ite_true, ite_false] <;> rfl, rfl⟩) hP hS hte9) hS.2.2 dX3_isIn_15 hlocks
    · refine lv_iconst (v := nI 1) hx hb dX3_isIn_10 (by decide) ?_
      refine lv_goto (tgt := 15) hx hb dX3_isIn_11 (by decide) ?_
      rw [← hQ]
      exact W.zret (v := nI 1) hx hb hr (by first | rfl | decide | (split <;> rfl)) (fun te9 hte9 _ => g_fin (⟨by simp only [*, not_true_eq_false, not_false_eq_true, and_self, and_false, false_and, if_true, if_false, ite_true, ite_false] <;> rfl, rfl⟩) hP hS hte9) hS.2.2 dX3_isIn_15 hlocks

abbrev m_X3_isWood_rm : Room := { frames := 9, cells := 0, slots := 0, locals := 222 }
set_option maxHeartbeats 4000000 in
set_option maxRecDepth 100000 in
theorem m_X3_isWood (l : Launch) (D : va_G) (hAD : g_AD D) (σ : Nat → va_E) (v : Int32)  : g_M l D yX3_isWood cX3_isWood 1 (some .boolean) m_X3_isWood_rm [.int v] σ (fun v1 σ1 => v1 = some (.int (if wk1_ v then 1 else 0)) ∧ σ = σ1) := by
  refine g_ofW [(0, .int v)] (by decide +kernel) (Nat.le_of_ble_eq_true rfl) rfl ?_
  intro p e s m args below meth c hx hb hr hml hown hlocks hts hE hZ hP hS hnm ls hl
  have hown : s.vm.findClass RX3 = some m.cls := hown
  generalize hQ : MQ _ _ _ _ _ _ _ = Q
  refine lv_iload_n hx hb dX3_isWood_0 rfl (lv_at hl 0 rfl) ?_
  refine lv_iconst (v := nI 0) hx hb dX3_isWood_1 (by decide) ?_
  refine lv_iconst (v := nI 1) hx hb dX3_isWood_2 (by decide) ?_
  refine g_callS0 (y := yX3_isIn) (n := 3) (As := [.int v, .int (nI 0), .int (nI 1)]) (rest := []) hx hb hml hown hts hE hZ hP hS hl.1 (m_X3_isIn l D hAD σ (v) (nI 0) (nI 1)) k_X3_44 rfl rfl ⟨rfl, rfl⟩ ⟨Nat.le_of_ble_eq_true rfl, Nat.le_of_ble_eq_true rfl⟩ (Nat.le_of_ble_eq_true rfl) ⟨Nat.le_of_ble_eq_true rfl, Nat.le_of_ble_eq_true rfl⟩ dX3_isWood_3 (fun v1 σ_2 H locs hq hP hS => ?_)
  obtain ⟨rfl, rfl⟩ := hq
  refine W.eq (g2 := F0 m 6 ls [.int (if ¬ (v) < (nI 0) ∧ ¬ (nI 1) < (v) then 1 else 0)]) rfl ?_
  rw [← hQ]
  exact W.zret (v := if ¬ (v) < (nI 0) ∧ ¬ (nI 1) < (v) then 1 else 0) hx hb hr (by first | rfl | decide | (split <;> rfl)) (fun te9 hte9 _ => g_fin (⟨rfl, rfl⟩) hP hS hte9) hS.2.2 dX3_isWood_6 hlocks

abbrev m_X3_isName_rm : Room := { frames := 9, cells := 0, slots := 0, locals := 222 }
set_option maxHeartbeats 4000000 in
set_option maxRecDepth 100000 in
theorem m_X3_isName (l : Launch) (D : va_G) (hAD : g_AD D) (σ : Nat → va_E) (v : Int32)  : g_M l D yX3_isName cX3_isName 1 (some .boolean) m_X3_isName_rm [.int v] σ (fun v1 σ1 => v1 = some (.int (if nm1_ v then 1 else 0)) ∧ σ = σ1) := by
  refine g_ofW [(0, .int v)] (by decide +kernel) (Nat.le_of_ble_eq_true rfl) rfl ?_
  intro p e s m args below meth c hx hb hr hml hown hlocks hts hE hZ hP hS hnm ls hl
  have hown : s.vm.findClass RX3 = some m.cls := hown
  generalize hQ : MQ _ _ _ _ _ _ _ = Q
  refine lv_iload_n hx hb dX3_isName_0 rfl (lv_at hl 0 rfl) ?_
  refine lv_iconst (v := nI 0) hx hb dX3_isName_1 (by decide) ?_
  refine lv_ldc (v := 65535) hx hb hown (hts _ wc_X3_48) dX3_isName_2 ?_
  refine g_top (y := nI 65535) (by decide) ?_
  refine g_callS0 (y := yX3_isIn) (n := 3) (As := [.int v, .int (nI 0), .int (nI 65535)]) (rest := []) hx hb hml hown hts hE hZ hP hS hl.1 (m_X3_isIn l D hAD σ (v) (nI 0) (nI 65535)) k_X3_44 rfl rfl ⟨rfl, rfl⟩ ⟨Nat.le_of_ble_eq_true rfl, Nat.le_of_ble_eq_true rfl⟩ (Nat.le_of_ble_eq_true rfl) ⟨Nat.le_of_ble_eq_true rfl, Nat.le_of_ble_eq_true rfl⟩ dX3_isName_4 (fun v1 σ_2 H locs hq hP hS => ?_)
  obtain ⟨rfl, rfl⟩ := hq
  refine W.eq (g2 := F0 m 7 ls [.int (if ¬ (v) < (nI 0) ∧ ¬ (nI 65535) < (v) then 1 else 0)]) rfl ?_
  rw [← hQ]
  exact W.zret (v := if ¬ (v) < (nI 0) ∧ ¬ (nI 65535) < (v) then 1 else 0) hx hb hr (by first | rfl | decide | (split <;> rfl)) (fun te9 hte9 _ => g_fin (⟨rfl, rfl⟩) hP hS hte9) hS.2.2 dX3_isName_7 hlocks

abbrev m_J6_numberOfLeadingZeros_0f7a4_rm : Room := { frames := 8, cells := 0, slots := 0, locals := 200 }
set_option maxHeartbeats 4000000 in
set_option maxRecDepth 100000 in
theorem m_J6_numberOfLeadingZeros_0f7a4 (l : Launch) (D : va_G) (hAD : g_AD D) (σ : Nat → va_E) (u : Nat) (hu : u < 65536) : g_M l D yJ6_numberOfLeadingZeros_0f7a4 cJ6_numberOfLeadingZeros_0f7a4 2 (some .int) m_J6_numberOfLeadingZeros_0f7a4_rm [.int (nI u)] σ (fun v1 σ1 => v1 = some (.int (nI (nz_ u))) ∧ σ = σ1) := by
  refine g_ofW [(0, .int (nI u))] (by decide +kernel) (Nat.le_of_ble_eq_true rfl) rfl ?_
  intro p e s m args below meth c hx hb hr hml hown hlocks hts hE hZ hP hS hnm ls hl
  have hown : s.vm.findClass RJ6 = some m.cls := hown
  generalize hQ : MQ _ _ _ _ _ _ _ = Q
  refine lv_iload_n hx hb dJ6_numberOfLeadingZeros_0f7a4_0 rfl (lv_at hl 0 rfl) ?_
  refine lv_if_gt (tgt := 15) hx hb dJ6_numberOfLeadingZeros_0f7a4_1 (by decide) (fun h1 => ?_) (fun h1 => ?_)
  · have hb1 := g_lt (a := 0) (b := u) h1 (by omega) (by omega)
    refine lv_bipush (v := nI 31) hx hb dJ6_numberOfLeadingZeros_0f7a4_15 (by decide) ?_
    refine lv_istore_n (lv' := [(1, .int (nI 31)), (0, .int (nI u))]) hx hb dJ6_numberOfLeadingZeros_0f7a4_17 rfl hl (by decide) rfl (fun ls hl => ?_)
    refine lv_iload_n hx hb dJ6_numberOfLeadingZeros_0f7a4_18 rfl (lv_at hl 1 rfl) ?_
    refine lv_ldcw (v := 65536) hx hb hown (hts _ (g_mem 699 (by decide +kernel))) dJ6_numberOfLeadingZeros_0f7a4_19 ?_
    refine g_top (y := nI 65536) (by decide) ?_
    refine lv_icmp_lt (tgt := 33) hx hb dJ6_numberOfLeadingZeros_0f7a4_22 (by decide) (fun h22 => ?_) (fun h22 => ?_)
    · have hb22 := g_lt (a := u) (b := 65536) h22 (by omega) (by omega)
      refine lv_iload_n hx hb dJ6_numberOfLeadingZeros_0f7a4_33 rfl (lv_at hl 1 rfl) ?_
      refine lv_sipush (v := nI 256) hx hb dJ6_numberOfLeadingZeros_0f7a4_34 (by decide) ?_
      refine lv_icmp_lt (tgt := 48) hx hb dJ6_numberOfLeadingZeros_0f7a4_37 (by decide) (fun h37 => ?_) (fun h37 => ?_)
      · have hb37 := g_lt (a := u) (b := 256) h37 (by omega) (by omega)
        refine lv_iload_n hx hb dJ6_numberOfLeadingZeros_0f7a4_48 rfl (lv_at hl 1 rfl) ?_
        refine lv_bipush (v := nI 16) hx hb dJ6_numberOfLeadingZeros_0f7a4_49 (by decide) ?_
        refine lv_icmp_lt (tgt := 61) hx hb dJ6_numberOfLeadingZeros_0f7a4_51 (by decide) (fun h51 => ?_) (fun h51 => ?_)
        · have hb51 := g_lt (a := u) (b := 16) h51 (by omega) (by omega)
          refine lv_iload_n hx hb dJ6_numberOfLeadingZeros_0f7a4_61 rfl (lv_at hl 1 rfl) ?_
          refine lv_iconst (v := nI 4) hx hb dJ6_numberOfLeadingZeros_0f7a4_62 (by decide) ?_
          refine lv_icmp_lt (tgt := 73) hx hb dJ6_numberOfLeadingZeros_0f7a4_63 (by decide) (fun h63 => ?_) (fun h63 => ?_)
          · have hb63 := g_lt (a := u) (b := 4) h63 (by omega) (by omega)
            refine lv_iload_n hx hb dJ6_numberOfLeadingZeros_0f7a4_73 rfl (lv_at hl 0 rfl) ?_
            refine lv_iload_n hx hb dJ6_numberOfLeadingZeros_0f7a4_74 rfl (lv_at hl 1 rfl) ?_
            refine lv_iconst (v := nI 1) hx hb dJ6_numberOfLeadingZeros_0f7a4_75 (by decide) ?_
            refine lv_iushr (v := ((nI u).toUInt32 >>> ((nI 1).toUInt32 &&& Int32.toUInt32 31)).toInt32) hx hb dJ6_numberOfLeadingZeros_0f7a4_76 rfl ?_
            refine g_top (y := nI (u / 2 ^ 1)) (pk_ushrN (by omega) _ 1 (by decide)) ?_
            refine lv_isub hx hb dJ6_numberOfLeadingZeros_0f7a4_77 ?_
            refine g_top (y := nI (31 - (u / 2 ^ 1))) (pk_sub (by omega)) ?_
            rw [← hQ]
            exact W.iret (v := nI (31 - (u / 2 ^ 1))) hx hb hr (fun te9 hte9 _ => g_fin (⟨by rw [show 31 - (u / 2 ^ 1) = 31 - 0 - (u) / 2 by omega, nz_fin hu (i := u) (a := 0) (by omega) (by omega) (by omega) (by decide)], rfl⟩) hP hS hte9) hS.2.2 dJ6_numberOfLeadingZeros_0f7a4_78 hlocks
          · have hb63 := g_nlt (a := u) (b := 4) h63 (by omega) (by omega)
            refine lv_iinc (v := nI 29) (lv' := [(1, .int (nI 29)), (0, .int (nI u))]) hx hb dJ6_numberOfLeadingZeros_0f7a4_66 hl (k := 0) rfl (by decide) (by decide) rfl (fun ls hl => ?_)
            refine lv_iload_n hx hb dJ6_numberOfLeadingZeros_0f7a4_69 rfl (lv_at hl 1 rfl) ?_
            refine lv_iconst (v := nI 2) hx hb dJ6_numberOfLeadingZeros_0f7a4_70 (by decide) ?_
            refine lv_iushr (v := ((nI u).toUInt32 >>> ((nI 2).toUInt32 &&& Int32.toUInt32 31)).toInt32) hx hb dJ6_numberOfLeadingZeros_0f7a4_71 rfl ?_
            refine g_top (y := nI (u / 2 ^ 2)) (pk_ushrN (by omega) _ 2 (by decide)) ?_
            refine lv_istore_n (lv' := [(0, .int (nI (u / 2 ^ 2))), (1, .int (nI 29))]) hx hb dJ6_numberOfLeadingZeros_0f7a4_72 rfl hl (by decide) rfl (fun ls hl => ?_)
            refine lv_iload_n hx hb dJ6_numberOfLeadingZeros_0f7a4_73 rfl (lv_at hl 1 rfl) ?_
            refine lv_iload_n hx hb dJ6_numberOfLeadingZeros_0f7a4_74 rfl (lv_at hl 0 rfl) ?_
            refine lv_iconst (v := nI 1) hx hb dJ6_numberOfLeadingZeros_0f7a4_75 (by decide) ?_
            refine lv_iushr (v := ((nI (u / 2 ^ 2)).toUInt32 >>> ((nI 1).toUInt32 &&& Int32.toUInt32 31)).toInt32) hx hb dJ6_numberOfLeadingZeros_0f7a4_76 rfl ?_
            refine g_top (y := nI ((u / 2 ^ 2) / 2 ^ 1)) (pk_ushrN (by omega) _ 1 (by decide)) ?_
            refine lv_isub hx hb dJ6_numberOfLeadingZeros_0f7a4_77 ?_
            refine g_top (y := nI (29 - ((u / 2 ^ 2) / 2 ^ 1))) (pk_sub (by omega)) ?_
            rw [← hQ]
            exact W.iret (v := nI (29 - ((u / 2 ^ 2) / 2 ^ 1))) hx hb hr (fun te9 hte9 _ => g_fin (⟨by rw [show 29 - ((u / 2 ^ 2) / 2 ^ 1) = 31 - 2 - (u / 2 ^ 2) / 2 by omega, nz_fin hu (i := u / 2 ^ 2) (a := 2) (by omega) (by omega) (by omega) (by decide)], rfl⟩) hP hS hte9) hS.2.2 dJ6_numberOfLeadingZeros_0f7a4_78 hlocks
        · have hb51 := g_nlt (a := u) (b := 16) h51 (by omega) (by omega)
          refine lv_iinc (v := nI 27) (lv' := [(1, .int (nI 27)), (0, .int (nI u))]) hx hb dJ6_numberOfLeadingZeros_0f7a4_54 hl (k := 0) rfl (by decide) (by decide) rfl (fun ls hl => ?_)
          refine lv_iload_n hx hb dJ6_numberOfLeadingZeros_0f7a4_57 rfl (lv_at hl 1 rfl) ?_
          refine lv_iconst (v := nI 4) hx hb dJ6_numberOfLeadingZeros_0f7a4_58 (by decide) ?_
          refine lv_iushr (v := ((nI u).toUInt32 >>> ((nI 4).toUInt32 &&& Int32.toUInt32 31)).toInt32) hx hb dJ6_numberOfLeadingZeros_0f7a4_59 rfl ?_
          refine g_top (y := nI (u / 2 ^ 4)) (pk_ushrN (by omega) _ 4 (by decide)) ?_
          refine lv_istore_n (lv' := [(0, .int (nI (u / 2 ^ 4))), (1, .int (nI 27))]) hx hb dJ6_numberOfLeadingZeros_0f7a4_60 rfl hl (by decide) rfl (fun ls hl => ?_)
          refine lv_iload_n hx hb dJ6_numberOfLeadingZeros_0f7a4_61 rfl (lv_at hl 0 rfl) ?_
          refine lv_iconst (v := nI 4) hx hb dJ6_numberOfLeadingZeros_0f7a4_62 (by decide) ?_
          refine lv_icmp_lt (tgt := 73) hx hb dJ6_numberOfLeadingZeros_0f7a4_63 (by decide) (fun h63 => ?_) (fun h63 => ?_)
          · have hb63 := g_lt (a := u / 2 ^ 4) (b := 4) h63 (by omega) (by omega)
            refine lv_iload_n hx hb dJ6_numberOfLeadingZeros_0f7a4_73 rfl (lv_at hl 1 rfl) ?_
            refine lv_iload_n hx hb dJ6_numberOfLeadingZeros_0f7a4_74 rfl (lv_at hl 0 rfl) ?_
            refine lv_iconst (v := nI 1) hx hb dJ6_numberOfLeadingZeros_0f7a4_75 (by decide) ?_
            refine lv_iushr (v := ((nI (u / 2 ^ 4)).toUInt32 >>> ((nI 1).toUInt32 &&& Int32.toUInt32 31)).toInt32) hx hb dJ6_numberOfLeadingZeros_0f7a4_76 rfl ?_
            refine g_top (y := nI ((u / 2 ^ 4) / 2 ^ 1)) (pk_ushrN (by omega) _ 1 (by decide)) ?_
            refine lv_isub hx hb dJ6_numberOfLeadingZeros_0f7a4_77 ?_
            refine g_top (y := nI (27 - ((u / 2 ^ 4) / 2 ^ 1))) (pk_sub (by omega)) ?_
            rw [← hQ]
            exact W.iret (v := nI (27 - ((u / 2 ^ 4) / 2 ^ 1))) hx hb hr (fun te9 hte9 _ => g_fin (⟨by rw [show 27 - ((u / 2 ^ 4) / 2 ^ 1) = 31 - 4 - (u / 2 ^ 4) / 2 by omega, nz_fin hu (i := u / 2 ^ 4) (a := 4) (by omega) (by omega) (by omega) (by decide)], rfl⟩) hP hS hte9) hS.2.2 dJ6_numberOfLeadingZeros_0f7a4_78 hlocks
          · have hb63 := g_nlt (a := u / 2 ^ 4) (b := 4) h63 (by omega) (by omega)
            refine lv_iinc (v := nI 25) (lv' := [(1, .int (nI 25)), (0, .int (nI (u / 2 ^ 4)))]) hx hb dJ6_numberOfLeadingZeros_0f7a4_66 hl (k := 1) rfl (by decide) (by decide) rfl (fun ls hl => ?_)
            refine lv_iload_n hx hb dJ6_numberOfLeadingZeros_0f7a4_69 rfl (lv_at hl 1 rfl) ?_
            refine lv_iconst (v := nI 2) hx hb dJ6_numberOfLeadingZeros_0f7a4_70 (by decide) ?_
            refine lv_iushr (v := ((nI (u / 2 ^ 4)).toUInt32 >>> ((nI 2).toUInt32 &&& Int32.toUInt32 31)).toInt32) hx hb dJ6_numberOfLeadingZeros_0f7a4_71 rfl ?_
            refine g_top (y := nI ((u / 2 ^ 4) / 2 ^ 2)) (pk_ushrN (by omega) _ 2 (by decide)) ?_
            refine lv_istore_n (lv' := [(0, .int (nI ((u / 2 ^ 4) / 2 ^ 2))), (1, .int (nI 25))]) hx hb dJ6_numberOfLeadingZeros_0f7a4_72 rfl hl (by decide) rfl (fun ls hl => ?_)
            refine lv_iload_n hx hb dJ6_numberOfLeadingZeros_0f7a4_73 rfl (lv_at hl 1 rfl) ?_
            refine lv_iload_n hx hb dJ6_numberOfLeadingZeros_0f7a4_74 rfl (lv_at hl 0 rfl) ?_
            refine lv_iconst (v := nI 1) hx hb dJ6_numberOfLeadingZeros_0f7a4_75 (by decide) ?_
            refine lv_iushr (v := ((nI ((u / 2 ^ 4) / 2 ^ 2)).toUInt32 >>> ((nI 1).toUInt32 &&& Int32.toUInt32 31)).toInt32) hx hb dJ6_numberOfLeadingZeros_0f7a4_76 rfl ?_
            refine g_top (y := nI (((u / 2 ^ 4) / 2 ^ 2) / 2 ^ 1)) (pk_ushrN (by omega) _ 1 (by decide)) ?_
            refine lv_isub hx hb dJ6_numberOfLeadingZeros_0f7a4_77 ?_
            refine g_top (y := nI (25 - (((u / 2 ^ 4) / 2 ^ 2) / 2 ^ 1))) (pk_sub (by omega)) ?_
            rw [← hQ]
            exact W.iret (v := nI (25 - (((u / 2 ^ 4) / 2 ^ 2) / 2 ^ 1))) hx hb hr (fun te9 hte9 _ => g_fin (⟨by rw [show 25 - (((u / 2 ^ 4) / 2 ^ 2) / 2 ^ 1) = 31 - 6 - ((u / 2 ^ 4) / 2 ^ 2) / 2 by omega, nz_fin hu (i := (u / 2 ^ 4) / 2 ^ 2) (a := 6) (by omega) (by omega) (by omega) (by decide)], rfl⟩) hP hS hte9) hS.2.2 dJ6_numberOfLeadingZeros_0f7a4_78 hlocks
      · have hb37 := g_nlt (a := u) (b := 256) h37 (by omega) (by omega)
        refine lv_iinc (v := nI 23) (lv' := [(1, .int (nI 23)), (0, .int (nI u))]) hx hb dJ6_numberOfLeadingZeros_0f7a4_40 hl (k := 0) rfl (by decide) (by decide) rfl (fun ls hl => ?_)
        refine lv_iload_n hx hb dJ6_numberOfLeadingZeros_0f7a4_43 rfl (lv_at hl 1 rfl) ?_
        refine lv_bipush (v := nI 8) hx hb dJ6_numberOfLeadingZeros_0f7a4_44 (by decide) ?_
        refine lv_iushr (v := ((nI u).toUInt32 >>> ((nI 8).toUInt32 &&& Int32.toUInt32 31)).toInt32) hx hb dJ6_numberOfLeadingZeros_0f7a4_46 rfl ?_
        refine g_top (y := nI (u / 2 ^ 8)) (pk_ushrN (by omega) _ 8 (by decide)) ?_
        refine lv_istore_n (lv' := [(0, .int (nI (u / 2 ^ 8))), (1, .int (nI 23))]) hx hb dJ6_numberOfLeadingZeros_0f7a4_47 rfl hl (by decide) rfl (fun ls hl => ?_)
        refine lv_iload_n hx hb dJ6_numberOfLeadingZeros_0f7a4_48 rfl (lv_at hl 0 rfl) ?_
        refine lv_bipush (v := nI 16) hx hb dJ6_numberOfLeadingZeros_0f7a4_49 (by decide) ?_
        refine lv_icmp_lt (tgt := 61) hx hb dJ6_numberOfLeadingZeros_0f7a4_51 (by decide) (fun h51 => ?_) (fun h51 => ?_)
        · have hb51 := g_lt (a := u / 2 ^ 8) (b := 16) h51 (by omega) (by omega)
          refine lv_iload_n hx hb dJ6_numberOfLeadingZeros_0f7a4_61 rfl (lv_at hl 0 rfl) ?_
          refine lv_iconst (v := nI 4) hx hb dJ6_numberOfLeadingZeros_0f7a4_62 (by decide) ?_
          refine lv_icmp_lt (tgt := 73) hx hb dJ6_numberOfLeadingZeros_0f7a4_63 (by decide) (fun h63 => ?_) (fun h63 => ?_)
          · have hb63 := g_lt (a := u / 2 ^ 8) (b := 4) h63 (by omega) (by omega)
            refine lv_iload_n hx hb dJ6_numberOfLeadingZeros_0f7a4_73 rfl (lv_at hl 1 rfl) ?_
            refine lv_iload_n hx hb dJ6_numberOfLeadingZeros_0f7a4_74 rfl (lv_at hl 0 rfl) ?_
            refine lv_iconst (v := nI 1) hx hb dJ6_numberOfLeadingZeros_0f7a4_75 (by decide) ?_
            refine lv_iushr (v := ((nI (u / 2 ^ 8)).toUInt32 >>> ((nI 1).toUInt32 &&& Int32.toUInt32 31)).toInt32) hx hb dJ6_numberOfLeadingZeros_0f7a4_76 rfl ?_
            refine g_top (y := nI ((u / 2 ^ 8) / 2 ^ 1)) (pk_ushrN (by omega) _ 1 (by decide)) ?_
            refine lv_isub hx hb dJ6_numberOfLeadingZeros_0f7a4_77 ?_
            refine g_top (y := nI (23 - ((u / 2 ^ 8) / 2 ^ 1))) (pk_sub (by omega)) ?_
            rw [← hQ]
            exact W.iret (v := nI (23 - ((u / 2 ^ 8) / 2 ^ 1))) hx hb hr (fun te9 hte9 _ => g_fin (⟨by rw [show 23 - ((u / 2 ^ 8) / 2 ^ 1) = 31 - 8 - (u / 2 ^ 8) / 2 by omega, nz_fin hu (i := u / 2 ^ 8) (a := 8) (by omega) (by omega) (by omega) (by decide)], rfl⟩) hP hS hte9) hS.2.2 dJ6_numberOfLeadingZeros_0f7a4_78 hlocks
          · have hb63 := g_nlt (a := u / 2 ^ 8) (b := 4) h63 (by omega) (by omega)
            refine lv_iinc (v := nI 21) (lv' := [(1, .int (nI 21)), (0, .int (nI (u / 2 ^ 8)))]) hx hb dJ6_numberOfLeadingZeros_0f7a4_66 hl (k := 1) rfl (by decide) (by decide) rfl (fun ls hl => ?_)
            refine lv_iload_n hx hb dJ6_numberOfLeadingZeros_0f7a4_69 rfl (lv_at hl 1 rfl) ?_
            refine lv_iconst (v := nI 2) hx hb dJ6_numberOfLeadingZeros_0f7a4_70 (by decide) ?_
            refine lv_iushr (v := ((nI (u / 2 ^ 8)).toUInt32 >>> ((nI 2).toUInt32 &&& Int32.toUInt32 31)).toInt32) hx hb dJ6_numberOfLeadingZeros_0f7a4_71 rfl ?_
            refine g_top (y := nI ((u / 2 ^ 8) / 2 ^ 2)) (pk_ushrN (by omega) _ 2 (by decide)) ?_
            refine lv_istore_n (lv' := [(0, .int (nI ((u / 2 ^ 8) / 2 ^ 2))), (1, .int (nI 21))]) hx hb dJ6_numberOfLeadingZeros_0f7a4_72 rfl hl (by decide) rfl (fun ls hl => ?_)
            refine lv_iload_n hx hb dJ6_numberOfLeadingZeros_0f7a4_73 rfl (lv_at hl 1 rfl) ?_
            refine lv_iload_n hx hb dJ6_numberOfLeadingZeros_0f7a4_74 rfl (lv_at hl 0 rfl) ?_
            refine lv_iconst (v := nI 1) hx hb dJ6_numberOfLeadingZeros_0f7a4_75 (by decide) ?_
            refine lv_iushr (v := ((nI ((u / 2 ^ 8) / 2 ^ 2)).toUInt32 >>> ((nI 1).toUInt32 &&& Int32.toUInt32 31)).toInt32) hx hb dJ6_numberOfLeadingZeros_0f7a4_76 rfl ?_
            refine g_top (y := nI (((u / 2 ^ 8) / 2 ^ 2) / 2 ^ 1)) (pk_ushrN (by omega) _ 1 (by decide)) ?_
            refine lv_isub hx hb dJ6_numberOfLeadingZeros_0f7a4_77 ?_
            refine g_top (y := nI (21 - (((u / 2 ^ 8) / 2 ^ 2) / 2 ^ 1))) (pk_sub (by omega)) ?_
            rw [← hQ]
            exact W.iret (v := nI (21 - (((u / 2 ^ 8) / 2 ^ 2) / 2 ^ 1))) hx hb hr (fun te9 hte9 _ => g_fin (⟨by rw [show 21 - (((u / 2 ^ 8) / 2 ^ 2) / 2 ^ 1) = 31 - 10 - ((u / 2 ^ 8) / 2 ^ 2) / 2 by omega, nz_fin hu (i := (u / 2 ^ 8) / 2 ^ 2) (a := 10) (by omega) (by omega) (by omega) (by decide)], rfl⟩) hP hS hte9) hS.2.2 dJ6_numberOfLeadingZeros_0f7a4_78 hlocks
        · have hb51 := g_nlt (a := u / 2 ^ 8) (b := 16) h51 (by omega) (by omega)
          refine lv_iinc (v := nI 19) (lv' := [(1, .int (nI 19)), (0, .int (nI (u / 2 ^ 8)))]) hx hb dJ6_numberOfLeadingZeros_0f7a4_54 hl (k := 1) rfl (by decide) (by decide) rfl (fun ls hl => ?_)
          refine lv_iload_n hx hb dJ6_numberOfLeadingZeros_0f7a4_57 rfl (lv_at hl 1 rfl) ?_
          refine lv_iconst (v := nI 4) hx hb dJ6_numberOfLeadingZeros_0f7a4_58 (by decide) ?_
          refine lv_iushr (v := ((nI (u / 2 ^ 8)).toUInt32 >>> ((nI 4).toUInt32 &&& Int32.toUInt32 31)).toInt32) hx hb dJ6_numberOfLeadingZeros_0f7a4_59 rfl ?_
          refine g_top (y := nI ((u / 2 ^ 8) / 2 ^ 4)) (pk_ushrN (by omega) _ 4 (by decide)) ?_
          refine lv_istore_n (lv' := [(0, .int (nI ((u / 2 ^ 8) / 2 ^ 4))), (1, .int (nI 19))]) hx hb dJ6_numberOfLeadingZeros_0f7a4_60 rfl hl (by decide) rfl (fun ls hl => ?_)
          refine lv_iload_n hx hb dJ6_numberOfLeadingZeros_0f7a4_61 rfl (lv_at hl 0 rfl) ?_
          refine lv_iconst (v := nI 4) hx hb dJ6_numberOfLeadingZeros_0f7a4_62 (by decide) ?_
          refine lv_icmp_lt (tgt := 73) hx hb dJ6_numberOfLeadingZeros_0f7a4_63 (by decide) (fun h63 => ?_) (fun h63 => ?_)
          · have hb63 := g_lt (a := (u / 2 ^ 8) / 2 ^ 4) (b := 4) h63 (by omega) (by omega)
            refine lv_iload_n hx hb dJ6_numberOfLeadingZeros_0f7a4_73 rfl (lv_at hl 1 rfl) ?_
            refine lv_iload_n hx hb dJ6_numberOfLeadingZeros_0f7a4_74 rfl (lv_at hl 0 rfl) ?_
            refine lv_iconst (v := nI 1) hx hb dJ6_numberOfLeadingZeros_0f7a4_75 (by decide) ?_
            refine lv_iushr (v := ((nI ((u / 2 ^ 8) / 2 ^ 4)).toUInt32 >>> ((nI 1).toUInt32 &&& Int32.toUInt32 31)).toInt32) hx hb dJ6_numberOfLeadingZeros_0f7a4_76 rfl ?_
            refine g_top (y := nI (((u / 2 ^ 8) / 2 ^ 4) / 2 ^ 1)) (pk_ushrN (by omega) _ 1 (by decide)) ?_
            refine lv_isub hx hb dJ6_numberOfLeadingZeros_0f7a4_77 ?_
            refine g_top (y := nI (19 - (((u / 2 ^ 8) / 2 ^ 4) / 2 ^ 1))) (pk_sub (by omega)) ?_
            rw [← hQ]
            exact W.iret (v := nI (19 - (((u / 2 ^ 8) / 2 ^ 4) / 2 ^ 1))) hx hb hr (fun te9 hte9 _ => g_fin (⟨by rw [show 19 - (((u / 2 ^ 8) / 2 ^ 4) / 2 ^ 1) = 31 - 12 - ((u / 2 ^ 8) / 2 ^ 4) / 2 by omega, nz_fin hu (i := (u / 2 ^ 8) / 2 ^ 4) (a := 12) (by omega) (by omega) (by omega) (by decide)], rfl⟩) hP hS hte9) hS.2.2 dJ6_numberOfLeadingZeros_0f7a4_78 hlocks
          · have hb63 := g_nlt (a := (u / 2 ^ 8) / 2 ^ 4) (b := 4) h63 (by omega) (by omega)
            refine lv_iinc (v := nI 17) (lv' := [(1, .int (nI 17)), (0, .int (nI ((u / 2 ^ 8) / 2 ^ 4)))]) hx hb dJ6_numberOfLeadingZeros_0f7a4_66 hl (k := 1) rfl (by decide) (by decide) rfl (fun ls hl => ?_)
            refine lv_iload_n hx hb dJ6_numberOfLeadingZeros_0f7a4_69 rfl (lv_at hl 1 rfl) ?_
            refine lv_iconst (v := nI 2) hx hb dJ6_numberOfLeadingZeros_0f7a4_70 (by decide) ?_
            refine lv_iushr (v := ((nI ((u / 2 ^ 8) / 2 ^ 4)).toUInt32 >>> ((nI 2).toUInt32 &&& Int32.toUInt32 31)).toInt32) hx hb dJ6_numberOfLeadingZeros_0f7a4_71 rfl ?_
            refine g_top (y := nI (((u / 2 ^ 8) / 2 ^ 4) / 2 ^ 2)) (pk_ushrN (by omega) _ 2 (by decide)) ?_
            refine lv_istore_n (lv' := [(0, .int (nI (((u / 2 ^ 8) / 2 ^ 4) / 2 ^ 2))), (1, .int (nI 17))]) hx hb dJ6_numberOfLeadingZeros_0f7a4_72 rfl hl (by decide) rfl (fun ls hl => ?_)
            refine lv_iload_n hx hb dJ6_numberOfLeadingZeros_0f7a4_73 rfl (lv_at hl 1 rfl) ?_
            refine lv_iload_n hx hb dJ6_numberOfLeadingZeros_0f7a4_74 rfl (lv_at hl 0 rfl) ?_
            refine lv_iconst (v := nI 1) hx hb dJ6_numberOfLeadingZeros_0f7a4_75 (by decide) ?_
            refine lv_iushr (v := ((nI (((u / 2 ^ 8) / 2 ^ 4) / 2 ^ 2)).toUInt32 >>> ((nI 1).toUInt32 &&& Int32.toUInt32 31)).toInt32) hx hb dJ6_numberOfLeadingZeros_0f7a4_76 rfl ?_
            refine g_top (y := nI ((((u / 2 ^ 8) / 2 ^ 4) / 2 ^ 2) / 2 ^ 1)) (pk_ushrN (by omega) _ 1 (by decide)) ?_
            refine lv_isub hx hb dJ6_numberOfLeadingZeros_0f7a4_77 ?_
            refine g_top (y := nI (17 - ((((u / 2 ^ 8) / 2 ^ 4) / 2 ^ 2) / 2 ^ 1))) (pk_sub (by omega)) ?_
            rw [← hQ]
            exact W.iret (v := nI (17 - ((((u / 2 ^ 8) / 2 ^ 4) / 2 ^ 2) / 2 ^ 1))) hx hb hr (fun te9 hte9 _ => g_fin (⟨by rw [show 17 - ((((u / 2 ^ 8) / 2 ^ 4) / 2 ^ 2) / 2 ^ 1) = 31 - 14 - (((u / 2 ^ 8) / 2 ^ 4) / 2 ^ 2) / 2 by omega, nz_fin hu (i := ((u / 2 ^ 8) / 2 ^ 4) / 2 ^ 2) (a := 14) (by omega) (by omega) (by omega) (by decide)], rfl⟩) hP hS hte9) hS.2.2 dJ6_numberOfLeadingZeros_0f7a4_78 hlocks
    · have hb22 := g_nlt (a := u) (b := 65536) h22 (by omega) (by omega)
      omega
  · have hb1 := g_nlt (a := 0) (b := u) h1 (by omega) (by omega)
    refine lv_iload_n hx hb dJ6_numberOfLeadingZeros_0f7a4_4 rfl (lv_at hl 0 rfl) ?_
    refine lv_if_ne (tgt := 13) hx hb dJ6_numberOfLeadingZeros_0f7a4_5 (by decide) (fun h5 => ?_) (fun h5 => ?_)
    · have hb5 := g_ne (a := u) (b := 0) h5 (by omega) (by omega)
      omega
    · have hb5 := g_eq (a := u) (b := 0) h5 (by omega) (by omega)
      refine lv_bipush (v := nI 32) hx hb dJ6_numberOfLeadingZeros_0f7a4_8 (by decide) ?_
      refine lv_goto (tgt := 14) hx hb dJ6_numberOfLeadingZeros_0f7a4_10 (by decide) ?_
      rw [← hQ]
      exact W.iret (v := nI 32) hx hb hr (fun te9 hte9 _ => g_fin (⟨by rw [nz_, if_pos (by omega)], rfl⟩) hP hS hte9) hS.2.2 dJ6_numberOfLeadingZeros_0f7a4_14 hlocks

abbrev m_X3_topBit_rm : Room := { frames := 9, cells := 0, slots := 0, locals := 221 }
set_option maxHeartbeats 4000000 in
set_option maxRecDepth 100000 in
theorem m_X3_topBit (l : Launch) (D : va_G) (hAD : g_AD D) (σ : Nat → va_E) (u : Nat) (hu : u < 65536) : g_M l D yX3_topBit cX3_topBit 1 (some .int) m_X3_topBit_rm [.int (nI u)] σ (fun v1 σ1 => v1 = some (.int (tp_ (nI u))) ∧ σ = σ1) := by
  refine g_ofW [(0, .int (nI u))] (by decide +kernel) (Nat.le_of_ble_eq_true rfl) rfl ?_
  intro p e s m args below meth c hx hb hr hml hown hlocks hts hE hZ hP hS hnm ls hl
  have hown : s.vm.findClass RX3 = some m.cls := hown
  generalize hQ : MQ _ _ _ _ _ _ _ = Q
  refine lv_bipush (v := nI 31) hx hb dX3_topBit_0 (by decide) ?_
  refine lv_iload_n hx hb dX3_topBit_2 rfl (lv_at hl 0 rfl) ?_
  refine g_callS0 (y := yJ6_numberOfLeadingZeros_0f7a4) (n := 1) (As := [.int (nI u)]) (rest := [.int (nI 31)]) hx hb hml hown hts hE hZ hP hS hl.1 (m_J6_numberOfLeadingZeros_0f7a4 l D hAD σ u hu) k_X3_49 rfl rfl ⟨rfl, rfl⟩ ⟨Nat.le_of_ble_eq_true rfl, Nat.le_of_ble_eq_true rfl⟩ (Nat.le_of_ble_eq_true rfl) ⟨Nat.le_of_ble_eq_true rfl, Nat.le_of_ble_eq_true rfl⟩ dX3_topBit_3 (fun v1 σ_2 H locs hq hP hS => ?_)
  obtain ⟨rfl, rfl⟩ := hq
  refine W.eq (g2 := F0 m 6 ls [.int (nI (nz_ u)), .int (nI 31)]) rfl ?_
  refine lv_isub hx hb dX3_topBit_6 ?_
  rw [← hQ]
  exact W.iret (v := (nI 31) - (nI (nz_ u))) hx hb hr (fun te9 hte9 _ => g_fin (⟨by rw [tp_nz hu], rfl⟩) hP hS hte9) hS.2.2 dX3_topBit_7 hlocks
