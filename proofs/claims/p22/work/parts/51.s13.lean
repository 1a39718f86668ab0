abbrev m_J6_numberOfLeadingZeros_0f7a4_rm : Room := { frames := 8, cells := 0, slots := 0, locals := 200 }
set_option maxHeartbeats 4000000 in
set_option maxRecDepth 100000 in
theorem m_J6_numberOfLeadingZeros_0f7a4 (l : Launch) (D : va_G) (hAD : g_AD D) (σ : Nat → va_E) (u : Nat) (hu : u < 65536) : g_M l D yJ6_numberOfLeadingZeros_0f7a4 cJ6_numberOfLeadingZeros_0f7a4 2 (some .int) m_J6_numberOfLeadingZeros_0f7a4_rm [.int (nI u)] σ (fun v1 σ1 => v1 = some (.int (nI (nz_ u))) ∧ σ = σ1) := by
  refine g_ofW [(0, .int (nI u))] (by decide +kernel) (Nat.le_of_ble_eq_true rfl) rfl ?_
  intro p e s m args below meth c hx hb hr hml hown hlocks hts hE hZ hP hS hnm ls hl
  have hown : s.vm.findClass RJ6 = some m.cls := hown
  generalize hQ : MQ _ _ _ _ _ _ _ = Q
  refine lv_iload_n hx hb dJ6_numberOfLeadingZeros_0f7a4_0 rfl (lv_at hl 0 rfl) ?_
  refine lv_if_gt (tgt := 15) hx hb dJ6_numberOfLeadingZeros_0f7a4_1 (by decide) (fun h1 => ?_) (fun h1 => ?_)
  · have hb1 := g_lt (a := 0) (b := u) h1 (by omega) (by omega)
    refine lv_bipush (v := nI 31) hx hb dJ6_numberOfLeadingZeros_0f7a4_15 (by decide) ?_
    refine lv_istore_n (lv' := [(1, .int (nI 31)), (0, .int (nI u))]) hx hb dJ6_numberOfLeadingZeros_0f7a4_17 rfl hl (by decide) rfl (fun ls hl => ?_)
    refine lv_iload_n hx hb dJ6_numberOfLeadingZeros_0f7a4_18 rfl (lv_at hl 1 rfl) ?_
    refine lv_ldcw (v := 65536) hx hb hown (hts _ (g_mem 569 (by decide +kernel))) dJ6_numberOfLeadingZeros_0f7a4_19 ?_
    refine g_top (y := nI 65536) (by decide) ?_
    refine lv_icmp_lt (tgt := 33) hx hb dJ6_numberOfLeadingZeros_0f7a4_22 (by decide) (fun h22 => ?_) (fun h22 => ?_)
    · have hb22 := g_lt (a := u) (b := 65536) h22 (by omega) (by omega)
      refine lv_iload_n hx hb dJ6_numberOfLeadingZeros_0f7a4_33 rfl (lv_at hl 1 rfl) ?_
      refine lv_sipush (v := nI 256) hx hb dJ6_numberOfLeadingZeros_0f7a4_34 (by decide) ?_
      refine lv_icmp_lt (tgt := 48) hx hb dJ6_numberOfLeadingZeros_0f7a4_37 (by decide) (fun h37 => ?_) (fun h37 => ?_)
      · have hb37 := g_lt (a := u) (b := 256) h37 (by omega) (by omega)
        refine lv_iload_n hx hb dJ6_numberOfLeadingZeros_0f7a4_48 rfl (lv_at hl 1 rfl) ?_
        refine lv_bipush (v := nI 16) hx hb dJ6_numberOfLeadingZeros_0f7a4_49 (by decide) ?_
        refine lv_icmp_lt (tgt := 61) hx hb dJ6_numberOfLeadingZeros_0f7a4_51 (by decide) (fun h51 => ?_) (fun h51 => ?_)
        · have hb51 := g_lt (a := u) (b := 16) h51 (by omega) (by omega)
          refine lv_iload_n hx hb dJ6_numberOfLeadingZeros_0f7a4_61 rfl (lv_at hl 1 rfl) ?_
          refine lv_iconst (v := nI 4) hx hb dJ6_numberOfLeadingZeros_0f7a4_62 (by decide) ?_
          refine lv_icmp_lt (tgt := 73) hx hb dJ6_numberOfLeadingZeros_0f7a4_63 (by decide) (fun h63 => ?_) (fun h63 => ?_)
          · have hb63 := g_lt (a := u) (b := 4) h63 (by omega) (by omega)
            refine lv_iload_n hx hb dJ6_numberOfLeadingZeros_0f7a4_73 rfl (lv_at hl 0 rfl) ?_
            refine lv_iload_n hx hb dJ6_numberOfLeadingZeros_0f7a4_74 rfl (lv_at hl 1 rfl) ?_
            refine lv_iconst (v := nI 1) hx hb dJ6_numberOfLeadingZeros_0f7a4_75 (by decide) ?_
            refine lv_iushr (v := ((nI u).toUInt32 >>> ((nI 1).toUInt32 &&& Int32.toUInt32 31)).toInt32) hx hb dJ6_numberOfLeadingZeros_0f7a4_76 rfl ?_
            refine g_top (y := nI (u / 2 ^ 1)) (pk_ushrN (by omega) _ 1 (by decide)) ?_
            refine lv_isub hx hb dJ6_numberOfLeadingZeros_0f7a4_77 ?_
            refine g_top (y := nI (31 - (u / 2 ^ 1))) (pk_sub (by omega)) ?_
            rw [← hQ]
            exact W.iret (v := nI (31 - (u / 2 ^ 1))) hx hb hr (fun te9 hte9 _ => g_fin (⟨by rw [show 31 - (u / 2 ^ 1) = 31 - 0 - (u) / 2 by omega, nz_fin hu (i := u) (a := 0) (by omega) (by omega) (by omega) (by decide)], rfl⟩) hP hS hte9) hS.2.2 dJ6_numberOfLeadingZeros_0f7a4_78 hlocks
          · have hb63 := g_nlt (a := u) (b := 4) h63 (by omega) (by omega)
            refine lv_iinc (v := nI 29) (lv' := [(1, .int (nI 29)), (0, .int (nI u))]) hx hb dJ6_numberOfLeadingZeros_0f7a4_66 hl (k := 0) rfl (by decide) (by decide) rfl (fun ls hl => ?_)
            refine lv_iload_n hx hb dJ6_numberOfLeadingZeros_0f7a4_69 rfl (lv_at hl 1 rfl) ?_
            refine lv_iconst (v := nI 2) hx hb dJ6_numberOfLeadingZeros_0f7a4_70 (by decide) ?_
            refine lv_iushr (v := ((nI u).toUInt32 >>> ((nI 2).toUInt32 &&& Int32.toUInt32 31)).toInt32) hx hb dJ6_numberOfLeadingZeros_0f7a4_71 rfl ?_
            refine g_top (y := nI (u / 2 ^ 2)) (pk_ushrN (by omega) _ 2 (by decide)) ?_
            refine lv_istore_n (lv' := [(0, .int (nI (u / 2 ^ 2))), (1, .int (nI 29))]) hx hb dJ6_numberOfLeadingZeros_0f7a4_72 rfl hl (by decide) rfl (fun ls hl => ?_)
            refine lv_iload_n hx hb dJ6_numberOfLeadingZeros_0f7a4_73 rfl (lv_at hl 1 rfl) ?_
            refine lv_iload_n hx hb dJ6_numberOfLeadingZeros_0f7a4_74 rfl (lv_at hl 0 rfl) ?_
            refine lv_iconst (v := nI 1) hx hb dJ6_numberOfLeadingZeros_0f7a4_75 (by decide) ?_
            refine lv_iushr (v := ((nI (u / 2 ^ 2)).toUInt32 >>> ((nI 1).toUInt32 &&& Int32.toUInt32 31)).toInt32) hx hb dJ6_numberOfLeadingZeros_0f7a4_76 rfl ?_
            refine g_top (y := nI ((u / 2 ^ 2) / 2 ^ 1)) (pk_ushrN (by omega) _ 1 (by decide)) ?_
            refine lv_isub hx hb dJ6_numberOfLeadingZeros_0f7a4_77 ?_
            refine g_top (y := nI (29 - ((u / 2 ^ 2) / 2 ^ 1))) (pk_sub (by omega)) ?_
            rw [← hQ]
            exact W.iret (v := nI (29 - ((u / 2 ^ 2) / 2 ^ 1))) hx hb hr (fun te9 hte9 _ => g_fin (⟨by rw [show 29 - ((u / 2 ^ 2) / 2 ^ 1) = 31 - 2 - (u / 2 ^ 2) / 2 by omega, nz_fin hu (i := u / 2 ^ 2) (a := 2) (by omega) (by omega) (by omega) (by decide)], rfl⟩) hP hS hte9) hS.2.2 dJ6_numberOfLeadingZeros_0f7a4_78 hlocks
        · have hb51 := g_nlt (a := u) (b := 16) h51 (by omega) (by omega)
          refine lv_iinc (v := nI 27) (lv' := [(1, .int (nI 27)), (0, .int (nI u))]) hx hb dJ6_numberOfLeadingZeros_0f7a4_54 hl (k := 0) rfl (by decide) (by decide) rfl (fun ls hl => ?_)
          refine lv_iload_n hx hb dJ6_numberOfLeadingZeros_0f7a4_57 rfl (lv_at hl 1 rfl) ?_
          refine lv_iconst (v := nI 4) hx hb dJ6_numberOfLeadingZeros_0f7a4_58 (by decide) ?_
          refine lv_iushr (v := ((nI u).toUInt32 >>> ((nI 4).toUInt32 &&& Int32.toUInt32 31)).toInt32) hx hb dJ6_numberOfLeadingZeros_0f7a4_59 rfl ?_
          refine g_top (y := nI (u / 2 ^ 4)) (pk_ushrN (by omega) _ 4 (by decide)) ?_
          refine lv_istore_n (lv' := [(0, .int (nI (u / 2 ^ 4))), (1, .int (nI 27))]) hx hb dJ6_numberOfLeadingZeros_0f7a4_60 rfl hl (by decide) rfl (fun ls hl => ?_)
          refine lv_iload_n hx hb dJ6_numberOfLeadingZeros_0f7a4_61 rfl (lv_at hl 0 rfl) ?_
          refine lv_iconst (v := nI 4) hx hb dJ6_numberOfLeadingZeros_0f7a4_62 (by decide) ?_
          refine lv_icmp_lt (tgt := 73) hx hb dJ6_numberOfLeadingZeros_0f7a4_63 (by decide) (fun h63 => ?_) (fun h63 => ?_)
          · have hb63 := g_lt (a := u / 2 ^ 4) (b := 4) h63 (by omega) (by omega)
            refine lv_iload_n hx hb dJ6_numberOfLeadingZeros_0f7a4_73 rfl (lv_at hl 1 rfl) ?_
            refine lv_iload_n hx hb dJ6_numberOfLeadingZeros_0f7a4_74 rfl (lv_at hl 0 rfl) ?_
            refine lv_iconst (v := nI 1) hx hb dJ6_numberOfLeadingZeros_0f7a4_75 (by decide) ?_
            refine lv_iushr (v := ((nI (u / 2 ^ 4)).toUInt32 >>> ((nI 1).toUInt32 &&& Int32.toUInt32 31)).toInt32) hx hb dJ6_numberOfLeadingZeros_0f7a4_76 rfl ?_
            refine g_top (y := nI ((u / 2 ^ 4) / 2 ^ 1)) (pk_ushrN (by omega) _ 1 (by decide)) ?_
            refine lv_isub hx hb dJ6_numberOfLeadingZeros_0f7a4_77 ?_
            refine g_top (y := nI (27 - ((u / 2 ^ 4) / 2 ^ 1))) (pk_sub (by omega)) ?_
            rw [← hQ]
            exact W.iret (v := nI (27 - ((u / 2 ^ 4) / 2 ^ 1))) hx hb hr (fun te9 hte9 _ => g_fin (⟨by rw [show 27 - ((u / 2 ^ 4) / 2 ^ 1) = 31 - 4 - (u / 2 ^ 4) / 2 by omega, nz_fin hu (i := u / 2 ^ 4) (a := 4) (by omega) (by omega) (by omega) (by decide)], rfl⟩) hP hS hte9) hS.2.2 dJ6_numberOfLeadingZeros_0f7a4_78 hlocks
          · have hb63 := g_nlt (a := u / 2 ^ 4) (b := 4) h63 (by omega) (by omega)
            refine lv_iinc (v := nI 25) (lv' := [(1, .int (nI 25)), (0, .int (nI (u / 2 ^ 4)))]) hx hb dJ6_numberOfLeadingZeros_0f7a4_66 hl (k := 1) rfl (by decide) (by decide) rfl (fun ls hl => ?_)
            refine lv_iload_n hx hb dJ6_numberOfLeadingZeros_0f7a4_69 rfl (lv_at hl 1 rfl) ?_
            refine lv_iconst (v := nI 2) hx hb dJ6_numberOfLeadingZeros_0f7a4_70 (by decide) ?_
            refine lv_iushr (v := ((nI (u / 2 ^ 4)).toUInt32 >>> ((nI 2).toUInt32 &&& Int32.toUInt32 31)).toInt32) hx hb dJ6_numberOfLeadingZeros_0f7a4_71 rfl ?_
            refine g_top (y := nI ((u / 2 ^ 4) / 2 ^ 2)) (pk_ushrN (by omega) _ 2 (by decide)) ?_
            refine lv_istore_n (lv' := [(0, .int (nI ((u / 2 ^ 4) / 2 ^ 2))), (1, .int (nI 25))]) hx hb dJ6_numberOfLeadingZeros_0f7a4_72 rfl hl (by decide) rfl (fun ls hl => ?_)
            refine lv_iload_n hx hb dJ6_numberOfLeadingZeros_0f7a4_73 rfl (lv_at hl 1 rfl) ?_
            refine lv_iload_n hx hb dJ6_numberOfLeadingZeros_0f7a4_74 rfl (lv_at hl 0 rfl) ?_
            refine lv_iconst (v := nI 1) hx hb dJ6_numberOfLeadingZeros_0f7a4_75 (by decide) ?_
            refine lv_iushr (v := ((nI ((u / 2 ^ 4) / 2 ^ 2)).toUInt32 >>> ((nI 1).toUInt32 &&& Int32.toUInt32 31)).toInt32) hx hb dJ6_numberOfLeadingZeros_0f7a4_76 rfl ?_
            refine g_top (y := nI (((u / 2 ^ 4) / 2 ^ 2) / 2 ^ 1)) (pk_ushrN (by omega) _ 1 (by decide)) ?_
            refine lv_isub hx hb dJ6_numberOfLeadingZeros_0f7a4_77 ?_
            refine g_top (y := nI (25 - (((u / 2 ^ 4) / 2 ^ 2) / 2 ^ 1))) (pk_sub (by omega)) ?_
            rw [← hQ]
            exact W.iret (v := nI (25 - (((u / 2 ^ 4) / 2 ^ 2) / 2 ^ 1))) hx hb hr (fun te9 hte9 _ => g_fin (⟨by rw [show 25 - (((u / 2 ^ 4) / 2 ^ 2) / 2 ^ 1) = 31 - 6 - ((u / 2 ^ 4) / 2 ^ 2) / 2 by omega, nz_fin hu (i := (u / 2 ^ 4) / 2 ^ 2) (a := 6) (by omega) (by omega) (by omega) (by decide)], rfl⟩) hP hS hte9) hS.2.2 dJ6_numberOfLeadingZeros_0f7a4_78 hlocks
      · have hb37 := g_nlt (a := u) (b := 256) h37 (by omega) (by omega)
        refine lv_iinc (v := nI 23) (lv' := [(1, .int (nI 23)), (0, .int (nI u))]) hx hb dJ6_numberOfLeadingZeros_0f7a4_40 hl (k := 0) rfl (by decide) (by decide) rfl (fun ls hl => ?_)
        refine lv_iload_n hx hb dJ6_numberOfLeadingZeros_0f7a4_43 rfl (lv_at hl 1 rfl) ?_
        refine lv_bipush (v := nI 8) hx hb dJ6_numberOfLeadingZeros_0f7a4_44 (by decide) ?_
        refine lv_iushr (v := ((nI u).toUInt32 >>> ((nI 8).toUInt32 &&& Int32.toUInt32 31)).toInt32) hx hb dJ6_numberOfLeadingZeros_0f7a4_46 rfl ?_
        refine g_top (y := nI (u / 2 ^ 8)) (pk_ushrN (by omega) _ 8 (by decide)) ?_
        refine lv_istore_n (lv' := [(0, .int (nI (u / 2 ^ 8))), (1, .int (nI 23))]) hx hb dJ6_numberOfLeadingZeros_0f7a4_47 rfl hl (by decide) rfl (fun ls hl => ?_)
        refine lv_iload_n hx hb dJ6_numberOfLeadingZeros_0f7a4_48 rfl (lv_at hl 0 rfl) ?_
        refine lv_bipush (v := nI 16) hx hb dJ6_numberOfLeadingZeros_0f7a4_49 (by decide) ?_
        refine lv_icmp_lt (tgt := 61) hx hb dJ6_numberOfLeadingZeros_0f7a4_51 (by decide) (fun h51 => ?_) (fun h51 => ?_)
        · have hb51 := g_lt (a := u / 2 ^ 8) (b := 16) h51 (by omega) (by omega)
          refine lv_iload_n hx hb dJ6_numberOfLeadingZeros_0f7a4_61 rfl (lv_at hl 0 rfl) ?_
          refine lv_iconst (v := nI 4) hx hb dJ6_numberOfLeadingZeros_0f7a4_62 (by decide) ?_
          refine lv_icmp_lt (tgt := 73) hx hb dJ6_numberOfLeadingZeros_0f7a4_63 (by decide) (fun h63 => ?_) (fun h63 => ?_)
          · have hb63 := g_lt (a := u / 2 ^ 8) (b := 4) h63 (by omega) (by omega)
            refine lv_iload_n hx hb dJ6_numberOfLeadingZeros_0f7a4_73 rfl (lv_at hl 1 rfl) ?_
            refine lv_iload_n hx hb dJ6_numberOfLeadingZeros_0f7a4_74 rfl (lv_at hl 0 rfl) ?_
            refine lv_iconst (v := nI 1) hx hb dJ6_numberOfLeadingZeros_0f7a4_75 (by decide) ?_
            refine lv_iushr (v := ((nI (u / 2 ^ 8)).toUInt32 >>> ((nI 1).toUInt32 &&& Int32.toUInt32 31)).toInt32) hx hb dJ6_numberOfLeadingZeros_0f7a4_76 rfl ?_
            refine g_top (y := nI ((u / 2 ^ 8) / 2 ^ 1)) (pk_ushrN (by omega) _ 1 (by decide)) ?_
            refine lv_isub hx hb dJ6_numberOfLeadingZeros_0f7a4_77 ?_
            refine g_top (y := nI (23 - ((u / 2 ^ 8) / 2 ^ 1))) (pk_sub (by omega)) ?_
            rw [← hQ]
            exact W.iret (v := nI (23 - ((u / 2 ^ 8) / 2 ^ 1))) hx hb hr (fun te9 hte9 _ => g_fin (⟨by rw [show 23 - ((u / 2 ^ 8) / 2 ^ 1) = 31 - 8 - (u / 2 ^ 8) / 2 by omega, nz_fin hu (i := u / 2 ^ 8) (a := 8) (by omega) (by omega) (by omega) (by decide)], rfl⟩) hP hS hte9) hS.2.2 dJ6_numberOfLeadingZeros_0f7a4_78 hlocks
          · have hb63 := g_nlt (a := u / 2 ^ 8) (b := 4) h63 (by omega) (by omega)
            refine lv_iinc (v := nI 21) (lv' := [(1, .int (nI 21)), (0, .int (nI (u / 2 ^ 8)))]) hx hb dJ6_numberOfLeadingZeros_0f7a4_66 hl (k := 1) rfl (by decide) (by decide) rfl (fun ls hl => ?_)
            refine lv_iload_n hx hb dJ6_numberOfLeadingZeros_0f7a4_69 rfl (lv_at hl 1 rfl) ?_
            refine lv_iconst (v := nI 2) hx hb dJ6_numberOfLeadingZeros_0f7a4_70 (by decide) ?_
            refine lv_iushr (v := ((nI (u / 2 ^ 8)).toUInt32 >>> ((nI 2).toUInt32 &&& Int32.toUInt32 31)).toInt32) hx hb dJ6_numberOfLeadingZeros_0f7a4_71 rfl ?_
            refine g_top (y := nI ((u / 2 ^ 8) / 2 ^ 2)) (pk_ushrN (by omega) _ 2 (by decide)) ?_
            refine lv_istore_n (lv' := [(0, .int (nI ((u / 2 ^ 8) / 2 ^ 2))), (1, .int (nI 21))]) hx hb dJ6_numberOfLeadingZeros_0f7a4_72 rfl hl (by decide) rfl (fun ls hl => ?_)
            refine lv_iload_n hx hb dJ6_numberOfLeadingZeros_0f7a4_73 rfl (lv_at hl 1 rfl) ?_
            refine lv_iload_n hx hb dJ6_numberOfLeadingZeros_0f7a4_74 rfl (lv_at hl 0 rfl) ?_
            refine lv_iconst (v := nI 1) hx hb dJ6_numberOfLeadingZeros_0f7a4_75 (by decide) ?_
            refine lv_iushr (v := ((nI ((u / 2 ^ 8) / 2 ^ 2)).toUInt32 >>> ((nI 1).toUInt32 &&& Int32.toUInt32 31)).toInt32) hx hb dJ6_numberOfLeadingZeros_0f7a4_76 rfl ?_
            refine g_top (y := nI (((u / 2 ^ 8) / 2 ^ 2) / 2 ^ 1)) (pk_ushrN (by omega) _ 1 (by decide)) ?_
            refine lv_isub hx hb dJ6_numberOfLeadingZeros_0f7a4_77 ?_
            refine g_top (y := nI (21 - (((u / 2 ^ 8) / 2 ^ 2) / 2 ^ 1))) (pk_sub (by omega)) ?_
            rw [← hQ]
            exact W.iret (v := nI (21 - (((u / 2 ^ 8) / 2 ^ 2) / 2 ^ 1))) hx hb hr (fun te9 hte9 _ => g_fin (⟨by rw [show 21 - (((u / 2 ^ 8) / 2 ^ 2) / 2 ^ 1) = 31 - 10 - ((u / 2 ^ 8) / 2 ^ 2) / 2 by omega, nz_fin hu (i := (u / 2 ^ 8) / 2 ^ 2) (a := 10) (by omega) (by omega) (by omega) (by decide)], rfl⟩) hP hS hte9) hS.2.2 dJ6_numberOfLeadingZeros_0f7a4_78 hlocks
        · have hb51 := g_nlt (a := u / 2 ^ 8) (b := 16) h51 (by omega) (by omega)
          refine lv_iinc (v := nI 19) (lv' := [(1, .int (nI 19)), (0, .int (nI (u / 2 ^ 8)))]) hx hb dJ6_numberOfLeadingZeros_0f7a4_54 hl (k := 1) rfl (by decide) (by decide) rfl (fun ls hl => ?_)
          refine lv_iload_n hx hb dJ6_numberOfLeadingZeros_0f7a4_57 rfl (lv_at hl 1 rfl) ?_
          refine lv_iconst (v := nI 4) hx hb dJ6_numberOfLeadingZeros_0f7a4_58 (by decide) ?_
          refine lv_iushr (v := ((nI (u / 2 ^ 8)).toUInt32 >>> ((nI 4).toUInt32 &&& Int32.toUInt32 31)).toInt32) hx hb dJ6_numberOfLeadingZeros_0f7a4_59 rfl ?_
          refine g_top (y := nI ((u / 2 ^ 8) / 2 ^ 4)) (pk_ushrN (by omega) _ 4 (by decide)) ?_
          refine lv_istore_n (lv' := [(0, .int (nI ((u / 2 ^ 8) / 2 ^ 4))), (1, .int (nI 19))]) hx hb dJ6_numberOfLeadingZeros_0f7a4_60 rfl hl (by decide) rfl (fun ls hl => ?_)
          refine lv_iload_n hx hb dJ6_numberOfLeadingZeros_0f7a4_61 rfl (lv_at hl 0 rfl) ?_
          refine lv_iconst (v := nI 4) hx hb dJ6_numberOfLeadingZeros_0f7a4_62 (by decide) ?_
          refine lv_icmp_lt (tgt := 73) hx hb dJ6_numberOfLeadingZeros_0f7a4_63 (by decide) (fun h63 => ?_) (fun h63 => ?_)
          · have hb63 := g_lt (a := (u / 2 ^ 8) / 2 ^ 4) (b := 4) h63 (by omega) (by omega)
            refine lv_iload_n hx hb dJ6_numberOfLeadingZeros_0f7a4_73 rfl (lv_at hl 1 rfl) ?_
            refine lv_iload_n hx hb dJ6_numberOfLeadingZeros_0f7a4_74 rfl (lv_at hl 0 rfl) ?_
            refine lv_iconst (v := nI 1) hx hb dJ6_numberOfLeadingZeros_0f7a4_75 (by decide) ?_
            refine lv_iushr (v := ((nI ((u / 2 ^ 8) / 2 ^ 4)).toUInt32 >>> ((nI 1).toUInt32 &&& Int32.toUInt32 31)).toInt32) hx hb dJ6_numberOfLeadingZeros_0f7a4_76 rfl ?_
            refine g_top (y := nI (((u / 2 ^ 8) / 2 ^ 4) / 2 ^ 1)) (pk_ushrN (by omega) _ 1 (by decide)) ?_
            refine lv_isub hx hb dJ6_numberOfLeadingZeros_0f7a4_77 ?_
            refine g_top (y := nI (19 - (((u / 2 ^ 8) / 2 ^ 4) / 2 ^ 1))) (pk_sub (by omega)) ?_
            rw [← hQ]
            exact W.iret (v := nI (19 - (((u / 2 ^ 8) / 2 ^ 4) / 2 ^ 1))) hx hb hr (fun te9 hte9 _ => g_fin (⟨by rw [show 19 - (((u / 2 ^ 8) / 2 ^ 4) / 2 ^ 1) = 31 - 12 - ((u / 2 ^ 8) / 2 ^ 4) / 2 by omega, nz_fin hu (i := (u / 2 ^ 8) / 2 ^ 4) (a := 12) (by omega) (by omega) (by omega) (by decide)], rfl⟩) hP hS hte9) hS.2.2 dJ6_numberOfLeadingZeros_0f7a4_78 hlocks
          · have hb63 := g_nlt (a := (u / 2 ^ 8) / 2 ^ 4) (b := 4) h63 (by omega) (by omega)
            refine lv_iinc (v := nI 17) (lv' := [(1, .int (nI 17)), (0, .int (nI ((u / 2 ^ 8) / 2 ^ 4)))]) hx hb dJ6_numberOfLeadingZeros_0f7a4_66 hl (k := 1) rfl (by decide) (by decide) rfl (fun ls hl => ?_)
            refine lv_iload_n hx hb dJ6_numberOfLeadingZeros_0f7a4_69 rfl (lv_at hl 1 rfl) ?_
            refine lv_iconst (v := nI 2) hx hb dJ6_numberOfLeadingZeros_0f7a4_70 (by decide) ?_
            refine lv_iushr (v := ((nI ((u / 2 ^ 8) / 2 ^ 4)).toUInt32 >>> ((nI 2).toUInt32 &&& Int32.toUInt32 31)).toInt32) hx hb dJ6_numberOfLeadingZeros_0f7a4_71 rfl ?_
            refine g_top (y := nI (((u / 2 ^ 8) / 2 ^ 4) / 2 ^ 2)) (pk_ushrN (by omega) _ 2 (by decide)) ?_
            refine lv_istore_n (lv' := [(0, .int (nI (((u / 2 ^ 8) / 2 ^ 4) / 2 ^ 2))), (1, .int (nI 17))]) hx hb dJ6_numberOfLeadingZeros_0f7a4_72 rfl hl (by decide) rfl (fun ls hl => ?_)
            refine lv_iload_n hx hb dJ6_numberOfLeadingZeros_0f7a4_73 rfl (lv_at hl 1 rfl) ?_
            refine lv_iload_n hx hb dJ6_numberOfLeadingZeros_0f7a4_74 rfl (lv_at hl 0 rfl) ?_
            refine lv_iconst (v := nI 1) hx hb dJ6_numberOfLeadingZeros_0f7a4_75 (by decide) ?_
            refine lv_iushr (v := ((nI (((u / 2 ^ 8) / 2 ^ 4) / 2 ^ 2)).toUInt32 >>> ((nI 1).toUInt32 &&& Int32.toUInt32 31)).toInt32) hx hb dJ6_numberOfLeadingZeros_0f7a4_76 rfl ?_
            refine g_top (y := nI ((((u / 2 ^ 8) / 2 ^ 4) / 2 ^ 2) / 2 ^ 1)) (pk_ushrN (by omega) _ 1 (by decide)) ?_
            refine lv_isub hx hb dJ6_numberOfLeadingZeros_0f7a4_77 ?_
            refine g_top (y := nI (17 - ((((u / 2 ^ 8) / 2 ^ 4) / 2 ^ 2) / 2 ^ 1))) (pk_sub (by omega)) ?_
            rw [← hQ]
            exact W.iret (v := nI (17 - ((((u / 2 ^ 8) / 2 ^ 4) / 2 ^ 2) / 2 ^ 1))) hx hb hr (fun te9 hte9 _ => g_fin (⟨by rw [show 17 - ((((u / 2 ^ 8) / 2 ^ 4) / 2 ^ 2) / 2 ^ 1) = 31 - 14 - (((u / 2 ^ 8) / 2 ^ 4) / 2 ^ 2) / 2 by omega, nz_fin hu (i := ((u / 2 ^ 8) / 2 ^ 4) / 2 ^ 2) (a := 14) (by omega) (by omega) (by omega) (by decide)], rfl⟩) hP hS hte9) hS.2.2 dJ6_numberOfLeadingZeros_0f7a4_78 hlocks
    · have hb22 := g_nlt (a := u) (b := 65536) h22 (by omega) (by omega)
      omega
  · have hb1 := g_nlt (a := 0) (b := u) h1 (by omega) (by omega)
    refine lv_iload_n hx hb dJ6_numberOfLeadingZeros_0f7a4_4 rfl (lv_at hl 0 rfl) ?_
    refine lv_if_ne (tgt := 13) hx hb dJ6_numberOfLeadingZeros_0f7a4_5 (by decide) (fun h5 => ?_) (fun h5 => ?_)
    · have hb5 := g_ne (a := u) (b := 0) h5 (by omega) (by omega)
      omega
    · have hb5 := g_eq (a := u) (b := 0) h5 (by omega) (by omega)
      refine lv_bipush (v := nI 32) hx hb dJ6_numberOfLeadingZeros_0f7a4_8 (by decide) ?_
      refine lv_goto (tgt := 14) hx hb dJ6_numberOfLeadingZeros_0f7a4_10 (by decide) ?_
      rw [← hQ]
      exact W.iret (v := nI 32) hx hb hr (fun te9 hte9 _ => g_fin (⟨by rw [nz_, if_pos (by omega)], rfl⟩) hP hS hte9) hS.2.2 dJ6_numberOfLeadingZeros_0f7a4_14 hlocks

abbrev m_L_build_rm  : Room := { frames := 40, cells := 300, slots := 3000, locals := 3000 }
set_option maxHeartbeats 4000000 in
set_option maxRecDepth 100000 in
theorem m_L_build (l : Launch) (hst : l.stackTraces = false) (D : va_G) (hAD : g_AD D) (σ : Nat → va_E) (b L : Nat) (xs : Nat → Int32) (hC : g_C D σ (fun _ => [])) (hL : L ≤ 260) : h_O l D yL_build cL_build 10 (some (.object "FingerPostsLaw$Sim")) m_L_build_rm [.ref (ad_ D 0), .ref b] (some (b, L, xs)) ([]) ((g_W D σ)) (fun v1 w1 => ∃ (σ1 : Nat → va_E) (q1 : Nat → Nat) (Z1 : g_Z) (Ls1 : Nat → g_L), v1 = some (.ref (q1 0)) ∧ w1 = g_W D σ1 ++ h_SW D q1 (nZ Z1) (mZ Z1) ∧ g_C D σ1 Ls1 ∧ vC_ Ls1 ∧ SZ_ Ls1 Z1) := by
  have hD0 : va_D (fun _ => True) (g_W D σ) := g_D hAD (fun _ _ => trivial)
  refine h_ofO [(0, .ref (ad_ D 0)), (1, .ref b)] (by decide +kernel) (Nat.le_of_ble_eq_true rfl) rfl ?_
  intro p e s m args below meth c hx hb hr hml hown hlocks hts hE hZ hR hP hS hX hO ls hl
  have hown : s.vm.findClass RL = some m.cls := hown
  generalize hQ : MQ _ _ _ _ _ _ _ = Q
  have hD : va_D (va_A ((g_W D σ)) s.heap.size) ((g_W D σ)) := va_D.self hD0
  have hP : va_P D vwCl (g_W D σ ++ []) s.heap := by rw [List.append_nil]; exact hP
  have hD : va_D (va_A (g_W D σ) s.heap.size) (g_W D σ ++ []) := by rw [List.append_nil]; exact hD
  obtain ⟨hX1, hX2, hX3⟩ := hX
  have hX1 : va_X b L xs s s.heap := hX1
  have hX2 : b < s.heap.size := hX2
  refine va_new (D := D) (tys := g_tys D) (ci := 3) (fs := [.null, .null]) (C := RX3) (T := TX3) (N := 2) hx hb hts g_inX3 tyX3 tyX3_ok hown (hts _ wl_L_17) (hts _ (g_mem 550 (by decide +kernel))) (hts _ ki_X3_init) hE.1 hP hD hS h_Asz rfl (fun j hj => by rcases (show j = 0 ∨ j = 1 by omega) with rfl | rfl <;> rfl) (Nat.le_of_ble_eq_true rfl) (Nat.le_of_ble_eq_true rfl) dL_build_0 (fun q9 H hP hD hS => ?_)
  refine W.widen (k := 1) (n := 2) (Nat.le_of_ble_eq_true rfl) (Nat.le_of_ble_eq_true rfl) ?_
  rw [List.append_assoc, List.nil_append] at hP hD
  have hP : va_P D vwCl ((g_W D σ) ++ [(q9, .inr (3, [.null, .null]))]) H := hP
  have hD : va_D (va_A ((g_W D σ)) s.heap.size) ((g_W D σ) ++ [(q9, .inr (3, [.null, .null]))]) := hD
  refine lv_dup hx hb dL_build_3 rfl ?_
  refine h_callI (rest := [.ref q9]) hx hb hml hown hts hE hZ hS hl.1 hO (m_X3_init l D q9) h_P0 (h_suf hP) (h_AS hD hS h_Asz) (fun _ _ _ => trivial) (h_jS hP hD (h_AS hD hS h_Asz)) (host := RL) (by simp [g_NL]) kn_X3_init ki_X3_init kc_X3_init kd_X3_init rfl ⟨Nat.le_of_ble_eq_true rfl, Nat.le_of_ble_eq_true rfl⟩ (Nat.le_of_ble_eq_true rfl) ⟨Nat.le_of_ble_eq_true rfl, Nat.le_of_ble_eq_true rfl⟩ dL_build_4 (fun v w1 H locs hq hP hD hS => ?_)
  obtain ⟨rfl, q, hq0, rfl⟩ := hq
  refine W.eq (g2 := F0 m 7 ls [.ref (q 0)]) (by rw [hq0]; rfl) ?_
  obtain ⟨Z0, hZ0⟩ : ∃ z : g_Z, z = fun _ => [] := ⟨_, rfl⟩
  have hW0 : h_SW D q (fun _ => []) (fun _ => []) = h_SW D q (nZ Z0) (mZ Z0) := by rw [hZ0]; rfl
  rw [hW0] at hP hD
  have hvC0 : vC_ (fun _ => []) := fun w hw => ⟨vL_nil, Nat.zero_le _⟩
  have hSZ0 : SZ_ (fun _ => []) Z0 := fun w hw => by rw [hZ0]
  have hP : va_P D vwCl ((g_W D σ) ++ (h_SW D q ((nZ Z0)) ((mZ Z0)))) H := hP
  have hD : va_D (va_A ((g_W D σ)) s.heap.size) ((g_W D σ) ++ (h_SW D q ((nZ Z0)) ((mZ Z0)))) := hD
  refine W.widen (k := 7) (n := 6) (Nat.le_of_ble_eq_true rfl) (Nat.le_of_ble_eq_true rfl) ?_
  refine lv_astore_n (lv' := [(2, .ref (q 0)), (0, .ref (ad_ D 0)), (1, .ref b)]) hx hb dL_build_7 rfl hl (by decide) rfl (fun ls hl => ?_)
  refine lv_aload_n hx hb dL_build_8 rfl (lv_at hl 2 rfl) ?_
  refine lv_iconst (v := nI 0) hx hb dL_build_9 (by decide) ?_
  refine h_callS (y := yL_cell) (n := 2) (As := [.ref b, .int (nI 0)]) (rest := []) hx hb hml hown hts hE hZ hS hl.1 (m_L_cell l D b L xs 0 hL (by omega)) h_P0 h_P0 (h_Anil hS h_Asz) (h_Xc hX1 hX2 hX3 hS (h_Anil hS h_Asz)) (h_jR hP hD (h_Anil hS h_Asz)) k_L_74 rfl rfl ⟨Nat.le_of_ble_eq_true rfl, Nat.le_of_ble_eq_true rfl⟩ (Nat.le_of_ble_eq_true rfl) ⟨Nat.le_of_ble_eq_true rfl, Nat.le_of_ble_eq_true rfl⟩ dL_build_10 (fun v2 w1 H locs hq hP hD hS => ?_)
  obtain ⟨cx1, rfl, rfl⟩ := hq
  rw [List.append_nil] at hP hD
  have hP : va_P D vwCl ((g_W D σ) ++ (h_SW D q ((nZ Z0)) ((mZ Z0)))) H := hP
  have hD : va_D (va_A ((g_W D σ)) s.heap.size) ((g_W D σ) ++ (h_SW D q ((nZ Z0)) ((mZ Z0)))) := hD
  refine W.widen (k := 7) (n := 6) (Nat.le_of_ble_eq_true rfl) (Nat.le_of_ble_eq_true rfl) ?_
  refine W.eq (g2 := F0 m 13 ls [.int cx1]) rfl ?_
  refine lv_bipush (v := nI 30) hx hb dL_build_13 (by decide) ?_
  refine h_callS (y := yL_below) (n := 2) (As := [.int cx1, .int (nI 30)]) (rest := []) hx hb hml hown hts hE hZ hS hl.1 (m_L_below l D (cx1) 30 (by decide) (by decide)) h_P0 h_P0 (h_Anil hS h_Asz) (fun _ _ _ => trivial) (h_jR hP hD (h_Anil hS h_Asz)) k_L_9 rfl rfl ⟨Nat.le_of_ble_eq_true rfl, Nat.le_of_ble_eq_true rfl⟩ (Nat.le_of_ble_eq_true rfl) ⟨Nat.le_of_ble_eq_true rfl, Nat.le_of_ble_eq_true rfl⟩ dL_build_15 (fun v4 w1 H locs hq hP hD hS => ?_)
  obtain ⟨bk3, hbk3, rfl, rfl⟩ := hq
  rw [List.append_nil] at hP hD
  have hP : va_P D vwCl ((g_W D σ) ++ (h_SW D q ((nZ Z0)) ((mZ Z0)))) H := hP
  have hD : va_D (va_A ((g_W D σ)) s.heap.size) ((g_W D σ) ++ (h_SW D q ((nZ Z0)) ((mZ Z0)))) := hD
  refine W.widen (k := 7) (n := 6) (Nat.le_of_ble_eq_true rfl) (Nat.le_of_ble_eq_true rfl) ?_
  refine W.eq (g2 := F0 m 18 ls [.int (nI bk3)]) rfl ?_
  refine lv_istore_n (lv' := [(3, .int (nI bk3)), (2, .ref (q 0)), (0, .ref (ad_ D 0)), (1, .ref b)]) hx hb dL_build_18 rfl hl (by decide) rfl (fun ls hl => ?_)
  refine lv_iconst (v := nI 0) hx hb dL_build_19 (by decide) ?_
  refine lv_istore (lv' := [(4, .int (nI 0)), (3, .int (nI bk3)), (2, .ref (q 0)), (0, .ref (ad_ D 0)), (1, .ref b)]) hx hb dL_build_20 hl (by decide) rfl (fun ls hl => ?_)
  have K22 : ∀ (fuel22 : Nat) (k : Nat) (σ2 : Nat → va_E) (q : Nat → Nat) (Z : g_Z) (Ls : Nat → g_L), (bk3 - k) < fuel22 → (k ≤ bk3) → (g_C D σ2 Ls) → (vC_ Ls) → (SZ_ Ls Z) → ∀ (H : Heap) (locs : List Loc), va_P D vwCl ((g_W D σ2) ++ (h_SW D q ((nZ Z)) ((mZ Z)))) H → va_D (va_A ((g_W D σ)) s.heap.size) ((g_W D σ2) ++ (h_SW D q ((nZ Z)) ((mZ Z)))) → va_S (va_A ((g_W D σ)) s.heap.size) s.heap H locs → ∀ ls : Array Slot, lv_has ls 10 [(4, .int (nI k)), (0, .ref (ad_ D 0)), (1, .ref b), (2, .ref (q 0)), (3, .int (nI bk3))] → W p l e m_L_build_rm s m args below meth c H locs (7 + 7 * k) (6 + 80 * k) Q (F0 m 22 ls []) := by
    intro fuel22
    induction fuel22 with
    | zero => intro k σ2 q Z Ls hf; exact absurd hf (Nat.not_lt_zero _)
    | succ fuel22 ih22 =>
      intro k σ2 q Z Ls hf22 hk hC2 hvC2 hSZ2 H locs hP hD hS ls hl
      refine lv_iload hx hb dL_build_22 (lv_at hl 0 rfl) ?_
      refine lv_iload_n hx hb dL_build_24 rfl (lv_at hl 4 rfl) ?_
      refine lv_icmp_ge (tgt := 177) hx hb dL_build_25 (by decide) (fun h25 => ?_) (fun h25 => ?_)
      · have hb25 := g_le (a := bk3) (b := k) h25 (by omega) (by omega)
        refine lv_aload_n hx hb dL_build_177 rfl (lv_at hl 3 rfl) ?_
        refine W.widen (k := 300) (n := 3000) (by omega) (by omega) ?_
        rw [← hQ]
        exact W.aret (v := .ref (q 0)) hx hb hr (Or.inl ⟨_, rfl⟩) (Or.inr ⟨_, rfl⟩) (fun te9 hte9 _ => h_fin (⟨σ2, q, Z, Ls, rfl, rfl, hC2, hvC2, hSZ2⟩) hP hD hS hte9) hS.2.2 dL_build_178 hlocks
      · have hb25 := g_nle (a := bk3) (b := k) h25 (by omega) (by omega)
        refine lv_aload_n hx hb dL_build_28 rfl (lv_at hl 2 rfl) ?_
        refine lv_iconst (v := nI 1) hx hb dL_build_29 (by decide) ?_
        refine lv_iload hx hb dL_build_30 (lv_at hl 0 rfl) ?_
        refine lv_bipush (v := nI 15) hx hb dL_build_32 (by decide) ?_
        refine lv_irem hx hb dL_build_34 (by decide) ?_
        refine g_top (y := nI (k % 15)) (pk_rem (by omega) (by omega) (by omega)) ?_
        refine lv_iadd hx hb dL_build_35 ?_
        refine g_top (y := nI (1 + (k % 15))) (nI_add 1 (k % 15)) ?_
        refine h_callS (y := yL_cell) (n := 2) (As := [.ref b, .int (nI (1 + (k % 15)))]) (rest := []) hx hb hml hown hts hE hZ hS hl.1 (m_L_cell l D b L xs (1 + (k % 15)) hL (by omega)) h_P0 h_P0 (h_Anil hS h_Asz) (h_Xc hX1 hX2 hX3 hS (h_Anil hS h_Asz)) (h_jR hP hD (h_Anil hS h_Asz)) k_L_74 rfl rfl ⟨Nat.le_of_ble_eq_true rfl, Nat.le_of_ble_eq_true rfl⟩ (Nat.le_of_ble_eq_true rfl) ⟨by show (7 + 7 * k) + 0 ≤ 300; omega, by show (6 + 80 * k) + 0 ≤ 3000; omega⟩ dL_build_36 (fun v6 w1 H locs hq hP hD hS => ?_)
        obtain ⟨cx5, rfl, rfl⟩ := hq
        rw [List.append_nil] at hP hD
        have hP : va_P D vwCl ((g_W D σ2) ++ (h_SW D q ((nZ Z)) ((mZ Z)))) H := hP
        have hD : va_D (va_A ((g_W D σ)) s.heap.size) ((g_W D σ2) ++ (h_SW D q ((nZ Z)) ((mZ Z)))) := hD
        refine W.widen (k := ((7 + 7 * k) + 0)) (n := ((6 + 80 * k) + 0)) (Nat.le_refl _) (Nat.le_refl _) ?_
        refine W.eq (g2 := F0 m 39 ls [.int cx5]) rfl ?_
        refine lv_iload hx hb dL_build_39 (lv_at hl 0 rfl) ?_
        refine lv_bipush (v := nI 15) hx hb dL_build_41 (by decide) ?_
        refine lv_idiv hx hb dL_build_43 (by decide) ?_
        refine lv_bipush (v := nI 7) hx hb dL_build_44 (by decide) ?_
        refine lv_imul hx hb dL_build_46 ?_
        refine lv_ishr hx hb dL_build_47 ?_
        refine lv_bipush (v := nI 57) hx hb dL_build_48 (by decide) ?_
        refine lv_iload hx hb dL_build_50 (lv_at hl 0 rfl) ?_
        refine lv_imul hx hb dL_build_52 ?_
        refine g_top (y := nI (57 * k)) (pk_mul 57 k) ?_
        refine lv_iadd hx hb dL_build_53 ?_
        refine lv_istore (lv' := [(5, .int ((cx5 >>> ((((nI k) / (nI 15)) * (nI 7)) &&& 31)) + (nI (57 * k)))), (4, .int (nI k)), (0, .ref (ad_ D 0)), (1, .ref b), (2, .ref (q 0)), (3, .int (nI bk3))]) hx hb dL_build_54 hl (by decide) rfl (fun ls hl => ?_)
        refine lv_aload_n hx hb dL_build_56 rfl (lv_at hl 3 rfl) ?_
        refine lv_iconst (v := nI 0) hx hb dL_build_57 (by decide) ?_
        refine h_callS (y := yL_cell) (n := 2) (As := [.ref b, .int (nI 0)]) (rest := []) hx hb hml hown hts hE hZ hS hl.1 (m_L_cell l D b L xs 0 hL (by omega)) h_P0 h_P0 (h_Anil hS h_Asz) (h_Xc hX1 hX2 hX3 hS (h_Anil hS h_Asz)) (h_jR hP hD (h_Anil hS h_Asz)) k_L_74 rfl rfl ⟨Nat.le_of_ble_eq_true rfl, Nat.le_of_ble_eq_true rfl⟩ (Nat.le_of_ble_eq_true rfl) ⟨by show ((7 + 7 * k) + 0) + 0 ≤ 300; omega, by show ((6 + 80 * k) + 0) + 0 ≤ 3000; omega⟩ dL_build_58 (fun v8 w1 H locs hq hP hD hS => ?_)
        obtain ⟨cx7, rfl, rfl⟩ := hq
        rw [List.append_nil] at hP hD
        have hP : va_P D vwCl ((g_W D σ2) ++ (h_SW D q ((nZ Z)) ((mZ Z)))) H := hP
        have hD : va_D (va_A ((g_W D σ)) s.heap.size) ((g_W D σ2) ++ (h_SW D q ((nZ Z)) ((mZ Z)))) := hD
        refine W.widen (k := (((7 + 7 * k) + 0) + 0)) (n := (((6 + 80 * k) + 0) + 0)) (Nat.le_refl _) (Nat.le_refl _) ?_
        refine W.eq (g2 := F0 m 61 ls [.int cx7]) rfl ?_
        refine lv_iconst (v := nI 5) hx hb dL_build_61 (by decide) ?_
        refine lv_ishr hx hb dL_build_62 ?_
        refine lv_iconst (v := nI 3) hx hb dL_build_63 (by decide) ?_
        refine h_callS (y := yL_below) (n := 2) (As := [.int (cx7 >>> ((nI 5) &&& 31)), .int (nI 3)]) (rest := []) hx hb hml hown hts hE hZ hS hl.1 (m_L_below l D (cx7 >>> ((nI 5) &&& 31)) 3 (by decide) (by decide)) h_P0 h_P0 (h_Anil hS h_Asz) (fun _ _ _ => trivial) (h_jR hP hD (h_Anil hS h_Asz)) k_L_9 rfl rfl ⟨Nat.le_of_ble_eq_true rfl, Nat.le_of_ble_eq_true rfl⟩ (Nat.le_of_ble_eq_true rfl) ⟨by show (((7 + 7 * k) + 0) + 0) + 0 ≤ 300; omega, by show (((6 + 80 * k) + 0) + 0) + 0 ≤ 3000; omega⟩ dL_build_64 (fun v10 w1 H locs hq hP hD hS => ?_)
        obtain ⟨bk9, hbk9, rfl, rfl⟩ := hq
        rw [List.append_nil] at hP hD
        have hP : va_P D vwCl ((g_W D σ2) ++ (h_SW D q ((nZ Z)) ((mZ Z)))) H := hP
        have hD : va_D (va_A ((g_W D σ)) s.heap.size) ((g_W D σ2) ++ (h_SW D q ((nZ Z)) ((mZ Z)))) := hD
        refine W.widen (k := ((((7 + 7 * k) + 0) + 0) + 0)) (n := ((((6 + 80 * k) + 0) + 0) + 0)) (Nat.le_refl _) (Nat.le_refl _) ?_
        refine W.eq (g2 := F0 m 67 ls [.int (nI bk9)]) rfl ?_
        refine lv_if_ne (tgt := 74) hx hb dL_build_67 (by decide) (fun h67 => ?_) (fun h67 => ?_)
        · have hb67 := g_ne (a := bk9) (b := 0) h67 (by omega) (by omega)
          refine lv_iload hx hb dL_build_74 (lv_at hl 1 rfl) ?_
          refine lv_iconst (v := nI 2) hx hb dL_build_76 (by decide) ?_
          refine lv_irem hx hb dL_build_77 (by decide) ?_
          refine g_top (y := nI (k % 2)) (pk_rem (by omega) (by omega) (by omega)) ?_
          obtain ⟨w, hw, ew⟩ : ∃ w : Nat, w ≤ 1 ∧ nI (k % 2) = nI w := ⟨k % 2, by omega, rfl⟩
          refine g_top (y := nI w) ew ?_
          have hwz := SZ_len hSZ2 hw
          have hwn : (nZ Z w).length = (Z w).length := nZ_len
          have hwm : (mZ Z w).length = (Z w).length := mZ_len
          have hw24 := (hvC2 w hw).2
          have hvw := (hvC2 w hw).1
          refine lv_istore (lv' := [(6, .int (nI w)), (5, .int ((cx5 >>> ((((nI k) / (nI 15)) * (nI 7)) &&& 31)) + (nI (57 * k)))), (4, .int (nI k)), (0, .ref (ad_ D 0)), (1, .ref b), (2, .ref (q 0)), (3, .int (nI bk3))]) hx hb dL_build_78 hl (by decide) rfl (fun ls hl => ?_)
          refine lv_aload_n hx hb dL_build_80 rfl (lv_at hl 5 rfl) ?_
          refine lv_iload hx hb dL_build_81 (lv_at hl 1 rfl) ?_
          refine h_callS (y := yL_name) (n := 2) (As := [.ref (q 0), .int ((cx5 >>> ((((nI k) / (nI 15)) * (nI 7)) &&& 31)) + (nI (57 * k)))]) (rest := []) hx hb hml hown hts hE hZ hS hl.1 (m_L_name l D q Z ((cx5 >>> ((((nI k) / (nI 15)) * (nI 7)) &&& 31)) + (nI (57 * k))) (fun v hv => by rw [SZ_len hSZ2 hv]; exact (hvC2 v hv).2) (fun v hv => SR_rn hvC2 (SZ_R hSZ2) hv)) (h_suf (w := (g_W D σ2)) hP) h_P0 (h_Anil hS h_Asz) (fun _ _ _ => trivial) (h_jR hP hD (h_Anil hS h_Asz)) k_L_22 rfl rfl ⟨Nat.le_of_ble_eq_true rfl, Nat.le_of_ble_eq_true rfl⟩ (Nat.le_of_ble_eq_true rfl) ⟨by show ((((7 + 7 * k) + 0) + 0) + 0) + 0 ≤ 300; omega, by show ((((6 + 80 * k) + 0) + 0) + 0) + 0 ≤ 3000; omega⟩ dL_build_83 (fun v13 w1 H locs hq hP hD hS => ?_)
          obtain ⟨nm12, rfl, hnm12, rfl⟩ := hq
          rw [List.append_nil] at hP hD
          have hP : va_P D vwCl ((g_W D σ2) ++ (h_SW D q ((nZ Z)) ((mZ Z)))) H := hP
          have hD : va_D (va_A ((g_W D σ)) s.heap.size) ((g_W D σ2) ++ (h_SW D q ((nZ Z)) ((mZ Z)))) := hD
          refine W.widen (k := (((((7 + 7 * k) + 0) + 0) + 0) + 0)) (n := (((((6 + 80 * k) + 0) + 0) + 0) + 0)) (Nat.le_refl _) (Nat.le_refl _) ?_
          refine W.eq (g2 := F0 m 86 ls [.int nm12]) rfl ?_
          have hnm : nm1_ nm12 := hnm12
          have hnm1 := ne_m1 (nm_le hnm).1
          refine lv_istore (lv' := [(7, .int nm12), (6, .int (nI w)), (5, .int ((cx5 >>> ((((nI k) / (nI 15)) * (nI 7)) &&& 31)) + (nI (57 * k)))), (4, .int (nI k)), (0, .ref (ad_ D 0)), (1, .ref b), (2, .ref (q 0)), (3, .int (nI bk3))]) hx hb dL_build_86 hl (by decide) rfl (fun ls hl => ?_)
          refine lv_iload hx hb dL_build_88 (lv_at hl 2 rfl) ?_
          refine lv_bipush (v := nI 6) hx hb dL_build_90 (by decide) ?_
          refine lv_ishr hx hb dL_build_92 ?_
          refine lv_sipush (v := nI 1000) hx hb dL_build_93 (by decide) ?_
          refine h_callS (y := yL_below) (n := 2) (As := [.int (((cx5 >>> ((((nI k) / (nI 15)) * (nI 7)) &&& 31)) + (nI (57 * k))) >>> ((nI 6) &&& 31)), .int (nI 1000)]) (rest := []) hx hb hml hown hts hE hZ hS hl.1 (m_L_below l D (((cx5 >>> ((((nI k) / (nI 15)) * (nI 7)) &&& 31)) + (nI (57 * k))) >>> ((nI 6) &&& 31)) 1000 (by decide) (by decide)) h_P0 h_P0 (h_Anil hS h_Asz) (fun _ _ _ => trivial) (h_jR hP hD (h_Anil hS h_Asz)) k_L_9 rfl rfl ⟨Nat.le_of_ble_eq_true rfl, Nat.le_of_ble_eq_true rfl⟩ (Nat.le_of_ble_eq_true rfl) ⟨by show (((((7 + 7 * k) + 0) + 0) + 0) + 0) + 0 ≤ 300; omega, by show (((((6 + 80 * k) + 0) + 0) + 0) + 0) + 0 ≤ 3000; omega⟩ dL_build_96 (fun v15 w1 H locs hq hP hD hS => ?_)
          obtain ⟨bk14, hbk14, rfl, rfl⟩ := hq
          rw [List.append_nil] at hP hD
          have hP : va_P D vwCl ((g_W D σ2) ++ (h_SW D q ((nZ Z)) ((mZ Z)))) H := hP
          have hD : va_D (va_A ((g_W D σ)) s.heap.size) ((g_W D σ2) ++ (h_SW D q ((nZ Z)) ((mZ Z)))) := hD
          refine W.widen (k := ((((((7 + 7 * k) + 0) + 0) + 0) + 0) + 0)) (n := ((((((6 + 80 * k) + 0) + 0) + 0) + 0) + 0)) (Nat.le_refl _) (Nat.le_refl _) ?_
          refine W.eq (g2 := F0 m 99 ls [.int (nI bk14)]) rfl ?_
          refine lv_istore (lv' := [(8, .int (nI bk14)), (7, .int nm12), (6, .int (nI w)), (5, .int ((cx5 >>> ((((nI k) / (nI 15)) * (nI 7)) &&& 31)) + (nI (57 * k)))), (4, .int (nI k)), (0, .ref (ad_ D 0)), (1, .ref b), (2, .ref (q 0)), (3, .int (nI bk3))]) hx hb dL_build_99 hl (by decide) rfl (fun ls hl => ?_)
          refine lv_aload_n hx hb dL_build_101 rfl (lv_at hl 7 rfl) ?_
          refine h_get (w := (g_W D σ2)) (xs := (h_SW D q ((nZ Z)) ((mZ Z)))) (i := 0) hx hb hts hE hown hP rfl 0 (by decide) rfl wf_L_16 (v := .ref (q 1)) rfl dL_build_102 ?_
          refine lv_iload hx hb dL_build_105 (lv_at hl 2 rfl) ?_
          refine h_ald (w := (g_W D σ2)) (xs := (h_SW D q ((nZ Z)) ((mZ Z)))) (i := 1) (q := q) (o := 3) (j := w) hx hb hE hP rfl (by omega) dL_build_107 ?_
          refine h_aln (w := (g_W D σ2)) (xs := (h_SW D q ((nZ Z)) ((mZ Z)))) (i := (3 + w)) (R := (nZ Z) w) hx hb hE hP (h_SWn hw) dL_build_108 ?_
          refine lv_bipush (v := nI 24) hx hb dL_build_109 (by decide) ?_
          refine lv_icmp_ne (tgt := 117) hx hb dL_build_111 (by decide) (fun h111 => ?_) (fun h111 => ?_)
          · have hb111 := g_ne (a := ((nZ Z) w).length) (b := 24) h111 (by omega) (by omega)
            refine lv_aload_n hx hb dL_build_117 rfl (lv_at hl 7 rfl) ?_
            refine lv_iload hx hb dL_build_118 (lv_at hl 2 rfl) ?_
            refine lv_iload hx hb dL_build_120 (lv_at hl 1 rfl) ?_
            refine h_callV (y := yX3_find) (n := 2) (As := [.int (nI w), .int nm12]) (rest := []) hx hb hml hown hts hE hZ hS hl.1 (m_X3_find l D q ((nZ Z)) ((mZ Z)) w (nm12) hw (by rw [nZ_len, SZ_len hSZ2 hw]; have := (hvC2 w hw).2; omega)) (h_suf (w := (g_W D σ2)) hP) h_P0 (h_Anil hS h_Asz) (fun _ _ _ => trivial) (h_jR hP hD (h_Anil hS h_Asz)) k_L_26 (wr := h_SW D q ((nZ Z)) ((mZ Z))) (q0 := 0) (ci := 3) (h_suf (w := (g_W D σ2)) hP) (rfl) rfl rfl rfl rfl ⟨Nat.le_of_ble_eq_true rfl, Nat.le_of_ble_eq_true rfl⟩ (Nat.le_of_ble_eq_true rfl) ⟨by show ((((((7 + 7 * k) + 0) + 0) + 0) + 0) + 0) + 0 ≤ 300; omega, by show ((((((6 + 80 * k) + 0) + 0) + 0) + 0) + 0) + 0 ≤ 3000; omega⟩ dL_build_122 (fun v16 w1 H locs hq hP hD hS => ?_)
            obtain ⟨rfl, rfl⟩ := hq
            rw [List.append_nil] at hP hD
            have hP : va_P D vwCl ((g_W D σ2) ++ (h_SW D q ((nZ Z)) ((mZ Z)))) H := hP
            have hD : va_D (va_A ((g_W D σ)) s.heap.size) ((g_W D σ2) ++ (h_SW D q ((nZ Z)) ((mZ Z)))) := hD
            refine W.widen (k := (((((((7 + 7 * k) + 0) + 0) + 0) + 0) + 0) + 0)) (n := (((((((6 + 80 * k) + 0) + 0) + 0) + 0) + 0) + 0)) (Nat.le_refl _) (Nat.le_refl _) ?_
            refine W.eq (g2 := F0 m 125 ls [.int (fdx_ ((nZ Z) w) (nm12))]) rfl ?_
            refine lv_istore (lv' := [(9, .int (fdx_ ((nZ Z) w) (nm12))), (8, .int (nI bk14)), (7, .int nm12), (6, .int (nI w)), (5, .int ((cx5 >>> ((((nI k) / (nI 15)) * (nI 7)) &&& 31)) + (nI (57 * k)))), (4, .int (nI k)), (0, .ref (ad_ D 0)), (1, .ref b), (2, .ref (q 0)), (3, .int (nI bk3))]) hx hb dL_build_125 hl (by decide) rfl (fun ls hl => ?_)
            refine lv_aload_n hx hb dL_build_127 rfl (lv_at hl 6 rfl) ?_
            refine lv_iload hx hb dL_build_128 (lv_at hl 3 rfl) ?_
            refine lv_iload hx hb dL_build_130 (lv_at hl 2 rfl) ?_
            refine lv_iload hx hb dL_build_132 (lv_at hl 1 rfl) ?_
            have hno : ¬ (mo_ (Ls w) nm12 = -1 ∧ 24 ≤ (Ls w).length) := fun h => by omega
            refine h_callV (y := yX2_put) (n := 3) (As := [.int (nI w), .int nm12, .int (nI bk14)]) (rest := []) hx hb hml hown hts hE hZ hS hl.1 ((n_put l hst D hAD σ2 Ls hC2 hvC2 w nm12 (nI bk14) hw hnm (ix_of (by omega) (by decide)) hno).h hAD) h_P0 (h_prf hP) (h_AP hD hS h_Asz) (fun _ _ _ => trivial) (h_jP hP hD (h_AP hD hS h_Asz)) k_L_70 (wr := (g_W D σ2)) (q0 := 0) (ci := 2) (h_prf hP) (g_at (by decide) hC2.1) rfl rfl rfl rfl ⟨Nat.le_of_ble_eq_true rfl, Nat.le_of_ble_eq_true rfl⟩ (Nat.le_of_ble_eq_true rfl) ⟨by show (((((((7 + 7 * k) + 0) + 0) + 0) + 0) + 0) + 0) + 5 ≤ 300; omega, by show (((((((6 + 80 * k) + 0) + 0) + 0) + 0) + 0) + 0) + 30 ≤ 3000; omega⟩ dL_build_134 (fun v19 w1 H locs hq hP hD hS => ?_)
            obtain ⟨σ_17, ⟨rfl, hC_18⟩, rfl⟩ := hq
            have hP : va_P D vwCl ((g_W D σ_17) ++ (h_SW D q ((nZ Z)) ((mZ Z)))) H := hP
            have hD : va_D (va_A ((g_W D σ)) s.heap.size) ((g_W D σ_17) ++ (h_SW D q ((nZ Z)) ((mZ Z)))) := hD
            refine W.widen (k := ((((((((7 + 7 * k) + 0) + 0) + 0) + 0) + 0) + 0) + 5)) (n := ((((((((6 + 80 * k) + 0) + 0) + 0) + 0) + 0) + 0) + 30)) (Nat.le_refl _) (Nat.le_refl _) ?_
            refine W.eq (g2 := F0 m 137 ls [.int (mo_ (Ls w) nm12)]) rfl ?_
            have hvC20 := vC_put (name := nm12) (mi := nI bk14) hvC2 hw (by rw [er_put, wl_n hw, if_pos (ix_of hw (by decide)), if_pos ⟨hnm, ix_of (by omega) (by decide)⟩, if_neg hno])
            refine lv_iload hx hb dL_build_137 (lv_at hl 0 rfl) ?_
            refine lv_if_ge (tgt := 146) hx hb dL_build_139 (by decide) (fun h139 => ?_) (fun h139 => ?_)
            · obtain ⟨hk9, hke⟩ := fdx_pos (R := nZ Z w) (x := nm12) (Int32.not_lt.mpr h139)
              rw [hke] at hl
              have hmo : mo_ (Ls w) nm12 = (mZ Z w).getD (ix9 (nZ Z w) (nm12)) 0 := fd_y hvw (hSZ2 w hw) (x := nm12) (by rw [← hwn]; exact hk9)
              refine lv_aload_n hx hb dL_build_146 rfl (lv_at hl 8 rfl) ?_
              refine h_get (w := (g_W D σ_17)) (xs := (h_SW D q ((nZ Z)) ((mZ Z)))) (i := 0) hx hb hts hE hown hP rfl 1 (by decide) rfl wf_L_29 (v := .ref (q 2)) rfl dL_build_147 ?_
              refine lv_iload hx hb dL_build_150 (lv_at hl 3 rfl) ?_
              refine h_ald (w := (g_W D σ_17)) (xs := (h_SW D q ((nZ Z)) ((mZ Z)))) (i := 2) (q := q) (o := 5) (j := w) hx hb hE hP rfl (by omega) dL_build_152 ?_
              refine lv_iload hx hb dL_build_153 (lv_at hl 0 rfl) ?_
              refine h_ild (w := (g_W D σ_17)) (xs := (h_SW D q ((nZ Z)) ((mZ Z)))) (i := (5 + w)) (R := (mZ Z) w) (j := ix9 (nZ Z w) (nm12)) hx hb hE hP (h_SWm hw) (by omega) (by omega) (v := (mZ Z w).getD (ix9 (nZ Z w) (nm12)) 0) (rfl) dL_build_155 ?_
              refine lv_icmp_eq (tgt := 161) hx hb dL_build_156 (by decide) (fun h156 => ?_) (fun h156 => ?_)
              · refine lv_aload_n hx hb dL_build_161 rfl (lv_at hl 8 rfl) ?_
                refine lv_iload hx hb dL_build_162 (lv_at hl 3 rfl) ?_
                refine lv_iload hx hb dL_build_164 (lv_at hl 2 rfl) ?_
                refine lv_iload hx hb dL_build_166 (lv_at hl 1 rfl) ?_
                refine h_callV (y := yX3_put) (n := 3) (As := [.int (nI w), .int nm12, .int (nI bk14)]) (rest := []) hx hb hml hown hts hE hZ hS hl.1 (z_put l D q Z w (nm12) (nI bk14) hw (by omega) (h_DT hD)) h_P0 (h_suf hP) (h_AS hD hS h_Asz) (fun _ _ _ => trivial) (h_jS hP hD (h_AS hD hS h_Asz)) k_L_60 (wr := h_SW D q ((nZ Z)) ((mZ Z))) (q0 := 0) (ci := 3) (h_suf hP) (rfl) rfl rfl rfl rfl ⟨Nat.le_of_ble_eq_true rfl, Nat.le_of_ble_eq_true rfl⟩ (Nat.le_of_ble_eq_true rfl) ⟨by show ((((((((7 + 7 * k) + 0) + 0) + 0) + 0) + 0) + 0) + 5) + 2 ≤ 300; omega, by show ((((((((6 + 80 * k) + 0) + 0) + 0) + 0) + 0) + 0) + 30) + 50 ≤ 3000; omega⟩ dL_build_168 (fun v25 w1 H locs hq hP hD hS => ?_)
                obtain ⟨rfl, qz21, hqz22, rfl⟩ := hq
                rw [← hqz22] at hl
                obtain ⟨Zz23, hZz24⟩ : ∃ z, z = va_up Z w (pZ (Z w) (nm12) (nI bk14)) := ⟨_, rfl⟩
                rw [← hZz24] at hP hD
                have hSZ26 : SZ_ (ul_ Ls w (st_ (Ls w) nm12 (nI bk14))) Zz23 := by rw [hZz24]; exact SZ_up hSZ2 (pz_pm hvw (hSZ2 w hw) hnm1)
                have hP : va_P D vwCl ((g_W D σ_17) ++ (h_SW D qz21 ((nZ Zz23)) ((mZ Zz23)))) H := hP
                have hD : va_D (va_A ((g_W D σ)) s.heap.size) ((g_W D σ_17) ++ (h_SW D qz21 ((nZ Zz23)) ((mZ Zz23)))) := hD
                refine W.widen (k := (((((((((7 + 7 * k) + 0) + 0) + 0) + 0) + 0) + 0) + 5) + 2)) (n := (((((((((6 + 80 * k) + 0) + 0) + 0) + 0) + 0) + 0) + 30) + 50)) (Nat.le_refl _) (Nat.le_refl _) ?_
                refine W.eq (g2 := F0 m 171 ls []) rfl ?_
                refine lv_iinc (v := nI (k + 1)) (lv' := [(4, .int (nI (k + 1))), (9, .int (nI (ix9 (nZ Z w) (nm12)))), (8, .int (nI bk14)), (7, .int nm12), (6, .int (nI w)), (5, .int ((cx5 >>> ((((nI k) / (nI 15)) * (nI 7)) &&& 31)) + (nI (57 * k)))), (0, .ref (ad_ D 0)), (1, .ref b), (2, .ref (qz21 0)), (3, .int (nI bk3))]) hx hb dL_build_171 hl (k := 5) rfl (g_inc k) (by decide) rfl (fun ls hl => ?_)
                refine lv_goto (tgt := 22) hx hb dL_build_174 (by decide) ?_
                refine W.widen (k := (7 + 7 * (k + 1))) (n := (6 + 80 * (k + 1))) (by omega) (by omega) ?_
                exact ih22 (k + 1) σ_17 qz21 Zz23 ((ul_ Ls w (st_ (Ls w) nm12 (nI bk14)))) (by omega) (by omega) hC_18 hvC20 hSZ26 _ _ hP hD hS ls (lv_sub hl [0, 6, 7, 8, 9] rfl)
              · exact absurd hmo h156
            · have hk9 := fdx_neg (R := nZ Z w) (x := nm12) (by omega) (Int32.not_le.mp h139)
              have hmo := fd_n hvw (hSZ2 w hw) hnm1 (by rw [← hwn]; exact hk9)
              refine lv_iconst (v := (-1)) hx hb dL_build_142 (by decide) ?_
              refine lv_goto (tgt := 156) hx hb dL_build_143 (by decide) ?_
              refine lv_icmp_eq (tgt := 161) hx hb dL_build_156 (by decide) (fun h156 => ?_) (fun h156 => ?_)
              · refine lv_aload_n hx hb dL_build_161 rfl (lv_at hl 8 rfl) ?_
                refine lv_iload hx hb dL_build_162 (lv_at hl 3 rfl) ?_
                refine lv_iload hx hb dL_build_164 (lv_at hl 2 rfl) ?_
                refine lv_iload hx hb dL_build_166 (lv_at hl 1 rfl) ?_
                refine h_callV (y := yX3_put) (n := 3) (As := [.int (nI w), .int nm12, .int (nI bk14)]) (rest := []) hx hb hml hown hts hE hZ hS hl.1 (z_put l D q Z w (nm12) (nI bk14) hw (by omega) (h_DT hD)) h_P0 (h_suf hP) (h_AS hD hS h_Asz) (fun _ _ _ => trivial) (h_jS hP hD (h_AS hD hS h_Asz)) k_L_60 (wr := h_SW D q ((nZ Z)) ((mZ Z))) (q0 := 0) (ci := 3) (h_suf hP) (rfl) rfl rfl rfl rfl ⟨Nat.le_of_ble_eq_true rfl, Nat.le_of_ble_eq_true rfl⟩ (Nat.le_of_ble_eq_true rfl) ⟨by show ((((((((7 + 7 * k) + 0) + 0) + 0) + 0) + 0) + 0) + 5) + 2 ≤ 300; omega, by show ((((((((6 + 80 * k) + 0) + 0) + 0) + 0) + 0) + 0) + 30) + 50 ≤ 3000; omega⟩ dL_build_168 (fun v31 w1 H locs hq hP hD hS => ?_)
                obtain ⟨rfl, qz27, hqz28, rfl⟩ := hq
                rw [← hqz28] at hl
                obtain ⟨Zz29, hZz30⟩ : ∃ z, z = va_up Z w (pZ (Z w) (nm12) (nI bk14)) := ⟨_, rfl⟩
                rw [← hZz30] at hP hD
                have hSZ32 : SZ_ (ul_ Ls w (st_ (Ls w) nm12 (nI bk14))) Zz29 := by rw [hZz30]; exact SZ_up hSZ2 (pz_pm hvw (hSZ2 w hw) hnm1)
                have hP : va_P D vwCl ((g_W D σ_17) ++ (h_SW D qz27 ((nZ Zz29)) ((mZ Zz29)))) H := hP
                have hD : va_D (va_A ((g_W D σ)) s.heap.size) ((g_W D σ_17) ++ (h_SW D qz27 ((nZ Zz29)) ((mZ Zz29)))) := hD
                refine W.widen (k := (((((((((7 + 7 * k) + 0) + 0) + 0) + 0) + 0) + 0) + 5) + 2)) (n := (((((((((6 + 80 * k) + 0) + 0) + 0) + 0) + 0) + 0) + 30) + 50)) (Nat.le_refl _) (Nat.le_refl _) ?_
                refine W.eq (g2 := F0 m 171 ls []) rfl ?_
                refine lv_iinc (v := nI (k + 1)) (lv' := [(4, .int (nI (k + 1))), (9, .int (fdx_ ((nZ Z) w) (nm12))), (8, .int (nI bk14)), (7, .int nm12), (6, .int (nI w)), (5, .int ((cx5 >>> ((((nI k) / (nI 15)) * (nI 7)) &&& 31)) + (nI (57 * k)))), (0, .ref (ad_ D 0)), (1, .ref b), (2, .ref (qz27 0)), (3, .int (nI bk3))]) hx hb dL_build_171 hl (k := 5) rfl (g_inc k) (by decide) rfl (fun ls hl => ?_)
                refine lv_goto (tgt := 22) hx hb dL_build_174 (by decide) ?_
                refine W.widen (k := (7 + 7 * (k + 1))) (n := (6 + 80 * (k + 1))) (by omega) (by omega) ?_
                exact ih22 (k + 1) σ_17 qz27 Zz29 ((ul_ Ls w (st_ (Ls w) nm12 (nI bk14)))) (by omega) (by omega) hC_18 hvC20 hSZ32 _ _ hP hD hS ls (lv_sub hl [0, 6, 7, 8, 9] rfl)
              · exact absurd hmo h156
          · have hb111 := g_eq (a := ((nZ Z) w).length) (b := 24) h111 (by omega) (by omega)
            refine lv_goto (tgt := 177) hx hb dL_build_114 (by decide) ?_
            refine lv_aload_n hx hb dL_build_177 rfl (lv_at hl 7 rfl) ?_
            refine W.widen (k := 300) (n := 3000) (by omega) (by omega) ?_
            rw [← hQ]
            exact W.aret (v := .ref (q 0)) hx hb hr (Or.inl ⟨_, rfl⟩) (Or.inr ⟨_, rfl⟩) (fun te9 hte9 _ => h_fin (⟨σ2, q, Z, Ls, rfl, rfl, hC2, hvC2, hSZ2⟩) hP hD hS hte9) hS.2.2 dL_build_178 hlocks
        · have hb67 := g_eq (a := bk9) (b := 0) h67 (by omega) (by omega)
          refine lv_iconst (v := nI 0) hx hb dL_build_70 (by decide) ?_
          refine lv_goto (tgt := 78) hx hb dL_build_71 (by decide) ?_
          obtain ⟨w, hw, ew⟩ : ∃ w : Nat, w ≤ 1 ∧ nI 0 = nI w := ⟨0, by omega, rfl⟩
          refine g_top (y := nI w) ew ?_
          have hwz := SZ_len hSZ2 hw
          have hwn : (nZ Z w).length = (Z w).length := nZ_len
          have hwm : (mZ Z w).length = (Z w).length := mZ_len
          have hw24 := (hvC2 w hw).2
          have hvw := (hvC2 w hw).1
          refine lv_istore (lv' := [(6, .int (nI w)), (5, .int ((cx5 >>> ((((nI k) / (nI 15)) * (nI 7)) &&& 31)) + (nI (57 * k)))), (4, .int (nI k)), (0, .ref (ad_ D 0)), (1, .ref b), (2, .ref (q 0)), (3, .int (nI bk3))]) hx hb dL_build_78 hl (by decide) rfl (fun ls hl => ?_)
          refine lv_aload_n hx hb dL_build_80 rfl (lv_at hl 5 rfl) ?_
          refine lv_iload hx hb dL_build_81 (lv_at hl 1 rfl) ?_
          refine h_callS (y := yL_name) (n := 2) (As := [.ref (q 0), .int ((cx5 >>> ((((nI k) / (nI 15)) * (nI 7)) &&& 31)) + (nI (57 * k)))]) (rest := []) hx hb hml hown hts hE hZ hS hl.1 (m_L_name l D q Z ((cx5 >>> ((((nI k) / (nI 15)) * (nI 7)) &&& 31)) + (nI (57 * k))) (fun v hv => by rw [SZ_len hSZ2 hv]; exact (hvC2 v hv).2) (fun v hv => SR_rn hvC2 (SZ_R hSZ2) hv)) (h_suf (w := (g_W D σ2)) hP) h_P0 (h_Anil hS h_Asz) (fun _ _ _ => trivial) (h_jR hP hD (h_Anil hS h_Asz)) k_L_22 rfl rfl ⟨Nat.le_of_ble_eq_true rfl, Nat.le_of_ble_eq_true rfl⟩ (Nat.le_of_ble_eq_true rfl) ⟨by show ((((7 + 7 * k) + 0) + 0) + 0) + 0 ≤ 300; omega, by show ((((6 + 80 * k) + 0) + 0) + 0) + 0 ≤ 3000; omega⟩ dL_build_83 (fun v35 w1 H locs hq hP hD hS => ?_)
          obtain ⟨nm34, rfl, hnm34, rfl⟩ := hq
          rw [List.append_nil] at hP hD
          have hP : va_P D vwCl ((g_W D σ2) ++ (h_SW D q ((nZ Z)) ((mZ Z)))) H := hP
          have hD : va_D (va_A ((g_W D σ)) s.heap.size) ((g_W D σ2) ++ (h_SW D q ((nZ Z)) ((mZ Z)))) := hD
          refine W.widen (k := (((((7 + 7 * k) + 0) + 0) + 0) + 0)) (n := (((((6 + 80 * k) + 0) + 0) + 0) + 0)) (Nat.le_refl _) (Nat.le_refl _) ?_
          refine W.eq (g2 := F0 m 86 ls [.int nm34]) rfl ?_
          have hnm : nm1_ nm34 := hnm34
          have hnm1 := ne_m1 (nm_le hnm).1
          refine lv_istore (lv' := [(7, .int nm34), (6, .int (nI w)), (5, .int ((cx5 >>> ((((nI k) / (nI 15)) * (nI 7)) &&& 31)) + (nI (57 * k)))), (4, .int (nI k)), (0, .ref (ad_ D 0)), (1, .ref b), (2, .ref (q 0)), (3, .int (nI bk3))]) hx hb dL_build_86 hl (by decide) rfl (fun ls hl => ?_)
          refine lv_iload hx hb dL_build_88 (lv_at hl 2 rfl) ?_
          refine lv_bipush (v := nI 6) hx hb dL_build_90 (by decide) ?_
          refine lv_ishr hx hb dL_build_92 ?_
          refine lv_sipush (v := nI 1000) hx hb dL_build_93 (by decide) ?_
          refine h_callS (y := yL_below) (n := 2) (As := [.int (((cx5 >>> ((((nI k) / (nI 15)) * (nI 7)) &&& 31)) + (nI (57 * k))) >>> ((nI 6) &&& 31)), .int (nI 1000)]) (rest := []) hx hb hml hown hts hE hZ hS hl.1 (m_L_below l D (((cx5 >>> ((((nI k) / (nI 15)) * (nI 7)) &&& 31)) + (nI (57 * k))) >>> ((nI 6) &&& 31)) 1000 (by decide) (by decide)) h_P0 h_P0 (h_Anil hS h_Asz) (fun _ _ _ => trivial) (h_jR hP hD (h_Anil hS h_Asz)) k_L_9 rfl rfl ⟨Nat.le_of_ble_eq_true rfl, Nat.le_of_ble_eq_true rfl⟩ (Nat.le_of_ble_eq_true rfl) ⟨by show (((((7 + 7 * k) + 0) + 0) + 0) + 0) + 0 ≤ 300; omega, by show (((((6 + 80 * k) + 0) + 0) + 0) + 0) + 0 ≤ 3000; omega⟩ dL_build_96 (fun v37 w1 H locs hq hP hD hS => ?_)
          obtain ⟨bk36, hbk36, rfl, rfl⟩ := hq
          rw [List.append_nil] at hP hD
          have hP : va_P D vwCl ((g_W D σ2) ++ (h_SW D q ((nZ Z)) ((mZ Z)))) H := hP
          have hD : va_D (va_A ((g_W D σ)) s.heap.size) ((g_W D σ2) ++ (h_SW D q ((nZ Z)) ((mZ Z)))) := hD
          refine W.widen (k := ((((((7 + 7 * k) + 0) + 0) + 0) + 0) + 0)) (n := ((((((6 + 80 * k) + 0) + 0) + 0) + 0) + 0)) (Nat.le_refl _) (Nat.le_refl _) ?_
          refine W.eq (g2 := F0 m 99 ls [.int (nI bk36)]) rfl ?_
          refine lv_istore (lv' := [(8, .int (nI bk36)), (7, .int nm34), (6, .int (nI w)), (5, .int ((cx5 >>> ((((nI k) / (nI 15)) * (nI 7)) &&& 31)) + (nI (57 * k)))), (4, .int (nI k)), (0, .ref (ad_ D 0)), (1, .ref b), (2, .ref (q 0)), (3, .int (nI bk3))]) hx hb dL_build_99 hl (by decide) rfl (fun ls hl => ?_)
          refine lv_aload_n hx hb dL_build_101 rfl (lv_at hl 7 rfl) ?_
          refine h_get (w := (g_W D σ2)) (xs := (h_SW D q ((nZ Z)) ((mZ Z)))) (i := 0) hx hb hts hE hown hP rfl 0 (by decide) rfl wf_L_16 (v := .ref (q 1)) rfl dL_build_102 ?_
          refine lv_iload hx hb dL_build_105 (lv_at hl 2 rfl) ?_
          refine h_ald (w := (g_W D σ2)) (xs := (h_SW D q ((nZ Z)) ((mZ Z)))) (i := 1) (q := q) (o := 3) (j := w) hx hb hE hP rfl (by omega) dL_build_107 ?_
          refine h_aln (w := (g_W D σ2)) (xs := (h_SW D q ((nZ Z)) ((mZ Z)))) (i := (3 + w)) (R := (nZ Z) w) hx hb hE hP (h_SWn hw) dL_build_108 ?_
          refine lv_bipush (v := nI 24) hx hb dL_build_109 (by decide) ?_
          refine lv_icmp_ne (tgt := 117) hx hb dL_build_111 (by decide) (fun h111 => ?_) (fun h111 => ?_)
          · have hb111 := g_ne (a := ((nZ Z) w).length) (b := 24) h111 (by omega) (by omega)
            refine lv_aload_n hx hb dL_build_117 rfl (lv_at hl 7 rfl) ?_
            refine lv_iload hx hb dL_build_118 (lv_at hl 2 rfl) ?_
            refine lv_iload hx hb dL_build_120 (lv_at hl 1 rfl) ?_
            refine h_callV (y := yX3_find) (n := 2) (As := [.int (nI w), .int nm34]) (rest := []) hx hb hml hown hts hE hZ hS hl.1 (m_X3_find l D q ((nZ Z)) ((mZ Z)) w (nm34) hw (by rw [nZ_len, SZ_len hSZ2 hw]; have := (hvC2 w hw).2; omega)) (h_suf (w := (g_W D σ2)) hP) h_P0 (h_Anil hS h_Asz) (fun _ _ _ => trivial) (h_jR hP hD (h_Anil hS h_Asz)) k_L_26 (wr := h_SW D q ((nZ Z)) ((mZ Z))) (q0 := 0) (ci := 3) (h_suf (w := (g_W D σ2)) hP) (rfl) rfl rfl rfl rfl ⟨Nat.le_of_ble_eq_true rfl, Nat.le_of_ble_eq_true rfl⟩ (Nat.le_of_ble_eq_true rfl) ⟨by show ((((((7 + 7 * k) + 0) + 0) + 0) + 0) + 0) + 0 ≤ 300; omega, by show ((((((6 + 80 * k) + 0) + 0) + 0) + 0) + 0) + 0 ≤ 3000; omega⟩ dL_build_122 (fun v38 w1 H locs hq hP hD hS => ?_)
            obtain ⟨rfl, rfl⟩ := hq
            rw [List.append_nil] at hP hD
            have hP : va_P D vwCl ((g_W D σ2) ++ (h_SW D q ((nZ Z)) ((mZ Z)))) H := hP
            have hD : va_D (va_A ((g_W D σ)) s.heap.size) ((g_W D σ2) ++ (h_SW D q ((nZ Z)) ((mZ Z)))) := hD
            refine W.widen (k := (((((((7 + 7 * k) + 0) + 0) + 0) + 0) + 0) + 0)) (n := (((((((6 + 80 * k) + 0) + 0) + 0) + 0) + 0) + 0)) (Nat.le_refl _) (Nat.le_refl _) ?_
            refine W.eq (g2 := F0 m 125 ls [.int (fdx_ ((nZ Z) w) (nm34))]) rfl ?_
            refine lv_istore (lv' := [(9, .int (fdx_ ((nZ Z) w) (nm34))), (8, .int (nI bk36)), (7, .int nm34), (6, .int (nI w)), (5, .int ((cx5 >>> ((((nI k) / (nI 15)) * (nI 7)) &&& 31)) + (nI (57 * k)))), (4, .int (nI k)), (0, .ref (ad_ D 0)), (1, .ref b), (2, .ref (q 0)), (3, .int (nI bk3))]) hx hb dL_build_125 hl (by decide) rfl (fun ls hl => ?_)
            refine lv_aload_n hx hb dL_build_127 rfl (lv_at hl 6 rfl) ?_
            refine lv_iload hx hb dL_build_128 (lv_at hl 3 rfl) ?_
            refine lv_iload hx hb dL_build_130 (lv_at hl 2 rfl) ?_
            refine lv_iload hx hb dL_build_132 (lv_at hl 1 rfl) ?_
            have hno : ¬ (mo_ (Ls w) nm34 = -1 ∧ 24 ≤ (Ls w).length) := fun h => by omega
            refine h_callV (y := yX2_put) (n := 3) (As := [.int (nI w), .int nm34, .int (nI bk36)]) (rest := []) hx hb hml hown hts hE hZ hS hl.1 ((n_put l hst D hAD σ2 Ls hC2 hvC2 w nm34 (nI bk36) hw hnm (ix_of (by omega) (by decide)) hno).h hAD) h_P0 (h_prf hP) (h_AP hD hS h_Asz) (fun _ _ _ => trivial) (h_jP hP hD (h_AP hD hS h_Asz)) k_L_70 (wr := (g_W D σ2)) (q0 := 0) (ci := 2) (h_prf hP) (g_at (by decide) hC2.1) rfl rfl rfl rfl ⟨Nat.le_of_ble_eq_true rfl, Nat.le_of_ble_eq_true rfl⟩ (Nat.le_of_ble_eq_true rfl) ⟨by show (((((((7 + 7 * k) + 0) + 0) + 0) + 0) + 0) + 0) + 5 ≤ 300; omega, by show (((((((6 + 80 * k) + 0) + 0) + 0) + 0) + 0) + 0) + 30 ≤ 3000; omega⟩ dL_build_134 (fun v41 w1 H locs hq hP hD hS => ?_)
            obtain ⟨σ_39, ⟨rfl, hC_40⟩, rfl⟩ := hq
            have hP : va_P D vwCl ((g_W D σ_39) ++ (h_SW D q ((nZ Z)) ((mZ Z)))) H := hP
            have hD : va_D (va_A ((g_W D σ)) s.heap.size) ((g_W D σ_39) ++ (h_SW D q ((nZ Z)) ((mZ Z)))) := hD
            refine W.widen (k := ((((((((7 + 7 * k) + 0) + 0) + 0) + 0) + 0) + 0) + 5)) (n := ((((((((6 + 80 * k) + 0) + 0) + 0) + 0) + 0) + 0) + 30)) (Nat.le_refl _) (Nat.le_refl _) ?_
            refine W.eq (g2 := F0 m 137 ls [.int (mo_ (Ls w) nm34)]) rfl ?_
            have hvC42 := vC_put (name := nm34) (mi := nI bk36) hvC2 hw (by rw [er_put, wl_n hw, if_pos (ix_of hw (by decide)), if_pos ⟨hnm, ix_of (by omega) (by decide)⟩, if_neg hno])
            refine lv_iload hx hb dL_build_137 (lv_at hl 0 rfl) ?_
            refine lv_if_ge (tgt := 146) hx hb dL_build_139 (by decide) (fun h139 => ?_) (fun h139 => ?_)
            · obtain ⟨hk9, hke⟩ := fdx_pos (R := nZ Z w) (x := nm34) (Int32.not_lt.mpr h139)
              rw [hke] at hl
              have hmo : mo_ (Ls w) nm34 = (mZ Z w).getD (ix9 (nZ Z w) (nm34)) 0 := fd_y hvw (hSZ2 w hw) (x := nm34) (by rw [← hwn]; exact hk9)
              refine lv_aload_n hx hb dL_build_146 rfl (lv_at hl 8 rfl) ?_
              refine h_get (w := (g_W D σ_39)) (xs := (h_SW D q ((nZ Z)) ((mZ Z)))) (i := 0) hx hb hts hE hown hP rfl 1 (by decide) rfl wf_L_29 (v := .ref (q 2)) rfl dL_build_147 ?_
              refine lv_iload hx hb dL_build_150 (lv_at hl 3 rfl) ?_
              refine h_ald (w := (g_W D σ_39)) (xs := (h_SW D q ((nZ Z)) ((mZ Z)))) (i := 2) (q := q) (o := 5) (j := w) hx hb hE hP rfl (by omega) dL_build_152 ?_
              refine lv_iload hx hb dL_build_153 (lv_at hl 0 rfl) ?_
              refine h_ild (w := (g_W D σ_39)) (xs := (h_SW D q ((nZ Z)) ((mZ Z)))) (i := (5 + w)) (R := (mZ Z) w) (j := ix9 (nZ Z w) (nm34)) hx hb hE hP (h_SWm hw) (by omega) (by omega) (v := (mZ Z w).getD (ix9 (nZ Z w) (nm34)) 0) (rfl) dL_build_155 ?_
              refine lv_icmp_eq (tgt := 161) hx hb dL_build_156 (by decide) (fun h156 => ?_) (fun h156 => ?_)
              · refine lv_aload_n hx hb dL_build_161 rfl (lv_at hl 8 rfl) ?_
                refine lv_iload hx hb dL_build_162 (lv_at hl 3 rfl) ?_
                refine lv_iload hx hb dL_build_164 (lv_at hl 2 rfl) ?_
                refine lv_iload hx hb dL_build_166 (lv_at hl 1 rfl) ?_
                refine h_callV (y := yX3_put) (n := 3) (As := [.int (nI w), .int nm34, .int (nI bk36)]) (rest := []) hx hb hml hown hts hE hZ hS hl.1 (z_put l D q Z w (nm34) (nI bk36) hw (by omega) (h_DT hD)) h_P0 (h_suf hP) (h_AS hD hS h_Asz) (fun _ _ _ => trivial) (h_jS hP hD (h_AS hD hS h_Asz)) k_L_60 (wr := h_SW D q ((nZ Z)) ((mZ Z))) (q0 := 0) (ci := 3) (h_suf hP) (rfl) rfl rfl rfl rfl ⟨Nat.le_of_ble_eq_true rfl, Nat.le_of_ble_eq_true rfl⟩ (Nat.le_of_ble_eq_true rfl) ⟨by show ((((((((7 + 7 * k) + 0) + 0) + 0) + 0) + 0) + 0) + 5) + 2 ≤ 300; omega, by show ((((((((6 + 80 * k) + 0) + 0) + 0) + 0) + 0) + 0) + 30) + 50 ≤ 3000; omega⟩ dL_build_168 (fun v47 w1 H locs hq hP hD hS => ?_)
                obtain ⟨rfl, qz43, hqz44, rfl⟩ := hq
                rw [← hqz44] at hl
                obtain ⟨Zz45, hZz46⟩ : ∃ z, z = va_up Z w (pZ (Z w) (nm34) (nI bk36)) := ⟨_, rfl⟩
                rw [← hZz46] at hP hD
                have hSZ48 : SZ_ (ul_ Ls w (st_ (Ls w) nm34 (nI bk36))) Zz45 := by rw [hZz46]; exact SZ_up hSZ2 (pz_pm hvw (hSZ2 w hw) hnm1)
                have hP : va_P D vwCl ((g_W D σ_39) ++ (h_SW D qz43 ((nZ Zz45)) ((mZ Zz45)))) H := hP
                have hD : va_D (va_A ((g_W D σ)) s.heap.size) ((g_W D σ_39) ++ (h_SW D qz43 ((nZ Zz45)) ((mZ Zz45)))) := hD
                refine W.widen (k := (((((((((7 + 7 * k) + 0) + 0) + 0) + 0) + 0) + 0) + 5) + 2)) (n := (((((((((6 + 80 * k) + 0) + 0) + 0) + 0) + 0) + 0) + 30) + 50)) (Nat.le_refl _) (Nat.le_refl _) ?_
                refine W.eq (g2 := F0 m 171 ls []) rfl ?_
                refine lv_iinc (v := nI (k + 1)) (lv' := [(4, .int (nI (k + 1))), (9, .int (nI (ix9 (nZ Z w) (nm34)))), (8, .int (nI bk36)), (7, .int nm34), (6, .int (nI w)), (5, .int ((cx5 >>> ((((nI k) / (nI 15)) * (nI 7)) &&& 31)) + (nI (57 * k)))), (0, .ref (ad_ D 0)), (1, .ref b), (2, .ref (qz43 0)), (3, .int (nI bk3))]) hx hb dL_build_171 hl (k := 5) rfl (g_inc k) (by decide) rfl (fun ls hl => ?_)
                refine lv_goto (tgt := 22) hx hb dL_build_174 (by decide) ?_
                refine W.widen (k := (7 + 7 * (k + 1))) (n := (6 + 80 * (k + 1))) (by omega) (by omega) ?_
                exact ih22 (k + 1) σ_39 qz43 Zz45 ((ul_ Ls w (st_ (Ls w) nm34 (nI bk36)))) (by omega) (by omega) hC_40 hvC42 hSZ48 _ _ hP hD hS ls (lv_sub hl [0, 6, 7, 8, 9] rfl)
              · exact absurd hmo h156
            · have hk9 := fdx_neg (R := nZ Z w) (x := nm34) (by omega) (Int32.not_le.mp h139)
              have hmo := fd_n hvw (hSZ2 w hw) hnm1 (by rw [← hwn]; exact hk9)
              refine lv_iconst (v := (-1)) hx hb dL_build_142 (by decide) ?_
              refine lv_goto (tgt := 156) hx hb dL_build_143 (by decide) ?_
              refine lv_icmp_eq (tgt := 161) hx hb dL_build_156 (by decide) (fun h156 => ?_) (fun h156 => ?_)
              · refine lv_aload_n hx hb dL_build_161 rfl (lv_at hl 8 rfl) ?_
                refine lv_iload hx hb dL_build_162 (lv_at hl 3 rfl) ?_
                refine lv_iload hx hb dL_build_164 (lv_at hl 2 rfl) ?_
                refine lv_iload hx hb dL_build_166 (lv_at hl 1 rfl) ?_
                refine h_callV (y := yX3_put) (n := 3) (As := [.int (nI w), .int nm34, .int (nI bk36)]) (rest := []) hx hb hml hown hts hE hZ hS hl.1 (z_put l D q Z w (nm34) (nI bk36) hw (by omega) (h_DT hD)) h_P0 (h_suf hP) (h_AS hD hS h_Asz) (fun _ _ _ => trivial) (h_jS hP hD (h_AS hD hS h_Asz)) k_L_60 (wr := h_SW D q ((nZ Z)) ((mZ Z))) (q0 := 0) (ci := 3) (h_suf hP) (rfl) rfl rfl rfl rfl ⟨Nat.le_of_ble_eq_true rfl, Nat.le_of_ble_eq_true rfl⟩ (Nat.le_of_ble_eq_true rfl) ⟨by show ((((((((7 + 7 * k) + 0) + 0) + 0) + 0) + 0) + 0) + 5) + 2 ≤ 300; omega, by show ((((((((6 + 80 * k) + 0) + 0) + 0) + 0) + 0) + 0) + 30) + 50 ≤ 3000; omega⟩ dL_build_168 (fun v53 w1 H locs hq hP hD hS => ?_)
                obtain ⟨rfl, qz49, hqz50, rfl⟩ := hq
                rw [← hqz50] at hl
                obtain ⟨Zz51, hZz52⟩ : ∃ z, z = va_up Z w (pZ (Z w) (nm34) (nI bk36)) := ⟨_, rfl⟩
                rw [← hZz52] at hP hD
                have hSZ54 : SZ_ (ul_ Ls w (st_ (Ls w) nm34 (nI bk36))) Zz51 := by rw [hZz52]; exact SZ_up hSZ2 (pz_pm hvw (hSZ2 w hw) hnm1)
                have hP : va_P D vwCl ((g_W D σ_39) ++ (h_SW D qz49 ((nZ Zz51)) ((mZ Zz51)))) H := hP
                have hD : va_D (va_A ((g_W D σ)) s.heap.size) ((g_W D σ_39) ++ (h_SW D qz49 ((nZ Zz51)) ((mZ Zz51)))) := hD
                refine W.widen (k := (((((((((7 + 7 * k) + 0) + 0) + 0) + 0) + 0) + 0) + 5) + 2)) (n := (((((((((6 + 80 * k) + 0) + 0) + 0) + 0) + 0) + 0) + 30) + 50)) (Nat.le_refl _) (Nat.le_refl _) ?_
                refine W.eq (g2 := F0 m 171 ls []) rfl ?_
                refine lv_iinc (v := nI (k + 1)) (lv' := [(4, .int (nI (k + 1))), (9, .int (fdx_ ((nZ Z) w) (nm34))), (8, .int (nI bk36)), (7, .int nm34), (6, .int (nI w)), (5, .int ((cx5 >>> ((((nI k) / (nI 15)) * (nI 7)) &&& 31)) + (nI (57 * k)))), (0, .ref (ad_ D 0)), (1, .ref b), (2, .ref (qz49 0)), (3, .int (nI bk3))]) hx hb dL_build_171 hl (k := 5) rfl (g_inc k) (by decide) rfl (fun ls hl => ?_)
                refine lv_goto (tgt := 22) hx hb dL_build_174 (by decide) ?_
                refine W.widen (k := (7 + 7 * (k + 1))) (n := (6 + 80 * (k + 1))) (by omega) (by omega) ?_
                exact ih22 (k + 1) σ_39 qz49 Zz51 ((ul_ Ls w (st_ (Ls w) nm34 (nI bk36)))) (by omega) (by omega) hC_40 hvC42 hSZ54 _ _ hP hD hS ls (lv_sub hl [0, 6, 7, 8, 9] rfl)
              · exact absurd hmo h156
          · have hb111 := g_eq (a := ((nZ Z) w).length) (b := 24) h111 (by omega) (by omega)
            refine lv_goto (tgt := 177) hx hb dL_build_114 (by decide) ?_
            refine lv_aload_n hx hb dL_build_177 rfl (lv_at hl 7 rfl) ?_
            refine W.widen (k := 300) (n := 3000) (by omega) (by omega) ?_
            rw [← hQ]
            exact W.aret (v := .ref (q 0)) hx hb hr (Or.inl ⟨_, rfl⟩) (Or.inr ⟨_, rfl⟩) (fun te9 hte9 _ => h_fin (⟨σ2, q, Z, Ls, rfl, rfl, hC2, hvC2, hSZ2⟩) hP hD hS hte9) hS.2.2 dL_build_178 hlocks
  refine W.widen (k := (7 + 7 * 0)) (n := (6 + 80 * 0)) (by omega) (by omega) ?_
  exact K22 ((bk3 - 0) + 1) 0 σ q Z0 ((fun _ => [])) (Nat.lt_succ_self _) (Nat.zero_le _) hC hvC0 hSZ0 _ _ hP hD hS ls (lv_sub hl [0, 3, 4, 2, 1] rfl)
