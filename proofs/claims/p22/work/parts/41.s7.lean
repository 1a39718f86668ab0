abbrev m_L_act_rm : Room := { frames := 30, cells := 120, slots := 3000, locals := 2000 }
set_option maxHeartbeats 4000000 in
set_option maxRecDepth 100000 in
theorem ac_take {p : Program} {l : Launch} {e : Env} {s : State} {m : MethodId} {args : Array Value} {below : List Frame} {meth : Method} {c : Code} {H : Heap} {locs : List Loc} {Q : State → Prop} (hst : l.stackTraces = false) {D : va_G} (hAD : g_AD D) {σ : Nat → va_E} {Ls : Nat → g_L} {q : Nat → Nat} {Z : g_Z} (hC : g_C D σ Ls) (hvC : vC_ Ls) (hSZ : SZ_ Ls Z) {w : Nat} (hw : w ≤ 1) {x nm : Int32} (hnm : nm1_ nm)  (hx : p.tables.exec = Jvm.exec) (hb : c.code = cL_act) (hr : meth.sig.returnType = some .boolean) (hml : c.maxLocals = 15) (hown : s.vm.findClass RL = some m.cls) (hlocks : meth.locks = false) (hts : ∀ w ∈ g_WA, w.before args s = true) (hE : g_EV D s) (hZ : g_EZ (va_A (((g_W D σ) ++ (h_SW D q ((nZ Z)) ((mZ Z))))) s.heap.size) s s.heap) (htab : c.exceptionTable.toList = tableOf [(97, 106, 109, 40), (241, 250, 253, 40), (538, 560, 561, 40), (672, 694, 695, 40), (788, 799, 802, 40)]) (hQ : MQ below (h_Q D (g_W D σ ++ h_SW D q (nZ Z) (mZ Z)) s.heap.size (fun v1 w1 => v1 = some (.int (nI 1)) ∧ ∃ (σ1 : Nat → va_E) (q1 : Nat → Nat) (Z1 : g_Z) (Ls1 : Nat → g_L), w1 = g_W D σ1 ++ h_SW D q1 (nZ Z1) (mZ Z1) ∧ q1 0 = q 0 ∧ g_C D σ1 Ls1 ∧ vC_ Ls1 ∧ SZ_ Ls1 Z1)) args s m_L_act_rm.cells m_L_act_rm.slots (va_A (((g_W D σ) ++ (h_SW D q ((nZ Z)) ((mZ Z))))) s.heap.size) = Q) (hP : va_P D vwCl (g_W D σ ++ h_SW D q (nZ Z) (mZ Z)) H) (hD : va_D (va_A (((g_W D σ) ++ (h_SW D q ((nZ Z)) ((mZ Z))))) s.heap.size) (g_W D σ ++ h_SW D q (nZ Z) (mZ Z))) (hS : va_S (va_A (((g_W D σ) ++ (h_SW D q ((nZ Z)) ((mZ Z))))) s.heap.size) s.heap H locs) {ls : Array Slot} (hl : lv_has ls 15 [(5, .int (fdx_ (nZ Z w) (nm))), (4, .int nm), (3, .int (nI w)), (0, .ref (ad_ D 0)), (1, .ref (q 0)), (2, .int x)]) : W p l e m_L_act_rm s m args below meth c H locs 0 0 Q (F0 m 64 ls []) := by
  have h24 := fun v (hv : v ≤ 1) => (hvC v hv).2
  have hzl := fun v (hv : v ≤ 1) => SZ_len hSZ hv
  have hnl : ∀ v, (nZ Z v).length = (Z v).length := fun v => nZ_len
  have hml9 : ∀ v, (mZ Z v).length = (Z v).length := fun v => mZ_len
  have hw24 := h24 w hw
  have ho24 := h24 (1 - w) (by omega)
  have hwz := hzl w hw
  have hoz := hzl (1 - w) (by omega)
  have hwn := hnl w
  have hon := hnl (1 - w)
  have hwm := hml9 w
  have hom := hml9 (1 - w)
  have hvw := (hvC w hw).1
  have hvo := (hvC (1 - w) (by omega)).1
  have hnm1 := ne_m1 (nm_le hnm).1
  refine lv_iload hx hb dL_act_64 (lv_at hl 0 rfl) ?_
  refine lv_if_ge (tgt := 74) hx hb dL_act_66 (by decide) (fun h66 => ?_) (fun h66 => ?_)
  · obtain ⟨hk9, hke⟩ := fdx_pos (R := nZ Z w) (x := nm) (Int32.not_lt.mpr h66)
    rw [hke] at hl
    have hmo := fd_y hvw (hSZ w hw) (x := nm) (by rw [← hwn]; exact hk9)
    have hmb := mo_0 hvw (hSZ w hw) (x := nm) (by rw [← hwn]; exact hk9)
    have hmo2 : mo_ (Ls w) nm = (mZ Z w).getD (ix9 (nZ Z w) (nm)) 0 := hmo
    have hmb2 : 0 ≤ (mZ Z w).getD (ix9 (nZ Z w) (nm)) 0 := hmb.1
    refine lv_aload_n hx hb dL_act_74 rfl (lv_at hl 4 rfl) ?_
    refine h_get (w := (g_W D σ)) (xs := (h_SW D q ((nZ Z)) ((mZ Z)))) (i := 0) hx hb hts hE hown hP rfl 1 (by decide) rfl wf_L_29 (v := .ref (q 2)) rfl dL_act_75 ?_
    refine lv_iload_n hx hb dL_act_78 rfl (lv_at hl 2 rfl) ?_
    refine h_ald (w := (g_W D σ)) (xs := (h_SW D q ((nZ Z)) ((mZ Z)))) (i := 2) (q := q) (o := 5) (j := w) hx hb hE hP rfl (by omega) dL_act_79 ?_
    refine lv_iload hx hb dL_act_80 (lv_at hl 0 rfl) ?_
    refine h_ild (w := (g_W D σ)) (xs := (h_SW D q ((nZ Z)) ((mZ Z)))) (i := (5 + w)) (R := (mZ Z) w) (j := ix9 (nZ Z w) (nm)) hx hb hE hP (h_SWm hw) (by omega) (by omega) (v := (mZ Z w).getD (ix9 (nZ Z w) (nm)) 0) (rfl) dL_act_82 ?_
    refine lv_istore (lv' := [(7, .int ((mZ Z w).getD (ix9 (nZ Z w) (nm)) 0)), (5, .int (nI (ix9 (nZ Z w) (nm)))), (4, .int nm), (3, .int (nI w)), (0, .ref (ad_ D 0)), (1, .ref (q 0)), (2, .int x)]) hx hb dL_act_83 hl (by decide) rfl (fun ls hl => ?_)
    refine lv_iload hx hb dL_act_85 (lv_at hl 1 rfl) ?_
    refine lv_if_lt (tgt := 97) hx hb dL_act_87 (by decide) (fun h87 => ?_) (fun h87 => ?_)
    · have hb87 := g_lt (a := ix9 (nZ Z w) (nm)) (b := 0) h87 (by omega) (by omega)
      omega
    · have hb87 := g_nlt (a := ix9 (nZ Z w) (nm)) (b := 0) h87 (by omega) (by omega)
      refine lv_aload_n hx hb dL_act_90 rfl (lv_at hl 5 rfl) ?_
      refine lv_iload_n hx hb dL_act_91 rfl (lv_at hl 3 rfl) ?_
      refine lv_iload hx hb dL_act_92 (lv_at hl 2 rfl) ?_
      refine h_callV (y := yX3_take) (n := 2) (As := [.int (nI w), .int nm]) (rest := []) hx hb hml hown hts hE hZ hS hl.1 (z_take l D q Z w (nm) hw (by omega) (by omega) (h_DT hD)) h_P0 (h_suf hP) (h_AS hD hS h_Asz) (fun _ _ _ => trivial) (h_jS hP hD (h_AS hD hS h_Asz)) k_L_32 (wr := h_SW D q ((nZ Z)) ((mZ Z))) (q0 := 0) (ci := 3) (h_suf hP) (rfl) rfl rfl rfl rfl ⟨Nat.le_of_ble_eq_true rfl, Nat.le_of_ble_eq_true rfl⟩ (Nat.le_of_ble_eq_true rfl) ⟨Nat.le_of_ble_eq_true rfl, Nat.le_of_ble_eq_true rfl⟩ dL_act_94 (fun v5 w1 H locs hq hP hD hS => ?_)
      obtain ⟨rfl, qz1, hqz2, rfl⟩ := hq
      rw [← hqz2] at hl
      obtain ⟨Zz3, hZz4⟩ : ∃ z, z = va_up Z w ((Z w).eraseIdx (ix9 (nZ Z w) (nm))) := ⟨_, rfl⟩
      rw [← hZz4] at hP hD
      have hP : va_P D vwCl ((g_W D σ) ++ (h_SW D qz1 ((nZ Zz3)) ((mZ Zz3)))) H := hP
      have hD : va_D (va_A (((g_W D σ) ++ (h_SW D q ((nZ Z)) ((mZ Z))))) s.heap.size) ((g_W D σ) ++ (h_SW D qz1 ((nZ Zz3)) ((mZ Zz3)))) := hD
      refine W.widen (k := 2) (n := 48) (Nat.le_of_ble_eq_true rfl) (Nat.le_of_ble_eq_true rfl) ?_
      refine W.eq (g2 := F0 m 97 ls []) rfl ?_
      refine lv_aload_n hx hb dL_act_97 rfl (lv_at hl 4 rfl) ?_
      refine lv_iload_n hx hb dL_act_98 rfl (lv_at hl 3 rfl) ?_
      refine lv_iload hx hb dL_act_99 (lv_at hl 2 rfl) ?_
      refine h_callV (y := yX2_take) (n := 2) (As := [.int (nI w), .int nm]) (rest := []) hx hb hml hown hts hE hZ hS hl.1 ((n_take l hst D hAD σ Ls hC hvC w nm hw hnm (by rw [hmo2]; exact ne_m1 hmb2)).h hAD) h_P0 (h_prf hP) (h_AP hD hS h_Asz) (fun _ _ _ => trivial) (h_jP hP hD (h_AP hD hS h_Asz)) k_L_36 (wr := (g_W D σ)) (q0 := 0) (ci := 2) (h_prf hP) (g_at (by decide) hC.1) rfl rfl rfl rfl ⟨Nat.le_of_ble_eq_true rfl, Nat.le_of_ble_eq_true rfl⟩ (Nat.le_of_ble_eq_true rfl) ⟨Nat.le_of_ble_eq_true rfl, Nat.le_of_ble_eq_true rfl⟩ dL_act_101 (fun v8 w1 H locs hq hP hD hS => ?_)
      obtain ⟨σ_6, ⟨rfl, hC_7⟩, rfl⟩ := hq
      have hP : va_P D vwCl ((g_W D σ_6) ++ (h_SW D qz1 ((nZ Zz3)) ((mZ Zz3)))) H := hP
      have hD : va_D (va_A (((g_W D σ) ++ (h_SW D q ((nZ Z)) ((mZ Z))))) s.heap.size) ((g_W D σ_6) ++ (h_SW D qz1 ((nZ Zz3)) ((mZ Zz3)))) := hD
      refine W.widen (k := 7) (n := 78) (Nat.le_of_ble_eq_true rfl) (Nat.le_of_ble_eq_true rfl) ?_
      refine W.eq (g2 := F0 m 104 ls [.int (mo_ (Ls w) nm)]) rfl ?_
      have hSZ9 : SZ_ ((ul_ Ls w ((Ls w).eraseIdx (rk_ (Ls w) nm)))) Zz3 := by rw [hZz4]; exact SZ_up hSZ (tz_pm hvw (hSZ w hw) (by rw [← hwn]; exact hk9))
      have hvC10 := vC_take2 (x := nm) hvC hw
      refine g_top (y := (mZ Z w).getD (ix9 (nZ Z w) (nm)) 0) (hmo2) ?_
      refine lv_istore (lv' := [(6, .int ((mZ Z w).getD (ix9 (nZ Z w) (nm)) 0)), (7, .int ((mZ Z w).getD (ix9 (nZ Z w) (nm)) 0)), (5, .int (nI (ix9 (nZ Z w) (nm)))), (4, .int nm), (3, .int (nI w)), (0, .ref (ad_ D 0)), (1, .ref (qz1 0)), (2, .int x)]) hx hb dL_act_104 hl (by decide) rfl (fun ls hl => ?_)
      refine lv_goto (tgt := 115) hx hb dL_act_106 (by decide) ?_
      refine lv_iload hx hb dL_act_115 (lv_at hl 0 rfl) ?_
      refine lv_iload hx hb dL_act_117 (lv_at hl 1 rfl) ?_
      refine lv_icmp_ne (tgt := 126) hx hb dL_act_119 (by decide) (fun h119 => ?_) (fun h119 => ?_)
      · exact absurd rfl h119
      · refine lv_iconst (v := nI 1) hx hb dL_act_122 (by decide) ?_
        refine lv_goto (tgt := 127) hx hb dL_act_123 (by decide) ?_
        refine W.widen (k := 120) (n := 3000) (by omega) (by omega) ?_
        rw [← hQ]
        exact W.zret (v := nI 1) hx hb hr (by first | rfl | decide | (split <;> rfl)) (fun te9 hte9 _ => h_fin (⟨rfl, σ_6, qz1, Zz3, (ul_ Ls w ((Ls w).eraseIdx (rk_ (Ls w) nm))), rfl, (hqz2.trans rfl), hC_7, hvC10, hSZ9⟩) hP hD hS hte9) hS.2.2 dL_act_127 hlocks
  · have hk9 := fdx_neg (R := nZ Z w) (x := nm) (by omega) (Int32.not_le.mp h66)
    have hmo := fd_n hvw (hSZ w hw) hnm1 (by rw [← hwn]; exact hk9)
    refine lv_bipush (v := (-9)) hx hb dL_act_69 (by decide) ?_
    refine lv_goto (tgt := 83) hx hb dL_act_71 (by decide) ?_
    refine lv_istore (lv' := [(7, .int ((-9))), (5, .int (fdx_ (nZ Z w) (nm))), (4, .int nm), (3, .int (nI w)), (0, .ref (ad_ D 0)), (1, .ref (q 0)), (2, .int x)]) hx hb dL_act_83 hl (by decide) rfl (fun ls hl => ?_)
    refine lv_iload hx hb dL_act_85 (lv_at hl 1 rfl) ?_
    refine lv_if_lt (tgt := 97) hx hb dL_act_87 (by decide) (fun h87 => ?_) (fun h87 => ?_)
    · refine lv_aload_n hx hb dL_act_97 rfl (lv_at hl 4 rfl) ?_
      refine lv_iload_n hx hb dL_act_98 rfl (lv_at hl 3 rfl) ?_
      refine lv_iload hx hb dL_act_99 (lv_at hl 2 rfl) ?_
      refine h_callVY (y := yX2_take) (n := 2) (As := [.int (nI w), .int nm]) (rest := []) hx hb hml hown hts hE hZ hAD hP hD hS h_Asz hl.1 (x_take l hst D hAD σ Ls hC hvC w nm hw hnm hmo) k_L_36 (q0 := 0) (ci := 2) (by decide) hC.1 rfl rfl rfl rfl rfl ⟨Nat.le_of_ble_eq_true rfl, Nat.le_of_ble_eq_true rfl⟩ (Nat.le_of_ble_eq_true rfl) ⟨Nat.le_of_ble_eq_true rfl, Nat.le_of_ble_eq_true rfl⟩ dL_act_101 (fun E ce q9 σ3 H locs hq hP hD hS hc9 hv9 hk9 => ?_) (fun v σ3 H locs hq hP hD hS => hq.elim)
      obtain ⟨rfl, rfl⟩ := hq
      refine vx_catch (name := g_E2) hown (tableOf []) ⟨97, 106, 109, 40⟩ (tableOf [(241, 250, 253, 40), (538, 560, 561, 40), (672, 694, 695, 40), (788, 799, 802, 40)]) (htab.trans rfl) (fun z hz => absurd hz (by simp [tableOf])) (by decide) (by decide) (hts _ wl_L_40) (va_tabs rfl rfl (hE.2.2.1 (Cond.castable g_E2 g_E2) (by simp [g_NL]))) hc9 hv9 hk9 ?_
      refine W.eq (g2 := F0 m 109 ls [.ref q9]) rfl ?_
      refine W.widen (k := 5) (n := 30) (Nat.le_of_ble_eq_true rfl) (Nat.le_of_ble_eq_true rfl) ?_
      refine lv_astore (lv' := [(8, .ref q9), (7, .int ((-9))), (5, .int (fdx_ (nZ Z w) (nm))), (4, .int nm), (3, .int (nI w)), (0, .ref (ad_ D 0)), (1, .ref (q 0)), (2, .int x)]) hx hb dL_act_109 hl (by decide) rfl (fun ls hl => ?_)
      refine lv_bipush (v := (-9)) hx hb dL_act_111 (by decide) ?_
      refine lv_istore (lv' := [(6, .int ((-9))), (8, .ref q9), (7, .int ((-9))), (5, .int (fdx_ (nZ Z w) (nm))), (4, .int nm), (3, .int (nI w)), (0, .ref (ad_ D 0)), (1, .ref (q 0)), (2, .int x)]) hx hb dL_act_113 hl (by decide) rfl (fun ls hl => ?_)
      refine lv_iload hx hb dL_act_115 (lv_at hl 0 rfl) ?_
      refine lv_iload hx hb dL_act_117 (lv_at hl 2 rfl) ?_
      refine lv_icmp_ne (tgt := 126) hx hb dL_act_119 (by decide) (fun h119 => ?_) (fun h119 => ?_)
      · exact absurd rfl h119
      · refine lv_iconst (v := nI 1) hx hb dL_act_122 (by decide) ?_
        refine lv_goto (tgt := 127) hx hb dL_act_123 (by decide) ?_
        refine W.widen (k := 120) (n := 3000) (by omega) (by omega) ?_
        rw [← hQ]
        exact W.zret (v := nI 1) hx hb hr (by first | rfl | decide | (split <;> rfl)) (fun te9 hte9 _ => h_fin (⟨rfl, σ, q, Z, Ls, rfl, rfl, hC, hvC, hSZ⟩) hP hD hS hte9) hS.2.2 dL_act_127 hlocks
    · exact absurd (Int32.not_le.mp h66) h87
