theorem k_cln : Cond.methodLink RL 42 ⟨"[I", "clone", "()Ljava/lang/Object;"⟩ ∈ g_WA ∧ Cond.sameMethod "[I" "java/lang/Object" "clone" "()Ljava/lang/Object;" ∈ g_WA ∧ Cond.native ⟨"java/lang/Object", "clone", "()Ljava/lang/Object;"⟩ ∈ g_WA ∧ Cond.instanceMethod ⟨"java/lang/Object", "clone", "()Ljava/lang/Object;"⟩ ∈ g_WA ∧ Cond.selects "[I" ⟨"[I", "clone", "()Ljava/lang/Object;"⟩ ⟨"java/lang/Object", "clone", "()Ljava/lang/Object;"⟩ ∈ g_WA := ⟨g_mem 518 (by decide +kernel), g_mem 519 (by decide +kernel), g_mem 520 (by decide +kernel), g_mem 521 (by decide +kernel), g_mem 522 (by decide +kernel)⟩
theorem xz_nil {Z : g_Z} {w : Nat} {b : Int32} (h : (Z w).length = 0) : va_up Z w (xz_ (Z w) b) = Z := by
  funext v
  unfold va_up
  split
  · next e => subst e; rw [List.length_eq_zero_iff.mp h]; rfl
  · rfl
set_option maxHeartbeats 4000000 in
set_option maxRecDepth 100000 in
theorem ac_put {p : Program} {l : Launch} {e : Env} {s : State} {m : MethodId} {args : Array Value} {below : List Frame} {meth : Method} {c : Code} {H : Heap} {locs : List Loc} {Q : State → Prop} (hst : l.stackTraces = false) {D : va_G} (hAD : g_AD D) {σ : Nat → va_E} {Ls : Nat → g_L} {q : Nat → Nat} {Z : g_Z} (hC : g_C D σ Ls) (hvC : vC_ Ls) (hSZ : SZ_ Ls Z) {w : Nat} (hw : w ≤ 1) {x nm : Int32} (hnm : nm1_ nm) {mi : Nat} (hmi : mi < 1000) (hx : p.tables.exec = Jvm.exec) (hb : c.code = cL_act) (hr : meth.sig.returnType = some .boolean) (hml : c.maxLocals = 15) (hown : s.vm.findClass RL = some m.cls) (hlocks : meth.locks = false) (hts : ∀ w ∈ g_WA, w.before args s = true) (hE : g_EV D s) (hZ : g_EZ (va_A (((g_W D σ) ++ (h_SW D q ((nZ Z)) ((mZ Z))))) s.heap.size) s s.heap) (htab : c.exceptionTable.toList = tableOf [(97, 106, 109, 40), (241, 250, 253, 40), (538, 560, 561, 40), (672, 694, 695, 40), (788, 799, 802, 40)]) (hQ : MQ below (h_Q D (g_W D σ ++ h_SW D q (nZ Z) (mZ Z)) s.heap.size (fun v1 w1 => v1 = some (.int (nI 1)) ∧ ∃ (σ1 : Nat → va_E) (q1 : Nat → Nat) (Z1 : g_Z) (Ls1 : Nat → g_L), w1 = g_W D σ1 ++ h_SW D q1 (nZ Z1) (mZ Z1) ∧ q1 0 = q 0 ∧ g_C D σ1 Ls1 ∧ vC_ Ls1 ∧ SZ_ Ls1 Z1)) args s m_L_act_rm.cells m_L_act_rm.slots (va_A (((g_W D σ) ++ (h_SW D q ((nZ Z)) ((mZ Z))))) s.heap.size) = Q) (hP : va_P D vwCl (g_W D σ ++ h_SW D q (nZ Z) (mZ Z)) H) (hD : va_D (va_A (((g_W D σ) ++ (h_SW D q ((nZ Z)) ((mZ Z))))) s.heap.size) (g_W D σ ++ h_SW D q (nZ Z) (mZ Z))) (hS : va_S (va_A (((g_W D σ) ++ (h_SW D q ((nZ Z)) ((mZ Z))))) s.heap.size) s.heap H locs) {ls : Array Slot} (hl : lv_has ls 15 [(5, .int (fdx_ (nZ Z w) (nm))), (4, .int nm), (3, .int (nI w)), (0, .ref (ad_ D 0)), (1, .ref (q 0)), (2, .int x)]) : W p l e m_L_act_rm s m args below meth c H locs 0 0 Q (F0 m 733 ls [.int (nI mi)]) := by
  have h24 := fun v (hv : v ≤ 1) => (hvC v hv).2
  have hzl := fun v (hv : v ≤ 1) => SZ_len hSZ hv
  have hnl : ∀ v, (nZ Z v).length = (Z v).length := fun v => nZ_len
  have hml9 : ∀ v, (mZ Z v).length = (Z v).length := fun v => mZ_len
  have hw24 := h24 w hw
  have ho24 := h24 (1 - w) (by omega)
  have hwz := hzl w hw
  have hoz := hzl (1 - w) (by omega)
  have hwn := hnl w
  have hon := hnl (1 - w)
  have hwm := hml9 w
  have hom := hml9 (1 - w)
  have hvw := (hvC w hw).1
  have hvo := (hvC (1 - w) (by omega)).1
  have hnm1 := ne_m1 (nm_le hnm).1
  refine lv_istore (lv' := [(8, .int (nI mi)), (5, .int (fdx_ (nZ Z w) (nm))), (4, .int nm), (3, .int (nI w)), (0, .ref (ad_ D 0)), (1, .ref (q 0)), (2, .int x)]) hx hb dL_act_733 hl (by decide) rfl (fun ls hl => ?_)
  refine lv_iload hx hb dL_act_735 (lv_at hl 1 rfl) ?_
  refine lv_if_lt (tgt := 752) hx hb dL_act_737 (by decide) (fun h737 => ?_) (fun h737 => ?_)
  · have hk9 := fdx_neg (R := nZ Z w) (x := nm) (by omega) h737
    have hmo := fd_n hvw (hSZ w hw) hnm1 (by rw [← hwn]; exact hk9)
    refine lv_aload_n hx hb dL_act_752 rfl (lv_at hl 5 rfl) ?_
    refine h_get (w := (g_W D σ)) (xs := (h_SW D q ((nZ Z)) ((mZ Z)))) (i := 0) hx hb hts hE hown hP rfl 0 (by decide) rfl wf_L_16 (v := .ref (q 1)) rfl dL_act_753 ?_
    refine lv_iload_n hx hb dL_act_756 rfl (lv_at hl 3 rfl) ?_
    refine h_ald (w := (g_W D σ)) (xs := (h_SW D q ((nZ Z)) ((mZ Z)))) (i := 1) (q := q) (o := 3) (j := w) hx hb hE hP rfl (by omega) dL_act_757 ?_
    refine h_aln (w := (g_W D σ)) (xs := (h_SW D q ((nZ Z)) ((mZ Z)))) (i := (3 + w)) (R := (nZ Z) w) hx hb hE hP (h_SWn hw) dL_act_758 ?_
    refine lv_bipush (v := nI 24) hx hb dL_act_759 (by decide) ?_
    refine lv_icmp_ne (tgt := 769) hx hb dL_act_761 (by decide) (fun h761 => ?_) (fun h761 => ?_)
    · have hb761 := g_ne (a := ((nZ Z) w).length) (b := 24) h761 (by omega) (by omega)
      refine lv_iconst (v := (-1)) hx hb dL_act_769 (by decide) ?_
      refine lv_istore (lv' := [(7, .int ((-1))), (8, .int (nI mi)), (5, .int (fdx_ (nZ Z w) (nm))), (4, .int nm), (3, .int (nI w)), (0, .ref (ad_ D 0)), (1, .ref (q 0)), (2, .int x)]) hx hb dL_act_770 hl (by decide) rfl (fun ls hl => ?_)
      refine lv_iload hx hb dL_act_772 (lv_at hl 0 rfl) ?_
      refine lv_bipush (v := (-9)) hx hb dL_act_774 (by decide) ?_
      refine lv_icmp_le (tgt := 788) hx hb dL_act_776 (by decide) (fun h776 => ?_) (fun h776 => ?_)
      · exact absurd h776 (by decide)
      · refine lv_aload_n hx hb dL_act_779 rfl (lv_at hl 6 rfl) ?_
        refine lv_iload_n hx hb dL_act_780 rfl (lv_at hl 4 rfl) ?_
        refine lv_iload hx hb dL_act_781 (lv_at hl 3 rfl) ?_
        refine lv_iload hx hb dL_act_783 (lv_at hl 1 rfl) ?_
        refine h_callV (y := yX3_put) (n := 3) (As := [.int (nI w), .int nm, .int (nI mi)]) (rest := []) hx hb hml hown hts hE hZ hS hl.1 (z_put l D q Z w (nm) (nI mi) hw (by omega) (h_DT hD)) h_P0 (h_suf hP) (h_AS hD hS h_Asz) (fun _ _ _ => trivial) (h_jS hP hD (h_AS hD hS h_Asz)) k_L_60 (wr := h_SW D q ((nZ Z)) ((mZ Z))) (q0 := 0) (ci := 3) (h_suf hP) (rfl) rfl rfl rfl rfl ⟨Nat.le_of_ble_eq_true rfl, Nat.le_of_ble_eq_true rfl⟩ (Nat.le_of_ble_eq_true rfl) ⟨Nat.le_of_ble_eq_true rfl, Nat.le_of_ble_eq_true rfl⟩ dL_act_785 (fun v5 w1 H locs hq hP hD hS => ?_)
        obtain ⟨rfl, qz1, hqz2, rfl⟩ := hq
        rw [← hqz2] at hl
        obtain ⟨Zz3, hZz4⟩ : ∃ z, z = va_up Z w (pZ (Z w) (nm) (nI mi)) := ⟨_, rfl⟩
        rw [← hZz4] at hP hD
        have hP : va_P D vwCl ((g_W D σ) ++ (h_SW D qz1 ((nZ Zz3)) ((mZ Zz3)))) H := hP
        have hD : va_D (va_A (((g_W D σ) ++ (h_SW D q ((nZ Z)) ((mZ Z))))) s.heap.size) ((g_W D σ) ++ (h_SW D qz1 ((nZ Zz3)) ((mZ Zz3)))) := hD
        refine W.widen (k := 2) (n := 50) (Nat.le_of_ble_eq_true rfl) (Nat.le_of_ble_eq_true rfl) ?_
        refine W.eq (g2 := F0 m 788 ls []) rfl ?_
        refine lv_aload_n hx hb dL_act_788 rfl (lv_at hl 5 rfl) ?_
        refine lv_iload_n hx hb dL_act_789 rfl (lv_at hl 4 rfl) ?_
        refine lv_iload hx hb dL_act_790 (lv_at hl 3 rfl) ?_
        refine lv_iload hx hb dL_act_792 (lv_at hl 1 rfl) ?_
        have hno : ¬ (mo_ (Ls w) nm = -1 ∧ 24 ≤ (Ls w).length) := fun h => by omega
        refine h_callV (y := yX2_put) (n := 3) (As := [.int (nI w), .int nm, .int (nI mi)]) (rest := []) hx hb hml hown hts hE hZ hS hl.1 ((n_put l hst D hAD σ Ls hC hvC w nm (nI mi) hw hnm (ix_of (by omega) (by decide)) hno).h hAD) h_P0 (h_prf hP) (h_AP hD hS h_Asz) (fun _ _ _ => trivial) (h_jP hP hD (h_AP hD hS h_Asz)) k_L_70 (wr := (g_W D σ)) (q0 := 0) (ci := 2) (h_prf hP) (g_at (by decide) hC.1) rfl rfl rfl rfl ⟨Nat.le_of_ble_eq_true rfl, Nat.le_of_ble_eq_true rfl⟩ (Nat.le_of_ble_eq_true rfl) ⟨Nat.le_of_ble_eq_true rfl, Nat.le_of_ble_eq_true rfl⟩ dL_act_794 (fun v8 w1 H locs hq hP hD hS => ?_)
        obtain ⟨σ_6, ⟨rfl, hC_7⟩, rfl⟩ := hq
        have hP : va_P D vwCl ((g_W D σ_6) ++ (h_SW D qz1 ((nZ Zz3)) ((mZ Zz3)))) H := hP
        have hD : va_D (va_A (((g_W D σ) ++ (h_SW D q ((nZ Z)) ((mZ Z))))) s.heap.size) ((g_W D σ_6) ++ (h_SW D qz1 ((nZ Zz3)) ((mZ Zz3)))) := hD
        refine W.widen (k := 7) (n := 80) (Nat.le_of_ble_eq_true rfl) (Nat.le_of_ble_eq_true rfl) ?_
        refine W.eq (g2 := F0 m 797 ls [.int (mo_ (Ls w) nm)]) rfl ?_
        have hSZ9 : SZ_ (ul_ Ls w (st_ (Ls w) nm (nI mi))) Zz3 := by rw [hZz4]; exact SZ_up hSZ (pz_pm hvw (hSZ w hw) hnm1)
        have hvC10 := vC_put (name := nm) (mi := nI mi) hvC hw (by rw [er_put, wl_n hw, if_pos (ix_of hw (by decide)), if_pos ⟨hnm, ix_of (by omega) (by decide)⟩, if_neg hno])
        refine g_top (y := (-1)) (hmo) ?_
        refine lv_istore (lv' := [(6, .int ((-1))), (7, .int ((-1))), (8, .int (nI mi)), (5, .int (fdx_ (nZ Z w) (nm))), (4, .int nm), (3, .int (nI w)), (0, .ref (ad_ D 0)), (1, .ref (qz1 0)), (2, .int x)]) hx hb dL_act_797 hl (by decide) rfl (fun ls hl => ?_)
        refine lv_goto (tgt := 808) hx hb dL_act_799 (by decide) ?_
        refine lv_iload hx hb dL_act_808 (lv_at hl 0 rfl) ?_
        refine lv_iload hx hb dL_act_810 (lv_at hl 1 rfl) ?_
        refine lv_icmp_ne (tgt := 819) hx hb dL_act_812 (by decide) (fun h812 => ?_) (fun h812 => ?_)
        · exact absurd rfl h812
        · refine lv_iconst (v := nI 1) hx hb dL_act_815 (by decide) ?_
          refine lv_goto (tgt := 820) hx hb dL_act_816 (by decide) ?_
          refine W.widen (k := 120) (n := 3000) (by omega) (by omega) ?_
          rw [← hQ]
          exact W.zret (v := nI 1) hx hb hr (by first | rfl | decide | (split <;> rfl)) (fun te9 hte9 _ => h_fin (⟨rfl, σ_6, qz1, Zz3, (ul_ Ls w (st_ (Ls w) nm (nI mi))), rfl, (hqz2.trans rfl), hC_7, hvC10, hSZ9⟩) hP hD hS hte9) hS.2.2 dL_act_820 hlocks
    · have hb761 := g_eq (a := ((nZ Z) w).length) (b := 24) h761 (by omega) (by omega)
      refine lv_bipush (v := (-9)) hx hb dL_act_764 (by decide) ?_
      refine lv_goto (tgt := 770) hx hb dL_act_766 (by decide) ?_
      refine lv_istore (lv' := [(7, .int ((-9))), (8, .int (nI mi)), (5, .int (fdx_ (nZ Z w) (nm))), (4, .int nm), (3, .int (nI w)), (0, .ref (ad_ D 0)), (1, .ref (q 0)), (2, .int x)]) hx hb dL_act_770 hl (by decide) rfl (fun ls hl => ?_)
      refine lv_iload hx hb dL_act_772 (lv_at hl 0 rfl) ?_
      refine lv_bipush (v := (-9)) hx hb dL_act_774 (by decide) ?_
      refine lv_icmp_le (tgt := 788) hx hb dL_act_776 (by decide) (fun h776 => ?_) (fun h776 => ?_)
      · refine lv_aload_n hx hb dL_act_788 rfl (lv_at hl 5 rfl) ?_
        refine lv_iload_n hx hb dL_act_789 rfl (lv_at hl 4 rfl) ?_
        refine lv_iload hx hb dL_act_790 (lv_at hl 3 rfl) ?_
        refine lv_iload hx hb dL_act_792 (lv_at hl 1 rfl) ?_
        have hfl : 24 ≤ (Ls w).length := by omega
        refine h_callVY (y := yX2_put) (n := 3) (As := [.int (nI w), .int nm, .int (nI mi)]) (rest := []) hx hb hml hown hts hE hZ hAD hP hD hS h_Asz hl.1 (x_put l hst D hAD σ Ls hC hvC w nm (nI mi) hw hnm (ix_of (by omega) (by decide)) ⟨hmo, hfl⟩) k_L_70 (q0 := 0) (ci := 2) (by decide) hC.1 rfl rfl rfl rfl rfl ⟨Nat.le_of_ble_eq_true rfl, Nat.le_of_ble_eq_true rfl⟩ (Nat.le_of_ble_eq_true rfl) ⟨Nat.le_of_ble_eq_true rfl, Nat.le_of_ble_eq_true rfl⟩ dL_act_794 (fun E ce q9 σ3 H locs hq hP hD hS hc9 hv9 hk9 => ?_) (fun v σ3 H locs hq hP hD hS => hq.elim)
        obtain ⟨rfl, rfl⟩ := hq
        refine vx_catch (name := g_E2) hown (tableOf [(97, 106, 109, 40), (241, 250, 253, 40), (538, 560, 561, 40), (672, 694, 695, 40)]) ⟨788, 799, 802, 40⟩ (tableOf []) (htab.trans rfl) (fun z hz => by simp only [tableOf, List.map_cons, List.map_nil, List.mem_cons, List.not_mem_nil, or_false] at hz; rcases hz with rfl | rfl | rfl | rfl <;> exact Or.inl (by decide)) (by decide) (by decide) (hts _ wl_L_40) (va_tabs rfl rfl (hE.2.2.1 (Cond.castable g_E2 g_E2) (by simp [g_NL]))) hc9 hv9 hk9 ?_
        refine W.eq (g2 := F0 m 802 ls [.ref q9]) rfl ?_
        refine W.widen (k := 5) (n := 30) (Nat.le_of_ble_eq_true rfl) (Nat.le_of_ble_eq_true rfl) ?_
        refine lv_astore (lv' := [(9, .ref q9), (7, .int ((-9))), (8, .int (nI mi)), (5, .int (fdx_ (nZ Z w) (nm))), (4, .int nm), (3, .int (nI w)), (0, .ref (ad_ D 0)), (1, .ref (q 0)), (2, .int x)]) hx hb dL_act_802 hl (by decide) rfl (fun ls hl => ?_)
        refine lv_bipush (v := (-9)) hx hb dL_act_804 (by decide) ?_
        refine lv_istore (lv' := [(6, .int ((-9))), (9, .ref q9), (7, .int ((-9))), (8, .int (nI mi)), (5, .int (fdx_ (nZ Z w) (nm))), (4, .int nm), (3, .int (nI w)), (0, .ref (ad_ D 0)), (1, .ref (q 0)), (2, .int x)]) hx hb dL_act_806 hl (by decide) rfl (fun ls hl => ?_)
        refine lv_iload hx hb dL_act_808 (lv_at hl 0 rfl) ?_
        refine lv_iload hx hb dL_act_810 (lv_at hl 2 rfl) ?_
        refine lv_icmp_ne (tgt := 819) hx hb dL_act_812 (by decide) (fun h812 => ?_) (fun h812 => ?_)
        · exact absurd rfl h812
        · refine lv_iconst (v := nI 1) hx hb dL_act_815 (by decide) ?_
          refine lv_goto (tgt := 820) hx hb dL_act_816 (by decide) ?_
          refine W.widen (k := 120) (n := 3000) (by omega) (by omega) ?_
          rw [← hQ]
          exact W.zret (v := nI 1) hx hb hr (by first | rfl | decide | (split <;> rfl)) (fun te9 hte9 _ => h_fin (⟨rfl, σ, q, Z, Ls, rfl, rfl, hC, hvC, hSZ⟩) hP hD hS hte9) hS.2.2 dL_act_820 hlocks
      · exact absurd (by decide) h776
  · obtain ⟨hk9, hke⟩ := fdx_pos (R := nZ Z w) (x := nm) h737
    rw [hke] at hl
    have hmo := fd_y hvw (hSZ w hw) (x := nm) (by rw [← hwn]; exact hk9)
    have hmb := mo_0 hvw (hSZ w hw) (x := nm) (by rw [← hwn]; exact hk9)
    have hmo2 : mo_ (Ls w) nm = (mZ Z w).getD (ix9 (nZ Z w) (nm)) 0 := hmo
    have hmb2 : 0 ≤ (mZ Z w).getD (ix9 (nZ Z w) (nm)) 0 := hmb.1
    refine lv_aload_n hx hb dL_act_740 rfl (lv_at hl 5 rfl) ?_
    refine h_get (w := (g_W D σ)) (xs := (h_SW D q ((nZ Z)) ((mZ Z)))) (i := 0) hx hb hts hE hown hP rfl 1 (by decide) rfl wf_L_29 (v := .ref (q 2)) rfl dL_act_741 ?_
    refine lv_iload_n hx hb dL_act_744 rfl (lv_at hl 3 rfl) ?_
    refine h_ald (w := (g_W D σ)) (xs := (h_SW D q ((nZ Z)) ((mZ Z)))) (i := 2) (q := q) (o := 5) (j := w) hx hb hE hP rfl (by omega) dL_act_745 ?_
    refine lv_iload hx hb dL_act_746 (lv_at hl 1 rfl) ?_
    refine h_ild (w := (g_W D σ)) (xs := (h_SW D q ((nZ Z)) ((mZ Z)))) (i := (5 + w)) (R := (mZ Z) w) (j := ix9 (nZ Z w) (nm)) hx hb hE hP (h_SWm hw) (by omega) (by omega) (v := (mZ Z w).getD (ix9 (nZ Z w) (nm)) 0) (rfl) dL_act_748 ?_
    refine lv_goto (tgt := 770) hx hb dL_act_749 (by decide) ?_
    refine lv_istore (lv' := [(7, .int ((mZ Z w).getD (ix9 (nZ Z w) (nm)) 0)), (8, .int (nI mi)), (5, .int (nI (ix9 (nZ Z w) (nm)))), (4, .int nm), (3, .int (nI w)), (0, .ref (ad_ D 0)), (1, .ref (q 0)), (2, .int x)]) hx hb dL_act_770 hl (by decide) rfl (fun ls hl => ?_)
    refine lv_iload hx hb dL_act_772 (lv_at hl 0 rfl) ?_
    refine lv_bipush (v := (-9)) hx hb dL_act_774 (by decide) ?_
    refine lv_icmp_le (tgt := 788) hx hb dL_act_776 (by decide) (fun h776 => ?_) (fun h776 => ?_)
    · exact absurd (Int32.le_trans hmb2 h776) (by decide)
    · refine lv_aload_n hx hb dL_act_779 rfl (lv_at hl 6 rfl) ?_
      refine lv_iload_n hx hb dL_act_780 rfl (lv_at hl 4 rfl) ?_
      refine lv_iload hx hb dL_act_781 (lv_at hl 3 rfl) ?_
      refine lv_iload hx hb dL_act_783 (lv_at hl 1 rfl) ?_
      refine h_callV (y := yX3_put) (n := 3) (As := [.int (nI w), .int nm, .int (nI mi)]) (rest := []) hx hb hml hown hts hE hZ hS hl.1 (z_put l D q Z w (nm) (nI mi) hw (by omega) (h_DT hD)) h_P0 (h_suf hP) (h_AS hD hS h_Asz) (fun _ _ _ => trivial) (h_jS hP hD (h_AS hD hS h_Asz)) k_L_60 (wr := h_SW D q ((nZ Z)) ((mZ Z))) (q0 := 0) (ci := 3) (h_suf hP) (rfl) rfl rfl rfl rfl ⟨Nat.le_of_ble_eq_true rfl, Nat.le_of_ble_eq_true rfl⟩ (Nat.le_of_ble_eq_true rfl) ⟨Nat.le_of_ble_eq_true rfl, Nat.le_of_ble_eq_true rfl⟩ dL_act_785 (fun v15 w1 H locs hq hP hD hS => ?_)
      obtain ⟨rfl, qz11, hqz12, rfl⟩ := hq
      rw [← hqz12] at hl
      obtain ⟨Zz13, hZz14⟩ : ∃ z, z = va_up Z w (pZ (Z w) (nm) (nI mi)) := ⟨_, rfl⟩
      rw [← hZz14] at hP hD
      have hP : va_P D vwCl ((g_W D σ) ++ (h_SW D qz11 ((nZ Zz13)) ((mZ Zz13)))) H := hP
      have hD : va_D (va_A (((g_W D σ) ++ (h_SW D q ((nZ Z)) ((mZ Z))))) s.heap.size) ((g_W D σ) ++ (h_SW D qz11 ((nZ Zz13)) ((mZ Zz13)))) := hD
      refine W.widen (k := 2) (n := 50) (Nat.le_of_ble_eq_true rfl) (Nat.le_of_ble_eq_true rfl) ?_
      refine W.eq (g2 := F0 m 788 ls []) rfl ?_
      refine lv_aload_n hx hb dL_act_788 rfl (lv_at hl 5 rfl) ?_
      refine lv_iload_n hx hb dL_act_789 rfl (lv_at hl 4 rfl) ?_
      refine lv_iload hx hb dL_act_790 (lv_at hl 3 rfl) ?_
      refine lv_iload hx hb dL_act_792 (lv_at hl 1 rfl) ?_
      have hno : ¬ (mo_ (Ls w) nm = -1 ∧ 24 ≤ (Ls w).length) := fun h => absurd h.1 (by rw [hmo2]; exact ne_m1 hmb2)
      refine h_callV (y := yX2_put) (n := 3) (As := [.int (nI w), .int nm, .int (nI mi)]) (rest := []) hx hb hml hown hts hE hZ hS hl.1 ((n_put l hst D hAD σ Ls hC hvC w nm (nI mi) hw hnm (ix_of (by omega) (by decide)) hno).h hAD) h_P0 (h_prf hP) (h_AP hD hS h_Asz) (fun _ _ _ => trivial) (h_jP hP hD (h_AP hD hS h_Asz)) k_L_70 (wr := (g_W D σ)) (q0 := 0) (ci := 2) (h_prf hP) (g_at (by decide) hC.1) rfl rfl rfl rfl ⟨Nat.le_of_ble_eq_true rfl, Nat.le_of_ble_eq_true rfl⟩ (Nat.le_of_ble_eq_true rfl) ⟨Nat.le_of_ble_eq_true rfl, Nat.le_of_ble_eq_true rfl⟩ dL_act_794 (fun v18 w1 H locs hq hP hD hS => ?_)
      obtain ⟨σ_16, ⟨rfl, hC_17⟩, rfl⟩ := hq
      have hP : va_P D vwCl ((g_W D σ_16) ++ (h_SW D qz11 ((nZ Zz13)) ((mZ Zz13)))) H := hP
      have hD : va_D (va_A (((g_W D σ) ++ (h_SW D q ((nZ Z)) ((mZ Z))))) s.heap.size) ((g_W D σ_16) ++ (h_SW D qz11 ((nZ Zz13)) ((mZ Zz13)))) := hD
      refine W.widen (k := 7) (n := 80) (Nat.le_of_ble_eq_true rfl) (Nat.le_of_ble_eq_true rfl) ?_
      refine W.eq (g2 := F0 m 797 ls [.int (mo_ (Ls w) nm)]) rfl ?_
      have hSZ19 : SZ_ (ul_ Ls w (st_ (Ls w) nm (nI mi))) Zz13 := by rw [hZz14]; exact SZ_up hSZ (pz_pm hvw (hSZ w hw) hnm1)
      have hvC20 := vC_put (name := nm) (mi := nI mi) hvC hw (by rw [er_put, wl_n hw, if_pos (ix_of hw (by decide)), if_pos ⟨hnm, ix_of (by omega) (by decide)⟩, if_neg hno])
      refine g_top (y := (mZ Z w).getD (ix9 (nZ Z w) (nm)) 0) (hmo2) ?_
      refine lv_istore (lv' := [(6, .int ((mZ Z w).getD (ix9 (nZ Z w) (nm)) 0)), (7, .int ((mZ Z w).getD (ix9 (nZ Z w) (nm)) 0)), (8, .int (nI mi)), (5, .int (nI (ix9 (nZ Z w) (nm)))), (4, .int nm), (3, .int (nI w)), (0, .ref (ad_ D 0)), (1, .ref (qz11 0)), (2, .int x)]) hx hb dL_act_797 hl (by decide) rfl (fun ls hl => ?_)
      refine lv_goto (tgt := 808) hx hb dL_act_799 (by decide) ?_
      refine lv_iload hx hb dL_act_808 (lv_at hl 0 rfl) ?_
      refine lv_iload hx hb dL_act_810 (lv_at hl 1 rfl) ?_
      refine lv_icmp_ne (tgt := 819) hx hb dL_act_812 (by decide) (fun h812 => ?_) (fun h812 => ?_)
      · exact absurd rfl h812
      · refine lv_iconst (v := nI 1) hx hb dL_act_815 (by decide) ?_
        refine lv_goto (tgt := 820) hx hb dL_act_816 (by decide) ?_
        refine W.widen (k := 120) (n := 3000) (by omega) (by omega) ?_
        rw [← hQ]
        exact W.zret (v := nI 1) hx hb hr (by first | rfl | decide | (split <;> rfl)) (fun te9 hte9 _ => h_fin (⟨rfl, σ_16, qz11, Zz13, (ul_ Ls w (st_ (Ls w) nm (nI mi))), rfl, (hqz12.trans rfl), hC_17, hvC20, hSZ19⟩) hP hD hS hte9) hS.2.2 dL_act_820 hlocks

set_option maxHeartbeats 4000000 in
set_option maxRecDepth 100000 in
theorem ac_turn {p : Program} {l : Launch} {e : Env} {s : State} {m : MethodId} {args : Array Value} {below : List Frame} {meth : Method} {c : Code} {H : Heap} {locs : List Loc} {Q : State → Prop} (hst : l.stackTraces = false) {D : va_G} (hAD : g_AD D) {σ : Nat → va_E} {Ls : Nat → g_L} {q : Nat → Nat} {Z : g_Z} (hC : g_C D σ Ls) (hvC : vC_ Ls) (hSZ : SZ_ Ls Z) {w : Nat} (hw : w ≤ 1) {x nm : Int32} (hnm : nm1_ nm) {bits : Int32} (hbits : nm1_ bits) (hx : p.tables.exec = Jvm.exec) (hb : c.code = cL_act) (hr : meth.sig.returnType = some .boolean) (hml : c.maxLocals = 15) (hown : s.vm.findClass RL = some m.cls) (hlocks : meth.locks = false) (hts : ∀ w ∈ g_WA, w.before args s = true) (hE : g_EV D s) (hZ : g_EZ (va_A (((g_W D σ) ++ (h_SW D q ((nZ Z)) ((mZ Z))))) s.heap.size) s s.heap) (htab : c.exceptionTable.toList = tableOf [(97, 106, 109, 40), (241, 250, 253, 40), (538, 560, 561, 40), (672, 694, 695, 40), (788, 799, 802, 40)]) (hQ : MQ below (h_Q D (g_W D σ ++ h_SW D q (nZ Z) (mZ Z)) s.heap.size (fun v1 w1 => v1 = some (.int (nI 1)) ∧ ∃ (σ1 : Nat → va_E) (q1 : Nat → Nat) (Z1 : g_Z) (Ls1 : Nat → g_L), w1 = g_W D σ1 ++ h_SW D q1 (nZ Z1) (mZ Z1) ∧ q1 0 = q 0 ∧ g_C D σ1 Ls1 ∧ vC_ Ls1 ∧ SZ_ Ls1 Z1)) args s m_L_act_rm.cells m_L_act_rm.slots (va_A (((g_W D σ) ++ (h_SW D q ((nZ Z)) ((mZ Z))))) s.heap.size) = Q) (hP : va_P D vwCl (g_W D σ ++ h_SW D q (nZ Z) (mZ Z)) H) (hD : va_D (va_A (((g_W D σ) ++ (h_SW D q ((nZ Z)) ((mZ Z))))) s.heap.size) (g_W D σ ++ h_SW D q (nZ Z) (mZ Z))) (hS : va_S (va_A (((g_W D σ) ++ (h_SW D q ((nZ Z)) ((mZ Z))))) s.heap.size) s.heap H locs) {ls : Array Slot} (hl : lv_has ls 15 [(5, .int (fdx_ (nZ Z w) (nm))), (4, .int nm), (3, .int (nI w)), (0, .ref (ad_ D 0)), (1, .ref (q 0)), (2, .int x)]) : W p l e m_L_act_rm s m args below meth c H locs 0 0 Q (F0 m 172 ls [.int bits]) := by
  have h24 := fun v (hv : v ≤ 1) => (hvC v hv).2
  have hzl := fun v (hv : v ≤ 1) => SZ_len hSZ hv
  have hnl : ∀ v, (nZ Z v).length = (Z v).length := fun v => nZ_len
  have hml9 : ∀ v, (mZ Z v).length = (Z v).length := fun v => mZ_len
  have hw24 := h24 w hw
  have ho24 := h24 (1 - w) (by omega)
  have hwz := hzl w hw
  have hoz := hzl (1 - w) (by omega)
  have hwn := hnl w
  have hon := hnl (1 - w)
  have hwm := hml9 w
  have hom := hml9 (1 - w)
  have hvw := (hvC w hw).1
  have hvo := (hvC (1 - w) (by omega)).1
  have hnm1 := ne_m1 (nm_le hnm).1
  refine lv_istore (lv' := [(8, .int bits), (5, .int (fdx_ (nZ Z w) (nm))), (4, .int nm), (3, .int (nI w)), (0, .ref (ad_ D 0)), (1, .ref (q 0)), (2, .int x)]) hx hb dL_act_172 hl (by decide) rfl (fun ls hl => ?_)
  refine lv_aload_n hx hb dL_act_174 rfl (lv_at hl 5 rfl) ?_
  refine h_get (w := (g_W D σ)) (xs := (h_SW D q ((nZ Z)) ((mZ Z)))) (i := 0) hx hb hts hE hown hP rfl 0 (by decide) rfl wf_L_16 (v := .ref (q 1)) rfl dL_act_175 ?_
  refine lv_iload_n hx hb dL_act_178 rfl (lv_at hl 3 rfl) ?_
  refine h_ald (w := (g_W D σ)) (xs := (h_SW D q ((nZ Z)) ((mZ Z)))) (i := 1) (q := q) (o := 3) (j := w) hx hb hE hP rfl (by omega) dL_act_179 ?_
  refine h_cln (w := (g_W D σ)) (xs := (h_SW D q ((nZ Z)) ((mZ Z)))) (i := (3 + w)) (R := (nZ Z) w) hx hb (hml.trans hl.1.symm) hown hts k_cln.1 k_cln.2 hE hP hD hS h_Asz (h_SWn hw) ⟨Nat.le_of_ble_eq_true rfl, Nat.le_of_ble_eq_true rfl⟩ (by show 0 + 1 ≤ 120; omega) (by show 0 + ((nZ Z) w).length ≤ 3000; omega) dL_act_180 (fun qn1 H hP hD hS => ?_)
  refine W.widen (k := 1) (n := 24) (by omega) (by omega) ?_
  have hP : va_P D vwCl ((g_W D σ) ++ (h_SW D q ((nZ Z)) ((mZ Z)) ++ [(qn1, h_row D ((nZ Z) w))])) H := hP
  have hD : va_D (va_A (((g_W D σ) ++ (h_SW D q ((nZ Z)) ((mZ Z))))) s.heap.size) ((g_W D σ) ++ (h_SW D q ((nZ Z)) ((mZ Z)) ++ [(qn1, h_row D ((nZ Z) w))])) := hD
  refine h_cst (w := (g_W D σ)) (xs := (h_SW D q ((nZ Z)) ((mZ Z)) ++ [(qn1, h_row D ((nZ Z) w))])) (i := 7) (R := (nZ Z) w) hx hb hown hts wl_L_43 hE hP rfl dL_act_183 ?_
  rw [show (h_SW D q ((nZ Z)) ((mZ Z)) ++ [(qn1, h_row D ((nZ Z) w))]) = (h_SW D q (nZ Z) (mZ Z) ++ [(qn1, h_row D (xo_ ((nZ Z) w) bits 0))]) from by rw [xo_0]] at hP hD
  have hP : va_P D vwCl ((g_W D σ) ++ (h_SW D q ((nZ Z)) ((mZ Z)) ++ [(qn1, h_row D (xo_ ((nZ Z) w) bits 0))])) H := hP
  have hD : va_D (va_A (((g_W D σ) ++ (h_SW D q ((nZ Z)) ((mZ Z))))) s.heap.size) ((g_W D σ) ++ (h_SW D q ((nZ Z)) ((mZ Z)) ++ [(qn1, h_row D (xo_ ((nZ Z) w) bits 0))])) := hD
  refine lv_astore (lv' := [(9, .ref qn1), (8, .int bits), (5, .int (fdx_ (nZ Z w) (nm))), (4, .int nm), (3, .int (nI w)), (0, .ref (ad_ D 0)), (1, .ref (q 0)), (2, .int x)]) hx hb dL_act_186 hl (by decide) rfl (fun ls hl => ?_)
  refine lv_iconst (v := nI 0) hx hb dL_act_188 (by decide) ?_
  refine lv_istore (lv' := [(10, .int (nI 0)), (9, .ref qn1), (8, .int bits), (5, .int (fdx_ (nZ Z w) (nm))), (4, .int nm), (3, .int (nI w)), (0, .ref (ad_ D 0)), (1, .ref (q 0)), (2, .int x)]) hx hb dL_act_189 hl (by decide) rfl (fun ls hl => ?_)
  have K191 : ∀ (fuel191 : Nat) (i : Nat), ((nZ Z w).length - i) < fuel191 → (i ≤ (nZ Z w).length) → ∀ (H : Heap) (locs : List Loc), va_P D vwCl ((g_W D σ) ++ (h_SW D q ((nZ Z)) ((mZ Z)) ++ [(qn1, h_row D (xo_ ((nZ Z) w) bits i))])) H → va_D (va_A (((g_W D σ) ++ (h_SW D q ((nZ Z)) ((mZ Z))))) s.heap.size) ((g_W D σ) ++ (h_SW D q ((nZ Z)) ((mZ Z)) ++ [(qn1, h_row D (xo_ ((nZ Z) w) bits i))])) → va_S (va_A (((g_W D σ) ++ (h_SW D q ((nZ Z)) ((mZ Z))))) s.heap.size) s.heap H locs → ∀ ls : Array Slot, lv_has ls 15 [(10, .int (nI i)), (9, .ref qn1), (8, .int bits), (5, .int (fdx_ (nZ Z w) (nm))), (4, .int nm), (3, .int (nI w)), (0, .ref (ad_ D 0)), (1, .ref (q 0)), (2, .int x)] → W p l e m_L_act_rm s m args below meth c H locs 1 24 Q (F0 m 191 ls []) := by
    intro fuel191
    induction fuel191 with
    | zero => intro i hf; exact absurd hf (Nat.not_lt_zero _)
    | succ fuel191 ih191 =>
      intro i hf191 hi H locs hP hD hS ls hl
      refine lv_iload hx hb dL_act_191 (lv_at hl 0 rfl) ?_
      refine lv_aload hx hb dL_act_193 (lv_at hl 1 rfl) ?_
      refine h_aln (w := (g_W D σ)) (xs := (h_SW D q ((nZ Z)) ((mZ Z)) ++ [(qn1, h_row D (xo_ ((nZ Z) w) bits i))])) (i := 7) (R := xo_ ((nZ Z) w) bits i) hx hb hE hP (rfl) dL_act_195 ?_
      refine g_top (y := nI ((nZ Z w).length)) (by rw [xo_len]) ?_
      refine lv_icmp_ge (tgt := 215) hx hb dL_act_196 (by decide) (fun h196 => ?_) (fun h196 => ?_)
      · have hb196 := g_le (a := (nZ Z w).length) (b := i) h196 (by omega) (by omega)
        rw [xo_all (R := (nZ Z) w) (b := bits) (i := i) (by omega)] at hP hD
        have hP : va_P D vwCl ((g_W D σ) ++ (h_SW D q ((nZ Z)) ((mZ Z)) ++ [(qn1, h_row D (((nZ Z) w).map (· ^^^ bits)))])) H := hP
        have hD : va_D (va_A (((g_W D σ) ++ (h_SW D q ((nZ Z)) ((mZ Z))))) s.heap.size) ((g_W D σ) ++ (h_SW D q ((nZ Z)) ((mZ Z)) ++ [(qn1, h_row D (((nZ Z) w).map (· ^^^ bits)))])) := hD
        refine lv_aload_n hx hb dL_act_215 rfl (lv_at hl 7 rfl) ?_
        refine h_get (w := (g_W D σ)) (xs := (h_SW D q ((nZ Z)) ((mZ Z)) ++ [(qn1, h_row D (((nZ Z) w).map (· ^^^ bits)))])) (i := 0) hx hb hts hE hown hP rfl 0 (by decide) rfl wf_L_16 (v := .ref (q 1)) rfl dL_act_216 ?_
        refine lv_iload_n hx hb dL_act_219 rfl (lv_at hl 5 rfl) ?_
        refine lv_aload hx hb dL_act_220 (lv_at hl 1 rfl) ?_
        refine h_ast (w := (g_W D σ)) (xs := (h_SW D q ((nZ Z)) ((mZ Z)) ++ [(qn1, h_row D (((nZ Z) w).map (· ^^^ bits)))])) (i := 1) (i2 := 7) (j := w) (v := qn1) (q := q) (o := 3) (R := ((nZ Z) w).map (· ^^^ bits)) hx hb hE hP hD hS rfl (by omega) rfl dL_act_222 (fun H locs hP hD hS => ?_)
        obtain ⟨hP, hD⟩ := h_SWun (w0 := (g_W D σ)) hw hP hD
        have hqs4 : (va_up q (3 + w) qn1) 0 = q 0 := va_up_ne _ _ (by omega)
        generalize hzqs2 : va_up q (3 + w) qn1 = qs2 at hP hD hqs4
        have Xs31 : qs2 1 = q 1 := by rw [← hzqs2]; exact va_up_ne _ _ (by omega)
        have Xs32 : qs2 2 = q 2 := by rw [← hzqs2]; exact va_up_ne _ _ (by omega)
        have hP : va_P D vwCl ((g_W D σ) ++ (h_SW D qs2 (va_up ((nZ Z)) w (((nZ Z) w).map (· ^^^ bits))) ((mZ Z)))) H := hP
        have hD : va_D (va_A (((g_W D σ) ++ (h_SW D q ((nZ Z)) ((mZ Z))))) s.heap.size) ((g_W D σ) ++ (h_SW D qs2 (va_up ((nZ Z)) w (((nZ Z) w).map (· ^^^ bits))) ((mZ Z)))) := hD
        rw [← hqs4] at hl
        obtain ⟨Zz5, hZz6⟩ : ∃ z, z = va_up Z w (xz_ (Z w) bits) := ⟨_, rfl⟩
        have hWW : (h_SW D qs2 (va_up ((nZ Z)) w (((nZ Z) w).map (· ^^^ bits))) ((mZ Z))) = h_SW D qs2 (nZ Zz5) (mZ Zz5) := by rw [hZz6, xN_Z, ← xM_Z]
        rw [hWW] at hP hD
        have hP : va_P D vwCl ((g_W D σ) ++ (h_SW D qs2 ((nZ Zz5)) ((mZ Zz5)))) H := hP
        have hD : va_D (va_A (((g_W D σ) ++ (h_SW D q ((nZ Z)) ((mZ Z))))) s.heap.size) ((g_W D σ) ++ (h_SW D qs2 ((nZ Zz5)) ((mZ Zz5)))) := hD
        have hmade : qs2 (3 + w) = qn1 := by rw [← hzqs2]; exact va_up_self _ _ _
        rw [← hmade] at hl
        have hn3e : (nZ Zz5 w) = ((nZ Z) w).map (· ^^^ bits) := by rw [hZz6, ← xN_Z]; exact va_up_self _ _ _
        have hn3l : (nZ Zz5 w).length = (Z w).length := by rw [hn3e, List.length_map]; exact hwn
        have hn3 : (nZ Zz5 w).length ≤ 24 := by omega
        have hrn3 : rn_ (nZ Zz5 w) := by rw [hn3e]; intro z hz; obtain ⟨y, hy, rfl⟩ := List.mem_map.mp hz; exact nm_xor (SR_rn hvC (SZ_R hSZ) hw y hy) hbits
        refine lv_aload hx hb dL_act_223 (lv_at hl 1 rfl) ?_
        refine h_aln (w := (g_W D σ)) (xs := (h_SW D qs2 ((nZ Zz5)) ((mZ Zz5)))) (i := (3 + w)) (R := (nZ Zz5) w) hx hb hE hP (h_SWn hw) dL_act_225 ?_
        refine lv_if_ne (tgt := 234) hx hb dL_act_226 (by decide) (fun h226 => ?_) (fun h226 => ?_)
        · have hb226 := g_ne (a := ((nZ Zz5) w).length) (b := 0) h226 (by omega) (by omega)
          have hne0 : (Ls w).length ≠ 0 := by omega
          refine lv_aload hx hb dL_act_234 (lv_at hl 1 rfl) ?_
          refine h_callS (y := yX3_least) (n := 1) (As := [.ref (qs2 (3 + w))]) (rest := []) hx hb hml hown hts hE hZ hS hl.1 (m_X3_least l D (qs2 (3 + w)) ((nZ Zz5) w) hn3 hrn3) (h_pick (w := (g_W D σ)) (xs := (h_SW D qs2 ((nZ Zz5)) ((mZ Zz5)))) (i := (3 + w)) hP (h_SWn hw)) h_P0 (h_Anil hS h_Asz) (fun _ _ _ => trivial) (h_jR hP hD (h_Anil hS h_Asz)) k_L_48 rfl rfl ⟨Nat.le_of_ble_eq_true rfl, Nat.le_of_ble_eq_true rfl⟩ (Nat.le_of_ble_eq_true rfl) ⟨Nat.le_of_ble_eq_true rfl, Nat.le_of_ble_eq_true rfl⟩ dL_act_236 (fun v7 w1 H locs hq hP hD hS => ?_)
          obtain ⟨rfl, rfl⟩ := hq
          rw [List.append_nil] at hP hD
          have hP : va_P D vwCl ((g_W D σ) ++ (h_SW D qs2 ((nZ Zz5)) ((mZ Zz5)))) H := hP
          have hD : va_D (va_A (((g_W D σ) ++ (h_SW D q ((nZ Z)) ((mZ Z))))) s.heap.size) ((g_W D σ) ++ (h_SW D qs2 ((nZ Zz5)) ((mZ Zz5)))) := hD
          refine W.widen (k := 1) (n := 24) (Nat.le_of_ble_eq_true rfl) (Nat.le_of_ble_eq_true rfl) ?_
          refine W.eq (g2 := F0 m 239 ls [.int (le_ ((nZ Zz5) w))]) rfl ?_
          refine g_top (y := fn_ (cb_ (Ls w) bits (Ls w).length) 0) (by rw [hn3e]; exact le_cb hvw (hSZ w hw) (nm_le hbits).1 (nm_le hbits).2 hne0) ?_
          refine lv_istore (lv' := [(7, .int (fn_ (cb_ (Ls w) bits (Ls w).length) 0)), (10, .int (nI i)), (9, .ref (qs2 (3 + w))), (8, .int bits), (5, .int (fdx_ (nZ Z w) (nm))), (4, .int nm), (3, .int (nI w)), (0, .ref (ad_ D 0)), (1, .ref (qs2 0)), (2, .int x)]) hx hb dL_act_239 hl (by decide) rfl (fun ls hl => ?_)
          refine lv_aload_n hx hb dL_act_241 rfl (lv_at hl 7 rfl) ?_
          refine lv_iload_n hx hb dL_act_242 rfl (lv_at hl 6 rfl) ?_
          refine lv_iload hx hb dL_act_243 (lv_at hl 3 rfl) ?_
          refine h_callV (y := yX2_turn) (n := 2) (As := [.int (nI w), .int bits]) (rest := []) hx hb hml hown hts hE hZ hS hl.1 ((n_turn l hst D hAD σ Ls hC hvC w bits hw hbits hne0).h hAD) h_P0 (h_prf hP) (h_AP hD hS h_Asz) (fun _ _ _ => trivial) (h_jP hP hD (h_AP hD hS h_Asz)) k_L_52 (wr := (g_W D σ)) (q0 := 0) (ci := 2) (h_prf hP) (g_at (by decide) hC.1) rfl rfl rfl rfl ⟨Nat.le_of_ble_eq_true rfl, Nat.le_of_ble_eq_true rfl⟩ (Nat.le_of_ble_eq_true rfl) ⟨Nat.le_of_ble_eq_true rfl, Nat.le_of_ble_eq_true rfl⟩ dL_act_245 (fun v10 w1 H locs hq hP hD hS => ?_)
          obtain ⟨σ_8, ⟨rfl, hC_9⟩, rfl⟩ := hq
          have hP : va_P D vwCl ((g_W D σ_8) ++ (h_SW D qs2 ((nZ Zz5)) ((mZ Zz5)))) H := hP
          have hD : va_D (va_A (((g_W D σ) ++ (h_SW D q ((nZ Z)) ((mZ Z))))) s.heap.size) ((g_W D σ_8) ++ (h_SW D qs2 ((nZ Zz5)) ((mZ Zz5)))) := hD
          refine W.widen (k := 6) (n := 54) (Nat.le_of_ble_eq_true rfl) (Nat.le_of_ble_eq_true rfl) ?_
          refine W.eq (g2 := F0 m 248 ls [.int (fn_ (cb_ (Ls w) bits (Ls w).length) 0)]) rfl ?_
          have hSZ11 : SZ_ (ul_ Ls w (cb_ (Ls w) bits (Ls w).length)) Zz5 := by rw [hZz6]; exact SZ_up hSZ (xz_pm hvw (hSZ w hw) (nm_le hbits).1 (nm_le hbits).2)
          have hvC12 := vC_turn hvC hw hbits
          refine lv_istore (lv' := [(6, .int (fn_ (cb_ (Ls w) bits (Ls w).length) 0)), (7, .int (fn_ (cb_ (Ls w) bits (Ls w).length) 0)), (10, .int (nI i)), (9, .ref (qs2 (3 + w))), (8, .int bits), (5, .int (fdx_ (nZ Z w) (nm))), (4, .int nm), (3, .int (nI w)), (0, .ref (ad_ D 0)), (1, .ref (qs2 0)), (2, .int x)]) hx hb dL_act_248 hl (by decide) rfl (fun ls hl => ?_)
          refine lv_goto (tgt := 259) hx hb dL_act_250 (by decide) ?_
          refine lv_iload hx hb dL_act_259 (lv_at hl 0 rfl) ?_
          refine lv_iload hx hb dL_act_261 (lv_at hl 1 rfl) ?_
          refine lv_icmp_ne (tgt := 270) hx hb dL_act_263 (by decide) (fun h263 => ?_) (fun h263 => ?_)
          · exact absurd rfl h263
          · refine lv_iconst (v := nI 1) hx hb dL_act_266 (by decide) ?_
            refine lv_goto (tgt := 271) hx hb dL_act_267 (by decide) ?_
            refine W.widen (k := 120) (n := 3000) (by omega) (by omega) ?_
            rw [← hQ]
            exact W.zret (v := nI 1) hx hb hr (by first | rfl | decide | (split <;> rfl)) (fun te9 hte9 _ => h_fin (⟨rfl, σ_8, qs2, Zz5, (ul_ Ls w (cb_ (Ls w) bits (Ls w).length)), rfl, (hqs4.trans rfl), hC_9, hvC12, hSZ11⟩) hP hD hS hte9) hS.2.2 dL_act_271 hlocks
        · have hb226 := g_eq (a := ((nZ Zz5) w).length) (b := 0) h226 (by omega) (by omega)
          have hne0 : (Ls w).length = 0 := by omega
          refine lv_bipush (v := (-9)) hx hb dL_act_229 (by decide) ?_
          refine lv_goto (tgt := 239) hx hb dL_act_231 (by decide) ?_
          refine lv_istore (lv' := [(7, .int ((-9))), (10, .int (nI i)), (9, .ref (qs2 (3 + w))), (8, .int bits), (5, .int (fdx_ (nZ Z w) (nm))), (4, .int nm), (3, .int (nI w)), (0, .ref (ad_ D 0)), (1, .ref (qs2 0)), (2, .int x)]) hx hb dL_act_239 hl (by decide) rfl (fun ls hl => ?_)
          refine lv_aload_n hx hb dL_act_241 rfl (lv_at hl 7 rfl) ?_
          refine lv_iload_n hx hb dL_act_242 rfl (lv_at hl 6 rfl) ?_
          refine lv_iload hx hb dL_act_243 (lv_at hl 3 rfl) ?_
          have hSZ13 : SZ_ Ls Zz5 := by rw [hZz6, xz_nil (by omega)]; exact hSZ
          refine h_callVY (y := yX2_turn) (n := 2) (As := [.int (nI w), .int bits]) (rest := []) hx hb hml hown hts hE hZ hAD hP hD hS h_Asz hl.1 (x_turn l hst D hAD σ Ls hC hvC w bits hw hbits hne0) k_L_52 (q0 := 0) (ci := 2) (by decide) hC.1 rfl rfl rfl rfl rfl ⟨Nat.le_of_ble_eq_true rfl, Nat.le_of_ble_eq_true rfl⟩ (Nat.le_of_ble_eq_true rfl) ⟨Nat.le_of_ble_eq_true rfl, Nat.le_of_ble_eq_true rfl⟩ dL_act_245 (fun E ce q9 σ3 H locs hq hP hD hS hc9 hv9 hk9 => ?_) (fun v σ3 H locs hq hP hD hS => hq.elim)
          obtain ⟨rfl, rfl⟩ := hq
          refine vx_catch (name := g_E2) hown (tableOf [(97, 106, 109, 40)]) ⟨241, 250, 253, 40⟩ (tableOf [(538, 560, 561, 40), (672, 694, 695, 40), (788, 799, 802, 40)]) (htab.trans rfl) (fun z hz => by simp only [tableOf, List.map_cons, List.map_nil, List.mem_cons, List.not_mem_nil, or_false] at hz; rcases hz with rfl <;> exact Or.inl (by decide)) (by decide) (by decide) (hts _ wl_L_40) (va_tabs rfl rfl (hE.2.2.1 (Cond.castable g_E2 g_E2) (by simp [g_NL]))) hc9 hv9 hk9 ?_
          refine W.eq (g2 := F0 m 253 ls [.ref q9]) rfl ?_
          refine W.widen (k := 6) (n := 54) (Nat.le_of_ble_eq_true rfl) (Nat.le_of_ble_eq_true rfl) ?_
          refine lv_astore (lv' := [(10, .ref q9), (7, .int ((-9))), (9, .ref (qs2 (3 + w))), (8, .int bits), (5, .int (fdx_ (nZ Z w) (nm))), (4, .int nm), (3, .int (nI w)), (0, .ref (ad_ D 0)), (1, .ref (qs2 0)), (2, .int x)]) hx hb dL_act_253 hl (by decide) rfl (fun ls hl => ?_)
          refine lv_bipush (v := (-9)) hx hb dL_act_255 (by decide) ?_
          refine lv_istore (lv' := [(6, .int ((-9))), (10, .ref q9), (7, .int ((-9))), (9, .ref (qs2 (3 + w))), (8, .int bits), (5, .int (fdx_ (nZ Z w) (nm))), (4, .int nm), (3, .int (nI w)), (0, .ref (ad_ D 0)), (1, .ref (qs2 0)), (2, .int x)]) hx hb dL_act_257 hl (by decide) rfl (fun ls hl => ?_)
          refine lv_iload hx hb dL_act_259 (lv_at hl 0 rfl) ?_
          refine lv_iload hx hb dL_act_261 (lv_at hl 2 rfl) ?_
          refine lv_icmp_ne (tgt := 270) hx hb dL_act_263 (by decide) (fun h263 => ?_) (fun h263 => ?_)
          · exact absurd rfl h263
          · refine lv_iconst (v := nI 1) hx hb dL_act_266 (by decide) ?_
            refine lv_goto (tgt := 271) hx hb dL_act_267 (by decide) ?_
            refine W.widen (k := 120) (n := 3000) (by omega) (by omega) ?_
            rw [← hQ]
            exact W.zret (v := nI 1) hx hb hr (by first | rfl | decide | (split <;> rfl)) (fun te9 hte9 _ => h_fin (⟨rfl, σ, qs2, Zz5, Ls, rfl, (hqs4.trans rfl), hC, hvC, hSZ13⟩) hP hD hS hte9) hS.2.2 dL_act_271 hlocks
      · have hb196 := g_nle (a := (nZ Z w).length) (b := i) h196 (by omega) (by omega)
        refine lv_aload hx hb dL_act_199 (lv_at hl 1 rfl) ?_
        refine lv_iload hx hb dL_act_201 (lv_at hl 0 rfl) ?_
        refine lv_dup2_11 hx hb dL_act_203 rfl rfl ?_
        refine h_ild (w := (g_W D σ)) (xs := (h_SW D q ((nZ Z)) ((mZ Z)) ++ [(qn1, h_row D (xo_ ((nZ Z) w) bits i))])) (i := 7) (R := xo_ ((nZ Z) w) bits i) (j := i) hx hb hE hP (rfl) (by rw [xo_len]; omega) (by rw [xo_len]; omega) (v := (nZ Z w).getD i 0) (xo_at (by omega)) dL_act_204 ?_
        refine lv_iload hx hb dL_act_205 (lv_at hl 2 rfl) ?_
        refine lv_ixor hx hb dL_act_207 ?_
        refine h_ist (w := (g_W D σ)) (xs := (h_SW D q ((nZ Z)) ((mZ Z)) ++ [(qn1, h_row D (xo_ ((nZ Z) w) bits i))])) (i := 7) (R := xo_ ((nZ Z) w) bits i) (j := i) (x := ((nZ Z w).getD i 0) ^^^ bits) hx hb hE hP hD hS (rfl) (by rw [xo_len]; omega) (by rw [xo_len]; omega) dL_act_208 (fun H locs hP hD hS => ?_)
        rw [show (xo_ ((nZ Z) w) bits i : List Int32).set i (((nZ Z w).getD i 0) ^^^ bits) = xo_ ((nZ Z) w) bits (i + 1) from xo_s (by omega)] at hP hD
        have hP : va_P D vwCl ((g_W D σ) ++ (h_SW D q ((nZ Z)) ((mZ Z)) ++ [(qn1, h_row D (xo_ ((nZ Z) w) bits (i + 1)))])) H := hP
        have hD : va_D (va_A (((g_W D σ) ++ (h_SW D q ((nZ Z)) ((mZ Z))))) s.heap.size) ((g_W D σ) ++ (h_SW D q ((nZ Z)) ((mZ Z)) ++ [(qn1, h_row D (xo_ ((nZ Z) w) bits (i + 1)))])) := hD
        refine lv_iinc (v := nI (i + 1)) (lv' := [(10, .int (nI (i + 1))), (9, .ref qn1), (8, .int bits), (5, .int (fdx_ (nZ Z w) (nm))), (4, .int nm), (3, .int (nI w)), (0, .ref (ad_ D 0)), (1, .ref (q 0)), (2, .int x)]) hx hb dL_act_209 hl (k := 0) rfl (g_inc i) (by decide) rfl (fun ls hl => ?_)
        refine lv_goto (tgt := 191) hx hb dL_act_212 (by decide) ?_
        exact ih191 (i + 1) (by omega) (by omega) _ _ hP hD hS ls (lv_sub hl [0, 1, 2, 3, 4, 5, 6, 7, 8] rfl)
  exact K191 (((nZ Z w).length - 0) + 1) 0 (Nat.lt_succ_self _) (Nat.zero_le _) _ _ hP hD hS ls (lv_sub hl [0, 1, 2, 3, 4, 5, 6, 7, 8] rfl)
