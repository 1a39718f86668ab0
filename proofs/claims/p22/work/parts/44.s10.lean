theorem bk_neg2 {k : Nat} (hk : k < 2 ^ 31) (h : bk_ k < 0) : k = 0 := by
  cases k with
  | zero => rfl
  | succ j => exact absurd h (nI_pos (show j < 2 ^ 31 by omega))
theorem cut_put {B C : g_L} {p : Int32 × Int32} {X Y : Int32} (hB : B.Perm C) (hn : p.1 ∉ C.map Prod.fst) (hX : X = p.1) (hY : Y = p.2) : (pZ B X Y).Perm (p :: C) := by
  have h : ¬ ix9 (B.map Prod.fst) X < B.length := fun q => by
    rw [← List.length_map (f := Prod.fst)] at q
    have := ix9_mem.mp q
    rw [(hB.map Prod.fst).mem_iff, hX] at this
    exact hn this
  rw [pZ, if_neg h, hX, hY]
  exact (List.perm_append_singleton _ _).trans (hB.cons _)
set_option maxHeartbeats 4000000 in
set_option maxRecDepth 100000 in
theorem ac_cut {p : Program} {l : Launch} {e : Env} {s : State} {m : MethodId} {args : Array Value} {below : List Frame} {meth : Method} {c : Code} {H : Heap} {locs : List Loc} {Q : State → Prop} (hst : l.stackTraces = false) {D : va_G} (hAD : g_AD D) {σ : Nat → va_E} {Ls : Nat → g_L} {q : Nat → Nat} {Z : g_Z} (hC : g_C D σ Ls) (hvC : vC_ Ls) (hSZ : SZ_ Ls Z) {w : Nat} (hw : w ≤ 1) {x nm : Int32} (hnm : nm1_ nm)  (hx : p.tables.exec = Jvm.exec) (hb : c.code = cL_act) (hr : meth.sig.returnType = some .boolean) (hml : c.maxLocals = 15) (hown : s.vm.findClass RL = some m.cls) (hlocks : meth.locks = false) (hts : ∀ w ∈ g_WA, w.before args s = true) (hE : g_EV D s) (hZ : g_EZ (va_A (((g_W D σ) ++ (h_SW D q ((nZ Z)) ((mZ Z))))) s.heap.size) s s.heap) (htab : c.exceptionTable.toList = tableOf [(97, 106, 109, 40), (241, 250, 253, 40), (538, 560, 561, 40), (672, 694, 695, 40), (788, 799, 802, 40)]) (hQ : MQ below (h_Q D (g_W D σ ++ h_SW D q (nZ Z) (mZ Z)) s.heap.size (fun v1 w1 => v1 = some (.int (nI 1)) ∧ ∃ (σ1 : Nat → va_E) (q1 : Nat → Nat) (Z1 : g_Z) (Ls1 : Nat → g_L), w1 = g_W D σ1 ++ h_SW D q1 (nZ Z1) (mZ Z1) ∧ q1 0 = q 0 ∧ g_C D σ1 Ls1 ∧ vC_ Ls1 ∧ SZ_ Ls1 Z1)) args s m_L_act_rm.cells m_L_act_rm.slots (va_A (((g_W D σ) ++ (h_SW D q ((nZ Z)) ((mZ Z))))) s.heap.size) = Q) (hP : va_P D vwCl (g_W D σ ++ h_SW D q (nZ Z) (mZ Z)) H) (hD : va_D (va_A (((g_W D σ) ++ (h_SW D q ((nZ Z)) ((mZ Z))))) s.heap.size) (g_W D σ ++ h_SW D q (nZ Z) (mZ Z))) (hS : va_S (va_A (((g_W D σ) ++ (h_SW D q ((nZ Z)) ((mZ Z))))) s.heap.size) s.heap H locs) {ls : Array Slot} (hl : lv_has ls 15 [(5, .int (fdx_ (nZ Z w) (nm))), (4, .int nm), (3, .int (nI w)), (0, .ref (ad_ D 0)), (1, .ref (q 0)), (2, .int x)]) : W p l e m_L_act_rm s m args below meth c H locs 0 0 Q (F0 m 574 ls []) := by
  have h24 := fun v (hv : v ≤ 1) => (hvC v hv).2
  have hzl := fun v (hv : v ≤ 1) => SZ_len hSZ hv
  have hnl : ∀ v, (nZ Z v).length = (Z v).length := fun v => nZ_len
  have hml9 : ∀ v, (mZ Z v).length = (Z v).length := fun v => mZ_len
  have hw24 := h24 w hw
  have ho24 := h24 (1 - w) (by omega)
  have hwz := hzl w hw
  have hoz := hzl (1 - w) (by omega)
  have hwn := hnl w
  have hon := hnl (1 - w)
  have hwm := hml9 w
  have hom := hml9 (1 - w)
  have hvw := (hvC w hw).1
  have hvo := (hvC (1 - w) (by omega)).1
  have hnm1 := ne_m1 (nm_le hnm).1
  refine lv_aload_n hx hb dL_act_574 rfl (lv_at hl 4 rfl) ?_
  refine h_get (w := (g_W D σ)) (xs := (h_SW D q ((nZ Z)) ((mZ Z)))) (i := 0) hx hb hts hE hown hP rfl 0 (by decide) rfl wf_L_16 (v := .ref (q 1)) rfl dL_act_575 ?_
  refine lv_iconst (v := nI 1) hx hb dL_act_578 (by decide) ?_
  refine lv_iload_n hx hb dL_act_579 rfl (lv_at hl 2 rfl) ?_
  refine lv_isub hx hb dL_act_580 ?_
  refine g_top (y := nI (1 - w)) (pk_sub (by omega)) ?_
  refine h_ald (w := (g_W D σ)) (xs := (h_SW D q ((nZ Z)) ((mZ Z)))) (i := 1) (q := q) (o := 3) (j := 1 - w) hx hb hE hP rfl (by omega) dL_act_581 ?_
  refine h_aln (w := (g_W D σ)) (xs := (h_SW D q ((nZ Z)) ((mZ Z)))) (i := (3 + (1 - w))) (R := (nZ Z) ((1 - w))) hx hb hE hP (h_SWn (by omega)) dL_act_582 ?_
  refine lv_if_ne (tgt := 590) hx hb dL_act_583 (by decide) (fun h583 => ?_) (fun h583 => ?_)
  · have hb583 := g_ne (a := ((nZ Z) ((1 - w))).length) (b := 0) h583 (by omega) (by omega)
    have hno : (Ls (1 - w)).length ≠ 0 := by omega
    refine lv_iconst (v := nI 0) hx hb dL_act_590 (by decide) ?_
    refine lv_istore (lv' := [(8, .int (nI 0)), (5, .int (fdx_ (nZ Z w) (nm))), (4, .int nm), (3, .int (nI w)), (0, .ref (ad_ D 0)), (1, .ref (q 0)), (2, .int x)]) hx hb dL_act_591 hl (by decide) rfl (fun ls hl => ?_)
    refine lv_iconst (v := nI 0) hx hb dL_act_593 (by decide) ?_
    refine lv_istore (lv' := [(7, .int (nI 0)), (8, .int (nI 0)), (5, .int (fdx_ (nZ Z w) (nm))), (4, .int nm), (3, .int (nI w)), (0, .ref (ad_ D 0)), (1, .ref (q 0)), (2, .int x)]) hx hb dL_act_594 hl (by decide) rfl (fun ls hl => ?_)
    refine lv_aload_n hx hb dL_act_596 rfl (lv_at hl 6 rfl) ?_
    refine h_get (w := (g_W D σ)) (xs := (h_SW D q ((nZ Z)) ((mZ Z)))) (i := 0) hx hb hts hE hown hP rfl 0 (by decide) rfl wf_L_16 (v := .ref (q 1)) rfl dL_act_597 ?_
    refine lv_iload_n hx hb dL_act_600 rfl (lv_at hl 4 rfl) ?_
    refine h_ald (w := (g_W D σ)) (xs := (h_SW D q ((nZ Z)) ((mZ Z)))) (i := 1) (q := q) (o := 3) (j := w) hx hb hE hP rfl (by omega) dL_act_601 ?_
    refine h_aln (w := (g_W D σ)) (xs := (h_SW D q ((nZ Z)) ((mZ Z)))) (i := (3 + w)) (R := (nZ Z) w) hx hb hE hP (h_SWn hw) dL_act_602 ?_
    refine lv_iconst (v := nI 1) hx hb dL_act_603 (by decide) ?_
    refine lv_isub hx hb dL_act_604 ?_
    refine g_top (y := bk_ (Z w).length) (by rw [bk_len, hwn]) ?_
    refine lv_istore (lv' := [(9, .int (bk_ (Z w).length)), (7, .int (nI 0)), (8, .int (nI 0)), (5, .int (fdx_ (nZ Z w) (nm))), (4, .int nm), (3, .int (nI w)), (0, .ref (ad_ D 0)), (1, .ref (q 0)), (2, .int x)]) hx hb dL_act_605 hl (by decide) rfl (fun ls hl => ?_)
    refine lv_iload hx hb dL_act_607 (lv_at hl 0 rfl) ?_
    refine lv_if_lt (tgt := 672) hx hb dL_act_609 (by decide) (fun h609 => ?_) (fun h609 => ?_)
    · refine lv_aload_n hx hb dL_act_672 rfl (lv_at hl 6 rfl) ?_
      refine lv_iload_n hx hb dL_act_673 rfl (lv_at hl 5 rfl) ?_
      refine lv_iload hx hb dL_act_674 (lv_at hl 4 rfl) ?_
      refine h_callVY (y := yX2_cut) (n := 2) (As := [.int (nI w), .int nm]) (rest := []) hx hb hml hown hts hE hZ hAD hP hD hS h_Asz hl.1 (x_cut l hst D hAD σ Ls hC hvC w nm hw hnm hno) k_L_67 (q0 := 0) (ci := 2) (by decide) hC.1 rfl rfl rfl rfl rfl ⟨Nat.le_of_ble_eq_true rfl, Nat.le_of_ble_eq_true rfl⟩ (Nat.le_of_ble_eq_true rfl) ⟨Nat.le_of_ble_eq_true rfl, Nat.le_of_ble_eq_true rfl⟩ dL_act_676 (fun E ce q9 σ3 H locs hq hP hD hS hc9 hv9 hk9 => ?_) (fun v σ3 H locs hq hP hD hS => hq.elim)
      obtain ⟨rfl, rfl⟩ := hq
      refine vx_catch (name := g_E2) hown (tableOf [(97, 106, 109, 40), (241, 250, 253, 40), (538, 560, 561, 40)]) ⟨672, 694, 695, 40⟩ (tableOf [(788, 799, 802, 40)]) (htab.trans rfl) (fun z hz => by simp only [tableOf, List.map_cons, List.map_nil, List.mem_cons, List.not_mem_nil, or_false] at hz; rcases hz with rfl | rfl | rfl <;> exact Or.inl (by decide)) (by decide) (by decide) (hts _ wl_L_40) (va_tabs rfl rfl (hE.2.2.1 (Cond.castable g_E2 g_E2) (by simp [g_NL]))) hc9 hv9 hk9 ?_
      refine W.eq (g2 := F0 m 695 ls [.ref q9]) rfl ?_
      refine W.widen (k := 5) (n := 30) (Nat.le_of_ble_eq_true rfl) (Nat.le_of_ble_eq_true rfl) ?_
      refine lv_astore (lv' := [(9, .ref q9), (7, .int (nI 0)), (8, .int (nI 0)), (5, .int (fdx_ (nZ Z w) (nm))), (4, .int nm), (3, .int (nI w)), (0, .ref (ad_ D 0)), (1, .ref (q 0)), (2, .int x)]) hx hb dL_act_695 hl (by decide) rfl (fun ls hl => ?_)
      refine lv_iload hx hb dL_act_697 (lv_at hl 2 rfl) ?_
      refine lv_if_ne (tgt := 706) hx hb dL_act_699 (by decide) (fun h699 => ?_) (fun h699 => ?_)
      · have hb699 := g_ne (a := 0) (b := 0) h699 (by omega) (by omega)
        omega
      · have hb699 := g_eq (a := 0) (b := 0) h699 (by omega) (by omega)
        refine lv_iconst (v := nI 1) hx hb dL_act_702 (by decide) ?_
        refine lv_goto (tgt := 707) hx hb dL_act_703 (by decide) ?_
        refine W.widen (k := 120) (n := 3000) (by omega) (by omega) ?_
        rw [← hQ]
        exact W.zret (v := nI 1) hx hb hr (by first | rfl | decide | (split <;> rfl)) (fun te9 hte9 _ => h_fin (⟨rfl, σ, q, Z, Ls, rfl, rfl, hC, hvC, hSZ⟩) hP hD hS hte9) hS.2.2 dL_act_707 hlocks
    · refine lv_iload hx hb dL_act_612 (lv_at hl 2 rfl) ?_
      refine lv_if_eq (tgt := 672) hx hb dL_act_614 (by decide) (fun h614 => ?_) (fun h614 => ?_)
      · refine lv_aload_n hx hb dL_act_672 rfl (lv_at hl 6 rfl) ?_
        refine lv_iload_n hx hb dL_act_673 rfl (lv_at hl 5 rfl) ?_
        refine lv_iload hx hb dL_act_674 (lv_at hl 4 rfl) ?_
        refine h_callVY (y := yX2_cut) (n := 2) (As := [.int (nI w), .int nm]) (rest := []) hx hb hml hown hts hE hZ hAD hP hD hS h_Asz hl.1 (x_cut l hst D hAD σ Ls hC hvC w nm hw hnm hno) k_L_67 (q0 := 0) (ci := 2) (by decide) hC.1 rfl rfl rfl rfl rfl ⟨Nat.le_of_ble_eq_true rfl, Nat.le_of_ble_eq_true rfl⟩ (Nat.le_of_ble_eq_true rfl) ⟨Nat.le_of_ble_eq_true rfl, Nat.le_of_ble_eq_true rfl⟩ dL_act_676 (fun E ce q9 σ3 H locs hq hP hD hS hc9 hv9 hk9 => ?_) (fun v σ3 H locs hq hP hD hS => hq.elim)
        obtain ⟨rfl, rfl⟩ := hq
        refine vx_catch (name := g_E2) hown (tableOf [(97, 106, 109, 40), (241, 250, 253, 40), (538, 560, 561, 40)]) ⟨672, 694, 695, 40⟩ (tableOf [(788, 799, 802, 40)]) (htab.trans rfl) (fun z hz => by simp only [tableOf, List.map_cons, List.map_nil, List.mem_cons, List.not_mem_nil, or_false] at hz; rcases hz with rfl | rfl | rfl <;> exact Or.inl (by decide)) (by decide) (by decide) (hts _ wl_L_40) (va_tabs rfl rfl (hE.2.2.1 (Cond.castable g_E2 g_E2) (by simp [g_NL]))) hc9 hv9 hk9 ?_
        refine W.eq (g2 := F0 m 695 ls [.ref q9]) rfl ?_
        refine W.widen (k := 5) (n := 30) (Nat.le_of_ble_eq_true rfl) (Nat.le_of_ble_eq_true rfl) ?_
        refine lv_astore (lv' := [(9, .ref q9), (7, .int (nI 0)), (8, .int (nI 0)), (5, .int (fdx_ (nZ Z w) (nm))), (4, .int nm), (3, .int (nI w)), (0, .ref (ad_ D 0)), (1, .ref (q 0)), (2, .int x)]) hx hb dL_act_695 hl (by decide) rfl (fun ls hl => ?_)
        refine lv_iload hx hb dL_act_697 (lv_at hl 2 rfl) ?_
        refine lv_if_ne (tgt := 706) hx hb dL_act_699 (by decide) (fun h699 => ?_) (fun h699 => ?_)
        · have hb699 := g_ne (a := 0) (b := 0) h699 (by omega) (by omega)
          omega
        · have hb699 := g_eq (a := 0) (b := 0) h699 (by omega) (by omega)
          refine lv_iconst (v := nI 1) hx hb dL_act_702 (by decide) ?_
          refine lv_goto (tgt := 707) hx hb dL_act_703 (by decide) ?_
          refine W.widen (k := 120) (n := 3000) (by omega) (by omega) ?_
          rw [← hQ]
          exact W.zret (v := nI 1) hx hb hr (by first | rfl | decide | (split <;> rfl)) (fun te9 hte9 _ => h_fin (⟨rfl, σ, q, Z, Ls, rfl, rfl, hC, hvC, hSZ⟩) hP hD hS hte9) hS.2.2 dL_act_707 hlocks
      · exact absurd rfl h614
  · have hb583 := g_eq (a := ((nZ Z) ((1 - w))).length) (b := 0) h583 (by omega) (by omega)
    have ho0 : (Ls (1 - w)).length = 0 := by omega
    have hZ0 : Z (1 - w) = [] := List.length_eq_zero_iff.mp (by omega)
    have hnd : ((Z w).map Prod.fst).Nodup := ((hSZ w hw).map Prod.fst).symm.nodup (vL_nd hvw)
    refine lv_iconst (v := nI 1) hx hb dL_act_586 (by decide) ?_
    refine lv_goto (tgt := 591) hx hb dL_act_587 (by decide) ?_
    refine lv_istore (lv' := [(8, .int (nI 1)), (5, .int (fdx_ (nZ Z w) (nm))), (4, .int nm), (3, .int (nI w)), (0, .ref (ad_ D 0)), (1, .ref (q 0)), (2, .int x)]) hx hb dL_act_591 hl (by decide) rfl (fun ls hl => ?_)
    refine lv_iconst (v := nI 0) hx hb dL_act_593 (by decide) ?_
    refine lv_istore (lv' := [(7, .int (nI 0)), (8, .int (nI 1)), (5, .int (fdx_ (nZ Z w) (nm))), (4, .int nm), (3, .int (nI w)), (0, .ref (ad_ D 0)), (1, .ref (q 0)), (2, .int x)]) hx hb dL_act_594 hl (by decide) rfl (fun ls hl => ?_)
    refine lv_aload_n hx hb dL_act_596 rfl (lv_at hl 6 rfl) ?_
    refine h_get (w := (g_W D σ)) (xs := (h_SW D q ((nZ Z)) ((mZ Z)))) (i := 0) hx hb hts hE hown hP rfl 0 (by decide) rfl wf_L_16 (v := .ref (q 1)) rfl dL_act_597 ?_
    refine lv_iload_n hx hb dL_act_600 rfl (lv_at hl 4 rfl) ?_
    refine h_ald (w := (g_W D σ)) (xs := (h_SW D q ((nZ Z)) ((mZ Z)))) (i := 1) (q := q) (o := 3) (j := w) hx hb hE hP rfl (by omega) dL_act_601 ?_
    refine h_aln (w := (g_W D σ)) (xs := (h_SW D q ((nZ Z)) ((mZ Z)))) (i := (3 + w)) (R := (nZ Z) w) hx hb hE hP (h_SWn hw) dL_act_602 ?_
    refine lv_iconst (v := nI 1) hx hb dL_act_603 (by decide) ?_
    refine lv_isub hx hb dL_act_604 ?_
    refine g_top (y := bk_ (Z w).length) (by rw [bk_len, hwn]) ?_
    have hc0 : (ctO (Z w) nm (Z w).length).length = 0 := by rw [(ct_all (Nat.le_refl _)).2]; rfl
    have hl : lv_has ls 15 [(7, .int (nI ((ctO (Z w) nm (Z w).length).length))), (8, .int (nI 1)), (5, .int (fdx_ (nZ Z w) (nm))), (4, .int nm), (3, .int (nI w)), (0, .ref (ad_ D 0)), (1, .ref (q 0)), (2, .int x)] := by rw [hc0]; exact hl
    refine lv_istore (lv' := [(9, .int (bk_ (Z w).length)), (7, .int (nI ((ctO (Z w) nm (Z w).length).length))), (8, .int (nI 1)), (5, .int (fdx_ (nZ Z w) (nm))), (4, .int nm), (3, .int (nI w)), (0, .ref (ad_ D 0)), (1, .ref (q 0)), (2, .int x)]) hx hb dL_act_605 hl (by decide) rfl (fun ls hl => ?_)
    have K607 : ∀ (fuel607 : Nat) (j : Nat) (q2 : Nat → Nat) (Z2 : g_Z), (j) < fuel607 → (j ≤ (Z w).length) → (q2 0 = q 0) → (Z2 w = (ctB (Z w) nm j)) → ((Z2 (1 - w)).Perm (ctO (Z w) nm j)) → ∀ (H : Heap) (locs : List Loc), va_P D vwCl ((g_W D σ) ++ (h_SW D q2 ((nZ Z2)) ((mZ Z2)))) H → va_D (va_A (((g_W D σ) ++ (h_SW D q ((nZ Z)) ((mZ Z))))) s.heap.size) ((g_W D σ) ++ (h_SW D q2 ((nZ Z2)) ((mZ Z2)))) → va_S (va_A (((g_W D σ) ++ (h_SW D q ((nZ Z)) ((mZ Z))))) s.heap.size) s.heap H locs → ∀ ls : Array Slot, lv_has ls 15 [(9, .int (bk_ j)), (8, .int (nI 1)), (7, .int (nI ((ctO (Z w) nm j).length))), (5, .int (fdx_ (nZ Z w) (nm))), (4, .int nm), (3, .int (nI w)), (0, .ref (ad_ D 0)), (1, .ref (q2 0)), (2, .int x)] → W p l e m_L_act_rm s m args below meth c H locs (4 * ((Z w).length - j)) (98 * ((Z w).length - j)) Q (F0 m 607 ls []) := by
      intro fuel607
      induction fuel607 with
      | zero => intro j q2 Z2 hf; exact absurd hf (Nat.not_lt_zero _)
      | succ fuel607 ih607 =>
        intro j q2 Z2 hf607 hj hq2 hZw hZo H locs hP hD hS ls hl
        refine lv_iload hx hb dL_act_607 (lv_at hl 0 rfl) ?_
        refine lv_if_lt (tgt := 672) hx hb dL_act_609 (by decide) (fun h609 => ?_) (fun h609 => ?_)
        · have hj0 := bk_neg2 (by omega) h609
          subst hj0
          have hl : lv_has ls 15 [(9, .int (bk_ 0)), (8, .int (nI 1)), (7, .int (nI ((ctO (Z w) nm 0).length))), (5, .int (fdx_ (nZ Z w) (nm))), (4, .int nm), (3, .int (nI w)), (0, .ref (ad_ D 0)), (1, .ref (q2 0)), (2, .int x)] := hl
          have hdl : (ct_ (Ls w) (Ls (1 - w)) (rk_ (Ls w) nm) ((Ls w).length - rk_ (Ls w) nm)).length = (ctO (Z w) nm 0).length := by rw [ct_drop hvw (rk_le _ _) ho0, (tk_fl hvw).2, ct_0.2]; exact ((hSZ w hw).filter _).symm.length_eq
          refine lv_aload_n hx hb dL_act_672 rfl (lv_at hl 6 rfl) ?_
          refine lv_iload_n hx hb dL_act_673 rfl (lv_at hl 5 rfl) ?_
          refine lv_iload hx hb dL_act_674 (lv_at hl 4 rfl) ?_
          refine h_callV (y := yX2_cut) (n := 2) (As := [.int (nI w), .int nm]) (rest := []) hx hb hml hown hts hE hZ hS hl.1 ((n_cut l hst D hAD σ Ls hC hvC w nm hw hnm ho0).h hAD) h_P0 (h_prf hP) (h_AP hD hS h_Asz) (fun _ _ _ => trivial) (h_jP hP hD (h_AP hD hS h_Asz)) k_L_67 (wr := (g_W D σ)) (q0 := 0) (ci := 2) (h_prf hP) (g_at (by decide) hC.1) rfl rfl rfl rfl ⟨Nat.le_of_ble_eq_true rfl, Nat.le_of_ble_eq_true rfl⟩ (Nat.le_of_ble_eq_true rfl) ⟨by show (4 * ((Z w).length - 0)) + 5 ≤ 120; omega, by show (98 * ((Z w).length - 0)) + 30 ≤ 3000; omega⟩ dL_act_676 (fun v3 w1 H locs hq hP hD hS => ?_)
          obtain ⟨σ_1, ⟨rfl, hC_2⟩, rfl⟩ := hq
          have hP : va_P D vwCl ((g_W D σ_1) ++ (h_SW D q2 ((nZ Z2)) ((mZ Z2)))) H := hP
          have hD : va_D (va_A (((g_W D σ) ++ (h_SW D q ((nZ Z)) ((mZ Z))))) s.heap.size) ((g_W D σ_1) ++ (h_SW D q2 ((nZ Z2)) ((mZ Z2)))) := hD
          refine W.widen (k := ((4 * ((Z w).length - 0)) + 5)) (n := ((98 * ((Z w).length - 0)) + 30)) (Nat.le_refl _) (Nat.le_refl _) ?_
          refine W.eq (g2 := F0 m 679 ls [.int (nI ((ct_ (Ls w) (Ls (1 - w)) (rk_ (Ls w) nm) ((Ls w).length - rk_ (Ls w) nm)).length))]) rfl ?_
          have hSZ4 : SZ_ (ul_ (ul_ Ls w ((Ls w).take (rk_ (Ls w) nm))) (1 - w) (ct_ (Ls w) (Ls (1 - w)) (rk_ (Ls w) nm) ((Ls w).length - rk_ (Ls w) nm))) Z2 := SZ_two hw (by rw [hZw, ct_0.1, (tk_fl hvw).1]; exact (hSZ w hw).filter _) (by rw [ct_drop hvw (rk_le _ _) ho0, (tk_fl hvw).2]; refine hZo.trans ?_; rw [ct_0.2]; exact (hSZ w hw).filter _)
          have hvC5 := vC_cut hvC hw (rk_le (Ls w) nm) ho0
          refine g_top (y := nI ((ctO (Z w) nm 0).length)) (by rw [hdl]) ?_
          refine lv_iload hx hb dL_act_679 (lv_at hl 2 rfl) ?_
          refine lv_icmp_ne (tgt := 693) hx hb dL_act_681 (by decide) (fun h681 => ?_) (fun h681 => ?_)
          · exact absurd rfl h681
          · refine lv_iload hx hb dL_act_684 (lv_at hl 1 rfl) ?_
            refine lv_if_eq (tgt := 693) hx hb dL_act_686 (by decide) (fun h686 => ?_) (fun h686 => ?_)
            · have hb686 := g_eq (a := 1) (b := 0) h686 (by omega) (by omega)
              omega
            · have hb686 := g_ne (a := 1) (b := 0) h686 (by omega) (by omega)
              refine lv_iconst (v := nI 1) hx hb dL_act_689 (by decide) ?_
              refine lv_goto (tgt := 694) hx hb dL_act_690 (by decide) ?_
              refine W.widen (k := 120) (n := 3000) (by omega) (by omega) ?_
              rw [← hQ]
              exact W.zret (v := nI 1) hx hb hr (by first | rfl | decide | (split <;> rfl)) (fun te9 hte9 _ => h_fin (⟨rfl, σ_1, q2, Z2, (ul_ (ul_ Ls w ((Ls w).take (rk_ (Ls w) nm))) (1 - w) (ct_ (Ls w) (Ls (1 - w)) (rk_ (Ls w) nm) ((Ls w).length - rk_ (Ls w) nm))), rfl, hq2, hC_2, hvC5, hSZ4⟩) hP hD hS hte9) hS.2.2 dL_act_694 hlocks
        · obtain ⟨i, rfl⟩ := bk_pos h609
          have hl : lv_has ls 15 [(9, .int (nI i)), (8, .int (nI 1)), (7, .int (nI ((ctO (Z w) nm (i + 1)).length))), (5, .int (fdx_ (nZ Z w) (nm))), (4, .int nm), (3, .int (nI w)), (0, .ref (ad_ D 0)), (1, .ref (q2 0)), (2, .int x)] := hl
          have hiz : i < (Z w).length := by omega
          have hbl := ctB_lt (x := nm) hiz
          have hble := ctB_le (A := Z w) (x := nm) (j := i + 1)
          have hole := ctO_le (A := Z w) (x := nm) (j := i + 1)
          have hn2w : (nZ Z2 w).length = (ctB (Z w) nm (i + 1)).length := by rw [nZ_len, hZw]
          have hm2w : (mZ Z2 w).length = (ctB (Z w) nm (i + 1)).length := by rw [mZ_len, hZw]
          have h2o := hZo.length_eq
          have hX9 : ((nZ Z2) w).getD i 0 = ((Z w)[i]).1 := by unfold nZ; rw [gd_fst (by rw [hZw]; omega)]; simp only [hZw]; rw [ctB_at hiz]
          have hY9 : ((mZ Z2) w).getD i 0 = ((Z w)[i]).2 := by unfold mZ; rw [gd_snd (by rw [hZw]; omega)]; simp only [hZw]; rw [ctB_at hiz]
          refine lv_iload hx hb dL_act_612 (lv_at hl 1 rfl) ?_
          refine lv_if_eq (tgt := 672) hx hb dL_act_614 (by decide) (fun h614 => ?_) (fun h614 => ?_)
          · have hb614 := g_eq (a := 1) (b := 0) h614 (by omega) (by omega)
            omega
          · have hb614 := g_ne (a := 1) (b := 0) h614 (by omega) (by omega)
            refine lv_aload_n hx hb dL_act_617 rfl (lv_at hl 7 rfl) ?_
            refine h_get (w := (g_W D σ)) (xs := (h_SW D q2 ((nZ Z2)) ((mZ Z2)))) (i := 0) hx hb hts hE hown hP rfl 0 (by decide) rfl wf_L_16 (v := .ref (q2 1)) rfl dL_act_618 ?_
            refine lv_iload_n hx hb dL_act_621 rfl (lv_at hl 5 rfl) ?_
            refine h_ald (w := (g_W D σ)) (xs := (h_SW D q2 ((nZ Z2)) ((mZ Z2)))) (i := 1) (q := q2) (o := 3) (j := w) hx hb hE hP rfl (by omega) dL_act_622 ?_
            refine lv_iload hx hb dL_act_623 (lv_at hl 0 rfl) ?_
            refine h_ild (w := (g_W D σ)) (xs := (h_SW D q2 ((nZ Z2)) ((mZ Z2)))) (i := (3 + w)) (R := (nZ Z2) w) (j := i) hx hb hE hP (h_SWn hw) (by omega) (by omega) (v := ((nZ Z2) w).getD i 0) (rfl) dL_act_625 ?_
            refine lv_istore (lv' := [(10, .int (((nZ Z2) w).getD i 0)), (9, .int (nI i)), (8, .int (nI 1)), (7, .int (nI ((ctO (Z w) nm (i + 1)).length))), (5, .int (fdx_ (nZ Z w) (nm))), (4, .int nm), (3, .int (nI w)), (0, .ref (ad_ D 0)), (1, .ref (q2 0)), (2, .int x)]) hx hb dL_act_626 hl (by decide) rfl (fun ls hl => ?_)
            refine lv_iload hx hb dL_act_628 (lv_at hl 0 rfl) ?_
            refine lv_iload hx hb dL_act_630 (lv_at hl 5 rfl) ?_
            refine lv_icmp_ge (tgt := 638) hx hb dL_act_632 (by decide) (fun h632 => ?_) (fun h632 => ?_)
            · have hgo : ¬ ((Z w)[i]).1 < nm := by rw [← hX9]; exact Int32.not_lt.mpr h632
              refine lv_aload_n hx hb dL_act_638 rfl (lv_at hl 8 rfl) ?_
              refine lv_iconst (v := nI 1) hx hb dL_act_639 (by decide) ?_
              refine lv_iload_n hx hb dL_act_640 rfl (lv_at hl 6 rfl) ?_
              refine lv_isub hx hb dL_act_641 ?_
              refine g_top (y := nI (1 - w)) (pk_sub (by omega)) ?_
              refine lv_iload hx hb dL_act_642 (lv_at hl 0 rfl) ?_
              refine lv_aload_n hx hb dL_act_644 rfl (lv_at hl 8 rfl) ?_
              refine h_get (w := (g_W D σ)) (xs := (h_SW D q2 ((nZ Z2)) ((mZ Z2)))) (i := 0) hx hb hts hE hown hP rfl 1 (by decide) rfl wf_L_29 (v := .ref (q2 2)) rfl dL_act_645 ?_
              refine lv_iload_n hx hb dL_act_648 rfl (lv_at hl 6 rfl) ?_
              refine h_ald (w := (g_W D σ)) (xs := (h_SW D q2 ((nZ Z2)) ((mZ Z2)))) (i := 2) (q := q2) (o := 5) (j := w) hx hb hE hP rfl (by omega) dL_act_649 ?_
              refine lv_iload hx hb dL_act_650 (lv_at hl 1 rfl) ?_
              refine h_ild (w := (g_W D σ)) (xs := (h_SW D q2 ((nZ Z2)) ((mZ Z2)))) (i := (5 + w)) (R := (mZ Z2) w) (j := i) hx hb hE hP (h_SWm hw) (by omega) (by omega) (v := ((mZ Z2) w).getD i 0) (rfl) dL_act_652 ?_
              refine h_callV (y := yX3_put) (n := 3) (As := [.int (nI (1 - w)), .int (((nZ Z2) w).getD i 0), .int (((mZ Z2) w).getD i 0)]) (rest := []) hx hb hml hown hts hE hZ hS hl.1 (z_put l D q2 Z2 (1 - w) (((nZ Z2) w).getD i 0) (((mZ Z2) w).getD i 0) (by omega) (by omega) (h_DT hD)) h_P0 (h_suf hP) (h_AS hD hS h_Asz) (fun _ _ _ => trivial) (h_jS hP hD (h_AS hD hS h_Asz)) k_L_60 (wr := h_SW D q2 ((nZ Z2)) ((mZ Z2))) (q0 := 0) (ci := 3) (h_suf hP) (rfl) rfl rfl rfl rfl ⟨Nat.le_of_ble_eq_true rfl, Nat.le_of_ble_eq_true rfl⟩ (Nat.le_of_ble_eq_true rfl) ⟨by show (4 * ((Z w).length - (i + 1))) + 2 ≤ 120; omega, by show (98 * ((Z w).length - (i + 1))) + 50 ≤ 3000; omega⟩ dL_act_653 (fun v10 w1 H locs hq hP hD hS => ?_)
              obtain ⟨rfl, qz6, hqz7, rfl⟩ := hq
              rw [← hqz7] at hl
              obtain ⟨Zz8, hZz9⟩ : ∃ z, z = va_up Z2 (1 - w) (pZ (Z2 (1 - w)) (((nZ Z2) w).getD i 0) (((mZ Z2) w).getD i 0)) := ⟨_, rfl⟩
              rw [← hZz9] at hP hD
              have hP : va_P D vwCl ((g_W D σ) ++ (h_SW D qz6 ((nZ Zz8)) ((mZ Zz8)))) H := hP
              have hD : va_D (va_A (((g_W D σ) ++ (h_SW D q ((nZ Z)) ((mZ Z))))) s.heap.size) ((g_W D σ) ++ (h_SW D qz6 ((nZ Zz8)) ((mZ Zz8)))) := hD
              refine W.widen (k := ((4 * ((Z w).length - (i + 1))) + 2)) (n := ((98 * ((Z w).length - (i + 1))) + 50)) (Nat.le_refl _) (Nat.le_refl _) ?_
              refine W.eq (g2 := F0 m 656 ls []) rfl ?_
              refine lv_aload_n hx hb dL_act_656 rfl (lv_at hl 8 rfl) ?_
              refine lv_iload_n hx hb dL_act_657 rfl (lv_at hl 6 rfl) ?_
              refine lv_iload hx hb dL_act_658 (lv_at hl 0 rfl) ?_
              have hZ3w : Zz8 w = (ctB (Z w) nm (i + 1)) := by rw [hZz9]; exact (up_ot2 hw).trans hZw
              have hZ3l : (Zz8 w).length ≤ 24 := by rw [hZ3w]; omega
              have hn3l : (nZ Zz8 w).length = (ctB (Z w) nm (i + 1)).length := by rw [nZ_len, hZ3w]
              have hix : ix9 (nZ Zz8 w) (((nZ Z2) w).getD i 0) = i := by unfold nZ; rw [hZ3w]; exact (congrArg (ix9 _) hX9).trans (ct_ix hnd hiz)
              refine h_callV (y := yX3_take) (n := 2) (As := [.int (nI w), .int (((nZ Z2) w).getD i 0)]) (rest := []) hx hb hml hown hts hE hZ hS hl.1 (z_take l D qz6 Zz8 w (((nZ Z2) w).getD i 0) hw (by omega) (by rw [hix]; omega) (h_DT hD)) h_P0 (h_suf hP) (h_AS hD hS h_Asz) (fun _ _ _ => trivial) (h_jS hP hD (h_AS hD hS h_Asz)) k_L_32 (wr := h_SW D qz6 ((nZ Zz8)) ((mZ Zz8))) (q0 := 0) (ci := 3) (h_suf hP) (rfl) rfl rfl rfl rfl ⟨Nat.le_of_ble_eq_true rfl, Nat.le_of_ble_eq_true rfl⟩ (Nat.le_of_ble_eq_true rfl) ⟨by show ((4 * ((Z w).length - (i + 1))) + 2) + 2 ≤ 120; omega, by show ((98 * ((Z w).length - (i + 1))) + 50) + 48 ≤ 3000; omega⟩ dL_act_660 (fun v15 w1 H locs hq hP hD hS => ?_)
              obtain ⟨rfl, qz11, hqz12, rfl⟩ := hq
              rw [← hqz12] at hl
              obtain ⟨Zz13, hZz14⟩ : ∃ z, z = va_up Zz8 w ((Zz8 w).eraseIdx (ix9 (nZ Zz8 w) (((nZ Z2) w).getD i 0))) := ⟨_, rfl⟩
              rw [← hZz14] at hP hD
              have hP : va_P D vwCl ((g_W D σ) ++ (h_SW D qz11 ((nZ Zz13)) ((mZ Zz13)))) H := hP
              have hD : va_D (va_A (((g_W D σ) ++ (h_SW D q ((nZ Z)) ((mZ Z))))) s.heap.size) ((g_W D σ) ++ (h_SW D qz11 ((nZ Zz13)) ((mZ Zz13)))) := hD
              refine W.widen (k := (((4 * ((Z w).length - (i + 1))) + 2) + 2)) (n := (((98 * ((Z w).length - (i + 1))) + 50) + 48)) (Nat.le_refl _) (Nat.le_refl _) ?_
              refine W.eq (g2 := F0 m 663 ls []) rfl ?_
              refine lv_iinc (v := nI ((ctO (Z w) nm (i + 1)).length + 1)) (lv' := [(7, .int (nI ((ctO (Z w) nm (i + 1)).length + 1))), (10, .int (((nZ Z2) w).getD i 0)), (9, .int (nI i)), (8, .int (nI 1)), (5, .int (fdx_ (nZ Z w) (nm))), (4, .int nm), (3, .int (nI w)), (0, .ref (ad_ D 0)), (1, .ref (qz11 0)), (2, .int x)]) hx hb dL_act_663 hl (k := 3) rfl (g_inc ((ctO (Z w) nm (i + 1)).length)) (by decide) rfl (fun ls hl => ?_)
              refine lv_iinc (v := bk_ i) (lv' := [(9, .int (bk_ i)), (7, .int (nI ((ctO (Z w) nm (i + 1)).length + 1))), (10, .int (((nZ Z2) w).getD i 0)), (8, .int (nI 1)), (5, .int (fdx_ (nZ Z w) (nm))), (4, .int nm), (3, .int (nI w)), (0, .ref (ad_ D 0)), (1, .ref (qz11 0)), (2, .int x)]) hx hb dL_act_666 hl (k := 2) rfl (bk_dec i) (by decide) rfl (fun ls hl => ?_)
              refine lv_goto (tgt := 607) hx hb dL_act_669 (by decide) ?_
              have hol : (ctO (Z w) nm i).length = (ctO (Z w) nm (i + 1)).length + 1 := by rw [(ct_go hiz hgo).2, List.length_cons]
              rw [← hol] at hl
              refine W.widen (k := (4 * ((Z w).length - i))) (n := (98 * ((Z w).length - i))) (by omega) (by omega) ?_
              exact ih607 i qz11 Zz13 (by omega) (by omega) ((hqz12.trans (hqz7.trans hq2))) (by rw [hZz14, up_at, hix, hZ3w]; exact (ct_go hiz hgo).1) (by rw [hZz14, up_ot hw, hZz9, up_at, (ct_go hiz hgo).2]; exact cut_put hZo (ct_new hnd hiz) hX9 hY9) _ _ hP hD hS ls (lv_sub hl [0, 3, 1, 4, 5, 6, 7, 8, 9] rfl)
            · have hkp : ((Z w)[i]).1 < nm := by rw [← hX9]; exact Int32.not_le.mp h632
              refine lv_goto (tgt := 666) hx hb dL_act_635 (by decide) ?_
              refine lv_iinc (v := bk_ i) (lv' := [(9, .int (bk_ i)), (10, .int (((nZ Z2) w).getD i 0)), (8, .int (nI 1)), (7, .int (nI ((ctO (Z w) nm (i + 1)).length))), (5, .int (fdx_ (nZ Z w) (nm))), (4, .int nm), (3, .int (nI w)), (0, .ref (ad_ D 0)), (1, .ref (q2 0)), (2, .int x)]) hx hb dL_act_666 hl (k := 1) rfl (bk_dec i) (by decide) rfl (fun ls hl => ?_)
              refine lv_goto (tgt := 607) hx hb dL_act_669 (by decide) ?_
              rw [(ct_keep hiz hkp).2] at hl
              refine W.widen (k := (4 * ((Z w).length - i))) (n := (98 * ((Z w).length - i))) (by omega) (by omega) ?_
              exact ih607 i q2 Z2 (by omega) (by omega) hq2 (hZw.trans (ct_keep hiz hkp).1) (by rw [← (ct_keep hiz hkp).2]; exact hZo) _ _ hP hD hS ls (lv_sub hl [0, 2, 3, 4, 5, 6, 7, 8, 9] rfl)
    refine W.widen (k := (4 * ((Z w).length - ((Z w).length)))) (n := (98 * ((Z w).length - ((Z w).length)))) (by omega) (by omega) ?_
    exact K607 ((((Z w).length)) + 1) ((Z w).length) q Z (Nat.lt_succ_self _) (Nat.le_refl _) rfl ((ct_all (Nat.le_refl _)).1.symm) (by rw [hZ0, (ct_all (Nat.le_refl _)).2]) _ _ hP hD hS ls (lv_sub hl [0, 2, 1, 3, 4, 5, 6, 7, 8] rfl)
