theorem h_apE {A : Nat → Prop} {w xs : va_W} (hD : va_D A (w ++ xs)) : h_ap xs w := fun i j p q hi hj e => by
  have hjl := (List.getElem?_eq_some_iff.mp hj).1
  have := hD.1 (w.length + i) j p q (by rw [List.getElem?_append_right (by omega), Nat.add_sub_cancel_left]; exact hi) (by rw [List.getElem?_append_left hjl]; exact hj) e
  omega
set_option maxHeartbeats 4000000 in
set_option maxRecDepth 100000 in
theorem lw_main {p : Program} {l : Launch} {e : Env} {s : State} {m : MethodId} {args : Array Value} {below : List Frame} {meth : Method} {c : Code} {H : Heap} {locs : List Loc} {Q : State → Prop} {A : Nat → Prop} {D : va_G} {σ : Nat → va_E} {b L : Nat} {xs : Nat → Int32} (hst : l.stackTraces = false) (hAD : g_AD D) (hx : p.tables.exec = Jvm.exec) (hb : c.code = cL_law) (hml : c.maxLocals = 15) (hown : s.vm.findClass RL = some m.cls) (hts : ∀ w ∈ g_WA, w.before args s = true) (hE : g_EV D s) (hZ : g_EZ A s s.heap) (hX1 : va_X b L xs s s.heap) (hX2 : b < s.heap.size) (hX3 : ¬ A b) (hL : L ≤ 260) (hO : g_O s) (hAs : ∀ q, s.heap.size ≤ q → A q) (hC : g_C D σ (fun _ => [])) (hP : va_P D vwCl (g_W D σ) H) (hD : va_D A (g_W D σ)) (hS : va_S A s.heap H locs) (kend : ∀ (H : Heap) (locs : List Loc) (cells slots : Nat) (ls : Array Slot), cells ≤ 510000 → slots ≤ 6100000 → va_S A s.heap H locs → W p l e room_1 s m args below meth c H locs cells slots Q (F0 m 1115 ls [.int (nI 1)])) {ls : Array Slot} (hl : lv_has ls 15 [(1, .ref (ad_ D 0)), (0, .ref b)]) : W p l e room_1 s m args below meth c H locs 20 1166 Q (F0 m 8 ls []) := by
  refine lv_aload_n hx hb dL_law_8 rfl (lv_at hl 0 rfl) ?_
  refine lv_aload_n hx hb dL_law_9 rfl (lv_at hl 1 rfl) ?_
  refine h_callSO (y := yL_build) (n := 2) (As := [.ref (ad_ D 0), .ref b]) (rest := []) hx hb hml hown hts hE hZ hS hl.1 hO (m_L_build l hst D hAD σ b L xs hC hL) h_P0 hP (h_AA hD hS hAs) (h_Xc hX1 hX2 hX3 hS (h_AA hD hS hAs)) (h_jA (h_AA hD hS hAs)) k_L_79 rfl rfl ⟨Nat.le_of_ble_eq_true rfl, Nat.le_of_ble_eq_true rfl⟩ (Nat.le_of_ble_eq_true rfl) ⟨Nat.le_of_ble_eq_true rfl, Nat.le_of_ble_eq_true rfl⟩ dL_law_10 (fun v w1 H locs hq hP hD hS => ?_)
  obtain ⟨σ1, q1, Z1, Ls1, rfl, rfl, hC1, hvC1, hSZ1⟩ := hq
  have hP : va_P D vwCl ((g_W D σ1) ++ (h_SW D q1 ((nZ Z1)) ((mZ Z1)))) H := hP
  have hD : va_D A ((g_W D σ1) ++ (h_SW D q1 ((nZ Z1)) ((mZ Z1)))) := hD
  refine W.widen (k := 320) (n := 4166) (Nat.le_of_ble_eq_true rfl) (Nat.le_of_ble_eq_true rfl) ?_
  refine W.eq (g2 := F0 m 13 ls [.ref (q1 0)]) rfl ?_
  refine lv_astore_n (lv' := [(2, .ref (q1 0)), (1, .ref (ad_ D 0)), (0, .ref b)]) hx hb dL_law_13 rfl hl (by decide) rfl (fun ls hl => ?_)
  refine lv_aload_n hx hb dL_law_14 rfl (lv_at hl 0 rfl) ?_
  refine lv_ifnonnull (tgt := 20) hx hb dL_law_15 (by decide) ?_
  refine lv_iconst (v := nI 0) hx hb dL_law_20 (by decide) ?_
  refine lv_istore_n (lv' := [(3, .int (nI 0)), (2, .ref (q1 0)), (1, .ref (ad_ D 0)), (0, .ref b)]) hx hb dL_law_21 rfl hl (by decide) rfl (fun ls hl => ?_)
  have K22 : ∀ (fuel22 : Nat) (t : Nat) (σ2 : Nat → va_E) (q2 : Nat → Nat) (Z2 : g_Z) (Ls2 : Nat → g_L), (10 - t) < fuel22 → (t ≤ 10) → (g_C D σ2 Ls2) → (vC_ Ls2) → (SZ_ Ls2 Z2) → ∀ (H : Heap) (locs : List Loc), va_P D vwCl ((g_W D σ2) ++ (h_SW D q2 ((nZ Z2)) ((mZ Z2)))) H → va_D A ((g_W D σ2) ++ (h_SW D q2 ((nZ Z2)) ((mZ Z2)))) → va_S A s.heap H locs → ∀ ls : Array Slot, lv_has ls 15 [(3, .int (nI t)), (0, .ref b), (1, .ref (ad_ D 0)), (2, .ref (q2 0))] → W p l e room_1 s m args below meth c H locs (330 + 33400 * t) (4200 + 206700 * t) Q (F0 m 22 ls []) := by
    intro fuel22
    induction fuel22 with
    | zero => intro t σ2 q2 Z2 Ls2 hf; exact absurd hf (Nat.not_lt_zero _)
    | succ fuel22 ih22 =>
      intro t σ2 q2 Z2 Ls2 hf22 ht hC2 hvC2 hSZ2 H locs hP hD hS ls hl
      refine lv_iload_n hx hb dL_law_22 rfl (lv_at hl 0 rfl) ?_
      refine lv_bipush (v := nI 10) hx hb dL_law_23 (by decide) ?_
      refine lv_icmp_ge (tgt := 1110) hx hb dL_law_25 (by decide) (fun h25 => ?_) (fun h25 => ?_)
      · have hb25 := g_le (a := 10) (b := t) h25 (by omega) (by omega)
        refine lv_aload_n hx hb dL_law_1110 rfl (lv_at hl 3 rfl) ?_
        refine lv_aload_n hx hb dL_law_1111 rfl (lv_at hl 2 rfl) ?_
        refine h_callV (y := yX3_isSame) (n := 1) (As := [.ref (ad_ D 0)]) (rest := []) hx hb hml hown hts hE hZ hS hl.1 (m_X3_isSame l hst D hAD σ2 Ls2 q2 ((nZ Z2)) ((mZ Z2)) hC2 hvC2 (SZ_R hSZ2) (h_apE hD)) (h_suf hP) (h_prf hP) (h_AP hD hS hAs) (fun _ _ _ => trivial) (h_jP hP hD (h_AP hD hS hAs)) k_L_134 (wr := h_SW D q2 ((nZ Z2)) ((mZ Z2))) (q0 := 0) (ci := 3) (h_suf hP) (rfl) rfl rfl rfl rfl ⟨Nat.le_of_ble_eq_true rfl, Nat.le_of_ble_eq_true rfl⟩ (Nat.le_of_ble_eq_true rfl) ⟨Nat.le_trans (show (330 + 33400 * t) + 4200 ≤ 510000 by omega) rC_, Nat.le_trans (show (4200 + 206700 * t) + 30000 ≤ 6100000 by omega) rS_⟩ dL_law_1112 (fun v3 w1 H locs hq hP hD hS => ?_)
        obtain ⟨rfl, σ_1, rfl, hC_2⟩ := hq
        have hP : va_P D vwCl ((g_W D σ_1) ++ (h_SW D q2 ((nZ Z2)) ((mZ Z2)))) H := hP
        have hD : va_D A ((g_W D σ_1) ++ (h_SW D q2 ((nZ Z2)) ((mZ Z2)))) := hD
        refine W.widen (k := ((330 + 33400 * t) + 4200)) (n := ((4200 + 206700 * t) + 30000)) (Nat.le_refl _) (Nat.le_refl _) ?_
        refine W.eq (g2 := F0 m 1115 ls [.int (nI 1)]) rfl ?_
        exact kend H locs (((330 + 33400 * t) + 4200)) (((4200 + 206700 * t) + 30000)) ls (by omega) (by omega) hS
      · have hb25 := g_nle (a := 10) (b := t) h25 (by omega) (by omega)
        refine lv_aload_n hx hb dL_law_28 rfl (lv_at hl 1 rfl) ?_
        refine lv_iload_n hx hb dL_law_29 rfl (lv_at hl 0 rfl) ?_
        refine h_callS (y := yL_cell) (n := 2) (As := [.ref b, .int (nI t)]) (rest := []) hx hb hml hown hts hE hZ hS hl.1 (m_L_cell l D b L xs t hL (by omega)) h_P0 h_P0 (h_Anil hS hAs) (h_Xc hX1 hX2 hX3 hS (h_Anil hS hAs)) (h_jR hP hD (h_Anil hS hAs)) k_L_74 rfl rfl ⟨Nat.le_of_ble_eq_true rfl, Nat.le_of_ble_eq_true rfl⟩ (Nat.le_of_ble_eq_true rfl) ⟨Nat.le_trans (show (330 + 33400 * t) + 0 ≤ 510000 by omega) rC_, Nat.le_trans (show (4200 + 206700 * t) + 0 ≤ 6100000 by omega) rS_⟩ dL_law_30 (fun v5 w1 H locs hq hP hD hS => ?_)
        obtain ⟨cx4, rfl, rfl⟩ := hq
        rw [List.append_nil] at hP hD
        have hP : va_P D vwCl ((g_W D σ2) ++ (h_SW D q2 ((nZ Z2)) ((mZ Z2)))) H := hP
        have hD : va_D A ((g_W D σ2) ++ (h_SW D q2 ((nZ Z2)) ((mZ Z2)))) := hD
        refine W.widen (k := ((330 + 33400 * t) + 0)) (n := ((4200 + 206700 * t) + 0)) (Nat.le_refl _) (Nat.le_refl _) ?_
        refine W.eq (g2 := F0 m 33 ls [.int cx4]) rfl ?_
        refine lv_iconst (v := nI 2) hx hb dL_law_33 (by decide) ?_
        refine lv_ishr hx hb dL_law_34 ?_
        refine lv_bipush (v := nI 53) hx hb dL_law_35 (by decide) ?_
        refine lv_iload_n hx hb dL_law_37 rfl (lv_at hl 0 rfl) ?_
        refine lv_imul hx hb dL_law_38 ?_
        refine g_top (y := nI (53 * t)) (pk_mul 53 t) ?_
        refine lv_iadd hx hb dL_law_39 ?_
        obtain ⟨xx, hxx⟩ : ∃ z : Int32, z = (cx4 >>> ((nI 2) &&& 31)) + (nI (53 * t)) := ⟨_, rfl⟩
        refine g_top (y := xx) hxx.symm ?_
        refine lv_istore (lv' := [(4, .int xx), (3, .int (nI t)), (0, .ref b), (1, .ref (ad_ D 0)), (2, .ref (q2 0))]) hx hb dL_law_40 hl (by decide) rfl (fun ls hl => ?_)
        refine lv_iconst (v := nI 0) hx hb dL_law_42 (by decide) ?_
        refine lv_istore (lv' := [(5, .int (nI 0)), (4, .int xx), (3, .int (nI t)), (0, .ref b), (1, .ref (ad_ D 0)), (2, .ref (q2 0))]) hx hb dL_law_43 hl (by decide) rfl (fun ls hl => ?_)
        have K45 : ∀ (fuel45 : Nat) (k : Nat) (σ3 : Nat → va_E) (q3 : Nat → Nat) (Z3 : g_Z) (Ls3 : Nat → g_L), (3 - k) < fuel45 → (k ≤ 3) → (g_C D σ3 Ls3) → (vC_ Ls3) → (SZ_ Ls3 Z3) → ∀ (H : Heap) (locs : List Loc), va_P D vwCl ((g_W D σ3) ++ (h_SW D q3 ((nZ Z3)) ((mZ Z3)))) H → va_D A ((g_W D σ3) ++ (h_SW D q3 ((nZ Z3)) ((mZ Z3)))) → va_S A s.heap H locs → ∀ ls : Array Slot, lv_has ls 15 [(5, .int (nI k)), (4, .int xx), (3, .int (nI t)), (0, .ref b), (1, .ref (ad_ D 0)), (2, .ref (q3 0))] → W p l e room_1 s m args below meth c H locs (((330 + 33400 * t) + 0) + 120 * k) (((4200 + 206700 * t) + 0) + 3000 * k) Q (F0 m 45 ls []) := by
          intro fuel45
          induction fuel45 with
          | zero => intro k σ3 q3 Z3 Ls3 hf; exact absurd hf (Nat.not_lt_zero _)
          | succ fuel45 ih45 =>
            intro k σ3 q3 Z3 Ls3 hf45 hk hC3 hvC3 hSZ3 H locs hP hD hS ls hl
            refine lv_iload hx hb dL_law_45 (lv_at hl 0 rfl) ?_
            refine lv_iconst (v := nI 3) hx hb dL_law_47 (by decide) ?_
            refine lv_icmp_ge (tgt := 80) hx hb dL_law_48 (by decide) (fun h48 => ?_) (fun h48 => ?_)
            · have hb48 := g_le (a := 3) (b := k) h48 (by omega) (by omega)
              refine lw_b hst hAD hAs hvC3 hx hb hml hown hts hE hZ  hC3 (by omega) (by omega) hP hD hS (lv_sub hl [1, 2, 3, 4, 5] rfl) (fun σ_6 H locs ls hC_7 hP hD hS hl => ?_)
              refine lw_c hst hAD hAs hvC3 hx hb hml hown hts hE hZ  hC_7 (by omega) (by omega) hP hD hS (lv_sub hl [0, 1, 2, 3, 4, 5] rfl) (fun σ_8 H locs ls hC_9 hP hD hS hl => ?_)
              refine lv_iinc (v := nI (t + 1)) (lv' := [(3, .int (nI (t + 1))), (4, .int xx), (0, .ref b), (1, .ref (ad_ D 0)), (2, .ref ((q3 0)))]) hx hb dL_law_1104 hl (k := 1) rfl (g_inc t) (by decide) rfl (fun ls hl => ?_)
              refine lv_goto (tgt := 22) hx hb dL_law_1107 (by decide) ?_
              refine W.widen (k := (330 + 33400 * (t + 1))) (n := (4200 + 206700 * (t + 1))) (by omega) (by omega) ?_
              exact ih22 (t + 1) σ_8 q3 Z3 Ls3 (by omega) (by omega) hC_9 hvC3 hSZ3 _ _ hP hD hS ls (lv_sub hl [0, 2, 3, 4] rfl)
            · have hb48 := g_nle (a := 3) (b := k) h48 (by omega) (by omega)
              refine lv_aload_n hx hb dL_law_51 rfl (lv_at hl 4 rfl) ?_
              refine lv_aload_n hx hb dL_law_52 rfl (lv_at hl 5 rfl) ?_
              refine lv_iload hx hb dL_law_53 (lv_at hl 1 rfl) ?_
              refine lv_iconst (v := nI 3) hx hb dL_law_55 (by decide) ?_
              refine lv_iload hx hb dL_law_56 (lv_at hl 0 rfl) ?_
              refine lv_imul hx hb dL_law_58 ?_
              refine g_top (y := nI (3 * k)) (pk_mul 3 k) ?_
              refine lv_ishr hx hb dL_law_59 ?_
              refine lv_bipush (v := nI 29) hx hb dL_law_60 (by decide) ?_
              refine lv_iload hx hb dL_law_62 (lv_at hl 0 rfl) ?_
              refine lv_imul hx hb dL_law_64 ?_
              refine g_top (y := nI (29 * k)) (pk_mul 29 k) ?_
              refine lv_iadd hx hb dL_law_65 ?_
              refine h_callSH (y := yL_act) (n := 3) (As := [.ref (ad_ D 0), .ref (q3 0), .int ((xx >>> ((nI (3 * k)) &&& 31)) + (nI (29 * k)))]) (rest := []) hx hb hml hown hts hE hZ hS hl.1 (m_L_act l hst D hAD σ3 Ls3 q3 Z3 hC3 hvC3 hSZ3 ((xx >>> ((nI (3 * k)) &&& 31)) + (nI (29 * k))) (hD.weaken (fun _ _ _ _ => trivial))) h_P0 hP (h_AA hD hS hAs) (fun _ _ _ => trivial) (h_jA (h_AA hD hS hAs)) k_H_act rfl rfl ⟨Nat.le_of_ble_eq_true rfl, Nat.le_of_ble_eq_true rfl⟩ (Nat.le_of_ble_eq_true rfl) ⟨Nat.le_trans (show (((330 + 33400 * t) + 0) + 120 * k) + 120 ≤ 510000 by omega) rC_, Nat.le_trans (show (((4200 + 206700 * t) + 0) + 3000 * k) + 3000 ≤ 6100000 by omega) rS_⟩ dL_law_66 (fun v w1 H locs hq hP hD hS => ?_)
              obtain ⟨rfl, σ4, q4, Z4, Ls4, rfl, hq4, hC4, hvC4, hSZ4⟩ := hq
              rw [← hq4] at hl
              have hP : va_P D vwCl ((g_W D σ4) ++ (h_SW D q4 ((nZ Z4)) ((mZ Z4)))) H := hP
              have hD : va_D A ((g_W D σ4) ++ (h_SW D q4 ((nZ Z4)) ((mZ Z4)))) := hD
              refine W.widen (k := ((((330 + 33400 * t) + 0) + 120 * k) + 120)) (n := ((((4200 + 206700 * t) + 0) + 3000 * k) + 3000)) (Nat.le_refl _) (Nat.le_refl _) ?_
              refine W.eq (g2 := F0 m 69 ls [.int (nI 1)]) rfl ?_
              refine lv_if_ne (tgt := 74) hx hb dL_law_69 (by decide) (fun h69 => ?_) (fun h69 => ?_)
              · have hb69 := g_ne (a := 1) (b := 0) h69 (by omega) (by omega)
                refine lv_iinc (v := nI (k + 1)) (lv' := [(5, .int (nI (k + 1))), (4, .int xx), (3, .int (nI t)), (0, .ref b), (1, .ref (ad_ D 0)), (2, .ref (q4 0))]) hx hb dL_law_74 hl (k := 0) rfl (g_inc k) (by decide) rfl (fun ls hl => ?_)
                refine lv_goto (tgt := 45) hx hb dL_law_77 (by decide) ?_
                refine W.widen (k := (((330 + 33400 * t) + 0) + 120 * (k + 1))) (n := (((4200 + 206700 * t) + 0) + 3000 * (k + 1))) (by omega) (by omega) ?_
                exact ih45 (k + 1) σ4 q4 Z4 Ls4 (by omega) (by omega) hC4 hvC4 hSZ4 _ _ hP hD hS ls (lv_sub hl [0, 1, 2, 3, 4, 5] rfl)
              · have hb69 := g_eq (a := 1) (b := 0) h69 (by omega) (by omega)
                omega
        refine W.widen (k := (((330 + 33400 * t) + 0) + 120 * 0)) (n := (((4200 + 206700 * t) + 0) + 3000 * 0)) (by omega) (by omega) ?_
        exact K45 ((3 - 0) + 1) 0 σ2 q2 Z2 Ls2 (Nat.lt_succ_self _) (Nat.zero_le _) hC2 hvC2 hSZ2 _ _ hP hD hS ls (lv_sub hl [0, 1, 2, 3, 4, 5] rfl)
  refine W.widen (k := (330 + 33400 * 0)) (n := (4200 + 206700 * 0)) (by omega) (by omega) ?_
  exact K22 ((10 - 0) + 1) 0 σ1 q1 Z1 Ls1 (Nat.lt_succ_self _) (Nat.zero_le _) hC1 hvC1 hSZ1 _ _ hP hD hS ls (lv_sub hl [0, 3, 2, 1] rfl)
