theorem mgm_n {r : Nat} {a : Int32} : mgm_ r a (-1) = a := by
  unfold mgm_
  rw [if_pos rfl]
theorem sum01 {f : Nat → Nat} {w : Nat} (hw : w ≤ 1) : f 0 + f 1 = f w + f (1 - w) := by
  rcases (show w = 0 ∨ w = 1 by omega) with rfl | rfl
  · rfl
  · exact Nat.add_comm _ _
theorem mn999 {z : Int32} : (if z < nI 999 then z else nI 999) = (if nI 999 < z then nI 999 else z) := by
  by_cases h : z < nI 999
  · rw [if_pos h, if_neg (fun q => Int32.lt_irrefl (Int32.lt_trans h q))]
  · rw [if_neg h]
    by_cases h2 : nI 999 < z
    · rw [if_pos h2]
    · rw [if_neg h2]
      exact Int32.le_antisymm (Int32.not_lt.mp h) (Int32.not_lt.mp h2)
theorem all4 {r : Nat} {a b : Int32} (hr : r < 4) (hb : b ≠ -1) : ([a, b, if nI 999 < a + b then nI 999 else a + b, if b < a then b else a] : List Int32).getD r 0 = mgm_ r a b := by
  unfold mgm_
  rw [if_neg hb]
  rcases (show r = 0 ∨ r = 1 ∨ r = 2 ∨ r = 3 by omega) with rfl | rfl | rfl | rfl <;> rfl
theorem mg_step {r : Nat} {T A B : g_L} {i : Nat} {X Y : Int32} (hi : i < A.length) (hv : vL_ (mgP r T (A.take i))) (hB : B.Perm (mgP r T (A.take i))) (hX : X = (A[i]).1) (hY : Y = mgm_ r (A[i]).2 (mo_ (mgP r T (A.take i)) (A[i]).1)) (h1 : (A[i]).1 ≠ -1) : (pZ B X Y).Perm (mgP r T (A.take (i + 1))) := by
  rw [ct_tk hi, mgP_app]
  show (pZ B X Y).Perm (st_ (mgP r T (A.take i)) (A[i]).1 (mgm_ r (A[i]).2 (mo_ (mgP r T (A.take i)) (A[i]).1)))
  rw [hX, hY]
  exact pz_pm hv hB h1
set_option maxHeartbeats 4000000 in
set_option maxRecDepth 100000 in
theorem ac_merge {p : Program} {l : Launch} {e : Env} {s : State} {m : MethodId} {args : Array Value} {below : List Frame} {meth : Method} {c : Code} {H : Heap} {locs : List Loc} {Q : State → Prop} (hst : l.stackTraces = false) {D : va_G} (hAD : g_AD D) {σ : Nat → va_E} {Ls : Nat → g_L} {q : Nat → Nat} {Z : g_Z} (hC : g_C D σ Ls) (hvC : vC_ Ls) (hSZ : SZ_ Ls Z) {w : Nat} (hw : w ≤ 1) {x nm : Int32} (hnm : nm1_ nm)  (hx : p.tables.exec = Jvm.exec) (hb : c.code = cL_act) (hr : meth.sig.returnType = some .boolean) (hml : c.maxLocals = 15) (hown : s.vm.findClass RL = some m.cls) (hlocks : meth.locks = false) (hts : ∀ w ∈ g_WA, w.before args s = true) (hE : g_EV D s) (hZ : g_EZ (va_A (((g_W D σ) ++ (h_SW D q ((nZ Z)) ((mZ Z))))) s.heap.size) s s.heap) (htab : c.exceptionTable.toList = tableOf [(97, 106, 109, 40), (241, 250, 253, 40), (538, 560, 561, 40), (672, 694, 695, 40), (788, 799, 802, 40)]) (hQ : MQ below (h_Q D (g_W D σ ++ h_SW D q (nZ Z) (mZ Z)) s.heap.size (fun v1 w1 => v1 = some (.int (nI 1)) ∧ ∃ (σ1 : Nat → va_E) (q1 : Nat → Nat) (Z1 : g_Z) (Ls1 : Nat → g_L), w1 = g_W D σ1 ++ h_SW D q1 (nZ Z1) (mZ Z1) ∧ q1 0 = q 0 ∧ g_C D σ1 Ls1 ∧ vC_ Ls1 ∧ SZ_ Ls1 Z1)) args s m_L_act_rm.cells m_L_act_rm.slots (va_A (((g_W D σ) ++ (h_SW D q ((nZ Z)) ((mZ Z))))) s.heap.size) = Q) (hP : va_P D vwCl (g_W D σ ++ h_SW D q (nZ Z) (mZ Z)) H) (hD : va_D (va_A (((g_W D σ) ++ (h_SW D q ((nZ Z)) ((mZ Z))))) s.heap.size) (g_W D σ ++ h_SW D q (nZ Z) (mZ Z))) (hS : va_S (va_A (((g_W D σ) ++ (h_SW D q ((nZ Z)) ((mZ Z))))) s.heap.size) s.heap H locs) {ls : Array Slot} (hl : lv_has ls 15 [(5, .int (fdx_ (nZ Z w) (nm))), (4, .int nm), (3, .int (nI w)), (0, .ref (ad_ D 0)), (1, .ref (q 0)), (2, .int x)]) : W p l e m_L_act_rm s m args below meth c H locs 0 0 Q (F0 m 272 ls []) := by
  have h24 := fun v (hv : v ≤ 1) => (hvC v hv).2
  have hzl := fun v (hv : v ≤ 1) => SZ_len hSZ hv
  have hnl : ∀ v, (nZ Z v).length = (Z v).length := fun v => nZ_len
  have hml9 : ∀ v, (mZ Z v).length = (Z v).length := fun v => mZ_len
  have hw24 := h24 w hw
  have ho24 := h24 (1 - w) (by omega)
  have hwz := hzl w hw
  have hoz := hzl (1 - w) (by omega)
  have hwn := hnl w
  have hon := hnl (1 - w)
  have hwm := hml9 w
  have hom := hml9 (1 - w)
  have hvw := (hvC w hw).1
  have hvo := (hvC (1 - w) (by omega)).1
  have hnm1 := ne_m1 (nm_le hnm).1
  refine lv_iload_n hx hb dL_act_272 rfl (lv_at hl 5 rfl) ?_
  refine lv_iconst (v := nI 4) hx hb dL_act_273 (by decide) ?_
  refine lv_ishr hx hb dL_act_274 ?_
  refine lv_iconst (v := nI 4) hx hb dL_act_275 (by decide) ?_
  refine h_callS (y := yL_below) (n := 2) (As := [.int (x >>> ((nI 4) &&& 31)), .int (nI 4)]) (rest := []) hx hb hml hown hts hE hZ hS hl.1 (m_L_below l D (x >>> ((nI 4) &&& 31)) 4 (by decide) (by decide)) h_P0 h_P0 (h_Anil hS h_Asz) (fun _ _ _ => trivial) (h_jR hP hD (h_Anil hS h_Asz)) k_L_9 rfl rfl ⟨Nat.le_of_ble_eq_true rfl, Nat.le_of_ble_eq_true rfl⟩ (Nat.le_of_ble_eq_true rfl) ⟨Nat.le_of_ble_eq_true rfl, Nat.le_of_ble_eq_true rfl⟩ dL_act_276 (fun v2 w1 H locs hq hP hD hS => ?_)
  obtain ⟨bk1, hbk1, rfl, rfl⟩ := hq
  rw [List.append_nil] at hP hD
  have hP : va_P D vwCl ((g_W D σ) ++ (h_SW D q ((nZ Z)) ((mZ Z)))) H := hP
  have hD : va_D (va_A (((g_W D σ) ++ (h_SW D q ((nZ Z)) ((mZ Z))))) s.heap.size) ((g_W D σ) ++ (h_SW D q ((nZ Z)) ((mZ Z)))) := hD
  refine W.widen (k := 0) (n := 0) (Nat.le_of_ble_eq_true rfl) (Nat.le_of_ble_eq_true rfl) ?_
  refine W.eq (g2 := F0 m 279 ls [.int (nI bk1)]) rfl ?_
  refine lv_istore (lv' := [(8, .int (nI bk1)), (5, .int (fdx_ (nZ Z w) (nm))), (4, .int nm), (3, .int (nI w)), (0, .ref (ad_ D 0)), (1, .ref (q 0)), (2, .int x)]) hx hb dL_act_279 hl (by decide) rfl (fun ls hl => ?_)
  refine lv_iconst (v := nI 0) hx hb dL_act_281 (by decide) ?_
  refine lv_istore (lv' := [(7, .int (nI 0)), (8, .int (nI bk1)), (5, .int (fdx_ (nZ Z w) (nm))), (4, .int nm), (3, .int (nI w)), (0, .ref (ad_ D 0)), (1, .ref (q 0)), (2, .int x)]) hx hb dL_act_282 hl (by decide) rfl (fun ls hl => ?_)
  refine lv_aload_n hx hb dL_act_284 rfl (lv_at hl 6 rfl) ?_
  refine h_get (w := (g_W D σ)) (xs := (h_SW D q ((nZ Z)) ((mZ Z)))) (i := 0) hx hb hts hE hown hP rfl 0 (by decide) rfl wf_L_16 (v := .ref (q 1)) rfl dL_act_285 ?_
  refine lv_iload_n hx hb dL_act_288 rfl (lv_at hl 4 rfl) ?_
  refine h_ald (w := (g_W D σ)) (xs := (h_SW D q ((nZ Z)) ((mZ Z)))) (i := 1) (q := q) (o := 3) (j := w) hx hb hE hP rfl (by omega) dL_act_289 ?_
  refine lv_astore (lv' := [(9, .ref (q (3 + w))), (7, .int (nI 0)), (8, .int (nI bk1)), (5, .int (fdx_ (nZ Z w) (nm))), (4, .int nm), (3, .int (nI w)), (0, .ref (ad_ D 0)), (1, .ref (q 0)), (2, .int x)]) hx hb dL_act_290 hl (by decide) rfl (fun ls hl => ?_)
  refine lv_aload hx hb dL_act_292 (lv_at hl 0 rfl) ?_
  refine h_aln (w := (g_W D σ)) (xs := (h_SW D q ((nZ Z)) ((mZ Z)))) (i := (3 + w)) (R := (nZ Z) w) hx hb hE hP (h_SWn hw) dL_act_294 ?_
  refine lv_istore (lv' := [(10, .int (nI (((nZ Z) w).length))), (9, .ref (q (3 + w))), (7, .int (nI 0)), (8, .int (nI bk1)), (5, .int (fdx_ (nZ Z w) (nm))), (4, .int nm), (3, .int (nI w)), (0, .ref (ad_ D 0)), (1, .ref (q 0)), (2, .int x)]) hx hb dL_act_295 hl (by decide) rfl (fun ls hl => ?_)
  refine lv_iconst (v := nI 0) hx hb dL_act_297 (by decide) ?_
  refine lv_istore (lv' := [(11, .int (nI 0)), (10, .int (nI (((nZ Z) w).length))), (9, .ref (q (3 + w))), (7, .int (nI 0)), (8, .int (nI bk1)), (5, .int (fdx_ (nZ Z w) (nm))), (4, .int nm), (3, .int (nI w)), (0, .ref (ad_ D 0)), (1, .ref (q 0)), (2, .int x)]) hx hb dL_act_298 hl (by decide) rfl (fun ls hl => ?_)
  have K300 : ∀ (fuel300 : Nat) (i : Nat), (((nZ Z) w).length - i) < fuel300 → (i ≤ ((nZ Z) w).length) → ∀ (H : Heap) (locs : List Loc), va_P D vwCl ((g_W D σ) ++ (h_SW D q ((nZ Z)) ((mZ Z)))) H → va_D (va_A (((g_W D σ) ++ (h_SW D q ((nZ Z)) ((mZ Z))))) s.heap.size) ((g_W D σ) ++ (h_SW D q ((nZ Z)) ((mZ Z)))) → va_S (va_A (((g_W D σ) ++ (h_SW D q ((nZ Z)) ((mZ Z))))) s.heap.size) s.heap H locs → ∀ ls : Array Slot, lv_has ls 15 [(11, .int (nI i)), (10, .int (nI (((nZ Z) w).length))), (9, .ref (q (3 + w))), (8, .int (nI bk1)), (7, .int (nI (cz_ (Ls (1 - w)) (((nZ Z) w).take i)))), (5, .int (fdx_ (nZ Z w) (nm))), (4, .int nm), (3, .int (nI w)), (0, .ref (ad_ D 0)), (1, .ref (q 0)), (2, .int x)] → W p l e m_L_act_rm s m args below meth c H locs 0 0 Q (F0 m 300 ls []) := by
    intro fuel300
    induction fuel300 with
    | zero => intro i hf; exact absurd hf (Nat.not_lt_zero _)
    | succ fuel300 ih300 =>
      intro i hf300 hi H locs hP hD hS ls hl
      refine lv_iload hx hb dL_act_300 (lv_at hl 0 rfl) ?_
      refine lv_iload hx hb dL_act_302 (lv_at hl 1 rfl) ?_
      refine lv_icmp_ge (tgt := 342) hx hb dL_act_304 (by decide) (fun h304 => ?_) (fun h304 => ?_)
      · have hb304 := g_le (a := ((nZ Z) w).length) (b := i) h304 (by omega) (by omega)
        rw [tk_all (R := ((nZ Z) w)) (i := i) (by omega)] at hl
        have hcz : cz_ (Ls (1 - w)) ((nZ Z) w) = cm_ (Ls w) (Ls (1 - w)) (Ls w).length := cz_pm (SR_N (SZ_R hSZ) hw)
        have hczl := cz_le (T := (Ls (1 - w))) ((nZ Z) w)
        have hs01 := sum01 (f := fun v => (nZ Z v).length) hw
        have hs01 : ((nZ Z) 0).length + ((nZ Z) 1).length = ((nZ Z) w).length + ((nZ Z) (1 - w)).length := hs01
        have h0n := hnl 0
        have h1n := hnl 1
        have h0z := hzl 0 (by omega)
        have h1z := hzl 1 (by omega)
        have h0l := h24 0 (by omega)
        have h1l := h24 1 (by omega)
        refine lv_aload_n hx hb dL_act_342 rfl (lv_at hl 9 rfl) ?_
        refine h_get (w := (g_W D σ)) (xs := (h_SW D q ((nZ Z)) ((mZ Z)))) (i := 0) hx hb hts hE hown hP rfl 0 (by decide) rfl wf_L_16 (v := .ref (q 1)) rfl dL_act_343 ?_
        refine lv_iconst (v := nI 0) hx hb dL_act_346 (by decide) ?_
        refine h_ald (w := (g_W D σ)) (xs := (h_SW D q ((nZ Z)) ((mZ Z)))) (i := 1) (q := q) (o := 3) (j := 0) hx hb hE hP rfl (by decide) dL_act_347 ?_
        refine h_aln (w := (g_W D σ)) (xs := (h_SW D q ((nZ Z)) ((mZ Z)))) (i := (3 + 0)) (R := (nZ Z) 0) hx hb hE hP (h_SWn (by omega)) dL_act_348 ?_
        refine lv_aload_n hx hb dL_act_349 rfl (lv_at hl 9 rfl) ?_
        refine h_get (w := (g_W D σ)) (xs := (h_SW D q ((nZ Z)) ((mZ Z)))) (i := 0) hx hb hts hE hown hP rfl 0 (by decide) rfl wf_L_16 (v := .ref (q 1)) rfl dL_act_350 ?_
        refine lv_iconst (v := nI 1) hx hb dL_act_353 (by decide) ?_
        refine h_ald (w := (g_W D σ)) (xs := (h_SW D q ((nZ Z)) ((mZ Z)))) (i := 1) (q := q) (o := 3) (j := 1) hx hb hE hP rfl (by decide) dL_act_354 ?_
        refine h_aln (w := (g_W D σ)) (xs := (h_SW D q ((nZ Z)) ((mZ Z)))) (i := (3 + 1)) (R := (nZ Z) 1) hx hb hE hP (h_SWn (by omega)) dL_act_355 ?_
        refine lv_iadd hx hb dL_act_356 ?_
        refine g_top (y := nI ((((nZ Z) 0).length) + (((nZ Z) 1).length))) (nI_add (((nZ Z) 0).length) (((nZ Z) 1).length)) ?_
        refine lv_iload hx hb dL_act_357 (lv_at hl 4 rfl) ?_
        refine lv_isub hx hb dL_act_359 ?_
        refine g_top (y := nI (((((nZ Z) 0).length) + (((nZ Z) 1).length)) - (cz_ (Ls (1 - w)) ((nZ Z) w)))) (pk_sub (by omega)) ?_
        refine lv_bipush (v := nI 24) hx hb dL_act_360 (by decide) ?_
        refine lv_icmp_gt (tgt := 369) hx hb dL_act_362 (by decide) (fun h362 => ?_) (fun h362 => ?_)
        · have hb362 := g_lt (a := 24) (b := ((((nZ Z) 0).length) + (((nZ Z) 1).length)) - (cz_ (Ls (1 - w)) ((nZ Z) w))) h362 (by omega) (by omega)
          have hno : ¬ (Ls w).length + (Ls (1 - w)).length - cm_ (Ls w) (Ls (1 - w)) (Ls w).length ≤ 24 := by omega
          refine lv_iconst (v := nI 0) hx hb dL_act_369 (by decide) ?_
          refine lv_istore (lv' := [(9, .int (nI 0)), (11, .int (nI i)), (10, .int (nI (((nZ Z) w).length))), (8, .int (nI bk1)), (7, .int (nI (cz_ (Ls (1 - w)) ((nZ Z) w)))), (5, .int (fdx_ (nZ Z w) (nm))), (4, .int nm), (3, .int (nI w)), (0, .ref (ad_ D 0)), (1, .ref (q 0)), (2, .int x)]) hx hb dL_act_370 hl (by decide) rfl (fun ls hl => ?_)
          refine lv_iload hx hb dL_act_372 (lv_at hl 0 rfl) ?_
          refine lv_if_eq (tgt := 538) hx hb dL_act_374 (by decide) (fun h374 => ?_) (fun h374 => ?_)
          · have hb374 := g_eq (a := 0) (b := 0) h374 (by omega) (by omega)
            refine lv_aload_n hx hb dL_act_538 rfl (lv_at hl 8 rfl) ?_
            refine lv_iload_n hx hb dL_act_539 rfl (lv_at hl 7 rfl) ?_
            refine lv_iload hx hb dL_act_540 (lv_at hl 3 rfl) ?_
            refine h_callVY (y := yX2_merge) (n := 2) (As := [.int (nI w), .int (nI bk1)]) (rest := []) hx hb hml hown hts hE hZ hAD hP hD hS h_Asz hl.1 (x_merge l hst D hAD σ Ls hC hvC w bk1 hw (by omega) hno) k_L_64 (q0 := 0) (ci := 2) (by decide) hC.1 rfl rfl rfl rfl rfl ⟨Nat.le_of_ble_eq_true rfl, Nat.le_of_ble_eq_true rfl⟩ (Nat.le_of_ble_eq_true rfl) ⟨Nat.le_of_ble_eq_true rfl, Nat.le_of_ble_eq_true rfl⟩ dL_act_542 (fun E ce q9 σ3 H locs hq hP hD hS hc9 hv9 hk9 => ?_) (fun v σ3 H locs hq hP hD hS => hq.elim)
            obtain ⟨rfl, rfl⟩ := hq
            refine vx_catch (name := g_E2) hown (tableOf [(97, 106, 109, 40), (241, 250, 253, 40)]) ⟨538, 560, 561, 40⟩ (tableOf [(672, 694, 695, 40), (788, 799, 802, 40)]) (htab.trans rfl) (fun z hz => by simp only [tableOf, List.map_cons, List.map_nil, List.mem_cons, List.not_mem_nil, or_false] at hz; rcases hz with rfl | rfl <;> exact Or.inl (by decide)) (by decide) (by decide) (hts _ wl_L_40) (va_tabs rfl rfl (hE.2.2.1 (Cond.castable g_E2 g_E2) (by simp [g_NL]))) hc9 hv9 hk9 ?_
            refine W.eq (g2 := F0 m 561 ls [.ref q9]) rfl ?_
            refine W.widen (k := 5) (n := 30) (Nat.le_of_ble_eq_true rfl) (Nat.le_of_ble_eq_true rfl) ?_
            refine lv_astore (lv' := [(10, .ref q9), (9, .int (nI 0)), (11, .int (nI i)), (8, .int (nI bk1)), (7, .int (nI (cz_ (Ls (1 - w)) ((nZ Z) w)))), (5, .int (fdx_ (nZ Z w) (nm))), (4, .int nm), (3, .int (nI w)), (0, .ref (ad_ D 0)), (1, .ref (q 0)), (2, .int x)]) hx hb dL_act_561 hl (by decide) rfl (fun ls hl => ?_)
            refine lv_iload hx hb dL_act_563 (lv_at hl 1 rfl) ?_
            refine lv_if_ne (tgt := 572) hx hb dL_act_565 (by decide) (fun h565 => ?_) (fun h565 => ?_)
            · have hb565 := g_ne (a := 0) (b := 0) h565 (by omega) (by omega)
              omega
            · have hb565 := g_eq (a := 0) (b := 0) h565 (by omega) (by omega)
              refine lv_iconst (v := nI 1) hx hb dL_act_568 (by decide) ?_
              refine lv_goto (tgt := 573) hx hb dL_act_569 (by decide) ?_
              refine W.widen (k := 120) (n := 3000) (by omega) (by omega) ?_
              rw [← hQ]
              exact W.zret (v := nI 1) hx hb hr (by first | rfl | decide | (split <;> rfl)) (fun te9 hte9 _ => h_fin (⟨rfl, σ, q, Z, Ls, rfl, rfl, hC, hvC, hSZ⟩) hP hD hS hte9) hS.2.2 dL_act_573 hlocks
          · have hb374 := g_ne (a := 0) (b := 0) h374 (by omega) (by omega)
            omega
        · have hb362 := g_nlt (a := 24) (b := ((((nZ Z) 0).length) + (((nZ Z) 1).length)) - (cz_ (Ls (1 - w)) ((nZ Z) w))) h362 (by omega) (by omega)
          have hok : (Ls w).length + (Ls (1 - w)).length - cm_ (Ls w) (Ls (1 - w)) (Ls w).length ≤ 24 := by omega
          have hokZ : ∀ p ∈ Z w, okP p := fun p z => vL_okP hvw p ((hSZ w hw).mem_iff.mp z)
          have hmgA : mgP bk1 (Ls (1 - w)) (Z w) = mg_ bk1 (Ls w) (Ls (1 - w)) (Ls w).length := mgP_pm hvw (hSZ w hw) hvo
          have hmgs := mg_size (r := bk1) hvw hvo (Ls w).length (Nat.le_refl _)
          have hmgT : ∀ i, (mgP bk1 (Ls (1 - w)) ((Z w).take i)).length ≤ 24 := fun i => by have z := mgP_ge (r := bk1) ((Z w).drop i) (mgP bk1 (Ls (1 - w)) ((Z w).take i)); rw [← mgP_app, List.take_append_drop, hmgA] at z; omega
          refine lv_iconst (v := nI 1) hx hb dL_act_365 (by decide) ?_
          refine lv_goto (tgt := 370) hx hb dL_act_366 (by decide) ?_
          refine lv_istore (lv' := [(9, .int (nI 1)), (11, .int (nI i)), (10, .int (nI (((nZ Z) w).length))), (8, .int (nI bk1)), (7, .int (nI (cz_ (Ls (1 - w)) ((nZ Z) w)))), (5, .int (fdx_ (nZ Z w) (nm))), (4, .int nm), (3, .int (nI w)), (0, .ref (ad_ D 0)), (1, .ref (q 0)), (2, .int x)]) hx hb dL_act_370 hl (by decide) rfl (fun ls hl => ?_)
          refine lv_iload hx hb dL_act_372 (lv_at hl 0 rfl) ?_
          refine lv_if_eq (tgt := 538) hx hb dL_act_374 (by decide) (fun h374 => ?_) (fun h374 => ?_)
          · have hb374 := g_eq (a := 1) (b := 0) h374 (by omega) (by omega)
            omega
          · have hb374 := g_ne (a := 1) (b := 0) h374 (by omega) (by omega)
            refine lv_iconst (v := nI 0) hx hb dL_act_377 (by decide) ?_
            refine lv_istore (lv' := [(10, .int (nI 0)), (9, .int (nI 1)), (11, .int (nI i)), (8, .int (nI bk1)), (7, .int (nI (cz_ (Ls (1 - w)) ((nZ Z) w)))), (5, .int (fdx_ (nZ Z w) (nm))), (4, .int nm), (3, .int (nI w)), (0, .ref (ad_ D 0)), (1, .ref (q 0)), (2, .int x)]) hx hb dL_act_378 hl (by decide) rfl (fun ls hl => ?_)
            have K380 : ∀ (fuel380 : Nat) (i : Nat) (q2 : Nat → Nat) (Z2 : g_Z), ((Z w).length - i) < fuel380 → (i ≤ (Z w).length) → (q2 0 = q 0) → (Z2 w = Z w) → ((Z2 (1 - w)).Perm (mgP bk1 (Ls (1 - w)) ((Z w).take i))) → ∀ (H : Heap) (locs : List Loc), va_P D vwCl ((g_W D σ) ++ (h_SW D q2 ((nZ Z2)) ((mZ Z2)))) H → va_D (va_A (((g_W D σ) ++ (h_SW D q ((nZ Z)) ((mZ Z))))) s.heap.size) ((g_W D σ) ++ (h_SW D q2 ((nZ Z2)) ((mZ Z2)))) → va_S (va_A (((g_W D σ) ++ (h_SW D q ((nZ Z)) ((mZ Z))))) s.heap.size) s.heap H locs → ∀ ls : Array Slot, lv_has ls 15 [(10, .int (nI i)), (9, .int (nI 1)), (8, .int (nI bk1)), (7, .int (nI (cz_ (Ls (1 - w)) ((nZ Z) w)))), (5, .int (fdx_ (nZ Z w) (nm))), (4, .int nm), (3, .int (nI w)), (0, .ref (ad_ D 0)), (1, .ref (q2 0)), (2, .int x)] → W p l e m_L_act_rm s m args below meth c H locs (3 * i) (54 * i) Q (F0 m 380 ls []) := by
              intro fuel380
              induction fuel380 with
              | zero => intro i q2 Z2 hf; exact absurd hf (Nat.not_lt_zero _)
              | succ fuel380 ih380 =>
                intro i q2 Z2 hf380 hi hq2 hZw hZo H locs hP hD hS ls hl
                have hn2w : (nZ Z2 w).length = (Z w).length := by rw [nZ_len, hZw]
                have hm2w : (mZ Z2 w).length = (Z w).length := by rw [mZ_len, hZw]
                have hn2o : (nZ Z2 (1 - w)).length = (Z2 (1 - w)).length := nZ_len
                have hm2o : (mZ Z2 (1 - w)).length = (Z2 (1 - w)).length := mZ_len
                have h2o := hZo.length_eq
                have hmgl := hmgT i
                have hvi : vL_ (mgP bk1 (Ls (1 - w)) ((Z w).take i)) := vL_mgP _ _ (fun p z => hokZ p (List.mem_of_mem_take z)) hvo
                refine lv_iload hx hb dL_act_380 (lv_at hl 0 rfl) ?_
                refine lv_aload_n hx hb dL_act_382 rfl (lv_at hl 8 rfl) ?_
                refine h_get (w := (g_W D σ)) (xs := (h_SW D q2 ((nZ Z2)) ((mZ Z2)))) (i := 0) hx hb hts hE hown hP rfl 0 (by decide) rfl wf_L_16 (v := .ref (q2 1)) rfl dL_act_383 ?_
                refine lv_iload_n hx hb dL_act_386 rfl (lv_at hl 6 rfl) ?_
                refine h_ald (w := (g_W D σ)) (xs := (h_SW D q2 ((nZ Z2)) ((mZ Z2)))) (i := 1) (q := q2) (o := 3) (j := w) hx hb hE hP rfl (by omega) dL_act_387 ?_
                refine h_aln (w := (g_W D σ)) (xs := (h_SW D q2 ((nZ Z2)) ((mZ Z2)))) (i := (3 + w)) (R := (nZ Z2) w) hx hb hE hP (h_SWn hw) dL_act_388 ?_
                refine lv_icmp_ge (tgt := 520) hx hb dL_act_389 (by decide) (fun h389 => ?_) (fun h389 => ?_)
                · have hb389 := g_le (a := ((nZ Z2) w).length) (b := i) h389 (by omega) (by omega)
                  refine lv_aload_n hx hb dL_act_520 rfl (lv_at hl 8 rfl) ?_
                  refine h_get (w := (g_W D σ)) (xs := (h_SW D q2 ((nZ Z2)) ((mZ Z2)))) (i := 0) hx hb hts hE hown hP rfl 0 (by decide) rfl wf_L_16 (v := .ref (q2 1)) rfl dL_act_521 ?_
                  refine lv_iload_n hx hb dL_act_524 rfl (lv_at hl 6 rfl) ?_
                  refine lv_iconst (v := nI 0) hx hb dL_act_525 (by decide) ?_
                  refine h_new (w := (g_W D σ)) (xs := (h_SW D q2 ((nZ Z2)) ((mZ Z2)))) (n := 0) hx hb hts hE hP hD hS h_Asz (by omega) (by show (3 * i) + 1 ≤ 120; omega) (by show (54 * i) + 0 ≤ 3000; omega) dL_act_526 (fun q3 H hP hD hS => ?_)
                  refine W.widen (k := (3 * i) + 1) (n := (54 * i) + 0) (by omega) (by omega) ?_
                  have hP : va_P D vwCl ((g_W D σ) ++ (h_SW D q2 ((nZ Z2)) ((mZ Z2)) ++ [(q3, h_row D ([]))])) H := hP
                  have hD : va_D (va_A (((g_W D σ) ++ (h_SW D q ((nZ Z)) ((mZ Z))))) s.heap.size) ((g_W D σ) ++ (h_SW D q2 ((nZ Z2)) ((mZ Z2)) ++ [(q3, h_row D ([]))])) := hD
                  refine h_ast (w := (g_W D σ)) (xs := (h_SW D q2 ((nZ Z2)) ((mZ Z2)) ++ [(q3, h_row D ([]))])) (i := 1) (i2 := 7) (j := w) (v := q3) (q := q2) (o := 3) (R := []) hx hb hE hP hD hS rfl (by omega) rfl dL_act_528 (fun H locs hP hD hS => ?_)
                  obtain ⟨hP, hD⟩ := h_SWun (w0 := (g_W D σ)) hw hP hD
                  have hqs6 : (va_up q2 (3 + w) q3) 0 = q2 0 := va_up_ne _ _ (by omega)
                  generalize hzqs4 : va_up q2 (3 + w) q3 = qs4 at hP hD hqs6
                  have Xs51 : qs4 1 = q2 1 := by rw [← hzqs4]; exact va_up_ne _ _ (by omega)
                  have Xs52 : qs4 2 = q2 2 := by rw [← hzqs4]; exact va_up_ne _ _ (by omega)
                  have hP : va_P D vwCl ((g_W D σ) ++ (h_SW D qs4 (va_up ((nZ Z2)) w ([])) ((mZ Z2)))) H := hP
                  have hD : va_D (va_A (((g_W D σ) ++ (h_SW D q ((nZ Z)) ((mZ Z))))) s.heap.size) ((g_W D σ) ++ (h_SW D qs4 (va_up ((nZ Z2)) w ([])) ((mZ Z2)))) := hD
                  rw [← hqs6] at hl
                  refine lv_aload_n hx hb dL_act_529 rfl (lv_at hl 8 rfl) ?_
                  refine h_get (w := (g_W D σ)) (xs := (h_SW D qs4 (va_up ((nZ Z2)) w ([])) ((mZ Z2)))) (i := 0) hx hb hts hE hown hP rfl 1 (by decide) rfl wf_L_29 (v := .ref (qs4 2)) rfl dL_act_530 ?_
                  refine lv_iload_n hx hb dL_act_533 rfl (lv_at hl 6 rfl) ?_
                  refine lv_iconst (v := nI 0) hx hb dL_act_534 (by decide) ?_
                  refine h_new (w := (g_W D σ)) (xs := (h_SW D qs4 (va_up ((nZ Z2)) w ([])) ((mZ Z2)))) (n := 0) hx hb hts hE hP hD hS h_Asz (by omega) (by show ((3 * i) + 1) + 1 ≤ 120; omega) (by show ((54 * i) + 0) + 0 ≤ 3000; omega) dL_act_535 (fun q7 H hP hD hS => ?_)
                  refine W.widen (k := ((3 * i) + 1) + 1) (n := ((54 * i) + 0) + 0) (by omega) (by omega) ?_
                  have hP : va_P D vwCl ((g_W D σ) ++ (h_SW D qs4 (va_up ((nZ Z2)) w ([])) ((mZ Z2)) ++ [(q7, h_row D ([]))])) H := hP
                  have hD : va_D (va_A (((g_W D σ) ++ (h_SW D q ((nZ Z)) ((mZ Z))))) s.heap.size) ((g_W D σ) ++ (h_SW D qs4 (va_up ((nZ Z2)) w ([])) ((mZ Z2)) ++ [(q7, h_row D ([]))])) := hD
                  refine h_ast (w := (g_W D σ)) (xs := (h_SW D qs4 (va_up ((nZ Z2)) w ([])) ((mZ Z2)) ++ [(q7, h_row D ([]))])) (i := 2) (i2 := 7) (j := w) (v := q7) (q := qs4) (o := 5) (R := []) hx hb hE hP hD hS rfl (by omega) rfl dL_act_537 (fun H locs hP hD hS => ?_)
                  obtain ⟨hP, hD⟩ := h_SWum (w0 := (g_W D σ)) hw hP hD
                  have hqs10 : (va_up qs4 (5 + w) q7) 0 = qs4 0 := va_up_ne _ _ (by omega)
                  generalize hzqs8 : va_up qs4 (5 + w) q7 = qs8 at hP hD hqs10
                  have Xs91 : qs8 1 = qs4 1 := by rw [← hzqs8]; exact va_up_ne _ _ (by omega)
                  have Xs92 : qs8 2 = qs4 2 := by rw [← hzqs8]; exact va_up_ne _ _ (by omega)
                  have hP : va_P D vwCl ((g_W D σ) ++ (h_SW D qs8 (va_up ((nZ Z2)) w ([])) (va_up ((mZ Z2)) w ([])))) H := hP
                  have hD : va_D (va_A (((g_W D σ) ++ (h_SW D q ((nZ Z)) ((mZ Z))))) s.heap.size) ((g_W D σ) ++ (h_SW D qs8 (va_up ((nZ Z2)) w ([])) (va_up ((mZ Z2)) w ([])))) := hD
                  rw [← hqs10] at hl
                  obtain ⟨Zz11, hZz12⟩ : ∃ z, z = va_up Z2 w [] := ⟨_, rfl⟩
                  have hWW : (h_SW D qs8 (va_up ((nZ Z2)) w ([])) (va_up ((mZ Z2)) w ([]))) = h_SW D qs8 (nZ Zz11) (mZ Zz11) := by rw [hZz12, ← nZ_up, ← mZ_up]; rfl
                  rw [hWW] at hP hD
                  have hP : va_P D vwCl ((g_W D σ) ++ (h_SW D qs8 ((nZ Zz11)) ((mZ Zz11)))) H := hP
                  have hD : va_D (va_A (((g_W D σ) ++ (h_SW D q ((nZ Z)) ((mZ Z))))) s.heap.size) ((g_W D σ) ++ (h_SW D qs8 ((nZ Zz11)) ((mZ Zz11)))) := hD
                  refine lv_aload_n hx hb dL_act_538 rfl (lv_at hl 7 rfl) ?_
                  refine lv_iload_n hx hb dL_act_539 rfl (lv_at hl 6 rfl) ?_
                  refine lv_iload hx hb dL_act_540 (lv_at hl 2 rfl) ?_
                  refine h_callV (y := yX2_merge) (n := 2) (As := [.int (nI w), .int (nI bk1)]) (rest := []) hx hb hml hown hts hE hZ hS hl.1 ((n_merge l hst D hAD σ Ls hC hvC w bk1 hw (by omega) hok).h hAD) h_P0 (h_prf hP) (h_AP hD hS h_Asz) (fun _ _ _ => trivial) (h_jP hP hD (h_AP hD hS h_Asz)) k_L_64 (wr := (g_W D σ)) (q0 := 0) (ci := 2) (h_prf hP) (g_at (by decide) hC.1) rfl rfl rfl rfl ⟨Nat.le_of_ble_eq_true rfl, Nat.le_of_ble_eq_true rfl⟩ (Nat.le_of_ble_eq_true rfl) ⟨by show (((3 * i) + 1) + 1) + 5 ≤ 120; omega, by show (((54 * i) + 0) + 0) + 30 ≤ 3000; omega⟩ dL_act_542 (fun v15 w1 H locs hq hP hD hS => ?_)
                  obtain ⟨σ_13, ⟨rfl, hC_14⟩, rfl⟩ := hq
                  have hP : va_P D vwCl ((g_W D σ_13) ++ (h_SW D qs8 ((nZ Zz11)) ((mZ Zz11)))) H := hP
                  have hD : va_D (va_A (((g_W D σ) ++ (h_SW D q ((nZ Z)) ((mZ Z))))) s.heap.size) ((g_W D σ_13) ++ (h_SW D qs8 ((nZ Zz11)) ((mZ Zz11)))) := hD
                  refine W.widen (k := ((((3 * i) + 1) + 1) + 5)) (n := ((((54 * i) + 0) + 0) + 30)) (Nat.le_refl _) (Nat.le_refl _) ?_
                  refine W.eq (g2 := F0 m 545 ls [.int (nI (cm_ (Ls w) (Ls (1 - w)) (Ls w).length))]) rfl ?_
                  have hie : (Z w).take i = Z w := List.take_of_length_le (by omega)
                  rw [hie, hmgA] at hZo
                  have hSZ16 : SZ_ (ul_ (ul_ Ls w []) (1 - w) (mg_ bk1 (Ls w) (Ls (1 - w)) (Ls w).length)) Zz11 := SZ_two hw (by rw [hZz12, up_at]) (by rw [hZz12, up_ot hw]; exact hZo)
                  have hvC17 := vC_merge (r := bk1) hvC hw (by rw [er_merge, wl_n hw, ot_n hw, if_pos ⟨ix_of hw (by decide), ix_of (by omega) (by decide)⟩, if_neg (by omega)])
                  refine g_top (y := nI (cz_ (Ls (1 - w)) ((nZ Z) w))) (by rw [hcz]) ?_
                  refine lv_iload hx hb dL_act_545 (lv_at hl 3 rfl) ?_
                  refine lv_icmp_ne (tgt := 559) hx hb dL_act_547 (by decide) (fun h547 => ?_) (fun h547 => ?_)
                  · exact absurd rfl h547
                  · refine lv_iload hx hb dL_act_550 (lv_at hl 1 rfl) ?_
                    refine lv_if_eq (tgt := 559) hx hb dL_act_552 (by decide) (fun h552 => ?_) (fun h552 => ?_)
                    · have hb552 := g_eq (a := 1) (b := 0) h552 (by omega) (by omega)
                      omega
                    · have hb552 := g_ne (a := 1) (b := 0) h552 (by omega) (by omega)
                      refine lv_iconst (v := nI 1) hx hb dL_act_555 (by decide) ?_
                      refine lv_goto (tgt := 560) hx hb dL_act_556 (by decide) ?_
                      refine W.widen (k := 120) (n := 3000) (by omega) (by omega) ?_
                      rw [← hQ]
                      exact W.zret (v := nI 1) hx hb hr (by first | rfl | decide | (split <;> rfl)) (fun te9 hte9 _ => h_fin (⟨rfl, σ_13, qs8, Zz11, (ul_ (ul_ Ls w []) (1 - w) (mg_ bk1 (Ls w) (Ls (1 - w)) (Ls w).length)), rfl, (hqs10.trans (hqs6.trans hq2)), hC_14, hvC17, hSZ16⟩) hP hD hS hte9) hS.2.2 dL_act_560 hlocks
                · have hb389 := g_nle (a := ((nZ Z2) w).length) (b := i) h389 (by omega) (by omega)
                  have hiz : i < (Z w).length := by omega
                  have hX9 : ((nZ Z2) w).getD i 0 = ((Z w)[i]).1 := by unfold nZ; rw [gd_fst (by rw [hZw]; omega)]; simp only [hZw]
                  have hY9 : ((mZ Z2) w).getD i 0 = ((Z w)[i]).2 := by unfold mZ; rw [gd_snd (by rw [hZw]; omega)]; simp only [hZw]
                  have hX1 := ne_m1 (hokZ _ (List.getElem_mem hiz)).1
                  refine lv_aload_n hx hb dL_act_392 rfl (lv_at hl 8 rfl) ?_
                  refine h_get (w := (g_W D σ)) (xs := (h_SW D q2 ((nZ Z2)) ((mZ Z2)))) (i := 0) hx hb hts hE hown hP rfl 1 (by decide) rfl wf_L_29 (v := .ref (q2 2)) rfl dL_act_393 ?_
                  refine lv_iload_n hx hb dL_act_396 rfl (lv_at hl 6 rfl) ?_
                  refine h_ald (w := (g_W D σ)) (xs := (h_SW D q2 ((nZ Z2)) ((mZ Z2)))) (i := 2) (q := q2) (o := 5) (j := w) hx hb hE hP rfl (by omega) dL_act_397 ?_
                  refine lv_iload hx hb dL_act_398 (lv_at hl 0 rfl) ?_
                  refine h_ild (w := (g_W D σ)) (xs := (h_SW D q2 ((nZ Z2)) ((mZ Z2)))) (i := (5 + w)) (R := (mZ Z2) w) (j := i) hx hb hE hP (h_SWm hw) (by omega) (by omega) (v := ((mZ Z2) w).getD i 0) (rfl) dL_act_400 ?_
                  refine lv_istore (lv' := [(11, .int (((mZ Z2) w).getD i 0)), (10, .int (nI i)), (9, .int (nI 1)), (8, .int (nI bk1)), (7, .int (nI (cz_ (Ls (1 - w)) ((nZ Z) w)))), (5, .int (fdx_ (nZ Z w) (nm))), (4, .int nm), (3, .int (nI w)), (0, .ref (ad_ D 0)), (1, .ref (q2 0)), (2, .int x)]) hx hb dL_act_401 hl (by decide) rfl (fun ls hl => ?_)
                  refine lv_aload_n hx hb dL_act_403 rfl (lv_at hl 9 rfl) ?_
                  refine lv_iconst (v := nI 1) hx hb dL_act_404 (by decide) ?_
                  refine lv_iload_n hx hb dL_act_405 rfl (lv_at hl 7 rfl) ?_
                  refine lv_isub hx hb dL_act_406 ?_
                  refine g_top (y := nI (1 - w)) (pk_sub (by omega)) ?_
                  refine lv_aload_n hx hb dL_act_407 rfl (lv_at hl 9 rfl) ?_
                  refine h_get (w := (g_W D σ)) (xs := (h_SW D q2 ((nZ Z2)) ((mZ Z2)))) (i := 0) hx hb hts hE hown hP rfl 0 (by decide) rfl wf_L_16 (v := .ref (q2 1)) rfl dL_act_408 ?_
                  refine lv_iload_n hx hb dL_act_411 rfl (lv_at hl 7 rfl) ?_
                  refine h_ald (w := (g_W D σ)) (xs := (h_SW D q2 ((nZ Z2)) ((mZ Z2)))) (i := 1) (q := q2) (o := 3) (j := w) hx hb hE hP rfl (by omega) dL_act_412 ?_
                  refine lv_iload hx hb dL_act_413 (lv_at hl 1 rfl) ?_
                  refine h_ild (w := (g_W D σ)) (xs := (h_SW D q2 ((nZ Z2)) ((mZ Z2)))) (i := (3 + w)) (R := (nZ Z2) w) (j := i) hx hb hE hP (h_SWn hw) (by omega) (by omega) (v := ((nZ Z2) w).getD i 0) (rfl) dL_act_415 ?_
                  refine h_callV (y := yX3_find) (n := 2) (As := [.int (nI (1 - w)), .int (((nZ Z2) w).getD i 0)]) (rest := []) hx hb hml hown hts hE hZ hS hl.1 (m_X3_find l D q2 ((nZ Z2)) ((mZ Z2)) (1 - w) (((nZ Z2) w).getD i 0) (by omega) (by omega)) (h_suf (w := (g_W D σ)) hP) h_P0 (h_Anil hS h_Asz) (fun _ _ _ => trivial) (h_jR hP hD (h_Anil hS h_Asz)) k_L_26 (wr := h_SW D q2 ((nZ Z2)) ((mZ Z2))) (q0 := 0) (ci := 3) (h_suf (w := (g_W D σ)) hP) (rfl) rfl rfl rfl rfl ⟨Nat.le_of_ble_eq_true rfl, Nat.le_of_ble_eq_true rfl⟩ (Nat.le_of_ble_eq_true rfl) ⟨by show (3 * i) + 0 ≤ 120; omega, by show (54 * i) + 0 ≤ 3000; omega⟩ dL_act_416 (fun v18 w1 H locs hq hP hD hS => ?_)
                  obtain ⟨rfl, rfl⟩ := hq
                  rw [List.append_nil] at hP hD
                  have hP : va_P D vwCl ((g_W D σ) ++ (h_SW D q2 ((nZ Z2)) ((mZ Z2)))) H := hP
                  have hD : va_D (va_A (((g_W D σ) ++ (h_SW D q ((nZ Z)) ((mZ Z))))) s.heap.size) ((g_W D σ) ++ (h_SW D q2 ((nZ Z2)) ((mZ Z2)))) := hD
                  refine W.widen (k := ((3 * i) + 0)) (n := ((54 * i) + 0)) (Nat.le_refl _) (Nat.le_refl _) ?_
                  refine W.eq (g2 := F0 m 419 ls [.int (fdx_ ((nZ Z2) (1 - w)) (((nZ Z2) w).getD i 0))]) rfl ?_
                  refine lv_istore (lv' := [(12, .int (fdx_ ((nZ Z2) (1 - w)) (((nZ Z2) w).getD i 0))), (11, .int (((mZ Z2) w).getD i 0)), (10, .int (nI i)), (9, .int (nI 1)), (8, .int (nI bk1)), (7, .int (nI (cz_ (Ls (1 - w)) ((nZ Z) w)))), (5, .int (fdx_ (nZ Z w) (nm))), (4, .int nm), (3, .int (nI w)), (0, .ref (ad_ D 0)), (1, .ref (q2 0)), (2, .int x)]) hx hb dL_act_419 hl (by decide) rfl (fun ls hl => ?_)
                  refine lv_iload hx hb dL_act_421 (lv_at hl 0 rfl) ?_
                  refine lv_if_ge (tgt := 431) hx hb dL_act_423 (by decide) (fun h423 => ?_) (fun h423 => ?_)
                  · obtain ⟨hk2, hke2⟩ := fdx_pos (R := (nZ Z2) (1 - w)) (x := ((nZ Z2) w).getD i 0) (Int32.not_lt.mpr h423)
                    rw [hke2] at hl
                    have hmo2 : mo_ (mgP bk1 (Ls (1 - w)) ((Z w).take i)) (((nZ Z2) w).getD i 0) = ((mZ Z2) (1 - w)).getD (ix9 ((nZ Z2) (1 - w)) (((nZ Z2) w).getD i 0)) 0 := fd_y hvi hZo (by rw [← hn2o]; exact hk2)
                    have hmb2 : 0 ≤ ((mZ Z2) (1 - w)).getD (ix9 ((nZ Z2) (1 - w)) (((nZ Z2) w).getD i 0)) 0 := (mo_0 hvi hZo (by rw [← hn2o]; exact hk2)).1
                    refine lv_aload_n hx hb dL_act_431 rfl (lv_at hl 10 rfl) ?_
                    refine h_get (w := (g_W D σ)) (xs := (h_SW D q2 ((nZ Z2)) ((mZ Z2)))) (i := 0) hx hb hts hE hown hP rfl 1 (by decide) rfl wf_L_29 (v := .ref (q2 2)) rfl dL_act_432 ?_
                    refine lv_iconst (v := nI 1) hx hb dL_act_435 (by decide) ?_
                    refine lv_iload_n hx hb dL_act_436 rfl (lv_at hl 8 rfl) ?_
                    refine lv_isub hx hb dL_act_437 ?_
                    refine g_top (y := nI (1 - w)) (pk_sub (by omega)) ?_
                    refine h_ald (w := (g_W D σ)) (xs := (h_SW D q2 ((nZ Z2)) ((mZ Z2)))) (i := 2) (q := q2) (o := 5) (j := 1 - w) hx hb hE hP rfl (by omega) dL_act_438 ?_
                    refine lv_iload hx hb dL_act_439 (lv_at hl 0 rfl) ?_
                    refine h_ild (w := (g_W D σ)) (xs := (h_SW D q2 ((nZ Z2)) ((mZ Z2)))) (i := (5 + (1 - w))) (R := (mZ Z2) ((1 - w))) (j := ix9 ((nZ Z2) (1 - w)) (((nZ Z2) w).getD i 0)) hx hb hE hP (h_SWm (by omega)) (by omega) (by omega) (v := ((mZ Z2) ((1 - w))).getD (ix9 ((nZ Z2) (1 - w)) (((nZ Z2) w).getD i 0)) 0) (rfl) dL_act_441 ?_
                    refine lv_istore (lv' := [(13, .int (((mZ Z2) ((1 - w))).getD (ix9 ((nZ Z2) (1 - w)) (((nZ Z2) w).getD i 0)) 0)), (12, .int (nI (ix9 ((nZ Z2) (1 - w)) (((nZ Z2) w).getD i 0)))), (11, .int (((mZ Z2) w).getD i 0)), (10, .int (nI i)), (9, .int (nI 1)), (8, .int (nI bk1)), (7, .int (nI (cz_ (Ls (1 - w)) ((nZ Z) w)))), (5, .int (fdx_ (nZ Z w) (nm))), (4, .int nm), (3, .int (nI w)), (0, .ref (ad_ D 0)), (1, .ref (q2 0)), (2, .int x)]) hx hb dL_act_442 hl (by decide) rfl (fun ls hl => ?_)
                    refine lv_iconst (v := nI 4) hx hb dL_act_444 (by decide) ?_
                    refine h_new (w := (g_W D σ)) (xs := (h_SW D q2 ((nZ Z2)) ((mZ Z2)))) (n := 4) hx hb hts hE hP hD hS h_Asz (by omega) (by show ((3 * i) + 0) + 1 ≤ 120; omega) (by show ((54 * i) + 0) + 4 ≤ 3000; omega) dL_act_445 (fun q19 H hP hD hS => ?_)
                    refine W.widen (k := ((3 * i) + 0) + 1) (n := ((54 * i) + 0) + 4) (by omega) (by omega) ?_
                    have hP : va_P D vwCl ((g_W D σ) ++ (h_SW D q2 ((nZ Z2)) ((mZ Z2)) ++ [(q19, h_row D (List.replicate 4 0))])) H := hP
                    have hD : va_D (va_A (((g_W D σ) ++ (h_SW D q ((nZ Z)) ((mZ Z))))) s.heap.size) ((g_W D σ) ++ (h_SW D q2 ((nZ Z2)) ((mZ Z2)) ++ [(q19, h_row D (List.replicate 4 0))])) := hD
                    have hP : va_P D vwCl ((g_W D σ) ++ (h_SW D q2 ((nZ Z2)) ((mZ Z2)) ++ [(q19, h_row D ([0, 0, 0, 0]))])) H := hP
                    have hD : va_D (va_A (((g_W D σ) ++ (h_SW D q ((nZ Z)) ((mZ Z))))) s.heap.size) ((g_W D σ) ++ (h_SW D q2 ((nZ Z2)) ((mZ Z2)) ++ [(q19, h_row D ([0, 0, 0, 0]))])) := hD
                    refine lv_dup hx hb dL_act_447 rfl ?_
                    refine lv_iconst (v := nI 0) hx hb dL_act_448 (by decide) ?_
                    refine lv_iload hx hb dL_act_449 (lv_at hl 2 rfl) ?_
                    refine h_ist (w := (g_W D σ)) (xs := (h_SW D q2 ((nZ Z2)) ((mZ Z2)) ++ [(q19, h_row D ([0, 0, 0, 0]))])) (i := 7) (R := [0, 0, 0, 0]) (j := 0) (x := ((mZ Z2) w).getD i 0) hx hb hE hP hD hS (rfl) (show 0 < 4 by decide) (show 4 < 2 ^ 31 by decide) dL_act_451 (fun H locs hP hD hS => ?_)
                    rw [show ([0, 0, 0, 0] : List Int32).set 0 (((mZ Z2) w).getD i 0) = [((mZ Z2) w).getD i 0, 0, 0, 0] from rfl] at hP hD
                    have hP : va_P D vwCl ((g_W D σ) ++ (h_SW D q2 ((nZ Z2)) ((mZ Z2)) ++ [(q19, h_row D ([((mZ Z2) w).getD i 0, 0, 0, 0]))])) H := hP
                    have hD : va_D (va_A (((g_W D σ) ++ (h_SW D q ((nZ Z)) ((mZ Z))))) s.heap.size) ((g_W D σ) ++ (h_SW D q2 ((nZ Z2)) ((mZ Z2)) ++ [(q19, h_row D ([((mZ Z2) w).getD i 0, 0, 0, 0]))])) := hD
                    refine lv_dup hx hb dL_act_452 rfl ?_
                    refine lv_iconst (v := nI 1) hx hb dL_act_453 (by decide) ?_
                    refine lv_iload hx hb dL_act_454 (lv_at hl 0 rfl) ?_
                    refine h_ist (w := (g_W D σ)) (xs := (h_SW D q2 ((nZ Z2)) ((mZ Z2)) ++ [(q19, h_row D ([((mZ Z2) w).getD i 0, 0, 0, 0]))])) (i := 7) (R := [((mZ Z2) w).getD i 0, 0, 0, 0]) (j := 1) (x := ((mZ Z2) ((1 - w))).getD (ix9 ((nZ Z2) (1 - w)) (((nZ Z2) w).getD i 0)) 0) hx hb hE hP hD hS (rfl) (show 1 < 4 by decide) (show 4 < 2 ^ 31 by decide) dL_act_456 (fun H locs hP hD hS => ?_)
                    rw [show ([((mZ Z2) w).getD i 0, 0, 0, 0] : List Int32).set 1 (((mZ Z2) ((1 - w))).getD (ix9 ((nZ Z2) (1 - w)) (((nZ Z2) w).getD i 0)) 0) = [((mZ Z2) w).getD i 0, ((mZ Z2) ((1 - w))).getD (ix9 ((nZ Z2) (1 - w)) (((nZ Z2) w).getD i 0)) 0, 0, 0] from rfl] at hP hD
                    have hP : va_P D vwCl ((g_W D σ) ++ (h_SW D q2 ((nZ Z2)) ((mZ Z2)) ++ [(q19, h_row D ([((mZ Z2) w).getD i 0, ((mZ Z2) ((1 - w))).getD (ix9 ((nZ Z2) (1 - w)) (((nZ Z2) w).getD i 0)) 0, 0, 0]))])) H := hP
                    have hD : va_D (va_A (((g_W D σ) ++ (h_SW D q ((nZ Z)) ((mZ Z))))) s.heap.size) ((g_W D σ) ++ (h_SW D q2 ((nZ Z2)) ((mZ Z2)) ++ [(q19, h_row D ([((mZ Z2) w).getD i 0, ((mZ Z2) ((1 - w))).getD (ix9 ((nZ Z2) (1 - w)) (((nZ Z2) w).getD i 0)) 0, 0, 0]))])) := hD
                    refine lv_dup hx hb dL_act_457 rfl ?_
                    refine lv_iconst (v := nI 2) hx hb dL_act_458 (by decide) ?_
                    refine lv_sipush (v := nI 999) hx hb dL_act_459 (by decide) ?_
                    refine lv_iload hx hb dL_act_462 (lv_at hl 2 rfl) ?_
                    refine lv_iload hx hb dL_act_464 (lv_at hl 0 rfl) ?_
                    refine lv_iadd hx hb dL_act_466 ?_
                    refine g_mmin hx hb (hml.trans hl.1.symm) hown hts k_L_55 k_min ⟨Nat.le_of_ble_eq_true rfl, Nat.le_of_ble_eq_true rfl, by show (((3 * i) + 0) + 1) ≤ 120; omega, by show (((54 * i) + 0) + 4) ≤ 3000; omega⟩ dL_act_467 ?_
                    refine g_top (y := if nI 999 < ((mZ Z2) w).getD i 0 + (((mZ Z2) ((1 - w))).getD (ix9 ((nZ Z2) (1 - w)) (((nZ Z2) w).getD i 0)) 0) then nI 999 else ((mZ Z2) w).getD i 0 + (((mZ Z2) ((1 - w))).getD (ix9 ((nZ Z2) (1 - w)) (((nZ Z2) w).getD i 0)) 0)) (mn999) ?_
                    refine h_ist (w := (g_W D σ)) (xs := (h_SW D q2 ((nZ Z2)) ((mZ Z2)) ++ [(q19, h_row D ([((mZ Z2) w).getD i 0, ((mZ Z2) ((1 - w))).getD (ix9 ((nZ Z2) (1 - w)) (((nZ Z2) w).getD i 0)) 0, 0, 0]))])) (i := 7) (R := [((mZ Z2) w).getD i 0, ((mZ Z2) ((1 - w))).getD (ix9 ((nZ Z2) (1 - w)) (((nZ Z2) w).getD i 0)) 0, 0, 0]) (j := 2) (x := if nI 999 < ((mZ Z2) w).getD i 0 + (((mZ Z2) ((1 - w))).getD (ix9 ((nZ Z2) (1 - w)) (((nZ Z2) w).getD i 0)) 0) then nI 999 else ((mZ Z2) w).getD i 0 + (((mZ Z2) ((1 - w))).getD (ix9 ((nZ Z2) (1 - w)) (((nZ Z2) w).getD i 0)) 0)) hx hb hE hP hD hS (rfl) (show 2 < 4 by decide) (show 4 < 2 ^ 31 by decide) dL_act_470 (fun H locs hP hD hS => ?_)
                    rw [show ([((mZ Z2) w).getD i 0, ((mZ Z2) ((1 - w))).getD (ix9 ((nZ Z2) (1 - w)) (((nZ Z2) w).getD i 0)) 0, 0, 0] : List Int32).set 2 (if nI 999 < ((mZ Z2) w).getD i 0 + (((mZ Z2) ((1 - w))).getD (ix9 ((nZ Z2) (1 - w)) (((nZ Z2) w).getD i 0)) 0) then nI 999 else ((mZ Z2) w).getD i 0 + (((mZ Z2) ((1 - w))).getD (ix9 ((nZ Z2) (1 - w)) (((nZ Z2) w).getD i 0)) 0)) = [((mZ Z2) w).getD i 0, ((mZ Z2) ((1 - w))).getD (ix9 ((nZ Z2) (1 - w)) (((nZ Z2) w).getD i 0)) 0, if nI 999 < ((mZ Z2) w).getD i 0 + (((mZ Z2) ((1 - w))).getD (ix9 ((nZ Z2) (1 - w)) (((nZ Z2) w).getD i 0)) 0) then nI 999 else ((mZ Z2) w).getD i 0 + (((mZ Z2) ((1 - w))).getD (ix9 ((nZ Z2) (1 - w)) (((nZ Z2) w).getD i 0)) 0), 0] from rfl] at hP hD
                    have hP : va_P D vwCl ((g_W D σ) ++ (h_SW D q2 ((nZ Z2)) ((mZ Z2)) ++ [(q19, h_row D ([((mZ Z2) w).getD i 0, ((mZ Z2) ((1 - w))).getD (ix9 ((nZ Z2) (1 - w)) (((nZ Z2) w).getD i 0)) 0, if nI 999 < ((mZ Z2) w).getD i 0 + (((mZ Z2) ((1 - w))).getD (ix9 ((nZ Z2) (1 - w)) (((nZ Z2) w).getD i 0)) 0) then nI 999 else ((mZ Z2) w).getD i 0 + (((mZ Z2) ((1 - w))).getD (ix9 ((nZ Z2) (1 - w)) (((nZ Z2) w).getD i 0)) 0), 0]))])) H := hP
                    have hD : va_D (va_A (((g_W D σ) ++ (h_SW D q ((nZ Z)) ((mZ Z))))) s.heap.size) ((g_W D σ) ++ (h_SW D q2 ((nZ Z2)) ((mZ Z2)) ++ [(q19, h_row D ([((mZ Z2) w).getD i 0, ((mZ Z2) ((1 - w))).getD (ix9 ((nZ Z2) (1 - w)) (((nZ Z2) w).getD i 0)) 0, if nI 999 < ((mZ Z2) w).getD i 0 + (((mZ Z2) ((1 - w))).getD (ix9 ((nZ Z2) (1 - w)) (((nZ Z2) w).getD i 0)) 0) then nI 999 else ((mZ Z2) w).getD i 0 + (((mZ Z2) ((1 - w))).getD (ix9 ((nZ Z2) (1 - w)) (((nZ Z2) w).getD i 0)) 0), 0]))])) := hD
                    refine lv_dup hx hb dL_act_471 rfl ?_
                    refine lv_iconst (v := nI 3) hx hb dL_act_472 (by decide) ?_
                    refine lv_iload hx hb dL_act_473 (lv_at hl 2 rfl) ?_
                    refine lv_iload hx hb dL_act_475 (lv_at hl 0 rfl) ?_
                    refine g_mmin hx hb (hml.trans hl.1.symm) hown hts k_L_55 k_min ⟨Nat.le_of_ble_eq_true rfl, Nat.le_of_ble_eq_true rfl, by show (((3 * i) + 0) + 1) ≤ 120; omega, by show (((54 * i) + 0) + 4) ≤ 3000; omega⟩ dL_act_477 ?_
                    refine h_ist (w := (g_W D σ)) (xs := (h_SW D q2 ((nZ Z2)) ((mZ Z2)) ++ [(q19, h_row D ([((mZ Z2) w).getD i 0, ((mZ Z2) ((1 - w))).getD (ix9 ((nZ Z2) (1 - w)) (((nZ Z2) w).getD i 0)) 0, if nI 999 < ((mZ Z2) w).getD i 0 + (((mZ Z2) ((1 - w))).getD (ix9 ((nZ Z2) (1 - w)) (((nZ Z2) w).getD i 0)) 0) then nI 999 else ((mZ Z2) w).getD i 0 + (((mZ Z2) ((1 - w))).getD (ix9 ((nZ Z2) (1 - w)) (((nZ Z2) w).getD i 0)) 0), 0]))])) (i := 7) (R := [((mZ Z2) w).getD i 0, ((mZ Z2) ((1 - w))).getD (ix9 ((nZ Z2) (1 - w)) (((nZ Z2) w).getD i 0)) 0, if nI 999 < ((mZ Z2) w).getD i 0 + (((mZ Z2) ((1 - w))).getD (ix9 ((nZ Z2) (1 - w)) (((nZ Z2) w).getD i 0)) 0) then nI 999 else ((mZ Z2) w).getD i 0 + (((mZ Z2) ((1 - w))).getD (ix9 ((nZ Z2) (1 - w)) (((nZ Z2) w).getD i 0)) 0), 0]) (j := 3) (x := if ((mZ Z2) ((1 - w))).getD (ix9 ((nZ Z2) (1 - w)) (((nZ Z2) w).getD i 0)) 0 < ((mZ Z2) w).getD i 0 then ((mZ Z2) ((1 - w))).getD (ix9 ((nZ Z2) (1 - w)) (((nZ Z2) w).getD i 0)) 0 else ((mZ Z2) w).getD i 0) hx hb hE hP hD hS (rfl) (show 3 < 4 by decide) (show 4 < 2 ^ 31 by decide) dL_act_480 (fun H locs hP hD hS => ?_)
                    rw [show ([((mZ Z2) w).getD i 0, ((mZ Z2) ((1 - w))).getD (ix9 ((nZ Z2) (1 - w)) (((nZ Z2) w).getD i 0)) 0, if nI 999 < ((mZ Z2) w).getD i 0 + (((mZ Z2) ((1 - w))).getD (ix9 ((nZ Z2) (1 - w)) (((nZ Z2) w).getD i 0)) 0) then nI 999 else ((mZ Z2) w).getD i 0 + (((mZ Z2) ((1 - w))).getD (ix9 ((nZ Z2) (1 - w)) (((nZ Z2) w).getD i 0)) 0), 0] : List Int32).set 3 (if ((mZ Z2) ((1 - w))).getD (ix9 ((nZ Z2) (1 - w)) (((nZ Z2) w).getD i 0)) 0 < ((mZ Z2) w).getD i 0 then ((mZ Z2) ((1 - w))).getD (ix9 ((nZ Z2) (1 - w)) (((nZ Z2) w).getD i 0)) 0 else ((mZ Z2) w).getD i 0) = [((mZ Z2) w).getD i 0, ((mZ Z2) ((1 - w))).getD (ix9 ((nZ Z2) (1 - w)) (((nZ Z2) w).getD i 0)) 0, if nI 999 < ((mZ Z2) w).getD i 0 + (((mZ Z2) ((1 - w))).getD (ix9 ((nZ Z2) (1 - w)) (((nZ Z2) w).getD i 0)) 0) then nI 999 else ((mZ Z2) w).getD i 0 + (((mZ Z2) ((1 - w))).getD (ix9 ((nZ Z2) (1 - w)) (((nZ Z2) w).getD i 0)) 0), if ((mZ Z2) ((1 - w))).getD (ix9 ((nZ Z2) (1 - w)) (((nZ Z2) w).getD i 0)) 0 < ((mZ Z2) w).getD i 0 then ((mZ Z2) ((1 - w))).getD (ix9 ((nZ Z2) (1 - w)) (((nZ Z2) w).getD i 0)) 0 else ((mZ Z2) w).getD i 0] from rfl] at hP hD
                    have hP : va_P D vwCl ((g_W D σ) ++ (h_SW D q2 ((nZ Z2)) ((mZ Z2)) ++ [(q19, h_row D ([((mZ Z2) w).getD i 0, ((mZ Z2) ((1 - w))).getD (ix9 ((nZ Z2) (1 - w)) (((nZ Z2) w).getD i 0)) 0, if nI 999 < ((mZ Z2) w).getD i 0 + (((mZ Z2) ((1 - w))).getD (ix9 ((nZ Z2) (1 - w)) (((nZ Z2) w).getD i 0)) 0) then nI 999 else ((mZ Z2) w).getD i 0 + (((mZ Z2) ((1 - w))).getD (ix9 ((nZ Z2) (1 - w)) (((nZ Z2) w).getD i 0)) 0), if ((mZ Z2) ((1 - w))).getD (ix9 ((nZ Z2) (1 - w)) (((nZ Z2) w).getD i 0)) 0 < ((mZ Z2) w).getD i 0 then ((mZ Z2) ((1 - w))).getD (ix9 ((nZ Z2) (1 - w)) (((nZ Z2) w).getD i 0)) 0 else ((mZ Z2) w).getD i 0]))])) H := hP
                    have hD : va_D (va_A (((g_W D σ) ++ (h_SW D q ((nZ Z)) ((mZ Z))))) s.heap.size) ((g_W D σ) ++ (h_SW D q2 ((nZ Z2)) ((mZ Z2)) ++ [(q19, h_row D ([((mZ Z2) w).getD i 0, ((mZ Z2) ((1 - w))).getD (ix9 ((nZ Z2) (1 - w)) (((nZ Z2) w).getD i 0)) 0, if nI 999 < ((mZ Z2) w).getD i 0 + (((mZ Z2) ((1 - w))).getD (ix9 ((nZ Z2) (1 - w)) (((nZ Z2) w).getD i 0)) 0) then nI 999 else ((mZ Z2) w).getD i 0 + (((mZ Z2) ((1 - w))).getD (ix9 ((nZ Z2) (1 - w)) (((nZ Z2) w).getD i 0)) 0), if ((mZ Z2) ((1 - w))).getD (ix9 ((nZ Z2) (1 - w)) (((nZ Z2) w).getD i 0)) 0 < ((mZ Z2) w).getD i 0 then ((mZ Z2) ((1 - w))).getD (ix9 ((nZ Z2) (1 - w)) (((nZ Z2) w).getD i 0)) 0 else ((mZ Z2) w).getD i 0]))])) := hD
                    refine lv_astore (lv' := [(14, .ref q19), (13, .int (((mZ Z2) ((1 - w))).getD (ix9 ((nZ Z2) (1 - w)) (((nZ Z2) w).getD i 0)) 0)), (12, .int (nI (ix9 ((nZ Z2) (1 - w)) (((nZ Z2) w).getD i 0)))), (11, .int (((mZ Z2) w).getD i 0)), (10, .int (nI i)), (9, .int (nI 1)), (8, .int (nI bk1)), (7, .int (nI (cz_ (Ls (1 - w)) ((nZ Z) w)))), (5, .int (fdx_ (nZ Z w) (nm))), (4, .int nm), (3, .int (nI w)), (0, .ref (ad_ D 0)), (1, .ref (q2 0)), (2, .int x)]) hx hb dL_act_481 hl (by decide) rfl (fun ls hl => ?_)
                    refine lv_aload_n hx hb dL_act_483 rfl (lv_at hl 12 rfl) ?_
                    refine lv_iconst (v := nI 1) hx hb dL_act_484 (by decide) ?_
                    refine lv_iload_n hx hb dL_act_485 rfl (lv_at hl 10 rfl) ?_
                    refine lv_isub hx hb dL_act_486 ?_
                    refine g_top (y := nI (1 - w)) (pk_sub (by omega)) ?_
                    refine lv_aload_n hx hb dL_act_487 rfl (lv_at hl 12 rfl) ?_
                    refine h_get (w := (g_W D σ)) (xs := (h_SW D q2 ((nZ Z2)) ((mZ Z2)) ++ [(q19, h_row D ([((mZ Z2) w).getD i 0, ((mZ Z2) ((1 - w))).getD (ix9 ((nZ Z2) (1 - w)) (((nZ Z2) w).getD i 0)) 0, if nI 999 < ((mZ Z2) w).getD i 0 + (((mZ Z2) ((1 - w))).getD (ix9 ((nZ Z2) (1 - w)) (((nZ Z2) w).getD i 0)) 0) then nI 999 else ((mZ Z2) w).getD i 0 + (((mZ Z2) ((1 - w))).getD (ix9 ((nZ Z2) (1 - w)) (((nZ Z2) w).getD i 0)) 0), if ((mZ Z2) ((1 - w))).getD (ix9 ((nZ Z2) (1 - w)) (((nZ Z2) w).getD i 0)) 0 < ((mZ Z2) w).getD i 0 then ((mZ Z2) ((1 - w))).getD (ix9 ((nZ Z2) (1 - w)) (((nZ Z2) w).getD i 0)) 0 else ((mZ Z2) w).getD i 0]))])) (i := 0) hx hb hts hE hown hP rfl 0 (by decide) rfl wf_L_16 (v := .ref (q2 1)) rfl dL_act_488 ?_
                    refine lv_iload_n hx hb dL_act_491 rfl (lv_at hl 10 rfl) ?_
                    refine h_ald (w := (g_W D σ)) (xs := (h_SW D q2 ((nZ Z2)) ((mZ Z2)) ++ [(q19, h_row D ([((mZ Z2) w).getD i 0, ((mZ Z2) ((1 - w))).getD (ix9 ((nZ Z2) (1 - w)) (((nZ Z2) w).getD i 0)) 0, if nI 999 < ((mZ Z2) w).getD i 0 + (((mZ Z2) ((1 - w))).getD (ix9 ((nZ Z2) (1 - w)) (((nZ Z2) w).getD i 0)) 0) then nI 999 else ((mZ Z2) w).getD i 0 + (((mZ Z2) ((1 - w))).getD (ix9 ((nZ Z2) (1 - w)) (((nZ Z2) w).getD i 0)) 0), if ((mZ Z2) ((1 - w))).getD (ix9 ((nZ Z2) (1 - w)) (((nZ Z2) w).getD i 0)) 0 < ((mZ Z2) w).getD i 0 then ((mZ Z2) ((1 - w))).getD (ix9 ((nZ Z2) (1 - w)) (((nZ Z2) w).getD i 0)) 0 else ((mZ Z2) w).getD i 0]))])) (i := 1) (q := q2) (o := 3) (j := w) hx hb hE hP rfl (by omega) dL_act_492 ?_
                    refine lv_iload hx hb dL_act_493 (lv_at hl 4 rfl) ?_
                    refine h_ild (w := (g_W D σ)) (xs := (h_SW D q2 ((nZ Z2)) ((mZ Z2)) ++ [(q19, h_row D ([((mZ Z2) w).getD i 0, ((mZ Z2) ((1 - w))).getD (ix9 ((nZ Z2) (1 - w)) (((nZ Z2) w).getD i 0)) 0, if nI 999 < ((mZ Z2) w).getD i 0 + (((mZ Z2) ((1 - w))).getD (ix9 ((nZ Z2) (1 - w)) (((nZ Z2) w).getD i 0)) 0) then nI 999 else ((mZ Z2) w).getD i 0 + (((mZ Z2) ((1 - w))).getD (ix9 ((nZ Z2) (1 - w)) (((nZ Z2) w).getD i 0)) 0), if ((mZ Z2) ((1 - w))).getD (ix9 ((nZ Z2) (1 - w)) (((nZ Z2) w).getD i 0)) 0 < ((mZ Z2) w).getD i 0 then ((mZ Z2) ((1 - w))).getD (ix9 ((nZ Z2) (1 - w)) (((nZ Z2) w).getD i 0)) 0 else ((mZ Z2) w).getD i 0]))])) (i := (3 + w)) (R := (nZ Z2) w) (j := i) hx hb hE hP (h_SWnx hw) (by omega) (by omega) (v := ((nZ Z2) w).getD i 0) (rfl) dL_act_495 ?_
                    refine lv_iload hx hb dL_act_496 (lv_at hl 2 rfl) ?_
                    refine lv_if_ge (tgt := 506) hx hb dL_act_498 (by decide) (fun h498 => ?_) (fun h498 => ?_)
                    · have hb498 := g_le (a := 0) (b := ix9 ((nZ Z2) (1 - w)) (((nZ Z2) w).getD i 0)) h498 (by omega) (by omega)
                      refine lv_aload hx hb dL_act_506 (lv_at hl 0 rfl) ?_
                      refine lv_iload hx hb dL_act_508 (lv_at hl 6 rfl) ?_
                      refine h_ild (w := (g_W D σ)) (xs := (h_SW D q2 ((nZ Z2)) ((mZ Z2)) ++ [(q19, h_row D ([((mZ Z2) w).getD i 0, ((mZ Z2) ((1 - w))).getD (ix9 ((nZ Z2) (1 - w)) (((nZ Z2) w).getD i 0)) 0, if nI 999 < ((mZ Z2) w).getD i 0 + (((mZ Z2) ((1 - w))).getD (ix9 ((nZ Z2) (1 - w)) (((nZ Z2) w).getD i 0)) 0) then nI 999 else ((mZ Z2) w).getD i 0 + (((mZ Z2) ((1 - w))).getD (ix9 ((nZ Z2) (1 - w)) (((nZ Z2) w).getD i 0)) 0), if ((mZ Z2) ((1 - w))).getD (ix9 ((nZ Z2) (1 - w)) (((nZ Z2) w).getD i 0)) 0 < ((mZ Z2) w).getD i 0 then ((mZ Z2) ((1 - w))).getD (ix9 ((nZ Z2) (1 - w)) (((nZ Z2) w).getD i 0)) 0 else ((mZ Z2) w).getD i 0]))])) (i := 7) (R := [((mZ Z2) w).getD i 0, ((mZ Z2) ((1 - w))).getD (ix9 ((nZ Z2) (1 - w)) (((nZ Z2) w).getD i 0)) 0, if nI 999 < ((mZ Z2) w).getD i 0 + (((mZ Z2) ((1 - w))).getD (ix9 ((nZ Z2) (1 - w)) (((nZ Z2) w).getD i 0)) 0) then nI 999 else ((mZ Z2) w).getD i 0 + (((mZ Z2) ((1 - w))).getD (ix9 ((nZ Z2) (1 - w)) (((nZ Z2) w).getD i 0)) 0), if ((mZ Z2) ((1 - w))).getD (ix9 ((nZ Z2) (1 - w)) (((nZ Z2) w).getD i 0)) 0 < ((mZ Z2) w).getD i 0 then ((mZ Z2) ((1 - w))).getD (ix9 ((nZ Z2) (1 - w)) (((nZ Z2) w).getD i 0)) 0 else ((mZ Z2) w).getD i 0]) (j := bk1) hx hb hE hP (rfl) (show bk1 < 4 by omega) (show 4 < 2 ^ 31 by decide) (v := mgm_ bk1 (((mZ Z2) w).getD i 0) (((mZ Z2) (1 - w)).getD (ix9 ((nZ Z2) (1 - w)) (((nZ Z2) w).getD i 0)) 0)) (all4 (by omega) (ne_m1 hmb2)) dL_act_510 ?_
                      obtain ⟨hP, hD⟩ := h_sub (ys := (h_SW D q2 ((nZ Z2)) ((mZ Z2)))) hP hD [0, 1, 2, 3, 4, 5, 6] rfl rfl
                      have hP : va_P D vwCl ((g_W D σ) ++ (h_SW D q2 ((nZ Z2)) ((mZ Z2)))) H := hP
                      have hD : va_D (va_A (((g_W D σ) ++ (h_SW D q ((nZ Z)) ((mZ Z))))) s.heap.size) ((g_W D σ) ++ (h_SW D q2 ((nZ Z2)) ((mZ Z2)))) := hD
                      refine h_callV (y := yX3_put) (n := 3) (As := [.int (nI (1 - w)), .int (((nZ Z2) w).getD i 0), .int (mgm_ bk1 (((mZ Z2) w).getD i 0) (((mZ Z2) (1 - w)).getD (ix9 ((nZ Z2) (1 - w)) (((nZ Z2) w).getD i 0)) 0))]) (rest := []) hx hb hml hown hts hE hZ hS hl.1 (z_put l D q2 Z2 (1 - w) (((nZ Z2) w).getD i 0) (mgm_ bk1 (((mZ Z2) w).getD i 0) (((mZ Z2) (1 - w)).getD (ix9 ((nZ Z2) (1 - w)) (((nZ Z2) w).getD i 0)) 0)) (by omega) (by omega) (h_DT hD)) h_P0 (h_suf hP) (h_AS hD hS h_Asz) (fun _ _ _ => trivial) (h_jS hP hD (h_AS hD hS h_Asz)) k_L_60 (wr := h_SW D q2 ((nZ Z2)) ((mZ Z2))) (q0 := 0) (ci := 3) (h_suf hP) (rfl) rfl rfl rfl rfl ⟨Nat.le_of_ble_eq_true rfl, Nat.le_of_ble_eq_true rfl⟩ (Nat.le_of_ble_eq_true rfl) ⟨by show (((3 * i) + 0) + 1) + 2 ≤ 120; omega, by show (((54 * i) + 0) + 4) + 50 ≤ 3000; omega⟩ dL_act_511 (fun v24 w1 H locs hq hP hD hS => ?_)
                      obtain ⟨rfl, qz20, hqz21, rfl⟩ := hq
                      rw [← hqz21] at hl
                      obtain ⟨Zz22, hZz23⟩ : ∃ z, z = va_up Z2 (1 - w) (pZ (Z2 (1 - w)) (((nZ Z2) w).getD i 0) (mgm_ bk1 (((mZ Z2) w).getD i 0) (((mZ Z2) (1 - w)).getD (ix9 ((nZ Z2) (1 - w)) (((nZ Z2) w).getD i 0)) 0))) := ⟨_, rfl⟩
                      rw [← hZz23] at hP hD
                      have hP : va_P D vwCl ((g_W D σ) ++ (h_SW D qz20 ((nZ Zz22)) ((mZ Zz22)))) H := hP
                      have hD : va_D (va_A (((g_W D σ) ++ (h_SW D q ((nZ Z)) ((mZ Z))))) s.heap.size) ((g_W D σ) ++ (h_SW D qz20 ((nZ Zz22)) ((mZ Zz22)))) := hD
                      refine W.widen (k := ((((3 * i) + 0) + 1) + 2)) (n := ((((54 * i) + 0) + 4) + 50)) (Nat.le_refl _) (Nat.le_refl _) ?_
                      refine W.eq (g2 := F0 m 514 ls []) rfl ?_
                      refine lv_iinc (v := nI (i + 1)) (lv' := [(10, .int (nI (i + 1))), (14, .ref q19), (13, .int (((mZ Z2) ((1 - w))).getD (ix9 ((nZ Z2) (1 - w)) (((nZ Z2) w).getD i 0)) 0)), (12, .int (nI (ix9 ((nZ Z2) (1 - w)) (((nZ Z2) w).getD i 0)))), (11, .int (((mZ Z2) w).getD i 0)), (9, .int (nI 1)), (8, .int (nI bk1)), (7, .int (nI (cz_ (Ls (1 - w)) ((nZ Z) w)))), (5, .int (fdx_ (nZ Z w) (nm))), (4, .int nm), (3, .int (nI w)), (0, .ref (ad_ D 0)), (1, .ref (qz20 0)), (2, .int x)]) hx hb dL_act_514 hl (k := 4) rfl (g_inc i) (by decide) rfl (fun ls hl => ?_)
                      refine lv_goto (tgt := 380) hx hb dL_act_517 (by decide) ?_
                      refine W.widen (k := (3 * (i + 1))) (n := (54 * (i + 1))) (by omega) (by omega) ?_
                      exact ih380 (i + 1) qz20 Zz22 (by omega) (by omega) ((hqz21.trans hq2)) (by rw [hZz23]; exact (up_ot2 hw).trans hZw) (by rw [hZz23, up_at]; exact mg_step (by omega) hvi hZo hX9 (by rw [← hX9, ← hY9, hmo2]) hX1) _ _ hP hD hS ls (lv_sub hl [0, 5, 6, 7, 8, 9, 10, 11, 12, 13] rfl)
                    · have hb498 := g_nle (a := 0) (b := ix9 ((nZ Z2) (1 - w)) (((nZ Z2) w).getD i 0)) h498 (by omega) (by omega)
                      omega
                  · have hk2 := fdx_neg (R := (nZ Z2) (1 - w)) (x := ((nZ Z2) w).getD i 0) (by omega) (Int32.not_le.mp h423)
                    have hmo2 : mo_ (mgP bk1 (Ls (1 - w)) ((Z w).take i)) (((nZ Z2) w).getD i 0) = -1 := fd_n hvi hZo (by rw [hX9]; exact hX1) (by rw [← hn2o]; exact hk2)
                    refine lv_iload hx hb dL_act_426 (lv_at hl 1 rfl) ?_
                    refine lv_goto (tgt := 442) hx hb dL_act_428 (by decide) ?_
                    refine lv_istore (lv' := [(13, .int (((mZ Z2) w).getD i 0)), (12, .int (fdx_ ((nZ Z2) (1 - w)) (((nZ Z2) w).getD i 0))), (11, .int (((mZ Z2) w).getD i 0)), (10, .int (nI i)), (9, .int (nI 1)), (8, .int (nI bk1)), (7, .int (nI (cz_ (Ls (1 - w)) ((nZ Z) w)))), (5, .int (fdx_ (nZ Z w) (nm))), (4, .int nm), (3, .int (nI w)), (0, .ref (ad_ D 0)), (1, .ref (q2 0)), (2, .int x)]) hx hb dL_act_442 hl (by decide) rfl (fun ls hl => ?_)
                    refine lv_iconst (v := nI 4) hx hb dL_act_444 (by decide) ?_
                    refine h_new (w := (g_W D σ)) (xs := (h_SW D q2 ((nZ Z2)) ((mZ Z2)))) (n := 4) hx hb hts hE hP hD hS h_Asz (by omega) (by show ((3 * i) + 0) + 1 ≤ 120; omega) (by show ((54 * i) + 0) + 4 ≤ 3000; omega) dL_act_445 (fun q25 H hP hD hS => ?_)
                    refine W.widen (k := ((3 * i) + 0) + 1) (n := ((54 * i) + 0) + 4) (by omega) (by omega) ?_
                    have hP : va_P D vwCl ((g_W D σ) ++ (h_SW D q2 ((nZ Z2)) ((mZ Z2)) ++ [(q25, h_row D (List.replicate 4 0))])) H := hP
                    have hD : va_D (va_A (((g_W D σ) ++ (h_SW D q ((nZ Z)) ((mZ Z))))) s.heap.size) ((g_W D σ) ++ (h_SW D q2 ((nZ Z2)) ((mZ Z2)) ++ [(q25, h_row D (List.replicate 4 0))])) := hD
                    have hP : va_P D vwCl ((g_W D σ) ++ (h_SW D q2 ((nZ Z2)) ((mZ Z2)) ++ [(q25, h_row D ([0, 0, 0, 0]))])) H := hP
                    have hD : va_D (va_A (((g_W D σ) ++ (h_SW D q ((nZ Z)) ((mZ Z))))) s.heap.size) ((g_W D σ) ++ (h_SW D q2 ((nZ Z2)) ((mZ Z2)) ++ [(q25, h_row D ([0, 0, 0, 0]))])) := hD
                    refine lv_dup hx hb dL_act_447 rfl ?_
                    refine lv_iconst (v := nI 0) hx hb dL_act_448 (by decide) ?_
                    refine lv_iload hx hb dL_act_449 (lv_at hl 2 rfl) ?_
                    refine h_ist (w := (g_W D σ)) (xs := (h_SW D q2 ((nZ Z2)) ((mZ Z2)) ++ [(q25, h_row D ([0, 0, 0, 0]))])) (i := 7) (R := [0, 0, 0, 0]) (j := 0) (x := ((mZ Z2) w).getD i 0) hx hb hE hP hD hS (rfl) (show 0 < 4 by decide) (show 4 < 2 ^ 31 by decide) dL_act_451 (fun H locs hP hD hS => ?_)
                    rw [show ([0, 0, 0, 0] : List Int32).set 0 (((mZ Z2) w).getD i 0) = [((mZ Z2) w).getD i 0, 0, 0, 0] from rfl] at hP hD
                    have hP : va_P D vwCl ((g_W D σ) ++ (h_SW D q2 ((nZ Z2)) ((mZ Z2)) ++ [(q25, h_row D ([((mZ Z2) w).getD i 0, 0, 0, 0]))])) H := hP
                    have hD : va_D (va_A (((g_W D σ) ++ (h_SW D q ((nZ Z)) ((mZ Z))))) s.heap.size) ((g_W D σ) ++ (h_SW D q2 ((nZ Z2)) ((mZ Z2)) ++ [(q25, h_row D ([((mZ Z2) w).getD i 0, 0, 0, 0]))])) := hD
                    refine lv_dup hx hb dL_act_452 rfl ?_
                    refine lv_iconst (v := nI 1) hx hb dL_act_453 (by decide) ?_
                    refine lv_iload hx hb dL_act_454 (lv_at hl 0 rfl) ?_
                    refine h_ist (w := (g_W D σ)) (xs := (h_SW D q2 ((nZ Z2)) ((mZ Z2)) ++ [(q25, h_row D ([((mZ Z2) w).getD i 0, 0, 0, 0]))])) (i := 7) (R := [((mZ Z2) w).getD i 0, 0, 0, 0]) (j := 1) (x := ((mZ Z2) w).getD i 0) hx hb hE hP hD hS (rfl) (show 1 < 4 by decide) (show 4 < 2 ^ 31 by decide) dL_act_456 (fun H locs hP hD hS => ?_)
                    rw [show ([((mZ Z2) w).getD i 0, 0, 0, 0] : List Int32).set 1 (((mZ Z2) w).getD i 0) = [((mZ Z2) w).getD i 0, ((mZ Z2) w).getD i 0, 0, 0] from rfl] at hP hD
                    have hP : va_P D vwCl ((g_W D σ) ++ (h_SW D q2 ((nZ Z2)) ((mZ Z2)) ++ [(q25, h_row D ([((mZ Z2) w).getD i 0, ((mZ Z2) w).getD i 0, 0, 0]))])) H := hP
                    have hD : va_D (va_A (((g_W D σ) ++ (h_SW D q ((nZ Z)) ((mZ Z))))) s.heap.size) ((g_W D σ) ++ (h_SW D q2 ((nZ Z2)) ((mZ Z2)) ++ [(q25, h_row D ([((mZ Z2) w).getD i 0, ((mZ Z2) w).getD i 0, 0, 0]))])) := hD
                    refine lv_dup hx hb dL_act_457 rfl ?_
                    refine lv_iconst (v := nI 2) hx hb dL_act_458 (by decide) ?_
                    refine lv_sipush (v := nI 999) hx hb dL_act_459 (by decide) ?_
                    refine lv_iload hx hb dL_act_462 (lv_at hl 2 rfl) ?_
                    refine lv_iload hx hb dL_act_464 (lv_at hl 0 rfl) ?_
                    refine lv_iadd hx hb dL_act_466 ?_
                    refine g_mmin hx hb (hml.trans hl.1.symm) hown hts k_L_55 k_min ⟨Nat.le_of_ble_eq_true rfl, Nat.le_of_ble_eq_true rfl, by show (((3 * i) + 0) + 1) ≤ 120; omega, by show (((54 * i) + 0) + 4) ≤ 3000; omega⟩ dL_act_467 ?_
                    refine g_top (y := if nI 999 < ((mZ Z2) w).getD i 0 + (((mZ Z2) w).getD i 0) then nI 999 else ((mZ Z2) w).getD i 0 + (((mZ Z2) w).getD i 0)) (mn999) ?_
                    refine h_ist (w := (g_W D σ)) (xs := (h_SW D q2 ((nZ Z2)) ((mZ Z2)) ++ [(q25, h_row D ([((mZ Z2) w).getD i 0, ((mZ Z2) w).getD i 0, 0, 0]))])) (i := 7) (R := [((mZ Z2) w).getD i 0, ((mZ Z2) w).getD i 0, 0, 0]) (j := 2) (x := if nI 999 < ((mZ Z2) w).getD i 0 + (((mZ Z2) w).getD i 0) then nI 999 else ((mZ Z2) w).getD i 0 + (((mZ Z2) w).getD i 0)) hx hb hE hP hD hS (rfl) (show 2 < 4 by decide) (show 4 < 2 ^ 31 by decide) dL_act_470 (fun H locs hP hD hS => ?_)
                    rw [show ([((mZ Z2) w).getD i 0, ((mZ Z2) w).getD i 0, 0, 0] : List Int32).set 2 (if nI 999 < ((mZ Z2) w).getD i 0 + (((mZ Z2) w).getD i 0) then nI 999 else ((mZ Z2) w).getD i 0 + (((mZ Z2) w).getD i 0)) = [((mZ Z2) w).getD i 0, ((mZ Z2) w).getD i 0, if nI 999 < ((mZ Z2) w).getD i 0 + (((mZ Z2) w).getD i 0) then nI 999 else ((mZ Z2) w).getD i 0 + (((mZ Z2) w).getD i 0), 0] from rfl] at hP hD
                    have hP : va_P D vwCl ((g_W D σ) ++ (h_SW D q2 ((nZ Z2)) ((mZ Z2)) ++ [(q25, h_row D ([((mZ Z2) w).getD i 0, ((mZ Z2) w).getD i 0, if nI 999 < ((mZ Z2) w).getD i 0 + (((mZ Z2) w).getD i 0) then nI 999 else ((mZ Z2) w).getD i 0 + (((mZ Z2) w).getD i 0), 0]))])) H := hP
                    have hD : va_D (va_A (((g_W D σ) ++ (h_SW D q ((nZ Z)) ((mZ Z))))) s.heap.size) ((g_W D σ) ++ (h_SW D q2 ((nZ Z2)) ((mZ Z2)) ++ [(q25, h_row D ([((mZ Z2) w).getD i 0, ((mZ Z2) w).getD i 0, if nI 999 < ((mZ Z2) w).getD i 0 + (((mZ Z2) w).getD i 0) then nI 999 else ((mZ Z2) w).getD i 0 + (((mZ Z2) w).getD i 0), 0]))])) := hD
                    refine lv_dup hx hb dL_act_471 rfl ?_
                    refine lv_iconst (v := nI 3) hx hb dL_act_472 (by decide) ?_
                    refine lv_iload hx hb dL_act_473 (lv_at hl 2 rfl) ?_
                    refine lv_iload hx hb dL_act_475 (lv_at hl 0 rfl) ?_
                    refine g_mmin hx hb (hml.trans hl.1.symm) hown hts k_L_55 k_min ⟨Nat.le_of_ble_eq_true rfl, Nat.le_of_ble_eq_true rfl, by show (((3 * i) + 0) + 1) ≤ 120; omega, by show (((54 * i) + 0) + 4) ≤ 3000; omega⟩ dL_act_477 ?_
                    refine h_ist (w := (g_W D σ)) (xs := (h_SW D q2 ((nZ Z2)) ((mZ Z2)) ++ [(q25, h_row D ([((mZ Z2) w).getD i 0, ((mZ Z2) w).getD i 0, if nI 999 < ((mZ Z2) w).getD i 0 + (((mZ Z2) w).getD i 0) then nI 999 else ((mZ Z2) w).getD i 0 + (((mZ Z2) w).getD i 0), 0]))])) (i := 7) (R := [((mZ Z2) w).getD i 0, ((mZ Z2) w).getD i 0, if nI 999 < ((mZ Z2) w).getD i 0 + (((mZ Z2) w).getD i 0) then nI 999 else ((mZ Z2) w).getD i 0 + (((mZ Z2) w).getD i 0), 0]) (j := 3) (x := if ((mZ Z2) w).getD i 0 < ((mZ Z2) w).getD i 0 then ((mZ Z2) w).getD i 0 else ((mZ Z2) w).getD i 0) hx hb hE hP hD hS (rfl) (show 3 < 4 by decide) (show 4 < 2 ^ 31 by decide) dL_act_480 (fun H locs hP hD hS => ?_)
                    rw [show ([((mZ Z2) w).getD i 0, ((mZ Z2) w).getD i 0, if nI 999 < ((mZ Z2) w).getD i 0 + (((mZ Z2) w).getD i 0) then nI 999 else ((mZ Z2) w).getD i 0 + (((mZ Z2) w).getD i 0), 0] : List Int32).set 3 (if ((mZ Z2) w).getD i 0 < ((mZ Z2) w).getD i 0 then ((mZ Z2) w).getD i 0 else ((mZ Z2) w).getD i 0) = [((mZ Z2) w).getD i 0, ((mZ Z2) w).getD i 0, if nI 999 < ((mZ Z2) w).getD i 0 + (((mZ Z2) w).getD i 0) then nI 999 else ((mZ Z2) w).getD i 0 + (((mZ Z2) w).getD i 0), if ((mZ Z2) w).getD i 0 < ((mZ Z2) w).getD i 0 then ((mZ Z2) w).getD i 0 else ((mZ Z2) w).getD i 0] from rfl] at hP hD
                    have hP : va_P D vwCl ((g_W D σ) ++ (h_SW D q2 ((nZ Z2)) ((mZ Z2)) ++ [(q25, h_row D ([((mZ Z2) w).getD i 0, ((mZ Z2) w).getD i 0, if nI 999 < ((mZ Z2) w).getD i 0 + (((mZ Z2) w).getD i 0) then nI 999 else ((mZ Z2) w).getD i 0 + (((mZ Z2) w).getD i 0), if ((mZ Z2) w).getD i 0 < ((mZ Z2) w).getD i 0 then ((mZ Z2) w).getD i 0 else ((mZ Z2) w).getD i 0]))])) H := hP
                    have hD : va_D (va_A (((g_W D σ) ++ (h_SW D q ((nZ Z)) ((mZ Z))))) s.heap.size) ((g_W D σ) ++ (h_SW D q2 ((nZ Z2)) ((mZ Z2)) ++ [(q25, h_row D ([((mZ Z2) w).getD i 0, ((mZ Z2) w).getD i 0, if nI 999 < ((mZ Z2) w).getD i 0 + (((mZ Z2) w).getD i 0) then nI 999 else ((mZ Z2) w).getD i 0 + (((mZ Z2) w).getD i 0), if ((mZ Z2) w).getD i 0 < ((mZ Z2) w).getD i 0 then ((mZ Z2) w).getD i 0 else ((mZ Z2) w).getD i 0]))])) := hD
                    refine lv_astore (lv' := [(14, .ref q25), (13, .int (((mZ Z2) w).getD i 0)), (12, .int (fdx_ ((nZ Z2) (1 - w)) (((nZ Z2) w).getD i 0))), (11, .int (((mZ Z2) w).getD i 0)), (10, .int (nI i)), (9, .int (nI 1)), (8, .int (nI bk1)), (7, .int (nI (cz_ (Ls (1 - w)) ((nZ Z) w)))), (5, .int (fdx_ (nZ Z w) (nm))), (4, .int nm), (3, .int (nI w)), (0, .ref (ad_ D 0)), (1, .ref (q2 0)), (2, .int x)]) hx hb dL_act_481 hl (by decide) rfl (fun ls hl => ?_)
                    refine lv_aload_n hx hb dL_act_483 rfl (lv_at hl 12 rfl) ?_
                    refine lv_iconst (v := nI 1) hx hb dL_act_484 (by decide) ?_
                    refine lv_iload_n hx hb dL_act_485 rfl (lv_at hl 10 rfl) ?_
                    refine lv_isub hx hb dL_act_486 ?_
                    refine g_top (y := nI (1 - w)) (pk_sub (by omega)) ?_
                    refine lv_aload_n hx hb dL_act_487 rfl (lv_at hl 12 rfl) ?_
                    refine h_get (w := (g_W D σ)) (xs := (h_SW D q2 ((nZ Z2)) ((mZ Z2)) ++ [(q25, h_row D ([((mZ Z2) w).getD i 0, ((mZ Z2) w).getD i 0, if nI 999 < ((mZ Z2) w).getD i 0 + (((mZ Z2) w).getD i 0) then nI 999 else ((mZ Z2) w).getD i 0 + (((mZ Z2) w).getD i 0), if ((mZ Z2) w).getD i 0 < ((mZ Z2) w).getD i 0 then ((mZ Z2) w).getD i 0 else ((mZ Z2) w).getD i 0]))])) (i := 0) hx hb hts hE hown hP rfl 0 (by decide) rfl wf_L_16 (v := .ref (q2 1)) rfl dL_act_488 ?_
                    refine lv_iload_n hx hb dL_act_491 rfl (lv_at hl 10 rfl) ?_
                    refine h_ald (w := (g_W D σ)) (xs := (h_SW D q2 ((nZ Z2)) ((mZ Z2)) ++ [(q25, h_row D ([((mZ Z2) w).getD i 0, ((mZ Z2) w).getD i 0, if nI 999 < ((mZ Z2) w).getD i 0 + (((mZ Z2) w).getD i 0) then nI 999 else ((mZ Z2) w).getD i 0 + (((mZ Z2) w).getD i 0), if ((mZ Z2) w).getD i 0 < ((mZ Z2) w).getD i 0 then ((mZ Z2) w).getD i 0 else ((mZ Z2) w).getD i 0]))])) (i := 1) (q := q2) (o := 3) (j := w) hx hb hE hP rfl (by omega) dL_act_492 ?_
                    refine lv_iload hx hb dL_act_493 (lv_at hl 4 rfl) ?_
                    refine h_ild (w := (g_W D σ)) (xs := (h_SW D q2 ((nZ Z2)) ((mZ Z2)) ++ [(q25, h_row D ([((mZ Z2) w).getD i 0, ((mZ Z2) w).getD i 0, if nI 999 < ((mZ Z2) w).getD i 0 + (((mZ Z2) w).getD i 0) then nI 999 else ((mZ Z2) w).getD i 0 + (((mZ Z2) w).getD i 0), if ((mZ Z2) w).getD i 0 < ((mZ Z2) w).getD i 0 then ((mZ Z2) w).getD i 0 else ((mZ Z2) w).getD i 0]))])) (i := (3 + w)) (R := (nZ Z2) w) (j := i) hx hb hE hP (h_SWnx hw) (by omega) (by omega) (v := ((nZ Z2) w).getD i 0) (rfl) dL_act_495 ?_
                    refine lv_iload hx hb dL_act_496 (lv_at hl 2 rfl) ?_
                    refine lv_if_ge (tgt := 506) hx hb dL_act_498 (by decide) (fun h498 => ?_) (fun h498 => ?_)
                    · exact absurd h498 h423
                    · refine lv_iload hx hb dL_act_501 (lv_at hl 3 rfl) ?_
                      refine lv_goto (tgt := 511) hx hb dL_act_503 (by decide) ?_
                      obtain ⟨hP, hD⟩ := h_sub (ys := (h_SW D q2 ((nZ Z2)) ((mZ Z2)))) hP hD [0, 1, 2, 3, 4, 5, 6] rfl rfl
                      have hP : va_P D vwCl ((g_W D σ) ++ (h_SW D q2 ((nZ Z2)) ((mZ Z2)))) H := hP
                      have hD : va_D (va_A (((g_W D σ) ++ (h_SW D q ((nZ Z)) ((mZ Z))))) s.heap.size) ((g_W D σ) ++ (h_SW D q2 ((nZ Z2)) ((mZ Z2)))) := hD
                      refine h_callV (y := yX3_put) (n := 3) (As := [.int (nI (1 - w)), .int (((nZ Z2) w).getD i 0), .int (((mZ Z2) w).getD i 0)]) (rest := []) hx hb hml hown hts hE hZ hS hl.1 (z_put l D q2 Z2 (1 - w) (((nZ Z2) w).getD i 0) (((mZ Z2) w).getD i 0) (by omega) (by omega) (h_DT hD)) h_P0 (h_suf hP) (h_AS hD hS h_Asz) (fun _ _ _ => trivial) (h_jS hP hD (h_AS hD hS h_Asz)) k_L_60 (wr := h_SW D q2 ((nZ Z2)) ((mZ Z2))) (q0 := 0) (ci := 3) (h_suf hP) (rfl) rfl rfl rfl rfl ⟨Nat.le_of_ble_eq_true rfl, Nat.le_of_ble_eq_true rfl⟩ (Nat.le_of_ble_eq_true rfl) ⟨by show (((3 * i) + 0) + 1) + 2 ≤ 120; omega, by show (((54 * i) + 0) + 4) + 50 ≤ 3000; omega⟩ dL_act_511 (fun v30 w1 H locs hq hP hD hS => ?_)
                      obtain ⟨rfl, qz26, hqz27, rfl⟩ := hq
                      rw [← hqz27] at hl
                      obtain ⟨Zz28, hZz29⟩ : ∃ z, z = va_up Z2 (1 - w) (pZ (Z2 (1 - w)) (((nZ Z2) w).getD i 0) (((mZ Z2) w).getD i 0)) := ⟨_, rfl⟩
                      rw [← hZz29] at hP hD
                      have hP : va_P D vwCl ((g_W D σ) ++ (h_SW D qz26 ((nZ Zz28)) ((mZ Zz28)))) H := hP
                      have hD : va_D (va_A (((g_W D σ) ++ (h_SW D q ((nZ Z)) ((mZ Z))))) s.heap.size) ((g_W D σ) ++ (h_SW D qz26 ((nZ Zz28)) ((mZ Zz28)))) := hD
                      refine W.widen (k := ((((3 * i) + 0) + 1) + 2)) (n := ((((54 * i) + 0) + 4) + 50)) (Nat.le_refl _) (Nat.le_refl _) ?_
                      refine W.eq (g2 := F0 m 514 ls []) rfl ?_
                      refine lv_iinc (v := nI (i + 1)) (lv' := [(10, .int (nI (i + 1))), (14, .ref q25), (13, .int (((mZ Z2) w).getD i 0)), (12, .int (fdx_ ((nZ Z2) (1 - w)) (((nZ Z2) w).getD i 0))), (11, .int (((mZ Z2) w).getD i 0)), (9, .int (nI 1)), (8, .int (nI bk1)), (7, .int (nI (cz_ (Ls (1 - w)) ((nZ Z) w)))), (5, .int (fdx_ (nZ Z w) (nm))), (4, .int nm), (3, .int (nI w)), (0, .ref (ad_ D 0)), (1, .ref (qz26 0)), (2, .int x)]) hx hb dL_act_514 hl (k := 4) rfl (g_inc i) (by decide) rfl (fun ls hl => ?_)
                      refine lv_goto (tgt := 380) hx hb dL_act_517 (by decide) ?_
                      refine W.widen (k := (3 * (i + 1))) (n := (54 * (i + 1))) (by omega) (by omega) ?_
                      exact ih380 (i + 1) qz26 Zz28 (by omega) (by omega) ((hqz27.trans hq2)) (by rw [hZz29]; exact (up_ot2 hw).trans hZw) (by rw [hZz29, up_at]; exact mg_step (by omega) hvi hZo hX9 (by rw [← hX9, ← hY9, hmo2, mgm_n]) hX1) _ _ hP hD hS ls (lv_sub hl [0, 5, 6, 7, 8, 9, 10, 11, 12, 13] rfl)
            refine W.widen (k := (3 * 0)) (n := (54 * 0)) (by omega) (by omega) ?_
            exact K380 (((Z w).length - 0) + 1) 0 q Z (Nat.lt_succ_self _) (Nat.zero_le _) rfl rfl (hSZ (1 - w) (by omega)) _ _ hP hD hS ls (lv_sub hl [0, 1, 3, 4, 5, 6, 7, 8, 9, 10] rfl)
      · have hb304 := g_nle (a := ((nZ Z) w).length) (b := i) h304 (by omega) (by omega)
        refine lv_aload hx hb dL_act_307 (lv_at hl 2 rfl) ?_
        refine lv_iload hx hb dL_act_309 (lv_at hl 0 rfl) ?_
        refine h_ild (w := (g_W D σ)) (xs := (h_SW D q ((nZ Z)) ((mZ Z)))) (i := (3 + w)) (R := (nZ Z) w) (j := i) hx hb hE hP (h_SWn hw) (by omega) (by omega) (v := ((nZ Z) w).getD i 0) (rfl) dL_act_311 ?_
        refine lv_istore (lv' := [(12, .int (((nZ Z) w).getD i 0)), (11, .int (nI i)), (10, .int (nI (((nZ Z) w).length))), (9, .ref (q (3 + w))), (8, .int (nI bk1)), (7, .int (nI (cz_ (Ls (1 - w)) (((nZ Z) w).take i)))), (5, .int (fdx_ (nZ Z w) (nm))), (4, .int nm), (3, .int (nI w)), (0, .ref (ad_ D 0)), (1, .ref (q 0)), (2, .int x)]) hx hb dL_act_312 hl (by decide) rfl (fun ls hl => ?_)
        refine lv_iload hx hb dL_act_314 (lv_at hl 5 rfl) ?_
        refine lv_aload_n hx hb dL_act_316 rfl (lv_at hl 10 rfl) ?_
        refine lv_iconst (v := nI 1) hx hb dL_act_317 (by decide) ?_
        refine lv_iload_n hx hb dL_act_318 rfl (lv_at hl 8 rfl) ?_
        refine lv_isub hx hb dL_act_319 ?_
        refine g_top (y := nI (1 - w)) (pk_sub (by omega)) ?_
        refine lv_iload hx hb dL_act_320 (lv_at hl 0 rfl) ?_
        refine h_callV (y := yX3_find) (n := 2) (As := [.int (nI (1 - w)), .int (((nZ Z) w).getD i 0)]) (rest := [.int (nI (cz_ (Ls (1 - w)) (((nZ Z) w).take i)))]) hx hb hml hown hts hE hZ hS hl.1 (m_X3_find l D q ((nZ Z)) ((mZ Z)) (1 - w) (((nZ Z) w).getD i 0) (by omega) (by omega)) (h_suf (w := (g_W D σ)) hP) h_P0 (h_Anil hS h_Asz) (fun _ _ _ => trivial) (h_jR hP hD (h_Anil hS h_Asz)) k_L_26 (wr := h_SW D q ((nZ Z)) ((mZ Z))) (q0 := 0) (ci := 3) (h_suf (w := (g_W D σ)) hP) (rfl) rfl rfl rfl rfl ⟨Nat.le_of_ble_eq_true rfl, Nat.le_of_ble_eq_true rfl⟩ (Nat.le_of_ble_eq_true rfl) ⟨Nat.le_of_ble_eq_true rfl, Nat.le_of_ble_eq_true rfl⟩ dL_act_322 (fun v31 w1 H locs hq hP hD hS => ?_)
        obtain ⟨rfl, rfl⟩ := hq
        rw [List.append_nil] at hP hD
        have hP : va_P D vwCl ((g_W D σ) ++ (h_SW D q ((nZ Z)) ((mZ Z)))) H := hP
        have hD : va_D (va_A (((g_W D σ) ++ (h_SW D q ((nZ Z)) ((mZ Z))))) s.heap.size) ((g_W D σ) ++ (h_SW D q ((nZ Z)) ((mZ Z)))) := hD
        refine W.widen (k := 0) (n := 0) (Nat.le_of_ble_eq_true rfl) (Nat.le_of_ble_eq_true rfl) ?_
        refine W.eq (g2 := F0 m 325 ls [.int (fdx_ ((nZ Z) (1 - w)) (((nZ Z) w).getD i 0)), .int (nI (cz_ (Ls (1 - w)) (((nZ Z) w).take i)))]) rfl ?_
        refine lv_if_lt (tgt := 332) hx hb dL_act_325 (by decide) (fun h325 => ?_) (fun h325 => ?_)
        · have hoi := SR_rn hvC (SZ_R hSZ) hw _ (gD_mem (show i < ((nZ Z) w).length by omega))
          have hmf : mo_ (Ls (1 - w)) (((nZ Z) w).getD i 0) = -1 := fd_n hvo (hSZ (1 - w) (by omega)) (ne_m1 (nm_le hoi).1) (by rw [← hon]; exact fdx_neg (R := nZ Z (1 - w)) (by omega) h325)
          refine lv_iconst (v := nI 0) hx hb dL_act_332 (by decide) ?_
          refine lv_iadd hx hb dL_act_333 ?_
          refine g_top (y := nI ((cz_ (Ls (1 - w)) (((nZ Z) w).take i)) + 0)) (nI_add (cz_ (Ls (1 - w)) (((nZ Z) w).take i)) 0) ?_
          refine g_top (y := nI (cz_ (Ls (1 - w)) (((nZ Z) w).take (i + 1)))) (by rw [cz_s (by omega), if_pos hmf]) ?_
          refine lv_istore (lv' := [(7, .int (nI (cz_ (Ls (1 - w)) (((nZ Z) w).take (i + 1))))), (12, .int (((nZ Z) w).getD i 0)), (11, .int (nI i)), (10, .int (nI (((nZ Z) w).length))), (9, .ref (q (3 + w))), (8, .int (nI bk1)), (5, .int (fdx_ (nZ Z w) (nm))), (4, .int nm), (3, .int (nI w)), (0, .ref (ad_ D 0)), (1, .ref (q 0)), (2, .int x)]) hx hb dL_act_334 hl (by decide) rfl (fun ls hl => ?_)
          refine lv_iinc (v := nI (i + 1)) (lv' := [(11, .int (nI (i + 1))), (7, .int (nI (cz_ (Ls (1 - w)) (((nZ Z) w).take (i + 1))))), (12, .int (((nZ Z) w).getD i 0)), (10, .int (nI (((nZ Z) w).length))), (9, .ref (q (3 + w))), (8, .int (nI bk1)), (5, .int (fdx_ (nZ Z w) (nm))), (4, .int nm), (3, .int (nI w)), (0, .ref (ad_ D 0)), (1, .ref (q 0)), (2, .int x)]) hx hb dL_act_336 hl (k := 2) rfl (g_inc i) (by decide) rfl (fun ls hl => ?_)
          refine lv_goto (tgt := 300) hx hb dL_act_339 (by decide) ?_
          exact ih300 (i + 1) (by omega) (by omega) _ _ hP hD hS ls (lv_sub hl [0, 3, 4, 5, 1, 6, 7, 8, 9, 10, 11] rfl)
        · have hoi := SR_rn hvC (SZ_R hSZ) hw _ (gD_mem (show i < ((nZ Z) w).length by omega))
          have hmf : ¬ mo_ (Ls (1 - w)) (((nZ Z) w).getD i 0) = -1 := by rw [fd_y hvo (hSZ (1 - w) (by omega)) (by rw [← hon]; exact (fdx_pos h325).1)]; exact ne_m1 (mo_0 hvo (hSZ (1 - w) (by omega)) (by rw [← hon]; exact (fdx_pos h325).1)).1
          refine lv_iconst (v := nI 1) hx hb dL_act_328 (by decide) ?_
          refine lv_goto (tgt := 333) hx hb dL_act_329 (by decide) ?_
          refine lv_iadd hx hb dL_act_333 ?_
          refine g_top (y := nI ((cz_ (Ls (1 - w)) (((nZ Z) w).take i)) + 1)) (nI_add (cz_ (Ls (1 - w)) (((nZ Z) w).take i)) 1) ?_
          refine g_top (y := nI (cz_ (Ls (1 - w)) (((nZ Z) w).take (i + 1)))) (by rw [cz_s (by omega), if_neg hmf]) ?_
          refine lv_istore (lv' := [(7, .int (nI (cz_ (Ls (1 - w)) (((nZ Z) w).take (i + 1))))), (12, .int (((nZ Z) w).getD i 0)), (11, .int (nI i)), (10, .int (nI (((nZ Z) w).length))), (9, .ref (q (3 + w))), (8, .int (nI bk1)), (5, .int (fdx_ (nZ Z w) (nm))), (4, .int nm), (3, .int (nI w)), (0, .ref (ad_ D 0)), (1, .ref (q 0)), (2, .int x)]) hx hb dL_act_334 hl (by decide) rfl (fun ls hl => ?_)
          refine lv_iinc (v := nI (i + 1)) (lv' := [(11, .int (nI (i + 1))), (7, .int (nI (cz_ (Ls (1 - w)) (((nZ Z) w).take (i + 1))))), (12, .int (((nZ Z) w).getD i 0)), (10, .int (nI (((nZ Z) w).length))), (9, .ref (q (3 + w))), (8, .int (nI bk1)), (5, .int (fdx_ (nZ Z w) (nm))), (4, .int nm), (3, .int (nI w)), (0, .ref (ad_ D 0)), (1, .ref (q 0)), (2, .int x)]) hx hb dL_act_336 hl (k := 2) rfl (g_inc i) (by decide) rfl (fun ls hl => ?_)
          refine lv_goto (tgt := 300) hx hb dL_act_339 (by decide) ?_
          exact ih300 (i + 1) (by omega) (by omega) _ _ hP hD hS ls (lv_sub hl [0, 3, 4, 5, 1, 6, 7, 8, 9, 10, 11] rfl)
  exact K300 ((((nZ Z) w).length - 0) + 1) 0 (Nat.lt_succ_self _) (Nat.zero_le _) _ _ hP hD hS ls (lv_sub hl [0, 1, 2, 4, 3, 5, 6, 7, 8, 9, 10] rfl)
