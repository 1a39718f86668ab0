theorem zs_2 {n : Nat} (h : n ≤ 24) : zs_ n ≤ 47 := by unfold zs_; split <;> omega
theorem zs_lt {p n : Nat} (hp : p < 100) (h : n ≤ 24) (h1 : ¬ nI (2 * n) - nI 1 ≤ nI p) : p < zs_ n := by
  cases n with
  | zero =>
    exfalso
    apply h1
    have e : nI (2 * 0) - nI 1 = (-1 : Int32) := by decide
    rw [e, Int32.le_iff_toInt_le, nI_toInt (by omega)]
    have : (-1 : Int32).toInt = -1 := by decide
    omega
  | succ k =>
    unfold zs_
    rw [if_neg (by omega)]
    rw [show 2 * (k + 1) = (2 * k + 1) + 1 by omega, show nI (2 * k + 1 + 1) - nI 1 = nI (2 * k + 1) from nI_pred (2 * k + 1)] at h1
    refine Nat.not_le.mp (fun q => h1 ?_)
    rw [Int32.le_iff_toInt_le, nI_toInt (by omega), nI_toInt (by omega)]
    omega
set_option maxHeartbeats 4000000 in
set_option maxRecDepth 100000 in
theorem lw_a2c {p : Program} {l : Launch} {e : Env} {s : State} {m : MethodId} {args : Array Value} {below : List Frame} {meth : Method} {c : Code} {H : Heap} {locs : List Loc} {Q : State → Prop} {A : Nat → Prop} {cells slots : Nat} {D : va_G} {σ : Nat → va_E} {Ls : Nat → g_L} {xs : va_W} {w : Nat} {b qs t : Nat} {xx : Int32} {bf : Int64} {k : Nat} (hst : l.stackTraces = false) (hAD : g_AD D) (hAs : ∀ q, s.heap.size ≤ q → A q) (hvC : vC_ Ls) (hx : p.tables.exec = Jvm.exec) (hb : c.code = cL_law) (hml : c.maxLocals = 15) (hown : s.vm.findClass RL = some m.cls) (hts : ∀ w ∈ g_WA, w.before args s = true) (hE : g_EV D s) (hZ : g_EZ A s s.heap) (hw : w ≤ 1) (hk : k < (Ls w).length) (hC : g_C D σ Ls) (hcl : cells ≤ 500000) (hsl : slots ≤ 6000000) (hP : va_P D vwCl (g_W D σ ++ xs) H) (hD : va_D A (g_W D σ ++ xs)) (hS : va_S A s.heap H locs) {ls : Array Slot} (hl : lv_has ls 15 [(12, .int (fn_ (Ls w) k)), (13, .int (nI (dp_ (Ls w) k))), (11, .int (nI k)), (8, .int (nI ((Ls w).length))), (9, .int (nI (dL_ (Ls w) k))), (10, .int (nI (dS_ (Ls w) k))), (7, .int (nI w)), (5, .long bf), (4, .int xx), (3, .int (nI t)), (0, .ref b), (1, .ref (ad_ D 0)), (2, .ref qs)]) (kk : ∀ (σ1 : Nat → va_E) (H : Heap) (locs : List Loc) (ls : Array Slot), g_C D σ1 Ls → va_P D vwCl (g_W D σ1 ++ xs) H → va_D A (g_W D σ1 ++ xs) → va_S A s.heap H locs → lv_has ls 15 [(11, .int (nI k)), (8, .int (nI ((Ls w).length))), (9, .int (nI (dL_ (Ls w) (k + 1)))), (10, .int (nI (dS_ (Ls w) (k + 1)))), (7, .int (nI w)), (5, .long bf), (4, .int xx), (3, .int (nI t)), (0, .ref b), (1, .ref (ad_ D 0)), (2, .ref qs)] → W p l e room_1 s m args below meth c H locs (cells + 240) (slots + 1440) Q (F0 m 386 ls [])) : W p l e room_1 s m args below meth c H locs cells slots Q (F0 m 332 ls []) := by
  have hv := (hvC w hw).1
  have h24 := (hvC w hw).2
  have h48 : (Ls w).length ≤ 48 := by omega
  have hdl := dL_le hv k (by omega)
  have hdp := dp_le hv hk
  have hfa := (fa_ge (L := Ls w) (Ls w).length (Nat.le_refl _)).2
  refine lv_iload hx hb dL_law_332 (lv_at hl 4 rfl) ?_
  refine lv_iload hx hb dL_law_334 (lv_at hl 1 rfl) ?_
  refine g_mmax hx hb (hml.trans hl.1.symm) hown hts k_L_94 k_max ⟨Nat.le_of_ble_eq_true rfl, Nat.le_of_ble_eq_true rfl, Nat.le_trans (show cells ≤ 510000 by omega) rC_, Nat.le_trans (show slots ≤ 6100000 by omega) rS_⟩ dL_law_336 ?_
  refine g_top (y := nI (dL_ (Ls w) (k + 1))) (by rw [(dLS_s hv hk).1]; exact im_n (by omega) (by omega)) ?_
  refine lv_istore (lv' := [(9, .int (nI (dL_ (Ls w) (k + 1)))), (12, .int (fn_ (Ls w) k)), (13, .int (nI (dp_ (Ls w) k))), (11, .int (nI k)), (8, .int (nI ((Ls w).length))), (10, .int (nI (dS_ (Ls w) k))), (7, .int (nI w)), (5, .long bf), (4, .int xx), (3, .int (nI t)), (0, .ref b), (1, .ref (ad_ D 0)), (2, .ref qs)]) hx hb dL_law_339 hl (by decide) rfl (fun ls hl => ?_)
  refine lv_iload hx hb dL_law_341 (lv_at hl 5 rfl) ?_
  refine lv_iload hx hb dL_law_343 (lv_at hl 2 rfl) ?_
  refine lv_iadd hx hb dL_law_345 ?_
  refine g_top (y := nI ((dS_ (Ls w) k) + (dp_ (Ls w) k))) (nI_add (dS_ (Ls w) k) (dp_ (Ls w) k)) ?_
  refine g_top (y := nI (dS_ (Ls w) (k + 1))) (by rw [(dLS_s hv hk).2]) ?_
  refine lv_istore (lv' := [(10, .int (nI (dS_ (Ls w) (k + 1)))), (9, .int (nI (dL_ (Ls w) (k + 1)))), (12, .int (fn_ (Ls w) k)), (13, .int (nI (dp_ (Ls w) k))), (11, .int (nI k)), (8, .int (nI ((Ls w).length))), (7, .int (nI w)), (5, .long bf), (4, .int xx), (3, .int (nI t)), (0, .ref b), (1, .ref (ad_ D 0)), (2, .ref qs)]) hx hb dL_law_346 hl (by decide) rfl (fun ls hl => ?_)
  refine lv_iconst (v := nI 0) hx hb dL_law_348 (by decide) ?_
  refine lv_istore (lv' := [(14, .int (nI 0)), (10, .int (nI (dS_ (Ls w) (k + 1)))), (9, .int (nI (dL_ (Ls w) (k + 1)))), (12, .int (fn_ (Ls w) k)), (13, .int (nI (dp_ (Ls w) k))), (11, .int (nI k)), (8, .int (nI ((Ls w).length))), (7, .int (nI w)), (5, .long bf), (4, .int xx), (3, .int (nI t)), (0, .ref b), (1, .ref (ad_ D 0)), (2, .ref qs)]) hx hb dL_law_349 hl (by decide) rfl (fun ls hl => ?_)
  have K351 : ∀ (fuel351 : Nat) (i : Nat) (σ2 : Nat → va_E), (k - i) < fuel351 → (i ≤ k) → (g_C D σ2 Ls) → ∀ (H : Heap) (locs : List Loc), va_P D vwCl ((g_W D σ2) ++ xs) H → va_D A ((g_W D σ2) ++ xs) → va_S A s.heap H locs → ∀ ls : Array Slot, lv_has ls 15 [(14, .int (nI i)), (9, .int (nI (dL_ (Ls w) (k + 1)))), (10, .int (nI (dS_ (Ls w) (k + 1)))), (12, .int (fn_ (Ls w) k)), (11, .int (nI k)), (8, .int (nI ((Ls w).length))), (7, .int (nI w)), (5, .long bf), (4, .int xx), (3, .int (nI t)), (0, .ref b), (1, .ref (ad_ D 0)), (2, .ref qs)] → W p l e room_1 s m args below meth c H locs (cells + 10 * i) (slots + 60 * i) Q (F0 m 351 ls []) := by
    intro fuel351
    induction fuel351 with
    | zero => intro i σ2 hf; exact absurd hf (Nat.not_lt_zero _)
    | succ fuel351 ih351 =>
      intro i σ2 hf351 hi hC2 H locs hP hD hS ls hl
      refine lv_iload hx hb dL_law_351 (lv_at hl 0 rfl) ?_
      refine lv_iload hx hb dL_law_353 (lv_at hl 4 rfl) ?_
      refine lv_icmp_ge (tgt := 386) hx hb dL_law_355 (by decide) (fun h355 => ?_) (fun h355 => ?_)
      · have hb355 := g_le (a := k) (b := i) h355 (by omega) (by omega)
        refine W.widen (k := cells + 240) (n := slots + 1440) (by omega) (by omega) ?_
        exact kk σ2 H locs ls hC2 hP hD hS (lv_sub hl [4, 5, 1, 2, 6, 7, 8, 9, 10, 11, 12] rfl)
      · have hb355 := g_nle (a := k) (b := i) h355 (by omega) (by omega)
        refine lv_aload_n hx hb dL_law_358 rfl (lv_at hl 11 rfl) ?_
        refine lv_iload hx hb dL_law_359 (lv_at hl 6 rfl) ?_
        refine lv_iload hx hb dL_law_361 (lv_at hl 0 rfl) ?_
        refine h_callV (y := yX2_at) (n := 2) (As := [.int (nI w), .int (nI i)]) (rest := []) hx hb hml hown hts hE hZ hS hl.1 ((n_at l hst D hAD σ2 Ls hC2 hvC w i hw (by omega)).h hAD) h_P0 (h_prf hP) (h_AP hD hS hAs) (fun _ _ _ => trivial) (h_jP hP hD (h_AP hD hS hAs)) k_L_101 (wr := (g_W D σ2)) (q0 := 0) (ci := 2) (h_prf hP) (g_at (by decide) hC2.1) rfl rfl rfl rfl ⟨Nat.le_of_ble_eq_true rfl, Nat.le_of_ble_eq_true rfl⟩ (Nat.le_of_ble_eq_true rfl) ⟨Nat.le_trans (show (cells + 10 * i) + 5 ≤ 510000 by omega) rC_, Nat.le_trans (show (slots + 60 * i) + 30 ≤ 6100000 by omega) rS_⟩ dL_law_363 (fun v3 w1 H locs hq hP hD hS => ?_)
        obtain ⟨σ_1, ⟨rfl, hC_2⟩, rfl⟩ := hq
        have hP : va_P D vwCl ((g_W D σ_1) ++ xs) H := hP
        have hD : va_D A ((g_W D σ_1) ++ xs) := hD
        refine W.widen (k := ((cells + 10 * i) + 5)) (n := ((slots + 60 * i) + 30)) (Nat.le_refl _) (Nat.le_refl _) ?_
        refine W.eq (g2 := F0 m 366 ls [.int (fn_ (Ls w) i)]) rfl ?_
        refine lv_iload hx hb dL_law_366 (lv_at hl 3 rfl) ?_
        refine lv_ixor hx hb dL_law_368 ?_
        refine lv_aload_n hx hb dL_law_369 rfl (lv_at hl 11 rfl) ?_
        refine lv_iload hx hb dL_law_370 (lv_at hl 6 rfl) ?_
        refine h_callV (y := yX2_far) (n := 1) (As := [.int (nI w)]) (rest := [.int ((fn_ (Ls w) i) ^^^ (fn_ (Ls w) k))]) hx hb hml hown hts hE hZ hS hl.1 ((n_far l hst D hAD σ_1 Ls hC_2 hvC w hw).h hAD) h_P0 (h_prf hP) (h_AP hD hS hAs) (fun _ _ _ => trivial) (h_jP hP hD (h_AP hD hS hAs)) k_L_97 (wr := (g_W D σ_1)) (q0 := 0) (ci := 2) (h_prf hP) (g_at (by decide) hC_2.1) rfl rfl rfl rfl ⟨Nat.le_of_ble_eq_true rfl, Nat.le_of_ble_eq_true rfl⟩ (Nat.le_of_ble_eq_true rfl) ⟨Nat.le_trans (show ((cells + 10 * i) + 5) + 5 ≤ 510000 by omega) rC_, Nat.le_trans (show ((slots + 60 * i) + 30) + 30 ≤ 6100000 by omega) rS_⟩ dL_law_372 (fun v6 w1 H locs hq hP hD hS => ?_)
        obtain ⟨σ_4, ⟨rfl, hC_5⟩, rfl⟩ := hq
        have hP : va_P D vwCl ((g_W D σ_4) ++ xs) H := hP
        have hD : va_D A ((g_W D σ_4) ++ xs) := hD
        refine W.widen (k := (((cells + 10 * i) + 5) + 5)) (n := (((slots + 60 * i) + 30) + 30)) (Nat.le_refl _) (Nat.le_refl _) ?_
        refine W.eq (g2 := F0 m 375 ls [.int (fa_ (Ls w) (Ls w).length), .int ((fn_ (Ls w) i) ^^^ (fn_ (Ls w) k))]) rfl ?_
        refine lv_icmp_le (tgt := 380) hx hb dL_law_375 (by decide) (fun h375 => ?_) (fun h375 => ?_)
        · refine lv_iinc (v := nI (i + 1)) (lv' := [(14, .int (nI (i + 1))), (9, .int (nI (dL_ (Ls w) (k + 1)))), (10, .int (nI (dS_ (Ls w) (k + 1)))), (12, .int (fn_ (Ls w) k)), (11, .int (nI k)), (8, .int (nI ((Ls w).length))), (7, .int (nI w)), (5, .long bf), (4, .int xx), (3, .int (nI t)), (0, .ref b), (1, .ref (ad_ D 0)), (2, .ref qs)]) hx hb dL_law_380 hl (k := 0) rfl (g_inc i) (by decide) rfl (fun ls hl => ?_)
          refine lv_goto (tgt := 351) hx hb dL_law_383 (by decide) ?_
          refine W.widen (k := (cells + 10 * (i + 1))) (n := (slots + 60 * (i + 1))) (by omega) (by omega) ?_
          exact ih351 (i + 1) σ_4 (by omega) (by omega) hC_5 _ _ hP hD hS ls (lv_sub hl [0, 1, 2, 3, 4, 5, 6, 7, 8, 9, 10, 11, 12] rfl)
        · exact absurd (hfa i k (by omega) (by omega) hk) h375
  refine W.widen (k := (cells + 10 * 0)) (n := (slots + 60 * 0)) (by omega) (by omega) ?_
  exact K351 ((k - 0) + 1) 0 σ (Nat.lt_succ_self _) (Nat.zero_le _) hC _ _ hP hD hS ls (lv_sub hl [0, 2, 1, 3, 5, 6, 7, 8, 9, 10, 11, 12, 13] rfl)

set_option maxHeartbeats 4000000 in
set_option maxRecDepth 100000 in
theorem lw_a2 {p : Program} {l : Launch} {e : Env} {s : State} {m : MethodId} {args : Array Value} {below : List Frame} {meth : Method} {c : Code} {H : Heap} {locs : List Loc} {Q : State → Prop} {A : Nat → Prop} {cells slots : Nat} {D : va_G} {σ : Nat → va_E} {Ls : Nat → g_L} {xs : va_W} {w : Nat} {b qs t : Nat} {xx : Int32} {bf : Int64} (hst : l.stackTraces = false) (hAD : g_AD D) (hAs : ∀ q, s.heap.size ≤ q → A q) (hvC : vC_ Ls) (hx : p.tables.exec = Jvm.exec) (hb : c.code = cL_law) (hml : c.maxLocals = 15) (hown : s.vm.findClass RL = some m.cls) (hts : ∀ w ∈ g_WA, w.before args s = true) (hE : g_EV D s) (hZ : g_EZ A s s.heap) (hw : w ≤ 1) (hC : g_C D σ Ls) (hcl : cells ≤ 480000) (hsl : slots ≤ 5700000) (hP : va_P D vwCl (g_W D σ ++ xs) H) (hD : va_D A (g_W D σ ++ xs)) (hS : va_S A s.heap H locs) {ls : Array Slot} (hl : lv_has ls 15 [(8, .int (nI ((Ls w).length))), (7, .int (nI w)), (5, .long bf), (4, .int xx), (3, .int (nI t)), (0, .ref b), (1, .ref (ad_ D 0)), (2, .ref qs)]) (kk : ∀ (σ1 : Nat → va_E) (H : Heap) (locs : List Loc) (ls : Array Slot), g_C D σ1 Ls → va_P D vwCl (g_W D σ1 ++ xs) H → va_D A (g_W D σ1 ++ xs) → va_S A s.heap H locs → lv_has ls 15 [(8, .int (nI ((Ls w).length))), (9, .int (nI (dL_ (Ls w) ((Ls w).length)))), (10, .int (nI (dS_ (Ls w) ((Ls w).length)))), (7, .int (nI w)), (5, .long bf), (4, .int xx), (3, .int (nI t)), (0, .ref b), (1, .ref (ad_ D 0)), (2, .ref qs)] → W p l e room_1 s m args below meth c H locs (cells + 7200) (slots + 43200) Q (F0 m 392 ls [])) : W p l e room_1 s m args below meth c H locs cells slots Q (F0 m 140 ls []) := by
  have hv := (hvC w hw).1
  have h24 := (hvC w hw).2
  have h48 : (Ls w).length ≤ 48 := by omega
  refine lv_iconst (v := nI 0) hx hb dL_law_140 (by decide) ?_
  refine lv_istore (lv' := [(9, .int (nI 0)), (8, .int (nI ((Ls w).length))), (7, .int (nI w)), (5, .long bf), (4, .int xx), (3, .int (nI t)), (0, .ref b), (1, .ref (ad_ D 0)), (2, .ref qs)]) hx hb dL_law_141 hl (by decide) rfl (fun ls hl => ?_)
  refine lv_iconst (v := nI 0) hx hb dL_law_143 (by decide) ?_
  refine lv_istore (lv' := [(10, .int (nI 0)), (9, .int (nI 0)), (8, .int (nI ((Ls w).length))), (7, .int (nI w)), (5, .long bf), (4, .int xx), (3, .int (nI t)), (0, .ref b), (1, .ref (ad_ D 0)), (2, .ref qs)]) hx hb dL_law_144 hl (by decide) rfl (fun ls hl => ?_)
  refine lv_iconst (v := nI 0) hx hb dL_law_146 (by decide) ?_
  refine lv_istore (lv' := [(11, .int (nI 0)), (10, .int (nI 0)), (9, .int (nI 0)), (8, .int (nI ((Ls w).length))), (7, .int (nI w)), (5, .long bf), (4, .int xx), (3, .int (nI t)), (0, .ref b), (1, .ref (ad_ D 0)), (2, .ref qs)]) hx hb dL_law_147 hl (by decide) rfl (fun ls hl => ?_)
  have K149 : ∀ (fuel149 : Nat) (k : Nat) (σ2 : Nat → va_E), ((Ls w).length - k) < fuel149 → (k ≤ (Ls w).length) → (g_C D σ2 Ls) → ∀ (H : Heap) (locs : List Loc), va_P D vwCl ((g_W D σ2) ++ xs) H → va_D A ((g_W D σ2) ++ xs) → va_S A s.heap H locs → ∀ ls : Array Slot, lv_has ls 15 [(11, .int (nI k)), (8, .int (nI ((Ls w).length))), (9, .int (nI (dL_ (Ls w) k))), (10, .int (nI (dS_ (Ls w) k))), (7, .int (nI w)), (5, .long bf), (4, .int xx), (3, .int (nI t)), (0, .ref b), (1, .ref (ad_ D 0)), (2, .ref qs)] → W p l e room_1 s m args below meth c H locs (cells + 300 * k) (slots + 1800 * k) Q (F0 m 149 ls []) := by
    intro fuel149
    induction fuel149 with
    | zero => intro k σ2 hf; exact absurd hf (Nat.not_lt_zero _)
    | succ fuel149 ih149 =>
      intro k σ2 hf149 hk hC2 H locs hP hD hS ls hl
      refine lv_iload hx hb dL_law_149 (lv_at hl 0 rfl) ?_
      refine lv_iload hx hb dL_law_151 (lv_at hl 1 rfl) ?_
      refine lv_icmp_ge (tgt := 392) hx hb dL_law_153 (by decide) (fun h153 => ?_) (fun h153 => ?_)
      · have hb153 := g_le (a := (Ls w).length) (b := k) h153 (by omega) (by omega)
        have ek : k = (Ls w).length := by omega
        subst ek
        refine W.widen (k := cells + 7200) (n := slots + 43200) (by omega) (by omega) ?_
        exact kk σ2 H locs ls hC2 hP hD hS (lv_sub hl [1, 2, 3, 4, 5, 6, 7, 8, 9, 10] rfl)
      · have hb153 := g_nle (a := (Ls w).length) (b := k) h153 (by omega) (by omega)
        refine lw_a2a hst hAD hAs hvC hx hb hml hown hts hE hZ hw (by omega) hC2 (by omega) (by omega) hP hD hS (lv_sub hl [0, 1, 2, 3, 4, 5, 6, 7, 8, 9, 10] rfl) (fun σ_1 H locs ls hC_2 hP hD hS hl => ?_)
        refine lw_a2b hst hAD hAs hvC hx hb hml hown hts hE hZ hw (by omega) hC_2 (by omega) (by omega) hP hD hS (lv_sub hl [0, 1, 2, 3, 4, 5, 6, 7, 8, 9, 10, 11, 12] rfl) (fun σ_3 H locs ls hC_4 hP hD hS hl => ?_)
        refine lw_a2c hst hAD hAs hvC hx hb hml hown hts hE hZ hw (by omega) hC_4 (by omega) (by omega) hP hD hS (lv_sub hl [0, 1, 2, 3, 4, 5, 6, 7, 8, 9, 10, 11, 12] rfl) (fun σ_5 H locs ls hC_6 hP hD hS hl => ?_)
        refine lv_iinc (v := nI (k + 1)) (lv' := [(11, .int (nI (k + 1))), (8, .int (nI ((Ls w).length))), (9, .int (nI (dL_ (Ls w) (k + 1)))), (10, .int (nI (dS_ (Ls w) (k + 1)))), (7, .int (nI w)), (5, .long bf), (4, .int xx), (3, .int (nI t)), (0, .ref b), (1, .ref (ad_ D 0)), (2, .ref qs)]) hx hb dL_law_386 hl (k := 0) rfl (g_inc k) (by decide) rfl (fun ls hl => ?_)
        refine lv_goto (tgt := 149) hx hb dL_law_389 (by decide) ?_
        refine W.widen (k := (cells + 300 * (k + 1))) (n := (slots + 1800 * (k + 1))) (by omega) (by omega) ?_
        exact ih149 (k + 1) σ_5 (by omega) (by omega) hC_6 _ _ hP hD hS ls (lv_sub hl [0, 1, 2, 3, 4, 5, 6, 7, 8, 9, 10] rfl)
  refine W.widen (k := (cells + 300 * 0)) (n := (slots + 1800 * 0)) (by omega) (by omega) ?_
  exact K149 (((Ls w).length - 0) + 1) 0 σ (Nat.lt_succ_self _) (Nat.zero_le _) hC _ _ hP hD hS ls (lv_sub hl [0, 3, 2, 1, 4, 5, 6, 7, 8, 9, 10] rfl)

set_option maxHeartbeats 4000000 in
set_option maxRecDepth 100000 in
theorem lw_a3 {p : Program} {l : Launch} {e : Env} {s : State} {m : MethodId} {args : Array Value} {below : List Frame} {meth : Method} {c : Code} {H : Heap} {locs : List Loc} {Q : State → Prop} {A : Nat → Prop} {cells slots : Nat} {D : va_G} {σ : Nat → va_E} {Ls : Nat → g_L} {xs : va_W} {w : Nat} {b qs t : Nat} {xx : Int32} {bf : Int64} (hst : l.stackTraces = false) (hAD : g_AD D) (hAs : ∀ q, s.heap.size ≤ q → A q) (hvC : vC_ Ls) (hx : p.tables.exec = Jvm.exec) (hb : c.code = cL_law) (hml : c.maxLocals = 15) (hown : s.vm.findClass RL = some m.cls) (hts : ∀ w ∈ g_WA, w.before args s = true) (hE : g_EV D s) (hZ : g_EZ A s s.heap) (hw : w ≤ 1) (hC : g_C D σ Ls) (hcl : cells ≤ 480000) (hsl : slots ≤ 5700000) (hP : va_P D vwCl (g_W D σ ++ xs) H) (hD : va_D A (g_W D σ ++ xs)) (hS : va_S A s.heap H locs) {ls : Array Slot} (hl : lv_has ls 15 [(8, .int (nI ((Ls w).length))), (9, .int (nI (dL_ (Ls w) ((Ls w).length)))), (10, .int (nI (dS_ (Ls w) ((Ls w).length)))), (7, .int (nI w)), (5, .long bf), (4, .int xx), (3, .int (nI t)), (0, .ref b), (1, .ref (ad_ D 0)), (2, .ref qs)]) (kk : ∀ (σ1 : Nat → va_E) (H : Heap) (locs : List Loc) (ls : Array Slot), g_C D σ1 Ls → va_P D vwCl (g_W D σ1 ++ xs) H → va_D A (g_W D σ1 ++ xs) → va_S A s.heap H locs → lv_has ls 15 [(8, .int (nI ((Ls w).length))), (7, .int (nI w)), (5, .long bf), (4, .int xx), (3, .int (nI t)), (0, .ref b), (1, .ref (ad_ D 0)), (2, .ref qs)] → W p l e room_1 s m args below meth c H locs (cells + 15) (slots + 90) Q (F0 m 444 ls [])) : W p l e room_1 s m args below meth c H locs cells slots Q (F0 m 392 ls []) := by
  have hv := (hvC w hw).1
  have h24 := (hvC w hw).2
  have h48 : (Ls w).length ≤ 48 := by omega
  obtain ⟨c2, c3⟩ := cn_dp hv h48
  refine lv_aload_n hx hb dL_law_392 rfl (lv_at hl 8 rfl) ?_
  refine lv_iload hx hb dL_law_393 (lv_at hl 3 rfl) ?_
  refine lv_iconst (v := nI 2) hx hb dL_law_395 (by decide) ?_
  refine h_callV (y := yX2_count) (n := 2) (As := [.int (nI w), .int (nI 2)]) (rest := []) hx hb hml hown hts hE hZ hS hl.1 ((n_count l hst D hAD σ Ls hC hvC w 2 hw (by omega)).h hAD) h_P0 (h_prf hP) (h_AP hD hS hAs) (fun _ _ _ => trivial) (h_jP hP hD (h_AP hD hS hAs)) k_L_91 (wr := (g_W D σ)) (q0 := 0) (ci := 2) (h_prf hP) (g_at (by decide) hC.1) rfl rfl rfl rfl ⟨Nat.le_of_ble_eq_true rfl, Nat.le_of_ble_eq_true rfl⟩ (Nat.le_of_ble_eq_true rfl) ⟨Nat.le_trans (show cells + 5 ≤ 510000 by omega) rC_, Nat.le_trans (show slots + 30 ≤ 6100000 by omega) rS_⟩ dL_law_396 (fun v3 w1 H locs hq hP hD hS => ?_)
  obtain ⟨σ_1, ⟨rfl, hC_2⟩, rfl⟩ := hq
  have hP : va_P D vwCl ((g_W D σ_1) ++ xs) H := hP
  have hD : va_D A ((g_W D σ_1) ++ xs) := hD
  refine W.widen (k := (cells + 5)) (n := (slots + 30)) (Nat.le_refl _) (Nat.le_refl _) ?_
  refine W.eq (g2 := F0 m 399 ls [.int (cn_ (Ls w) 2)]) rfl ?_
  refine g_top (y := nI (dL_ (Ls w) ((Ls w).length))) (c2) ?_
  refine lv_iload hx hb dL_law_399 (lv_at hl 1 rfl) ?_
  refine lv_icmp_ne (tgt := 442) hx hb dL_law_401 (by decide) (fun h401 => ?_) (fun h401 => ?_)
  · exact absurd rfl h401
  · refine lv_aload_n hx hb dL_law_404 rfl (lv_at hl 8 rfl) ?_
    refine lv_iload hx hb dL_law_405 (lv_at hl 3 rfl) ?_
    refine lv_iconst (v := nI 3) hx hb dL_law_407 (by decide) ?_
    refine h_callV (y := yX2_count) (n := 2) (As := [.int (nI w), .int (nI 3)]) (rest := []) hx hb hml hown hts hE hZ hS hl.1 ((n_count l hst D hAD σ_1 Ls hC_2 hvC w 3 hw (by omega)).h hAD) h_P0 (h_prf hP) (h_AP hD hS hAs) (fun _ _ _ => trivial) (h_jP hP hD (h_AP hD hS hAs)) k_L_91 (wr := (g_W D σ_1)) (q0 := 0) (ci := 2) (h_prf hP) (g_at (by decide) hC_2.1) rfl rfl rfl rfl ⟨Nat.le_of_ble_eq_true rfl, Nat.le_of_ble_eq_true rfl⟩ (Nat.le_of_ble_eq_true rfl) ⟨Nat.le_trans (show (cells + 5) + 5 ≤ 510000 by omega) rC_, Nat.le_trans (show (slots + 30) + 30 ≤ 6100000 by omega) rS_⟩ dL_law_408 (fun v6 w1 H locs hq hP hD hS => ?_)
    obtain ⟨σ_4, ⟨rfl, hC_5⟩, rfl⟩ := hq
    have hP : va_P D vwCl ((g_W D σ_4) ++ xs) H := hP
    have hD : va_D A ((g_W D σ_4) ++ xs) := hD
    refine W.widen (k := ((cells + 5) + 5)) (n := ((slots + 30) + 30)) (Nat.le_refl _) (Nat.le_refl _) ?_
    refine W.eq (g2 := F0 m 411 ls [.int (cn_ (Ls w) 3)]) rfl ?_
    refine g_top (y := nI (dS_ (Ls w) ((Ls w).length))) (c3) ?_
    refine lv_iload hx hb dL_law_411 (lv_at hl 2 rfl) ?_
    refine lv_icmp_ne (tgt := 442) hx hb dL_law_413 (by decide) (fun h413 => ?_) (fun h413 => ?_)
    · exact absurd rfl h413
    · refine lv_aload_n hx hb dL_law_416 rfl (lv_at hl 8 rfl) ?_
      refine lv_iload hx hb dL_law_417 (lv_at hl 3 rfl) ?_
      refine h_callV (y := yX2_mean) (n := 1) (As := [.int (nI w)]) (rest := []) hx hb hml hown hts hE hZ hS hl.1 ((n_mean l hst D hAD σ_4 Ls hC_5 hvC w hw).h hAD) h_P0 (h_prf hP) (h_AP hD hS hAs) (fun _ _ _ => trivial) (h_jP hP hD (h_AP hD hS hAs)) k_L_116 (wr := (g_W D σ_4)) (q0 := 0) (ci := 2) (h_prf hP) (g_at (by decide) hC_5.1) rfl rfl rfl rfl ⟨Nat.le_of_ble_eq_true rfl, Nat.le_of_ble_eq_true rfl⟩ (Nat.le_of_ble_eq_true rfl) ⟨Nat.le_trans (show ((cells + 5) + 5) + 5 ≤ 510000 by omega) rC_, Nat.le_trans (show ((slots + 30) + 30) + 30 ≤ 6100000 by omega) rS_⟩ dL_law_419 (fun v9 w1 H locs hq hP hD hS => ?_)
      obtain ⟨σ_7, ⟨rfl, hC_8⟩, rfl⟩ := hq
      have hP : va_P D vwCl ((g_W D σ_7) ++ xs) H := hP
      have hD : va_D A ((g_W D σ_7) ++ xs) := hD
      refine W.widen (k := (((cells + 5) + 5) + 5)) (n := (((slots + 30) + 30) + 30)) (Nat.le_refl _) (Nat.le_refl _) ?_
      refine W.eq (g2 := F0 m 422 ls [.double (me_ (Ls w))]) rfl ?_
      refine lv_iload hx hb dL_law_422 (lv_at hl 0 rfl) ?_
      refine lv_if_ne (tgt := 431) hx hb dL_law_424 (by decide) (fun h424 => ?_) (fun h424 => ?_)
      · have hb424 := g_ne (a := (Ls w).length) (b := 0) h424 (by omega) (by omega)
        refine lv_iload hx hb dL_law_431 (lv_at hl 2 rfl) ?_
        refine lv_i2d hx hb dL_law_433 ?_
        refine lv_iload hx hb dL_law_434 (lv_at hl 0 rfl) ?_
        refine lv_i2d hx hb dL_law_436 ?_
        have hme : FP.ddiv (FP.i2d (nI (dS_ (Ls w) (Ls w).length))) (FP.i2d (nI (Ls w).length)) = me_ (Ls w) := by rw [me_, if_neg (by omega), ← c3]; rfl
        refine lv_ddiv hx hb dL_law_437 ((by rw [hme]; exact me_ok hv h24 (by omega))) ?_
        refine lv_dcmp hx hb dL_law_438 ?_
        refine g_top (y := nI 0) (by rw [hme]; exact dc_self (me_ok hv h24 (by omega))) ?_
        refine lv_if_eq (tgt := 444) hx hb dL_law_439 (by decide) (fun h439 => ?_) (fun h439 => ?_)
        · refine W.widen (k := cells + 15) (n := slots + 90) (by omega) (by omega) ?_
          exact kk σ_7 H locs ls hC_8 hP hD hS (lv_sub hl [0, 3, 4, 5, 6, 7, 8, 9] rfl)
        · exact absurd rfl h439
      · have hb424 := g_eq (a := (Ls w).length) (b := 0) h424 (by omega) (by omega)
        refine lv_dconst0 hx hb dL_law_427 ?_
        refine lv_goto (tgt := 438) hx hb dL_law_428 (by decide) ?_
        refine lv_dcmp hx hb dL_law_438 ?_
        refine g_top (y := nI 0) (by rw [me_, if_pos (by omega)]; exact dc_self (by unfold vf_n64; decide)) ?_
        refine lv_if_eq (tgt := 444) hx hb dL_law_439 (by decide) (fun h439 => ?_) (fun h439 => ?_)
        · refine W.widen (k := cells + 15) (n := slots + 90) (by omega) (by omega) ?_
          exact kk σ_7 H locs ls hC_8 hP hD hS (lv_sub hl [0, 3, 4, 5, 6, 7, 8, 9] rfl)
        · exact absurd rfl h439

set_option maxHeartbeats 4000000 in
set_option maxRecDepth 100000 in
theorem lw_a4 {p : Program} {l : Launch} {e : Env} {s : State} {m : MethodId} {args : Array Value} {below : List Frame} {meth : Method} {c : Code} {H : Heap} {locs : List Loc} {Q : State → Prop} {A : Nat → Prop} {cells slots : Nat} {D : va_G} {σ : Nat → va_E} {Ls : Nat → g_L} {xs : va_W} {w : Nat} {b qs t : Nat} {xx : Int32} {bf : Int64} (hst : l.stackTraces = false) (hAD : g_AD D) (hAs : ∀ q, s.heap.size ≤ q → A q) (hvC : vC_ Ls) (hx : p.tables.exec = Jvm.exec) (hb : c.code = cL_law) (hml : c.maxLocals = 15) (hown : s.vm.findClass RL = some m.cls) (hts : ∀ w ∈ g_WA, w.before args s = true) (hE : g_EV D s) (hZ : g_EZ A s s.heap) (hw : w ≤ 1) (hC : g_C D σ Ls) (hcl : cells ≤ 480000) (hsl : slots ≤ 5700000) (hP : va_P D vwCl (g_W D σ ++ xs) H) (hD : va_D A (g_W D σ ++ xs)) (hS : va_S A s.heap H locs) {ls : Array Slot} (hl : lv_has ls 15 [(8, .int (nI ((Ls w).length))), (7, .int (nI w)), (5, .long bf), (4, .int xx), (3, .int (nI t)), (0, .ref b), (1, .ref (ad_ D 0)), (2, .ref qs)]) (kk : ∀ (σ1 : Nat → va_E) (H : Heap) (locs : List Loc) (ls : Array Slot), g_C D σ1 Ls → va_P D vwCl (g_W D σ1 ++ xs) H → va_D A (g_W D σ1 ++ xs) → va_S A s.heap H locs → lv_has ls 15 [(8, .int (nI ((Ls w).length))), (7, .int (nI w)), (5, .long bf), (4, .int xx), (3, .int (nI t)), (0, .ref b), (1, .ref (ad_ D 0)), (2, .ref qs)] → W p l e room_1 s m args below meth c H locs (cells + 15) (slots + 90) Q (F0 m 475 ls [])) : W p l e room_1 s m args below meth c H locs cells slots Q (F0 m 444 ls []) := by
  have hv := (hvC w hw).1
  have h24 := (hvC w hw).2
  have h48 : (Ls w).length ≤ 48 := by omega
  refine lv_iload hx hb dL_law_444 (lv_at hl 0 rfl) ?_
  refine lv_iconst (v := nI 1) hx hb dL_law_446 (by decide) ?_
  refine lv_icmp_le (tgt := 475) hx hb dL_law_447 (by decide) (fun h447 => ?_) (fun h447 => ?_)
  · have hb447 := g_le (a := (Ls w).length) (b := 1) h447 (by omega) (by omega)
    refine W.widen (k := cells + 15) (n := slots + 90) (by omega) (by omega) ?_
    exact kk σ H locs ls hC hP hD hS (lv_sub hl [0, 1, 2, 3, 4, 5, 6, 7] rfl)
  · have hb447 := g_nle (a := (Ls w).length) (b := 1) h447 (by omega) (by omega)
    obtain ⟨u, hu, eu, et⟩ := fa_top hv (by omega)
    refine lv_bipush (v := nI 31) hx hb dL_law_450 (by decide) ?_
    refine lv_aload_n hx hb dL_law_452 rfl (lv_at hl 6 rfl) ?_
    refine lv_iload hx hb dL_law_453 (lv_at hl 1 rfl) ?_
    refine h_callV (y := yX2_far) (n := 1) (As := [.int (nI w)]) (rest := [.int (nI 31)]) hx hb hml hown hts hE hZ hS hl.1 ((n_far l hst D hAD σ Ls hC hvC w hw).h hAD) h_P0 (h_prf hP) (h_AP hD hS hAs) (fun _ _ _ => trivial) (h_jP hP hD (h_AP hD hS hAs)) k_L_97 (wr := (g_W D σ)) (q0 := 0) (ci := 2) (h_prf hP) (g_at (by decide) hC.1) rfl rfl rfl rfl ⟨Nat.le_of_ble_eq_true rfl, Nat.le_of_ble_eq_true rfl⟩ (Nat.le_of_ble_eq_true rfl) ⟨Nat.le_trans (show cells + 5 ≤ 510000 by omega) rC_, Nat.le_trans (show slots + 30 ≤ 6100000 by omega) rS_⟩ dL_law_455 (fun v3 w1 H locs hq hP hD hS => ?_)
    obtain ⟨σ_1, ⟨rfl, hC_2⟩, rfl⟩ := hq
    have hP : va_P D vwCl ((g_W D σ_1) ++ xs) H := hP
    have hD : va_D A ((g_W D σ_1) ++ xs) := hD
    refine W.widen (k := (cells + 5)) (n := (slots + 30)) (Nat.le_refl _) (Nat.le_refl _) ?_
    refine W.eq (g2 := F0 m 458 ls [.int (fa_ (Ls w) (Ls w).length), .int (nI 31)]) rfl ?_
    refine g_top (y := nI u) (eu) ?_
    refine h_callS (y := yJ6_numberOfLeadingZeros_0f7a4) (n := 1) (As := [.int (nI u)]) (rest := [.int (nI 31)]) hx hb hml hown hts hE hZ hS hl.1 ((m_J6_numberOfLeadingZeros_0f7a4 l D hAD σ_1 u hu).h hAD) h_P0 (h_prf hP) (h_AP hD hS hAs) (fun _ _ _ => trivial) (h_jP hP hD (h_AP hD hS hAs)) k_L_120 rfl rfl ⟨Nat.le_of_ble_eq_true rfl, Nat.le_of_ble_eq_true rfl⟩ (Nat.le_of_ble_eq_true rfl) ⟨Nat.le_trans (show (cells + 5) + 0 ≤ 510000 by omega) rC_, Nat.le_trans (show (slots + 30) + 0 ≤ 6100000 by omega) rS_⟩ dL_law_458 (fun v6 w1 H locs hq hP hD hS => ?_)
    obtain ⟨σ_4, ⟨rfl, hsg5⟩, rfl⟩ := hq
    rw [← hsg5] at hP hD
    have hP : va_P D vwCl ((g_W D σ_1) ++ xs) H := hP
    have hD : va_D A ((g_W D σ_1) ++ xs) := hD
    refine W.widen (k := ((cells + 5) + 0)) (n := ((slots + 30) + 0)) (Nat.le_refl _) (Nat.le_refl _) ?_
    refine W.eq (g2 := F0 m 461 ls [.int (nI (nz_ u)), .int (nI 31)]) rfl ?_
    refine lv_isub hx hb dL_law_461 ?_
    refine g_top (y := tel_ (tb_ (Ls w)) 0 0) ((tp_nz hu).trans et) ?_
    refine lv_aload_n hx hb dL_law_462 rfl (lv_at hl 6 rfl) ?_
    refine lv_iload hx hb dL_law_463 (lv_at hl 1 rfl) ?_
    refine lv_iconst (v := nI 0) hx hb dL_law_465 (by decide) ?_
    refine lv_iconst (v := nI 0) hx hb dL_law_466 (by decide) ?_
    refine h_callV (y := yX2_sign) (n := 3) (As := [.int (nI w), .int (nI 0), .int (nI 0)]) (rest := [.int (tel_ (tb_ (Ls w)) 0 0)]) hx hb hml hown hts hE hZ hS hl.1 ((n_sign l hst D hAD σ_1 Ls hC_2 hvC w 0 0 hw (zs_pos (by omega)) (by omega)).h hAD) h_P0 (h_prf hP) (h_AP hD hS hAs) (fun _ _ _ => trivial) (h_jP hP hD (h_AP hD hS hAs)) k_L_125 (wr := (g_W D σ_1)) (q0 := 0) (ci := 2) (h_prf hP) (g_at (by decide) hC_2.1) rfl rfl rfl rfl ⟨Nat.le_of_ble_eq_true rfl, Nat.le_of_ble_eq_true rfl⟩ (Nat.le_of_ble_eq_true rfl) ⟨Nat.le_trans (show ((cells + 5) + 0) + 5 ≤ 510000 by omega) rC_, Nat.le_trans (show ((slots + 30) + 0) + 30 ≤ 6100000 by omega) rS_⟩ dL_law_467 (fun v9 w1 H locs hq hP hD hS => ?_)
    obtain ⟨σ_7, ⟨rfl, hC_8⟩, rfl⟩ := hq
    have hP : va_P D vwCl ((g_W D σ_7) ++ xs) H := hP
    have hD : va_D A ((g_W D σ_7) ++ xs) := hD
    refine W.widen (k := (((cells + 5) + 0) + 5)) (n := (((slots + 30) + 0) + 30)) (Nat.le_refl _) (Nat.le_refl _) ?_
    refine W.eq (g2 := F0 m 470 ls [.int (tel_ (tb_ (Ls w)) 0 0), .int (tel_ (tb_ (Ls w)) 0 0)]) rfl ?_
    refine lv_icmp_eq (tgt := 475) hx hb dL_law_470 (by decide) (fun h470 => ?_) (fun h470 => ?_)
    · refine W.widen (k := cells + 15) (n := slots + 90) (by omega) (by omega) ?_
      exact kk σ_7 H locs ls hC_8 hP hD hS (lv_sub hl [0, 1, 2, 3, 4, 5, 6, 7] rfl)
    · exact absurd rfl h470

set_option maxHeartbeats 4000000 in
set_option maxRecDepth 100000 in
theorem lw_a5a {p : Program} {l : Launch} {e : Env} {s : State} {m : MethodId} {args : Array Value} {below : List Frame} {meth : Method} {c : Code} {H : Heap} {locs : List Loc} {Q : State → Prop} {A : Nat → Prop} {cells slots : Nat} {D : va_G} {σ : Nat → va_E} {Ls : Nat → g_L} {xs : va_W} {w : Nat} {b qs t : Nat} {xx : Int32} {bf : Int64} {p9 : Nat} (hst : l.stackTraces = false) (hAD : g_AD D) (hAs : ∀ q, s.heap.size ≤ q → A q) (hvC : vC_ Ls) (hx : p.tables.exec = Jvm.exec) (hb : c.code = cL_law) (hml : c.maxLocals = 15) (hown : s.vm.findClass RL = some m.cls) (hts : ∀ w ∈ g_WA, w.before args s = true) (hE : g_EV D s) (hZ : g_EZ A s s.heap) (hw : w ≤ 1) (hp : p9 < zs_ (Ls w).length) (hneg : tel_ (tb_ (Ls w)) 0 p9 < 0) (hC : g_C D σ Ls) (hcl : cells ≤ 500000) (hsl : slots ≤ 6000000) (hP : va_P D vwCl (g_W D σ ++ xs) H) (hD : va_D A (g_W D σ ++ xs)) (hS : va_S A s.heap H locs) {ls : Array Slot} (hl : lv_has ls 15 [(12, .int (tel_ (tb_ (Ls w)) 0 p9)), (11, .int (nI p9)), (8, .int (nI ((Ls w).length))), (7, .int (nI w)), (5, .long bf), (4, .int xx), (3, .int (nI t)), (0, .ref b), (1, .ref (ad_ D 0)), (2, .ref qs)]) (kk : ∀ (σ1 : Nat → va_E) (H : Heap) (locs : List Loc) (ls : Array Slot), g_C D σ1 Ls → va_P D vwCl (g_W D σ1 ++ xs) H → va_D A (g_W D σ1 ++ xs) → va_S A s.heap H locs → lv_has ls 15 [(11, .int (nI p9)), (8, .int (nI ((Ls w).length))), (7, .int (nI w)), (5, .long bf), (4, .int xx), (3, .int (nI t)), (0, .ref b), (1, .ref (ad_ D 0)), (2, .ref qs)] → W p l e room_1 s m args below meth c H locs (cells + 35) (slots + 210) Q (F0 m 793 ls [])) : W p l e room_1 s m args below meth c H locs cells slots Q (F0 m 505 ls []) := by
  have hv := (hvC w hw).1
  have h24 := (hvC w hw).2
  have h48 : (Ls w).length ≤ 48 := by omega
  obtain ⟨l1, l2, l3, l4⟩ := sg_leaf hv h48 hp hneg
  have hn0 : (Ls w).length ≠ 0 := by intro e; rw [e] at hp; exact absurd hp (Nat.not_lt_zero _)
  refine lv_aload_n hx hb dL_law_505 rfl (lv_at hl 8 rfl) ?_
  refine lv_iload hx hb dL_law_506 (lv_at hl 3 rfl) ?_
  refine lv_iload hx hb dL_law_508 (lv_at hl 1 rfl) ?_
  refine lv_iconst (v := nI 1) hx hb dL_law_510 (by decide) ?_
  refine h_callV (y := yX2_sign) (n := 3) (As := [.int (nI w), .int (nI p9), .int (nI 1)]) (rest := []) hx hb hml hown hts hE hZ hS hl.1 ((n_sign l hst D hAD σ Ls hC hvC w p9 1 hw (by omega) (by omega)).h hAD) h_P0 (h_prf hP) (h_AP hD hS hAs) (fun _ _ _ => trivial) (h_jP hP hD (h_AP hD hS hAs)) k_L_125 (wr := (g_W D σ)) (q0 := 0) (ci := 2) (h_prf hP) (g_at (by decide) hC.1) rfl rfl rfl rfl ⟨Nat.le_of_ble_eq_true rfl, Nat.le_of_ble_eq_true rfl⟩ (Nat.le_of_ble_eq_true rfl) ⟨Nat.le_trans (show cells + 5 ≤ 510000 by omega) rC_, Nat.le_trans (show slots + 30 ≤ 6100000 by omega) rS_⟩ dL_law_511 (fun v3 w1 H locs hq hP hD hS => ?_)
  obtain ⟨σ_1, ⟨rfl, hC_2⟩, rfl⟩ := hq
  have hP : va_P D vwCl ((g_W D σ_1) ++ xs) H := hP
  have hD : va_D A ((g_W D σ_1) ++ xs) := hD
  refine W.widen (k := (cells + 5)) (n := (slots + 30)) (Nat.le_refl _) (Nat.le_refl _) ?_
  refine W.eq (g2 := F0 m 514 ls [.int (tel_ (tb_ (Ls w)) 1 p9)]) rfl ?_
  refine g_top (y := nI 1) (l1) ?_
  refine lv_iconst (v := nI 1) hx hb dL_law_514 (by decide) ?_
  refine lv_icmp_ne (tgt := 568) hx hb dL_law_515 (by decide) (fun h515 => ?_) (fun h515 => ?_)
  · exact absurd rfl h515
  · refine lv_aload_n hx hb dL_law_518 rfl (lv_at hl 8 rfl) ?_
    refine lv_iload hx hb dL_law_519 (lv_at hl 3 rfl) ?_
    refine lv_iload hx hb dL_law_521 (lv_at hl 1 rfl) ?_
    refine lv_iconst (v := nI 2) hx hb dL_law_523 (by decide) ?_
    refine h_callV (y := yX2_sign) (n := 3) (As := [.int (nI w), .int (nI p9), .int (nI 2)]) (rest := []) hx hb hml hown hts hE hZ hS hl.1 ((n_sign l hst D hAD σ_1 Ls hC_2 hvC w p9 2 hw (by omega) (by omega)).h hAD) h_P0 (h_prf hP) (h_AP hD hS hAs) (fun _ _ _ => trivial) (h_jP hP hD (h_AP hD hS hAs)) k_L_125 (wr := (g_W D σ_1)) (q0 := 0) (ci := 2) (h_prf hP) (g_at (by decide) hC_2.1) rfl rfl rfl rfl ⟨Nat.le_of_ble_eq_true rfl, Nat.le_of_ble_eq_true rfl⟩ (Nat.le_of_ble_eq_true rfl) ⟨Nat.le_trans (show (cells + 5) + 5 ≤ 510000 by omega) rC_, Nat.le_trans (show (slots + 30) + 30 ≤ 6100000 by omega) rS_⟩ dL_law_524 (fun v6 w1 H locs hq hP hD hS => ?_)
    obtain ⟨σ_4, ⟨rfl, hC_5⟩, rfl⟩ := hq
    have hP : va_P D vwCl ((g_W D σ_4) ++ xs) H := hP
    have hD : va_D A ((g_W D σ_4) ++ xs) := hD
    refine W.widen (k := ((cells + 5) + 5)) (n := ((slots + 30) + 30)) (Nat.le_refl _) (Nat.le_refl _) ?_
    refine W.eq (g2 := F0 m 527 ls [.int (tel_ (tb_ (Ls w)) 2 p9)]) rfl ?_
    refine lv_aload_n hx hb dL_law_527 rfl (lv_at hl 8 rfl) ?_
    refine lv_iload hx hb dL_law_528 (lv_at hl 3 rfl) ?_
    refine lv_iload hx hb dL_law_530 (lv_at hl 1 rfl) ?_
    refine lv_iconst (v := nI 3) hx hb dL_law_532 (by decide) ?_
    refine h_callV (y := yX2_sign) (n := 3) (As := [.int (nI w), .int (nI p9), .int (nI 3)]) (rest := [.int (tel_ (tb_ (Ls w)) 2 p9)]) hx hb hml hown hts hE hZ hS hl.1 ((n_sign l hst D hAD σ_4 Ls hC_5 hvC w p9 3 hw (by omega) (by omega)).h hAD) h_P0 (h_prf hP) (h_AP hD hS hAs) (fun _ _ _ => trivial) (h_jP hP hD (h_AP hD hS hAs)) k_L_125 (wr := (g_W D σ_4)) (q0 := 0) (ci := 2) (h_prf hP) (g_at (by decide) hC_5.1) rfl rfl rfl rfl ⟨Nat.le_of_ble_eq_true rfl, Nat.le_of_ble_eq_true rfl⟩ (Nat.le_of_ble_eq_true rfl) ⟨Nat.le_trans (show ((cells + 5) + 5) + 5 ≤ 510000 by omega) rC_, Nat.le_trans (show ((slots + 30) + 30) + 30 ≤ 6100000 by omega) rS_⟩ dL_law_533 (fun v9 w1 H locs hq hP hD hS => ?_)
    obtain ⟨σ_7, ⟨rfl, hC_8⟩, rfl⟩ := hq
    have hP : va_P D vwCl ((g_W D σ_7) ++ xs) H := hP
    have hD : va_D A ((g_W D σ_7) ++ xs) := hD
    refine W.widen (k := (((cells + 5) + 5) + 5)) (n := (((slots + 30) + 30) + 30)) (Nat.le_refl _) (Nat.le_refl _) ?_
    refine W.eq (g2 := F0 m 536 ls [.int (tel_ (tb_ (Ls w)) 3 p9), .int (tel_ (tb_ (Ls w)) 2 p9)]) rfl ?_
    refine lv_icmp_ne (tgt := 568) hx hb dL_law_536 (by decide) (fun h536 => ?_) (fun h536 => ?_)
    · exact absurd l2 h536
    · refine lv_aload_n hx hb dL_law_539 rfl (lv_at hl 8 rfl) ?_
      refine lv_iload hx hb dL_law_540 (lv_at hl 3 rfl) ?_
      refine lv_aload_n hx hb dL_law_542 rfl (lv_at hl 8 rfl) ?_
      refine lv_iload hx hb dL_law_543 (lv_at hl 3 rfl) ?_
      refine lv_iload hx hb dL_law_545 (lv_at hl 1 rfl) ?_
      refine lv_iconst (v := nI 2) hx hb dL_law_547 (by decide) ?_
      refine h_callV (y := yX2_sign) (n := 3) (As := [.int (nI w), .int (nI p9), .int (nI 2)]) (rest := [.int (nI w), .ref (ad_ D 0)]) hx hb hml hown hts hE hZ hS hl.1 ((n_sign l hst D hAD σ_7 Ls hC_8 hvC w p9 2 hw (by omega) (by omega)).h hAD) h_P0 (h_prf hP) (h_AP hD hS hAs) (fun _ _ _ => trivial) (h_jP hP hD (h_AP hD hS hAs)) k_L_125 (wr := (g_W D σ_7)) (q0 := 0) (ci := 2) (h_prf hP) (g_at (by decide) hC_8.1) rfl rfl rfl rfl ⟨Nat.le_of_ble_eq_true rfl, Nat.le_of_ble_eq_true rfl⟩ (Nat.le_of_ble_eq_true rfl) ⟨Nat.le_trans (show (((cells + 5) + 5) + 5) + 5 ≤ 510000 by omega) rC_, Nat.le_trans (show (((slots + 30) + 30) + 30) + 30 ≤ 6100000 by omega) rS_⟩ dL_law_548 (fun v12 w1 H locs hq hP hD hS => ?_)
      obtain ⟨σ_10, ⟨rfl, hC_11⟩, rfl⟩ := hq
      have hP : va_P D vwCl ((g_W D σ_10) ++ xs) H := hP
      have hD : va_D A ((g_W D σ_10) ++ xs) := hD
      refine W.widen (k := ((((cells + 5) + 5) + 5) + 5)) (n := ((((slots + 30) + 30) + 30) + 30)) (Nat.le_refl _) (Nat.le_refl _) ?_
      refine W.eq (g2 := F0 m 551 ls [.int (tel_ (tb_ (Ls w)) 2 p9), .int (nI w), .ref (ad_ D 0)]) rfl ?_
      refine lv_iconst (v := nI 0) hx hb dL_law_551 (by decide) ?_
      refine h_callV (y := yX2_walk) (n := 3) (As := [.int (nI w), .int (tel_ (tb_ (Ls w)) 2 p9), .int (nI 0)]) (rest := []) hx hb hml hown hts hE hZ hS hl.1 ((n_walk l hst D hAD σ_10 Ls hC_11 hvC w (tel_ (tb_ (Ls w)) 2 p9) 0 hw l3 (by omega) (by omega)).h hAD) h_P0 (h_prf hP) (h_AP hD hS hAs) (fun _ _ _ => trivial) (h_jP hP hD (h_AP hD hS hAs)) k_L_104 (wr := (g_W D σ_10)) (q0 := 0) (ci := 2) (h_prf hP) (g_at (by decide) hC_11.1) rfl rfl rfl rfl ⟨Nat.le_of_ble_eq_true rfl, Nat.le_of_ble_eq_true rfl⟩ (Nat.le_of_ble_eq_true rfl) ⟨Nat.le_trans (show ((((cells + 5) + 5) + 5) + 5) + 5 ≤ 510000 by omega) rC_, Nat.le_trans (show ((((slots + 30) + 30) + 30) + 30) + 30 ≤ 6100000 by omega) rS_⟩ dL_law_552 (fun v15 w1 H locs hq hP hD hS => ?_)
      obtain ⟨σ_13, ⟨rfl, hC_14⟩, rfl⟩ := hq
      have hP : va_P D vwCl ((g_W D σ_13) ++ xs) H := hP
      have hD : va_D A ((g_W D σ_13) ++ xs) := hD
      refine W.widen (k := (((((cells + 5) + 5) + 5) + 5) + 5)) (n := (((((slots + 30) + 30) + 30) + 30) + 30)) (Nat.le_refl _) (Nat.le_refl _) ?_
      refine W.eq (g2 := F0 m 555 ls [.int (tw_ (tb_ (Ls w)) (tel_ (tb_ (Ls w)) 2 p9) 0)]) rfl ?_
      refine lv_aload_n hx hb dL_law_555 rfl (lv_at hl 8 rfl) ?_
      refine lv_iload hx hb dL_law_556 (lv_at hl 3 rfl) ?_
      refine lv_iload hx hb dL_law_558 (lv_at hl 1 rfl) ?_
      refine lv_bipush (v := nI 6) hx hb dL_law_560 (by decide) ?_
      refine h_callV (y := yX2_sign) (n := 3) (As := [.int (nI w), .int (nI p9), .int (nI 6)]) (rest := [.int (tw_ (tb_ (Ls w)) (tel_ (tb_ (Ls w)) 2 p9) 0)]) hx hb hml hown hts hE hZ hS hl.1 ((n_sign l hst D hAD σ_13 Ls hC_14 hvC w p9 6 hw (by omega) (by omega)).h hAD) h_P0 (h_prf hP) (h_AP hD hS hAs) (fun _ _ _ => trivial) (h_jP hP hD (h_AP hD hS hAs)) k_L_125 (wr := (g_W D σ_13)) (q0 := 0) (ci := 2) (h_prf hP) (g_at (by decide) hC_14.1) rfl rfl rfl rfl ⟨Nat.le_of_ble_eq_true rfl, Nat.le_of_ble_eq_true rfl⟩ (Nat.le_of_ble_eq_true rfl) ⟨Nat.le_trans (show (((((cells + 5) + 5) + 5) + 5) + 5) + 5 ≤ 510000 by omega) rC_, Nat.le_trans (show (((((slots + 30) + 30) + 30) + 30) + 30) + 30 ≤ 6100000 by omega) rS_⟩ dL_law_562 (fun v18 w1 H locs hq hP hD hS => ?_)
      obtain ⟨σ_16, ⟨rfl, hC_17⟩, rfl⟩ := hq
      have hP : va_P D vwCl ((g_W D σ_16) ++ xs) H := hP
      have hD : va_D A ((g_W D σ_16) ++ xs) := hD
      refine W.widen (k := ((((((cells + 5) + 5) + 5) + 5) + 5) + 5)) (n := ((((((slots + 30) + 30) + 30) + 30) + 30) + 30)) (Nat.le_refl _) (Nat.le_refl _) ?_
      refine W.eq (g2 := F0 m 565 ls [.int (tel_ (tb_ (Ls w)) 6 p9), .int (tw_ (tb_ (Ls w)) (tel_ (tb_ (Ls w)) 2 p9) 0)]) rfl ?_
      refine lv_icmp_eq (tgt := 793) hx hb dL_law_565 (by decide) (fun h565 => ?_) (fun h565 => ?_)
      · refine W.widen (k := cells + 35) (n := slots + 210) (by omega) (by omega) ?_
        exact kk σ_16 H locs ls hC_17 hP hD hS (lv_sub hl [1, 2, 3, 4, 5, 6, 7, 8, 9] rfl)
      · exact absurd l4 h565

set_option maxHeartbeats 4000000 in
set_option maxRecDepth 100000 in
theorem lw_a5b {p : Program} {l : Launch} {e : Env} {s : State} {m : MethodId} {args : Array Value} {below : List Frame} {meth : Method} {c : Code} {H : Heap} {locs : List Loc} {Q : State → Prop} {A : Nat → Prop} {cells slots : Nat} {D : va_G} {σ : Nat → va_E} {Ls : Nat → g_L} {xs : va_W} {w : Nat} {b qs t : Nat} {xx : Int32} {bf : Int64} {p9 : Nat} (hst : l.stackTraces = false) (hAD : g_AD D) (hAs : ∀ q, s.heap.size ≤ q → A q) (hvC : vC_ Ls) (hx : p.tables.exec = Jvm.exec) (hb : c.code = cL_law) (hml : c.maxLocals = 15) (hown : s.vm.findClass RL = some m.cls) (hts : ∀ w ∈ g_WA, w.before args s = true) (hE : g_EV D s) (hZ : g_EZ A s s.heap) (hw : w ≤ 1) (hp : p9 < zs_ (Ls w).length) (hneg : ¬ tel_ (tb_ (Ls w)) 0 p9 < 0) (hC : g_C D σ Ls) (hcl : cells ≤ 500000) (hsl : slots ≤ 6000000) (hP : va_P D vwCl (g_W D σ ++ xs) H) (hD : va_D A (g_W D σ ++ xs)) (hS : va_S A s.heap H locs) {ls : Array Slot} (hl : lv_has ls 15 [(12, .int (tel_ (tb_ (Ls w)) 0 p9)), (11, .int (nI p9)), (8, .int (nI ((Ls w).length))), (7, .int (nI w)), (5, .long bf), (4, .int xx), (3, .int (nI t)), (0, .ref b), (1, .ref (ad_ D 0)), (2, .ref qs)]) (kk : ∀ (σ1 : Nat → va_E) (H : Heap) (locs : List Loc) (ls : Array Slot), g_C D σ1 Ls → va_P D vwCl (g_W D σ1 ++ xs) H → va_D A (g_W D σ1 ++ xs) → va_S A s.heap H locs → lv_has ls 15 [(11, .int (nI p9)), (8, .int (nI ((Ls w).length))), (7, .int (nI w)), (5, .long bf), (4, .int xx), (3, .int (nI t)), (0, .ref b), (1, .ref (ad_ D 0)), (2, .ref qs)] → W p l e room_1 s m args below meth c H locs (cells + 150) (slots + 900) Q (F0 m 793 ls [])) : W p l e room_1 s m args below meth c H locs cells slots Q (F0 m 570 ls []) := by
  have hv := (hvC w hw).1
  have h24 := (hvC w hw).2
  have h48 : (Ls w).length ≤ 48 := by omega
  obtain ⟨lo, hi, hlo, hhi, e4, e5, f1, f2, f3, f4, f5, f6, f7, f8, hu2, hu3, f9⟩ := sg_post hv hp hneg
  refine lv_aload_n hx hb dL_law_570 rfl (lv_at hl 8 rfl) ?_
  refine lv_iload hx hb dL_law_571 (lv_at hl 3 rfl) ?_
  refine lv_iload hx hb dL_law_573 (lv_at hl 1 rfl) ?_
  refine lv_iconst (v := nI 4) hx hb dL_law_575 (by decide) ?_
  refine h_callV (y := yX2_sign) (n := 3) (As := [.int (nI w), .int (nI p9), .int (nI 4)]) (rest := []) hx hb hml hown hts hE hZ hS hl.1 ((n_sign l hst D hAD σ Ls hC hvC w p9 4 hw (by omega) (by omega)).h hAD) h_P0 (h_prf hP) (h_AP hD hS hAs) (fun _ _ _ => trivial) (h_jP hP hD (h_AP hD hS hAs)) k_L_125 (wr := (g_W D σ)) (q0 := 0) (ci := 2) (h_prf hP) (g_at (by decide) hC.1) rfl rfl rfl rfl ⟨Nat.le_of_ble_eq_true rfl, Nat.le_of_ble_eq_true rfl⟩ (Nat.le_of_ble_eq_true rfl) ⟨Nat.le_trans (show cells + 5 ≤ 510000 by omega) rC_, Nat.le_trans (show slots + 30 ≤ 6100000 by omega) rS_⟩ dL_law_576 (fun v3 w1 H locs hq hP hD hS => ?_)
  obtain ⟨σ_1, ⟨rfl, hC_2⟩, rfl⟩ := hq
  have hP : va_P D vwCl ((g_W D σ_1) ++ xs) H := hP
  have hD : va_D A ((g_W D σ_1) ++ xs) := hD
  refine W.widen (k := (cells + 5)) (n := (slots + 30)) (Nat.le_refl _) (Nat.le_refl _) ?_
  refine W.eq (g2 := F0 m 579 ls [.int (tel_ (tb_ (Ls w)) 4 p9)]) rfl ?_
  refine g_top (y := nI lo) (e4) ?_
  refine lv_istore (lv' := [(13, .int (nI lo)), (12, .int (tel_ (tb_ (Ls w)) 0 p9)), (11, .int (nI p9)), (8, .int (nI ((Ls w).length))), (7, .int (nI w)), (5, .long bf), (4, .int xx), (3, .int (nI t)), (0, .ref b), (1, .ref (ad_ D 0)), (2, .ref qs)]) hx hb dL_law_579 hl (by decide) rfl (fun ls hl => ?_)
  refine lv_aload_n hx hb dL_law_581 rfl (lv_at hl 9 rfl) ?_
  refine lv_iload hx hb dL_law_582 (lv_at hl 4 rfl) ?_
  refine lv_iload hx hb dL_law_584 (lv_at hl 2 rfl) ?_
  refine lv_iconst (v := nI 5) hx hb dL_law_586 (by decide) ?_
  refine h_callV (y := yX2_sign) (n := 3) (As := [.int (nI w), .int (nI p9), .int (nI 5)]) (rest := []) hx hb hml hown hts hE hZ hS hl.1 ((n_sign l hst D hAD σ_1 Ls hC_2 hvC w p9 5 hw (by omega) (by omega)).h hAD) h_P0 (h_prf hP) (h_AP hD hS hAs) (fun _ _ _ => trivial) (h_jP hP hD (h_AP hD hS hAs)) k_L_125 (wr := (g_W D σ_1)) (q0 := 0) (ci := 2) (h_prf hP) (g_at (by decide) hC_2.1) rfl rfl rfl rfl ⟨Nat.le_of_ble_eq_true rfl, Nat.le_of_ble_eq_true rfl⟩ (Nat.le_of_ble_eq_true rfl) ⟨Nat.le_trans (show (cells + 5) + 5 ≤ 510000 by omega) rC_, Nat.le_trans (show (slots + 30) + 30 ≤ 6100000 by omega) rS_⟩ dL_law_587 (fun v6 w1 H locs hq hP hD hS => ?_)
  obtain ⟨σ_4, ⟨rfl, hC_5⟩, rfl⟩ := hq
  have hP : va_P D vwCl ((g_W D σ_4) ++ xs) H := hP
  have hD : va_D A ((g_W D σ_4) ++ xs) := hD
  refine W.widen (k := ((cells + 5) + 5)) (n := ((slots + 30) + 30)) (Nat.le_refl _) (Nat.le_refl _) ?_
  refine W.eq (g2 := F0 m 590 ls [.int (tel_ (tb_ (Ls w)) 5 p9)]) rfl ?_
  refine g_top (y := nI hi) (e5) ?_
  refine lv_istore (lv' := [(14, .int (nI hi)), (13, .int (nI lo)), (12, .int (tel_ (tb_ (Ls w)) 0 p9)), (11, .int (nI p9)), (8, .int (nI ((Ls w).length))), (7, .int (nI w)), (5, .long bf), (4, .int xx), (3, .int (nI t)), (0, .ref b), (1, .ref (ad_ D 0)), (2, .ref qs)]) hx hb dL_law_590 hl (by decide) rfl (fun ls hl => ?_)
  refine lv_aload_n hx hb dL_law_592 rfl (lv_at hl 10 rfl) ?_
  refine lv_iload hx hb dL_law_593 (lv_at hl 5 rfl) ?_
  refine lv_iload hx hb dL_law_595 (lv_at hl 1 rfl) ?_
  refine lv_iconst (v := nI 1) hx hb dL_law_597 (by decide) ?_
  refine h_callV (y := yX2_sign) (n := 3) (As := [.int (nI w), .int (nI lo), .int (nI 1)]) (rest := []) hx hb hml hown hts hE hZ hS hl.1 ((n_sign l hst D hAD σ_4 Ls hC_5 hvC w lo 1 hw (by omega) (by omega)).h hAD) h_P0 (h_prf hP) (h_AP hD hS hAs) (fun _ _ _ => trivial) (h_jP hP hD (h_AP hD hS hAs)) k_L_125 (wr := (g_W D σ_4)) (q0 := 0) (ci := 2) (h_prf hP) (g_at (by decide) hC_5.1) rfl rfl rfl rfl ⟨Nat.le_of_ble_eq_true rfl, Nat.le_of_ble_eq_true rfl⟩ (Nat.le_of_ble_eq_true rfl) ⟨Nat.le_trans (show ((cells + 5) + 5) + 5 ≤ 510000 by omega) rC_, Nat.le_trans (show ((slots + 30) + 30) + 30 ≤ 6100000 by omega) rS_⟩ dL_law_598 (fun v9 w1 H locs hq hP hD hS => ?_)
  obtain ⟨σ_7, ⟨rfl, hC_8⟩, rfl⟩ := hq
  have hP : va_P D vwCl ((g_W D σ_7) ++ xs) H := hP
  have hD : va_D A ((g_W D σ_7) ++ xs) := hD
  refine W.widen (k := (((cells + 5) + 5) + 5)) (n := (((slots + 30) + 30) + 30)) (Nat.le_refl _) (Nat.le_refl _) ?_
  refine W.eq (g2 := F0 m 601 ls [.int (tel_ (tb_ (Ls w)) 1 lo)]) rfl ?_
  refine lv_aload_n hx hb dL_law_601 rfl (lv_at hl 10 rfl) ?_
  refine lv_iload hx hb dL_law_602 (lv_at hl 5 rfl) ?_
  refine lv_iload hx hb dL_law_604 (lv_at hl 0 rfl) ?_
  refine lv_iconst (v := nI 1) hx hb dL_law_606 (by decide) ?_
  refine h_callV (y := yX2_sign) (n := 3) (As := [.int (nI w), .int (nI hi), .int (nI 1)]) (rest := [.int (tel_ (tb_ (Ls w)) 1 lo)]) hx hb hml hown hts hE hZ hS hl.1 ((n_sign l hst D hAD σ_7 Ls hC_8 hvC w hi 1 hw (by omega) (by omega)).h hAD) h_P0 (h_prf hP) (h_AP hD hS hAs) (fun _ _ _ => trivial) (h_jP hP hD (h_AP hD hS hAs)) k_L_125 (wr := (g_W D σ_7)) (q0 := 0) (ci := 2) (h_prf hP) (g_at (by decide) hC_8.1) rfl rfl rfl rfl ⟨Nat.le_of_ble_eq_true rfl, Nat.le_of_ble_eq_true rfl⟩ (Nat.le_of_ble_eq_true rfl) ⟨Nat.le_trans (show (((cells + 5) + 5) + 5) + 5 ≤ 510000 by omega) rC_, Nat.le_trans (show (((slots + 30) + 30) + 30) + 30 ≤ 6100000 by omega) rS_⟩ dL_law_607 (fun v12 w1 H locs hq hP hD hS => ?_)
  obtain ⟨σ_10, ⟨rfl, hC_11⟩, rfl⟩ := hq
  have hP : va_P D vwCl ((g_W D σ_10) ++ xs) H := hP
  have hD : va_D A ((g_W D σ_10) ++ xs) := hD
  refine W.widen (k := ((((cells + 5) + 5) + 5) + 5)) (n := ((((slots + 30) + 30) + 30) + 30)) (Nat.le_refl _) (Nat.le_refl _) ?_
  refine W.eq (g2 := F0 m 610 ls [.int (tel_ (tb_ (Ls w)) 1 hi), .int (tel_ (tb_ (Ls w)) 1 lo)]) rfl ?_
  refine lv_iadd hx hb dL_law_610 ?_
  refine lv_aload_n hx hb dL_law_611 rfl (lv_at hl 10 rfl) ?_
  refine lv_iload hx hb dL_law_612 (lv_at hl 5 rfl) ?_
  refine lv_iload hx hb dL_law_614 (lv_at hl 3 rfl) ?_
  refine lv_iconst (v := nI 1) hx hb dL_law_616 (by decide) ?_
  refine h_callV (y := yX2_sign) (n := 3) (As := [.int (nI w), .int (nI p9), .int (nI 1)]) (rest := [.int ((tel_ (tb_ (Ls w)) 1 lo) + (tel_ (tb_ (Ls w)) 1 hi))]) hx hb hml hown hts hE hZ hS hl.1 ((n_sign l hst D hAD σ_10 Ls hC_11 hvC w p9 1 hw (by omega) (by omega)).h hAD) h_P0 (h_prf hP) (h_AP hD hS hAs) (fun _ _ _ => trivial) (h_jP hP hD (h_AP hD hS hAs)) k_L_125 (wr := (g_W D σ_10)) (q0 := 0) (ci := 2) (h_prf hP) (g_at (by decide) hC_11.1) rfl rfl rfl rfl ⟨Nat.le_of_ble_eq_true rfl, Nat.le_of_ble_eq_true rfl⟩ (Nat.le_of_ble_eq_true rfl) ⟨Nat.le_trans (show ((((cells + 5) + 5) + 5) + 5) + 5 ≤ 510000 by omega) rC_, Nat.le_trans (show ((((slots + 30) + 30) + 30) + 30) + 30 ≤ 6100000 by omega) rS_⟩ dL_law_617 (fun v15 w1 H locs hq hP hD hS => ?_)
  obtain ⟨σ_13, ⟨rfl, hC_14⟩, rfl⟩ := hq
  have hP : va_P D vwCl ((g_W D σ_13) ++ xs) H := hP
  have hD : va_D A ((g_W D σ_13) ++ xs) := hD
  refine W.widen (k := (((((cells + 5) + 5) + 5) + 5) + 5)) (n := (((((slots + 30) + 30) + 30) + 30) + 30)) (Nat.le_refl _) (Nat.le_refl _) ?_
  refine W.eq (g2 := F0 m 620 ls [.int (tel_ (tb_ (Ls w)) 1 p9), .int ((tel_ (tb_ (Ls w)) 1 lo) + (tel_ (tb_ (Ls w)) 1 hi))]) rfl ?_
  refine lv_icmp_ne (tgt := 791) hx hb dL_law_620 (by decide) (fun h620 => ?_) (fun h620 => ?_)
  · exact absurd f1 h620
  · refine lv_aload_n hx hb dL_law_623 rfl (lv_at hl 10 rfl) ?_
    refine lv_iload hx hb dL_law_624 (lv_at hl 5 rfl) ?_
    refine lv_iload hx hb dL_law_626 (lv_at hl 1 rfl) ?_
    refine lv_iconst (v := nI 2) hx hb dL_law_628 (by decide) ?_
    refine h_callV (y := yX2_sign) (n := 3) (As := [.int (nI w), .int (nI lo), .int (nI 2)]) (rest := []) hx hb hml hown hts hE hZ hS hl.1 ((n_sign l hst D hAD σ_13 Ls hC_14 hvC w lo 2 hw (by omega) (by omega)).h hAD) h_P0 (h_prf hP) (h_AP hD hS hAs) (fun _ _ _ => trivial) (h_jP hP hD (h_AP hD hS hAs)) k_L_125 (wr := (g_W D σ_13)) (q0 := 0) (ci := 2) (h_prf hP) (g_at (by decide) hC_14.1) rfl rfl rfl rfl ⟨Nat.le_of_ble_eq_true rfl, Nat.le_of_ble_eq_true rfl⟩ (Nat.le_of_ble_eq_true rfl) ⟨Nat.le_trans (show (((((cells + 5) + 5) + 5) + 5) + 5) + 5 ≤ 510000 by omega) rC_, Nat.le_trans (show (((((slots + 30) + 30) + 30) + 30) + 30) + 30 ≤ 6100000 by omega) rS_⟩ dL_law_629 (fun v18 w1 H locs hq hP hD hS => ?_)
    obtain ⟨σ_16, ⟨rfl, hC_17⟩, rfl⟩ := hq
    have hP : va_P D vwCl ((g_W D σ_16) ++ xs) H := hP
    have hD : va_D A ((g_W D σ_16) ++ xs) := hD
    refine W.widen (k := ((((((cells + 5) + 5) + 5) + 5) + 5) + 5)) (n := ((((((slots + 30) + 30) + 30) + 30) + 30) + 30)) (Nat.le_refl _) (Nat.le_refl _) ?_
    refine W.eq (g2 := F0 m 632 ls [.int (tel_ (tb_ (Ls w)) 2 lo)]) rfl ?_
    refine lv_aload_n hx hb dL_law_632 rfl (lv_at hl 10 rfl) ?_
    refine lv_iload hx hb dL_law_633 (lv_at hl 5 rfl) ?_
    refine lv_iload hx hb dL_law_635 (lv_at hl 3 rfl) ?_
    refine lv_iconst (v := nI 2) hx hb dL_law_637 (by decide) ?_
    refine h_callV (y := yX2_sign) (n := 3) (As := [.int (nI w), .int (nI p9), .int (nI 2)]) (rest := [.int (tel_ (tb_ (Ls w)) 2 lo)]) hx hb hml hown hts hE hZ hS hl.1 ((n_sign l hst D hAD σ_16 Ls hC_17 hvC w p9 2 hw (by omega) (by omega)).h hAD) h_P0 (h_prf hP) (h_AP hD hS hAs) (fun _ _ _ => trivial) (h_jP hP hD (h_AP hD hS hAs)) k_L_125 (wr := (g_W D σ_16)) (q0 := 0) (ci := 2) (h_prf hP) (g_at (by decide) hC_17.1) rfl rfl rfl rfl ⟨Nat.le_of_ble_eq_true rfl, Nat.le_of_ble_eq_true rfl⟩ (Nat.le_of_ble_eq_true rfl) ⟨Nat.le_trans (show ((((((cells + 5) + 5) + 5) + 5) + 5) + 5) + 5 ≤ 510000 by omega) rC_, Nat.le_trans (show ((((((slots + 30) + 30) + 30) + 30) + 30) + 30) + 30 ≤ 6100000 by omega) rS_⟩ dL_law_638 (fun v21 w1 H locs hq hP hD hS => ?_)
    obtain ⟨σ_19, ⟨rfl, hC_20⟩, rfl⟩ := hq
    have hP : va_P D vwCl ((g_W D σ_19) ++ xs) H := hP
    have hD : va_D A ((g_W D σ_19) ++ xs) := hD
    refine W.widen (k := (((((((cells + 5) + 5) + 5) + 5) + 5) + 5) + 5)) (n := (((((((slots + 30) + 30) + 30) + 30) + 30) + 30) + 30)) (Nat.le_refl _) (Nat.le_refl _) ?_
    refine W.eq (g2 := F0 m 641 ls [.int (tel_ (tb_ (Ls w)) 2 p9), .int (tel_ (tb_ (Ls w)) 2 lo)]) rfl ?_
    refine lv_icmp_ne (tgt := 791) hx hb dL_law_641 (by decide) (fun h641 => ?_) (fun h641 => ?_)
    · exact absurd f2 h641
    · refine lv_aload_n hx hb dL_law_644 rfl (lv_at hl 10 rfl) ?_
      refine lv_iload hx hb dL_law_645 (lv_at hl 5 rfl) ?_
      refine lv_iload hx hb dL_law_647 (lv_at hl 0 rfl) ?_
      refine lv_iconst (v := nI 3) hx hb dL_law_649 (by decide) ?_
      refine h_callV (y := yX2_sign) (n := 3) (As := [.int (nI w), .int (nI hi), .int (nI 3)]) (rest := []) hx hb hml hown hts hE hZ hS hl.1 ((n_sign l hst D hAD σ_19 Ls hC_20 hvC w hi 3 hw (by omega) (by omega)).h hAD) h_P0 (h_prf hP) (h_AP hD hS hAs) (fun _ _ _ => trivial) (h_jP hP hD (h_AP hD hS hAs)) k_L_125 (wr := (g_W D σ_19)) (q0 := 0) (ci := 2) (h_prf hP) (g_at (by decide) hC_20.1) rfl rfl rfl rfl ⟨Nat.le_of_ble_eq_true rfl, Nat.le_of_ble_eq_true rfl⟩ (Nat.le_of_ble_eq_true rfl) ⟨Nat.le_trans (show (((((((cells + 5) + 5) + 5) + 5) + 5) + 5) + 5) + 5 ≤ 510000 by omega) rC_, Nat.le_trans (show (((((((slots + 30) + 30) + 30) + 30) + 30) + 30) + 30) + 30 ≤ 6100000 by omega) rS_⟩ dL_law_650 (fun v24 w1 H locs hq hP hD hS => ?_)
      obtain ⟨σ_22, ⟨rfl, hC_23⟩, rfl⟩ := hq
      have hP : va_P D vwCl ((g_W D σ_22) ++ xs) H := hP
      have hD : va_D A ((g_W D σ_22) ++ xs) := hD
      refine W.widen (k := ((((((((cells + 5) + 5) + 5) + 5) + 5) + 5) + 5) + 5)) (n := ((((((((slots + 30) + 30) + 30) + 30) + 30) + 30) + 30) + 30)) (Nat.le_refl _) (Nat.le_refl _) ?_
      refine W.eq (g2 := F0 m 653 ls [.int (tel_ (tb_ (Ls w)) 3 hi)]) rfl ?_
      refine lv_aload_n hx hb dL_law_653 rfl (lv_at hl 10 rfl) ?_
      refine lv_iload hx hb dL_law_654 (lv_at hl 5 rfl) ?_
      refine lv_iload hx hb dL_law_656 (lv_at hl 3 rfl) ?_
      refine lv_iconst (v := nI 3) hx hb dL_law_658 (by decide) ?_
      refine h_callV (y := yX2_sign) (n := 3) (As := [.int (nI w), .int (nI p9), .int (nI 3)]) (rest := [.int (tel_ (tb_ (Ls w)) 3 hi)]) hx hb hml hown hts hE hZ hS hl.1 ((n_sign l hst D hAD σ_22 Ls hC_23 hvC w p9 3 hw (by omega) (by omega)).h hAD) h_P0 (h_prf hP) (h_AP hD hS hAs) (fun _ _ _ => trivial) (h_jP hP hD (h_AP hD hS hAs)) k_L_125 (wr := (g_W D σ_22)) (q0 := 0) (ci := 2) (h_prf hP) (g_at (by decide) hC_23.1) rfl rfl rfl rfl ⟨Nat.le_of_ble_eq_true rfl, Nat.le_of_ble_eq_true rfl⟩ (Nat.le_of_ble_eq_true rfl) ⟨Nat.le_trans (show ((((((((cells + 5) + 5) + 5) + 5) + 5) + 5) + 5) + 5) + 5 ≤ 510000 by omega) rC_, Nat.le_trans (show ((((((((slots + 30) + 30) + 30) + 30) + 30) + 30) + 30) + 30) + 30 ≤ 6100000 by omega) rS_⟩ dL_law_659 (fun v27 w1 H locs hq hP hD hS => ?_)
      obtain ⟨σ_25, ⟨rfl, hC_26⟩, rfl⟩ := hq
      have hP : va_P D vwCl ((g_W D σ_25) ++ xs) H := hP
      have hD : va_D A ((g_W D σ_25) ++ xs) := hD
      refine W.widen (k := (((((((((cells + 5) + 5) + 5) + 5) + 5) + 5) + 5) + 5) + 5)) (n := (((((((((slots + 30) + 30) + 30) + 30) + 30) + 30) + 30) + 30) + 30)) (Nat.le_refl _) (Nat.le_refl _) ?_
      refine W.eq (g2 := F0 m 662 ls [.int (tel_ (tb_ (Ls w)) 3 p9), .int (tel_ (tb_ (Ls w)) 3 hi)]) rfl ?_
      refine lv_icmp_ne (tgt := 791) hx hb dL_law_662 (by decide) (fun h662 => ?_) (fun h662 => ?_)
      · exact absurd f3 h662
      · refine lv_aload_n hx hb dL_law_665 rfl (lv_at hl 10 rfl) ?_
        refine lv_iload hx hb dL_law_666 (lv_at hl 5 rfl) ?_
        refine lv_iload hx hb dL_law_668 (lv_at hl 1 rfl) ?_
        refine lv_iconst (v := nI 3) hx hb dL_law_670 (by decide) ?_
        refine h_callV (y := yX2_sign) (n := 3) (As := [.int (nI w), .int (nI lo), .int (nI 3)]) (rest := []) hx hb hml hown hts hE hZ hS hl.1 ((n_sign l hst D hAD σ_25 Ls hC_26 hvC w lo 3 hw (by omega) (by omega)).h hAD) h_P0 (h_prf hP) (h_AP hD hS hAs) (fun _ _ _ => trivial) (h_jP hP hD (h_AP hD hS hAs)) k_L_125 (wr := (g_W D σ_25)) (q0 := 0) (ci := 2) (h_prf hP) (g_at (by decide) hC_26.1) rfl rfl rfl rfl ⟨Nat.le_of_ble_eq_true rfl, Nat.le_of_ble_eq_true rfl⟩ (Nat.le_of_ble_eq_true rfl) ⟨Nat.le_trans (show (((((((((cells + 5) + 5) + 5) + 5) + 5) + 5) + 5) + 5) + 5) + 5 ≤ 510000 by omega) rC_, Nat.le_trans (show (((((((((slots + 30) + 30) + 30) + 30) + 30) + 30) + 30) + 30) + 30) + 30 ≤ 6100000 by omega) rS_⟩ dL_law_671 (fun v30 w1 H locs hq hP hD hS => ?_)
        obtain ⟨σ_28, ⟨rfl, hC_29⟩, rfl⟩ := hq
        have hP : va_P D vwCl ((g_W D σ_28) ++ xs) H := hP
        have hD : va_D A ((g_W D σ_28) ++ xs) := hD
        refine W.widen (k := ((((((((((cells + 5) + 5) + 5) + 5) + 5) + 5) + 5) + 5) + 5) + 5)) (n := ((((((((((slots + 30) + 30) + 30) + 30) + 30) + 30) + 30) + 30) + 30) + 30)) (Nat.le_refl _) (Nat.le_refl _) ?_
        refine W.eq (g2 := F0 m 674 ls [.int (tel_ (tb_ (Ls w)) 3 lo)]) rfl ?_
        refine lv_aload_n hx hb dL_law_674 rfl (lv_at hl 10 rfl) ?_
        refine lv_iload hx hb dL_law_675 (lv_at hl 5 rfl) ?_
        refine lv_iload hx hb dL_law_677 (lv_at hl 0 rfl) ?_
        refine lv_iconst (v := nI 2) hx hb dL_law_679 (by decide) ?_
        refine h_callV (y := yX2_sign) (n := 3) (As := [.int (nI w), .int (nI hi), .int (nI 2)]) (rest := [.int (tel_ (tb_ (Ls w)) 3 lo)]) hx hb hml hown hts hE hZ hS hl.1 ((n_sign l hst D hAD σ_28 Ls hC_29 hvC w hi 2 hw (by omega) (by omega)).h hAD) h_P0 (h_prf hP) (h_AP hD hS hAs) (fun _ _ _ => trivial) (h_jP hP hD (h_AP hD hS hAs)) k_L_125 (wr := (g_W D σ_28)) (q0 := 0) (ci := 2) (h_prf hP) (g_at (by decide) hC_29.1) rfl rfl rfl rfl ⟨Nat.le_of_ble_eq_true rfl, Nat.le_of_ble_eq_true rfl⟩ (Nat.le_of_ble_eq_true rfl) ⟨Nat.le_trans (show ((((((((((cells + 5) + 5) + 5) + 5) + 5) + 5) + 5) + 5) + 5) + 5) + 5 ≤ 510000 by omega) rC_, Nat.le_trans (show ((((((((((slots + 30) + 30) + 30) + 30) + 30) + 30) + 30) + 30) + 30) + 30) + 30 ≤ 6100000 by omega) rS_⟩ dL_law_680 (fun v33 w1 H locs hq hP hD hS => ?_)
        obtain ⟨σ_31, ⟨rfl, hC_32⟩, rfl⟩ := hq
        have hP : va_P D vwCl ((g_W D σ_31) ++ xs) H := hP
        have hD : va_D A ((g_W D σ_31) ++ xs) := hD
        refine W.widen (k := (((((((((((cells + 5) + 5) + 5) + 5) + 5) + 5) + 5) + 5) + 5) + 5) + 5)) (n := (((((((((((slots + 30) + 30) + 30) + 30) + 30) + 30) + 30) + 30) + 30) + 30) + 30)) (Nat.le_refl _) (Nat.le_refl _) ?_
        refine W.eq (g2 := F0 m 683 ls [.int (tel_ (tb_ (Ls w)) 2 hi), .int (tel_ (tb_ (Ls w)) 3 lo)]) rfl ?_
        refine lv_icmp_ge (tgt := 791) hx hb dL_law_683 (by decide) (fun h683 => ?_) (fun h683 => ?_)
        · exact absurd f4 (Int32.not_lt.mpr h683)
        · refine lv_aload_n hx hb dL_law_686 rfl (lv_at hl 10 rfl) ?_
          refine lv_iload hx hb dL_law_687 (lv_at hl 5 rfl) ?_
          refine lv_iload hx hb dL_law_689 (lv_at hl 1 rfl) ?_
          refine lv_iconst (v := nI 0) hx hb dL_law_691 (by decide) ?_
          refine h_callV (y := yX2_sign) (n := 3) (As := [.int (nI w), .int (nI lo), .int (nI 0)]) (rest := []) hx hb hml hown hts hE hZ hS hl.1 ((n_sign l hst D hAD σ_31 Ls hC_32 hvC w lo 0 hw (by omega) (by omega)).h hAD) h_P0 (h_prf hP) (h_AP hD hS hAs) (fun _ _ _ => trivial) (h_jP hP hD (h_AP hD hS hAs)) k_L_125 (wr := (g_W D σ_31)) (q0 := 0) (ci := 2) (h_prf hP) (g_at (by decide) hC_32.1) rfl rfl rfl rfl ⟨Nat.le_of_ble_eq_true rfl, Nat.le_of_ble_eq_true rfl⟩ (Nat.le_of_ble_eq_true rfl) ⟨Nat.le_trans (show (((((((((((cells + 5) + 5) + 5) + 5) + 5) + 5) + 5) + 5) + 5) + 5) + 5) + 5 ≤ 510000 by omega) rC_, Nat.le_trans (show (((((((((((slots + 30) + 30) + 30) + 30) + 30) + 30) + 30) + 30) + 30) + 30) + 30) + 30 ≤ 6100000 by omega) rS_⟩ dL_law_692 (fun v36 w1 H locs hq hP hD hS => ?_)
          obtain ⟨σ_34, ⟨rfl, hC_35⟩, rfl⟩ := hq
          have hP : va_P D vwCl ((g_W D σ_34) ++ xs) H := hP
          have hD : va_D A ((g_W D σ_34) ++ xs) := hD
          refine W.widen (k := ((((((((((((cells + 5) + 5) + 5) + 5) + 5) + 5) + 5) + 5) + 5) + 5) + 5) + 5)) (n := ((((((((((((slots + 30) + 30) + 30) + 30) + 30) + 30) + 30) + 30) + 30) + 30) + 30) + 30)) (Nat.le_refl _) (Nat.le_refl _) ?_
          refine W.eq (g2 := F0 m 695 ls [.int (tel_ (tb_ (Ls w)) 0 lo)]) rfl ?_
          refine lv_iload hx hb dL_law_695 (lv_at hl 2 rfl) ?_
          refine lv_icmp_ge (tgt := 791) hx hb dL_law_697 (by decide) (fun h697 => ?_) (fun h697 => ?_)
          · exact absurd f5 (Int32.not_lt.mpr h697)
          · refine lv_aload_n hx hb dL_law_700 rfl (lv_at hl 10 rfl) ?_
            refine lv_iload hx hb dL_law_701 (lv_at hl 5 rfl) ?_
            refine lv_iload hx hb dL_law_703 (lv_at hl 0 rfl) ?_
            refine lv_iconst (v := nI 0) hx hb dL_law_705 (by decide) ?_
            refine h_callV (y := yX2_sign) (n := 3) (As := [.int (nI w), .int (nI hi), .int (nI 0)]) (rest := []) hx hb hml hown hts hE hZ hS hl.1 ((n_sign l hst D hAD σ_34 Ls hC_35 hvC w hi 0 hw (by omega) (by omega)).h hAD) h_P0 (h_prf hP) (h_AP hD hS hAs) (fun _ _ _ => trivial) (h_jP hP hD (h_AP hD hS hAs)) k_L_125 (wr := (g_W D σ_34)) (q0 := 0) (ci := 2) (h_prf hP) (g_at (by decide) hC_35.1) rfl rfl rfl rfl ⟨Nat.le_of_ble_eq_true rfl, Nat.le_of_ble_eq_true rfl⟩ (Nat.le_of_ble_eq_true rfl) ⟨Nat.le_trans (show ((((((((((((cells + 5) + 5) + 5) + 5) + 5) + 5) + 5) + 5) + 5) + 5) + 5) + 5) + 5 ≤ 510000 by omega) rC_, Nat.le_trans (show ((((((((((((slots + 30) + 30) + 30) + 30) + 30) + 30) + 30) + 30) + 30) + 30) + 30) + 30) + 30 ≤ 6100000 by omega) rS_⟩ dL_law_706 (fun v39 w1 H locs hq hP hD hS => ?_)
            obtain ⟨σ_37, ⟨rfl, hC_38⟩, rfl⟩ := hq
            have hP : va_P D vwCl ((g_W D σ_37) ++ xs) H := hP
            have hD : va_D A ((g_W D σ_37) ++ xs) := hD
            refine W.widen (k := (((((((((((((cells + 5) + 5) + 5) + 5) + 5) + 5) + 5) + 5) + 5) + 5) + 5) + 5) + 5)) (n := (((((((((((((slots + 30) + 30) + 30) + 30) + 30) + 30) + 30) + 30) + 30) + 30) + 30) + 30) + 30)) (Nat.le_refl _) (Nat.le_refl _) ?_
            refine W.eq (g2 := F0 m 709 ls [.int (tel_ (tb_ (Ls w)) 0 hi)]) rfl ?_
            refine lv_iload hx hb dL_law_709 (lv_at hl 2 rfl) ?_
            refine lv_icmp_ge (tgt := 791) hx hb dL_law_711 (by decide) (fun h711 => ?_) (fun h711 => ?_)
            · exact absurd f6 (Int32.not_lt.mpr h711)
            · refine lv_aload_n hx hb dL_law_714 rfl (lv_at hl 10 rfl) ?_
              refine lv_iload hx hb dL_law_715 (lv_at hl 5 rfl) ?_
              refine lv_iload hx hb dL_law_717 (lv_at hl 1 rfl) ?_
              refine lv_bipush (v := nI 6) hx hb dL_law_719 (by decide) ?_
              refine h_callV (y := yX2_sign) (n := 3) (As := [.int (nI w), .int (nI lo), .int (nI 6)]) (rest := []) hx hb hml hown hts hE hZ hS hl.1 ((n_sign l hst D hAD σ_37 Ls hC_38 hvC w lo 6 hw (by omega) (by omega)).h hAD) h_P0 (h_prf hP) (h_AP hD hS hAs) (fun _ _ _ => trivial) (h_jP hP hD (h_AP hD hS hAs)) k_L_125 (wr := (g_W D σ_37)) (q0 := 0) (ci := 2) (h_prf hP) (g_at (by decide) hC_38.1) rfl rfl rfl rfl ⟨Nat.le_of_ble_eq_true rfl, Nat.le_of_ble_eq_true rfl⟩ (Nat.le_of_ble_eq_true rfl) ⟨Nat.le_trans (show (((((((((((((cells + 5) + 5) + 5) + 5) + 5) + 5) + 5) + 5) + 5) + 5) + 5) + 5) + 5) + 5 ≤ 510000 by omega) rC_, Nat.le_trans (show (((((((((((((slots + 30) + 30) + 30) + 30) + 30) + 30) + 30) + 30) + 30) + 30) + 30) + 30) + 30) + 30 ≤ 6100000 by omega) rS_⟩ dL_law_721 (fun v42 w1 H locs hq hP hD hS => ?_)
              obtain ⟨σ_40, ⟨rfl, hC_41⟩, rfl⟩ := hq
              have hP : va_P D vwCl ((g_W D σ_40) ++ xs) H := hP
              have hD : va_D A ((g_W D σ_40) ++ xs) := hD
              refine W.widen (k := ((((((((((((((cells + 5) + 5) + 5) + 5) + 5) + 5) + 5) + 5) + 5) + 5) + 5) + 5) + 5) + 5)) (n := ((((((((((((((slots + 30) + 30) + 30) + 30) + 30) + 30) + 30) + 30) + 30) + 30) + 30) + 30) + 30) + 30)) (Nat.le_refl _) (Nat.le_refl _) ?_
              refine W.eq (g2 := F0 m 724 ls [.int (tel_ (tb_ (Ls w)) 6 lo)]) rfl ?_
              refine lv_aload_n hx hb dL_law_724 rfl (lv_at hl 10 rfl) ?_
              refine lv_iload hx hb dL_law_725 (lv_at hl 5 rfl) ?_
              refine lv_iload hx hb dL_law_727 (lv_at hl 3 rfl) ?_
              refine lv_bipush (v := nI 6) hx hb dL_law_729 (by decide) ?_
              refine h_callV (y := yX2_sign) (n := 3) (As := [.int (nI w), .int (nI p9), .int (nI 6)]) (rest := [.int (tel_ (tb_ (Ls w)) 6 lo)]) hx hb hml hown hts hE hZ hS hl.1 ((n_sign l hst D hAD σ_40 Ls hC_41 hvC w p9 6 hw (by omega) (by omega)).h hAD) h_P0 (h_prf hP) (h_AP hD hS hAs) (fun _ _ _ => trivial) (h_jP hP hD (h_AP hD hS hAs)) k_L_125 (wr := (g_W D σ_40)) (q0 := 0) (ci := 2) (h_prf hP) (g_at (by decide) hC_41.1) rfl rfl rfl rfl ⟨Nat.le_of_ble_eq_true rfl, Nat.le_of_ble_eq_true rfl⟩ (Nat.le_of_ble_eq_true rfl) ⟨Nat.le_trans (show ((((((((((((((cells + 5) + 5) + 5) + 5) + 5) + 5) + 5) + 5) + 5) + 5) + 5) + 5) + 5) + 5) + 5 ≤ 510000 by omega) rC_, Nat.le_trans (show ((((((((((((((slots + 30) + 30) + 30) + 30) + 30) + 30) + 30) + 30) + 30) + 30) + 30) + 30) + 30) + 30) + 30 ≤ 6100000 by omega) rS_⟩ dL_law_731 (fun v45 w1 H locs hq hP hD hS => ?_)
              obtain ⟨σ_43, ⟨rfl, hC_44⟩, rfl⟩ := hq
              have hP : va_P D vwCl ((g_W D σ_43) ++ xs) H := hP
              have hD : va_D A ((g_W D σ_43) ++ xs) := hD
              refine W.widen (k := (((((((((((((((cells + 5) + 5) + 5) + 5) + 5) + 5) + 5) + 5) + 5) + 5) + 5) + 5) + 5) + 5) + 5)) (n := (((((((((((((((slots + 30) + 30) + 30) + 30) + 30) + 30) + 30) + 30) + 30) + 30) + 30) + 30) + 30) + 30) + 30)) (Nat.le_refl _) (Nat.le_refl _) ?_
              refine W.eq (g2 := F0 m 734 ls [.int (tel_ (tb_ (Ls w)) 6 p9), .int (tel_ (tb_ (Ls w)) 6 lo)]) rfl ?_
              refine lv_iconst (v := nI 1) hx hb dL_law_734 (by decide) ?_
              refine lv_iadd hx hb dL_law_735 ?_
              refine lv_icmp_ne (tgt := 791) hx hb dL_law_736 (by decide) (fun h736 => ?_) (fun h736 => ?_)
              · exact absurd f7 h736
              · refine lv_aload_n hx hb dL_law_739 rfl (lv_at hl 10 rfl) ?_
                refine lv_iload hx hb dL_law_740 (lv_at hl 5 rfl) ?_
                refine lv_iload hx hb dL_law_742 (lv_at hl 0 rfl) ?_
                refine lv_bipush (v := nI 6) hx hb dL_law_744 (by decide) ?_
                refine h_callV (y := yX2_sign) (n := 3) (As := [.int (nI w), .int (nI hi), .int (nI 6)]) (rest := []) hx hb hml hown hts hE hZ hS hl.1 ((n_sign l hst D hAD σ_43 Ls hC_44 hvC w hi 6 hw (by omega) (by omega)).h hAD) h_P0 (h_prf hP) (h_AP hD hS hAs) (fun _ _ _ => trivial) (h_jP hP hD (h_AP hD hS hAs)) k_L_125 (wr := (g_W D σ_43)) (q0 := 0) (ci := 2) (h_prf hP) (g_at (by decide) hC_44.1) rfl rfl rfl rfl ⟨Nat.le_of_ble_eq_true rfl, Nat.le_of_ble_eq_true rfl⟩ (Nat.le_of_ble_eq_true rfl) ⟨Nat.le_trans (show (((((((((((((((cells + 5) + 5) + 5) + 5) + 5) + 5) + 5) + 5) + 5) + 5) + 5) + 5) + 5) + 5) + 5) + 5 ≤ 510000 by omega) rC_, Nat.le_trans (show (((((((((((((((slots + 30) + 30) + 30) + 30) + 30) + 30) + 30) + 30) + 30) + 30) + 30) + 30) + 30) + 30) + 30) + 30 ≤ 6100000 by omega) rS_⟩ dL_law_746 (fun v48 w1 H locs hq hP hD hS => ?_)
                obtain ⟨σ_46, ⟨rfl, hC_47⟩, rfl⟩ := hq
                have hP : va_P D vwCl ((g_W D σ_46) ++ xs) H := hP
                have hD : va_D A ((g_W D σ_46) ++ xs) := hD
                refine W.widen (k := ((((((((((((((((cells + 5) + 5) + 5) + 5) + 5) + 5) + 5) + 5) + 5) + 5) + 5) + 5) + 5) + 5) + 5) + 5)) (n := ((((((((((((((((slots + 30) + 30) + 30) + 30) + 30) + 30) + 30) + 30) + 30) + 30) + 30) + 30) + 30) + 30) + 30) + 30)) (Nat.le_refl _) (Nat.le_refl _) ?_
                refine W.eq (g2 := F0 m 749 ls [.int (tel_ (tb_ (Ls w)) 6 hi)]) rfl ?_
                refine lv_aload_n hx hb dL_law_749 rfl (lv_at hl 10 rfl) ?_
                refine lv_iload hx hb dL_law_750 (lv_at hl 5 rfl) ?_
                refine lv_iload hx hb dL_law_752 (lv_at hl 3 rfl) ?_
                refine lv_bipush (v := nI 6) hx hb dL_law_754 (by decide) ?_
                refine h_callV (y := yX2_sign) (n := 3) (As := [.int (nI w), .int (nI p9), .int (nI 6)]) (rest := [.int (tel_ (tb_ (Ls w)) 6 hi)]) hx hb hml hown hts hE hZ hS hl.1 ((n_sign l hst D hAD σ_46 Ls hC_47 hvC w p9 6 hw (by omega) (by omega)).h hAD) h_P0 (h_prf hP) (h_AP hD hS hAs) (fun _ _ _ => trivial) (h_jP hP hD (h_AP hD hS hAs)) k_L_125 (wr := (g_W D σ_46)) (q0 := 0) (ci := 2) (h_prf hP) (g_at (by decide) hC_47.1) rfl rfl rfl rfl ⟨Nat.le_of_ble_eq_true rfl, Nat.le_of_ble_eq_true rfl⟩ (Nat.le_of_ble_eq_true rfl) ⟨Nat.le_trans (show ((((((((((((((((cells + 5) + 5) + 5) + 5) + 5) + 5) + 5) + 5) + 5) + 5) + 5) + 5) + 5) + 5) + 5) + 5) + 5 ≤ 510000 by omega) rC_, Nat.le_trans (show ((((((((((((((((slots + 30) + 30) + 30) + 30) + 30) + 30) + 30) + 30) + 30) + 30) + 30) + 30) + 30) + 30) + 30) + 30) + 30 ≤ 6100000 by omega) rS_⟩ dL_law_756 (fun v51 w1 H locs hq hP hD hS => ?_)
                obtain ⟨σ_49, ⟨rfl, hC_50⟩, rfl⟩ := hq
                have hP : va_P D vwCl ((g_W D σ_49) ++ xs) H := hP
                have hD : va_D A ((g_W D σ_49) ++ xs) := hD
                refine W.widen (k := (((((((((((((((((cells + 5) + 5) + 5) + 5) + 5) + 5) + 5) + 5) + 5) + 5) + 5) + 5) + 5) + 5) + 5) + 5) + 5)) (n := (((((((((((((((((slots + 30) + 30) + 30) + 30) + 30) + 30) + 30) + 30) + 30) + 30) + 30) + 30) + 30) + 30) + 30) + 30) + 30)) (Nat.le_refl _) (Nat.le_refl _) ?_
                refine W.eq (g2 := F0 m 759 ls [.int (tel_ (tb_ (Ls w)) 6 p9), .int (tel_ (tb_ (Ls w)) 6 hi)]) rfl ?_
                refine lv_iconst (v := nI 1) hx hb dL_law_759 (by decide) ?_
                refine lv_iadd hx hb dL_law_760 ?_
                refine lv_icmp_ne (tgt := 791) hx hb dL_law_761 (by decide) (fun h761 => ?_) (fun h761 => ?_)
                · exact absurd f8 h761
                · refine lv_aload_n hx hb dL_law_764 rfl (lv_at hl 10 rfl) ?_
                  refine lv_aload_n hx hb dL_law_765 rfl (lv_at hl 10 rfl) ?_
                  refine lv_iload hx hb dL_law_766 (lv_at hl 5 rfl) ?_
                  refine lv_iload hx hb dL_law_768 (lv_at hl 3 rfl) ?_
                  refine lv_iconst (v := nI 2) hx hb dL_law_770 (by decide) ?_
                  refine h_callV (y := yX2_sign) (n := 3) (As := [.int (nI w), .int (nI p9), .int (nI 2)]) (rest := [.ref (ad_ D 0)]) hx hb hml hown hts hE hZ hS hl.1 ((n_sign l hst D hAD σ_49 Ls hC_50 hvC w p9 2 hw (by omega) (by omega)).h hAD) h_P0 (h_prf hP) (h_AP hD hS hAs) (fun _ _ _ => trivial) (h_jP hP hD (h_AP hD hS hAs)) k_L_125 (wr := (g_W D σ_49)) (q0 := 0) (ci := 2) (h_prf hP) (g_at (by decide) hC_50.1) rfl rfl rfl rfl ⟨Nat.le_of_ble_eq_true rfl, Nat.le_of_ble_eq_true rfl⟩ (Nat.le_of_ble_eq_true rfl) ⟨Nat.le_trans (show (((((((((((((((((cells + 5) + 5) + 5) + 5) + 5) + 5) + 5) + 5) + 5) + 5) + 5) + 5) + 5) + 5) + 5) + 5) + 5) + 5 ≤ 510000 by omega) rC_, Nat.le_trans (show (((((((((((((((((slots + 30) + 30) + 30) + 30) + 30) + 30) + 30) + 30) + 30) + 30) + 30) + 30) + 30) + 30) + 30) + 30) + 30) + 30 ≤ 6100000 by omega) rS_⟩ dL_law_771 (fun v54 w1 H locs hq hP hD hS => ?_)
                  obtain ⟨σ_52, ⟨rfl, hC_53⟩, rfl⟩ := hq
                  have hP : va_P D vwCl ((g_W D σ_52) ++ xs) H := hP
                  have hD : va_D A ((g_W D σ_52) ++ xs) := hD
                  refine W.widen (k := ((((((((((((((((((cells + 5) + 5) + 5) + 5) + 5) + 5) + 5) + 5) + 5) + 5) + 5) + 5) + 5) + 5) + 5) + 5) + 5) + 5)) (n := ((((((((((((((((((slots + 30) + 30) + 30) + 30) + 30) + 30) + 30) + 30) + 30) + 30) + 30) + 30) + 30) + 30) + 30) + 30) + 30) + 30)) (Nat.le_refl _) (Nat.le_refl _) ?_
                  refine W.eq (g2 := F0 m 774 ls [.int (tel_ (tb_ (Ls w)) 2 p9), .ref (ad_ D 0)]) rfl ?_
                  refine lv_aload_n hx hb dL_law_774 rfl (lv_at hl 10 rfl) ?_
                  refine lv_iload hx hb dL_law_775 (lv_at hl 5 rfl) ?_
                  refine lv_iload hx hb dL_law_777 (lv_at hl 3 rfl) ?_
                  refine lv_iconst (v := nI 3) hx hb dL_law_779 (by decide) ?_
                  refine h_callV (y := yX2_sign) (n := 3) (As := [.int (nI w), .int (nI p9), .int (nI 3)]) (rest := [.int (tel_ (tb_ (Ls w)) 2 p9), .ref (ad_ D 0)]) hx hb hml hown hts hE hZ hS hl.1 ((n_sign l hst D hAD σ_52 Ls hC_53 hvC w p9 3 hw (by omega) (by omega)).h hAD) h_P0 (h_prf hP) (h_AP hD hS hAs) (fun _ _ _ => trivial) (h_jP hP hD (h_AP hD hS hAs)) k_L_125 (wr := (g_W D σ_52)) (q0 := 0) (ci := 2) (h_prf hP) (g_at (by decide) hC_53.1) rfl rfl rfl rfl ⟨Nat.le_of_ble_eq_true rfl, Nat.le_of_ble_eq_true rfl⟩ (Nat.le_of_ble_eq_true rfl) ⟨Nat.le_trans (show ((((((((((((((((((cells + 5) + 5) + 5) + 5) + 5) + 5) + 5) + 5) + 5) + 5) + 5) + 5) + 5) + 5) + 5) + 5) + 5) + 5) + 5 ≤ 510000 by omega) rC_, Nat.le_trans (show ((((((((((((((((((slots + 30) + 30) + 30) + 30) + 30) + 30) + 30) + 30) + 30) + 30) + 30) + 30) + 30) + 30) + 30) + 30) + 30) + 30) + 30 ≤ 6100000 by omega) rS_⟩ dL_law_780 (fun v57 w1 H locs hq hP hD hS => ?_)
                  obtain ⟨σ_55, ⟨rfl, hC_56⟩, rfl⟩ := hq
                  have hP : va_P D vwCl ((g_W D σ_55) ++ xs) H := hP
                  have hD : va_D A ((g_W D σ_55) ++ xs) := hD
                  refine W.widen (k := (((((((((((((((((((cells + 5) + 5) + 5) + 5) + 5) + 5) + 5) + 5) + 5) + 5) + 5) + 5) + 5) + 5) + 5) + 5) + 5) + 5) + 5)) (n := (((((((((((((((((((slots + 30) + 30) + 30) + 30) + 30) + 30) + 30) + 30) + 30) + 30) + 30) + 30) + 30) + 30) + 30) + 30) + 30) + 30) + 30)) (Nat.le_refl _) (Nat.le_refl _) ?_
                  refine W.eq (g2 := F0 m 783 ls [.int (tel_ (tb_ (Ls w)) 3 p9), .int (tel_ (tb_ (Ls w)) 2 p9), .ref (ad_ D 0)]) rfl ?_
                  refine h_callV (y := yX2_unlike) (n := 2) (As := [.int (tel_ (tb_ (Ls w)) 2 p9), .int (tel_ (tb_ (Ls w)) 3 p9)]) (rest := []) hx hb hml hown hts hE hZ hS hl.1 ((n_unlike l hst D hAD σ_55 Ls hC_56 hvC (tel_ (tb_ (Ls w)) 2 p9) (tel_ (tb_ (Ls w)) 3 p9) hu2 hu3).h hAD) h_P0 (h_prf hP) (h_AP hD hS hAs) (fun _ _ _ => trivial) (h_jP hP hD (h_AP hD hS hAs)) k_L_128 (wr := (g_W D σ_55)) (q0 := 0) (ci := 2) (h_prf hP) (g_at (by decide) hC_56.1) rfl rfl rfl rfl ⟨Nat.le_of_ble_eq_true rfl, Nat.le_of_ble_eq_true rfl⟩ (Nat.le_of_ble_eq_true rfl) ⟨Nat.le_trans (show (((((((((((((((((((cells + 5) + 5) + 5) + 5) + 5) + 5) + 5) + 5) + 5) + 5) + 5) + 5) + 5) + 5) + 5) + 5) + 5) + 5) + 5) + 5 ≤ 510000 by omega) rC_, Nat.le_trans (show (((((((((((((((((((slots + 30) + 30) + 30) + 30) + 30) + 30) + 30) + 30) + 30) + 30) + 30) + 30) + 30) + 30) + 30) + 30) + 30) + 30) + 30) + 30 ≤ 6100000 by omega) rS_⟩ dL_law_783 (fun v60 w1 H locs hq hP hD hS => ?_)
                  obtain ⟨σ_58, ⟨rfl, hC_59⟩, rfl⟩ := hq
                  have hP : va_P D vwCl ((g_W D σ_58) ++ xs) H := hP
                  have hD : va_D A ((g_W D σ_58) ++ xs) := hD
                  refine W.widen (k := ((((((((((((((((((((cells + 5) + 5) + 5) + 5) + 5) + 5) + 5) + 5) + 5) + 5) + 5) + 5) + 5) + 5) + 5) + 5) + 5) + 5) + 5) + 5)) (n := ((((((((((((((((((((slots + 30) + 30) + 30) + 30) + 30) + 30) + 30) + 30) + 30) + 30) + 30) + 30) + 30) + 30) + 30) + 30) + 30) + 30) + 30) + 30)) (Nat.le_refl _) (Nat.le_refl _) ?_
                  refine W.eq (g2 := F0 m 786 ls [.int (fub_ (tel_ (tb_ (Ls w)) 2 p9) (tel_ (tb_ (Ls w)) 3 p9))]) rfl ?_
                  refine lv_iload hx hb dL_law_786 (lv_at hl 2 rfl) ?_
                  refine lv_icmp_eq (tgt := 793) hx hb dL_law_788 (by decide) (fun h788 => ?_) (fun h788 => ?_)
                  · refine W.widen (k := cells + 150) (n := slots + 900) (by omega) (by omega) ?_
                    exact kk σ_58 H locs ls hC_59 hP hD hS (lv_sub hl [3, 4, 5, 6, 7, 8, 9, 10, 11] rfl)
                  · exact absurd f9 h788

set_option maxHeartbeats 4000000 in
set_option maxRecDepth 100000 in
theorem lw_a5 {p : Program} {l : Launch} {e : Env} {s : State} {m : MethodId} {args : Array Value} {below : List Frame} {meth : Method} {c : Code} {H : Heap} {locs : List Loc} {Q : State → Prop} {A : Nat → Prop} {cells slots : Nat} {D : va_G} {σ : Nat → va_E} {Ls : Nat → g_L} {xs : va_W} {w : Nat} {b qs t : Nat} {xx : Int32} {bf : Int64} (hst : l.stackTraces = false) (hAD : g_AD D) (hAs : ∀ q, s.heap.size ≤ q → A q) (hvC : vC_ Ls) (hx : p.tables.exec = Jvm.exec) (hb : c.code = cL_law) (hml : c.maxLocals = 15) (hown : s.vm.findClass RL = some m.cls) (hts : ∀ w ∈ g_WA, w.before args s = true) (hE : g_EV D s) (hZ : g_EZ A s s.heap) (hw : w ≤ 1) (hC : g_C D σ Ls) (hcl : cells ≤ 480000) (hsl : slots ≤ 5700000) (hP : va_P D vwCl (g_W D σ ++ xs) H) (hD : va_D A (g_W D σ ++ xs)) (hS : va_S A s.heap H locs) {ls : Array Slot} (hl : lv_has ls 15 [(8, .int (nI ((Ls w).length))), (7, .int (nI w)), (5, .long bf), (4, .int xx), (3, .int (nI t)), (0, .ref b), (1, .ref (ad_ D 0)), (2, .ref qs)]) (kk : ∀ (σ1 : Nat → va_E) (H : Heap) (locs : List Loc) (ls : Array Slot), g_C D σ1 Ls → va_P D vwCl (g_W D σ1 ++ xs) H → va_D A (g_W D σ1 ++ xs) → va_S A s.heap H locs → lv_has ls 15 [(7, .int (nI w)), (5, .long bf), (4, .int xx), (3, .int (nI t)), (0, .ref b), (1, .ref (ad_ D 0)), (2, .ref qs)] → W p l e room_1 s m args below meth c H locs (cells + 9000) (slots + 54000) Q (F0 m 799 ls [])) : W p l e room_1 s m args below meth c H locs cells slots Q (F0 m 475 ls []) := by
  have hv := (hvC w hw).1
  have h24 := (hvC w hw).2
  have h48 : (Ls w).length ≤ 48 := by omega
  refine lv_iconst (v := nI 0) hx hb dL_law_475 (by decide) ?_
  refine lv_istore (lv' := [(11, .int (nI 0)), (8, .int (nI ((Ls w).length))), (7, .int (nI w)), (5, .long bf), (4, .int xx), (3, .int (nI t)), (0, .ref b), (1, .ref (ad_ D 0)), (2, .ref qs)]) hx hb dL_law_476 hl (by decide) rfl (fun ls hl => ?_)
  have K478 : ∀ (fuel478 : Nat) (p9 : Nat) (σ2 : Nat → va_E), (100 - p9) < fuel478 → (p9 ≤ zs_ (Ls w).length) → (g_C D σ2 Ls) → ∀ (H : Heap) (locs : List Loc), va_P D vwCl ((g_W D σ2) ++ xs) H → va_D A ((g_W D σ2) ++ xs) → va_S A s.heap H locs → ∀ ls : Array Slot, lv_has ls 15 [(11, .int (nI p9)), (8, .int (nI ((Ls w).length))), (7, .int (nI w)), (5, .long bf), (4, .int xx), (3, .int (nI t)), (0, .ref b), (1, .ref (ad_ D 0)), (2, .ref qs)] → W p l e room_1 s m args below meth c H locs (cells + 160 * p9) (slots + 1000 * p9) Q (F0 m 478 ls []) := by
    intro fuel478
    induction fuel478 with
    | zero => intro p9 σ2 hf; exact absurd hf (Nat.not_lt_zero _)
    | succ fuel478 ih478 =>
      intro p9 σ2 hf478 hp hC2 H locs hP hD hS ls hl
      have hz := zs_2 (n := (Ls w).length) h24
      refine lv_iload hx hb dL_law_478 (lv_at hl 0 rfl) ?_
      refine lv_iconst (v := nI 2) hx hb dL_law_480 (by decide) ?_
      refine lv_iload hx hb dL_law_481 (lv_at hl 1 rfl) ?_
      refine lv_imul hx hb dL_law_483 ?_
      refine g_top (y := nI (2 * ((Ls w).length))) (pk_mul 2 ((Ls w).length)) ?_
      refine lv_iconst (v := nI 1) hx hb dL_law_484 (by decide) ?_
      refine lv_isub hx hb dL_law_485 ?_
      refine lv_icmp_ge (tgt := 799) hx hb dL_law_486 (by decide) (fun h486 => ?_) (fun h486 => ?_)
      · refine W.widen (k := cells + 9000) (n := slots + 54000) (by omega) (by omega) ?_
        exact kk σ2 H locs ls hC2 hP hD hS (lv_sub hl [2, 3, 4, 5, 6, 7, 8] rfl)
      · have hp9 : p9 < zs_ (Ls w).length := zs_lt (by omega) h24 h486
        refine lv_aload_n hx hb dL_law_489 rfl (lv_at hl 7 rfl) ?_
        refine lv_iload hx hb dL_law_490 (lv_at hl 2 rfl) ?_
        refine lv_iload hx hb dL_law_492 (lv_at hl 0 rfl) ?_
        refine lv_iconst (v := nI 0) hx hb dL_law_494 (by decide) ?_
        refine h_callV (y := yX2_sign) (n := 3) (As := [.int (nI w), .int (nI p9), .int (nI 0)]) (rest := []) hx hb hml hown hts hE hZ hS hl.1 ((n_sign l hst D hAD σ2 Ls hC2 hvC w p9 0 hw (by omega) (by omega)).h hAD) h_P0 (h_prf hP) (h_AP hD hS hAs) (fun _ _ _ => trivial) (h_jP hP hD (h_AP hD hS hAs)) k_L_125 (wr := (g_W D σ2)) (q0 := 0) (ci := 2) (h_prf hP) (g_at (by decide) hC2.1) rfl rfl rfl rfl ⟨Nat.le_of_ble_eq_true rfl, Nat.le_of_ble_eq_true rfl⟩ (Nat.le_of_ble_eq_true rfl) ⟨Nat.le_trans (show (cells + 160 * p9) + 5 ≤ 510000 by omega) rC_, Nat.le_trans (show (slots + 1000 * p9) + 30 ≤ 6100000 by omega) rS_⟩ dL_law_495 (fun v3 w1 H locs hq hP hD hS => ?_)
        obtain ⟨σ_1, ⟨rfl, hC_2⟩, rfl⟩ := hq
        have hP : va_P D vwCl ((g_W D σ_1) ++ xs) H := hP
        have hD : va_D A ((g_W D σ_1) ++ xs) := hD
        refine W.widen (k := ((cells + 160 * p9) + 5)) (n := ((slots + 1000 * p9) + 30)) (Nat.le_refl _) (Nat.le_refl _) ?_
        refine W.eq (g2 := F0 m 498 ls [.int (tel_ (tb_ (Ls w)) 0 p9)]) rfl ?_
        refine lv_istore (lv' := [(12, .int (tel_ (tb_ (Ls w)) 0 p9)), (11, .int (nI p9)), (8, .int (nI ((Ls w).length))), (7, .int (nI w)), (5, .long bf), (4, .int xx), (3, .int (nI t)), (0, .ref b), (1, .ref (ad_ D 0)), (2, .ref qs)]) hx hb dL_law_498 hl (by decide) rfl (fun ls hl => ?_)
        refine lv_iload hx hb dL_law_500 (lv_at hl 0 rfl) ?_
        refine lv_if_ge (tgt := 570) hx hb dL_law_502 (by decide) (fun h502 => ?_) (fun h502 => ?_)
        · refine lw_a5b hst hAD hAs hvC hx hb hml hown hts hE hZ hw hp9 (Int32.not_lt.mpr h502) hC_2 (by omega) (by omega) hP hD hS (lv_sub hl [0, 1, 2, 3, 4, 5, 6, 7, 8, 9] rfl) (fun σ_4 H locs ls hC_5 hP hD hS hl => ?_)
          refine lv_iinc (v := nI (p9 + 1)) (lv' := [(11, .int (nI (p9 + 1))), (8, .int (nI ((Ls w).length))), (7, .int (nI w)), (5, .long bf), (4, .int xx), (3, .int (nI t)), (0, .ref b), (1, .ref (ad_ D 0)), (2, .ref qs)]) hx hb dL_law_793 hl (k := 0) rfl (g_inc p9) (by decide) rfl (fun ls hl => ?_)
          refine lv_goto (tgt := 478) hx hb dL_law_796 (by decide) ?_
          refine W.widen (k := (cells + 160 * (p9 + 1))) (n := (slots + 1000 * (p9 + 1))) (by omega) (by omega) ?_
          exact ih478 (p9 + 1) σ_4 (by omega) (by omega) hC_5 _ _ hP hD hS ls (lv_sub hl [0, 1, 2, 3, 4, 5, 6, 7, 8] rfl)
        · refine lw_a5a hst hAD hAs hvC hx hb hml hown hts hE hZ hw hp9 (Int32.not_le.mp h502) hC_2 (by omega) (by omega) hP hD hS (lv_sub hl [0, 1, 2, 3, 4, 5, 6, 7, 8, 9] rfl) (fun σ_6 H locs ls hC_7 hP hD hS hl => ?_)
          refine lv_iinc (v := nI (p9 + 1)) (lv' := [(11, .int (nI (p9 + 1))), (8, .int (nI ((Ls w).length))), (7, .int (nI w)), (5, .long bf), (4, .int xx), (3, .int (nI t)), (0, .ref b), (1, .ref (ad_ D 0)), (2, .ref qs)]) hx hb dL_law_793 hl (k := 0) rfl (g_inc p9) (by decide) rfl (fun ls hl => ?_)
          refine lv_goto (tgt := 478) hx hb dL_law_796 (by decide) ?_
          refine W.widen (k := (cells + 160 * (p9 + 1))) (n := (slots + 1000 * (p9 + 1))) (by omega) (by omega) ?_
          exact ih478 (p9 + 1) σ_6 (by omega) (by omega) hC_7 _ _ hP hD hS ls (lv_sub hl [0, 1, 2, 3, 4, 5, 6, 7, 8] rfl)
  refine W.widen (k := (cells + 160 * 0)) (n := (slots + 1000 * 0)) (by omega) (by omega) ?_
  exact K478 ((100 - 0) + 1) 0 σ (Nat.lt_succ_self _) (Nat.zero_le _) hC _ _ hP hD hS ls (lv_sub hl [0, 1, 2, 3, 4, 5, 6, 7, 8] rfl)

set_option maxHeartbeats 4000000 in
set_option maxRecDepth 100000 in
theorem lw_a {p : Program} {l : Launch} {e : Env} {s : State} {m : MethodId} {args : Array Value} {below : List Frame} {meth : Method} {c : Code} {H : Heap} {locs : List Loc} {Q : State → Prop} {A : Nat → Prop} {cells slots : Nat} {D : va_G} {σ : Nat → va_E} {Ls : Nat → g_L} {xs : va_W} {w : Nat} {b qs t : Nat} {xx : Int32} {bf : Int64} (hst : l.stackTraces = false) (hAD : g_AD D) (hAs : ∀ q, s.heap.size ≤ q → A q) (hvC : vC_ Ls) (hx : p.tables.exec = Jvm.exec) (hb : c.code = cL_law) (hml : c.maxLocals = 15) (hown : s.vm.findClass RL = some m.cls) (hts : ∀ w ∈ g_WA, w.before args s = true) (hE : g_EV D s) (hZ : g_EZ A s s.heap) (hw : w ≤ 1) (hC : g_C D σ Ls) (hcl : cells ≤ 450000) (hsl : slots ≤ 5000000) (hP : va_P D vwCl (g_W D σ ++ xs) H) (hD : va_D A (g_W D σ ++ xs)) (hS : va_S A s.heap H locs) {ls : Array Slot} (hl : lv_has ls 15 [(7, .int (nI w)), (5, .long bf), (4, .int xx), (3, .int (nI t)), (0, .ref b), (1, .ref (ad_ D 0)), (2, .ref qs)]) (kk : ∀ (σ1 : Nat → va_E) (H : Heap) (locs : List Loc) (ls : Array Slot), g_C D σ1 Ls → va_P D vwCl (g_W D σ1 ++ xs) H → va_D A (g_W D σ1 ++ xs) → va_S A s.heap H locs → lv_has ls 15 [(7, .int (nI w)), (5, .long bf), (4, .int xx), (3, .int (nI t)), (0, .ref b), (1, .ref (ad_ D 0)), (2, .ref qs)] → W p l e room_1 s m args below meth c H locs (cells + 16300) (slots + 98000) Q (F0 m 799 ls [])) : W p l e room_1 s m args below meth c H locs cells slots Q (F0 m 95 ls []) := by
  have hv := (hvC w hw).1
  have h24 := (hvC w hw).2
  have h48 : (Ls w).length ≤ 48 := by omega
  refine lw_a1 hst hAD hAs hvC hx hb hml hown hts hE hZ hw hC (by omega) (by omega) hP hD hS (lv_sub hl [0, 1, 2, 3, 4, 5, 6] rfl) (fun σ_1 H locs ls hC_2 hP hD hS hl => ?_)
  refine lw_a2 hst hAD hAs hvC hx hb hml hown hts hE hZ hw hC_2 (by omega) (by omega) hP hD hS (lv_sub hl [0, 1, 2, 3, 4, 5, 6, 7] rfl) (fun σ_3 H locs ls hC_4 hP hD hS hl => ?_)
  refine lw_a3 hst hAD hAs hvC hx hb hml hown hts hE hZ hw hC_4 (by omega) (by omega) hP hD hS (lv_sub hl [0, 1, 2, 3, 4, 5, 6, 7, 8, 9] rfl) (fun σ_5 H locs ls hC_6 hP hD hS hl => ?_)
  refine lw_a4 hst hAD hAs hvC hx hb hml hown hts hE hZ hw hC_6 (by omega) (by omega) hP hD hS (lv_sub hl [0, 1, 2, 3, 4, 5, 6, 7] rfl) (fun σ_7 H locs ls hC_8 hP hD hS hl => ?_)
  refine lw_a5 hst hAD hAs hvC hx hb hml hown hts hE hZ hw hC_8 (by omega) (by omega) hP hD hS (lv_sub hl [0, 1, 2, 3, 4, 5, 6, 7] rfl) (fun σ_9 H locs ls hC_10 hP hD hS hl => ?_)
  refine W.widen (k := cells + 16300) (n := slots + 98000) (by omega) (by omega) ?_
  exact kk σ_9 H locs ls hC_10 hP hD hS (lv_sub hl [0, 1, 2, 3, 4, 5, 6] rfl)
