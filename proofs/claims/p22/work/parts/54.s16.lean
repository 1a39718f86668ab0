theorem lg_self {x : Int64} : lg_cmp x x = nI 0 := by
  unfold lg_cmp
  rw [if_neg (show ¬ x > x from Int64.lt_irrefl), if_pos rfl]
  rfl
theorem cb_ln {L : g_L} {b : Int32} (h : vL_ L) (h24 : L.length ≤ 24) (hb : nm1_ b) : (cb_ L b L.length).length = L.length := cb_sz h (nm_le hb).1 (nm_le hb).2 L.length (Nat.le_refl _)
theorem ul_2 {Ls : Nat → g_L} {w : Nat} {X : g_L} : ul_ (ul_ Ls w X) w (Ls w) = Ls := by
  funext v
  unfold ul_
  by_cases h : v = w
  · rw [if_pos h, h]
  · rw [if_neg h, if_neg h]
theorem turn2 {Ls : Nat → g_L} {w : Nat} {b : Int32} (h : vL_ (Ls w)) (hb : nm1_ b) : ul_ (ul_ Ls w (cb_ (Ls w) b (Ls w).length)) w (cb_ (ul_ Ls w (cb_ (Ls w) b (Ls w).length) w) b (ul_ Ls w (cb_ (Ls w) b (Ls w).length) w).length) = Ls := by
  rw [ul_at, cb_cb h hb]
  exact ul_2
theorem lc_all {Ls L2 : Nat → g_L} {w r : Nat} (hvC : vC_ Ls) (hw : w ≤ 1) (hr : r ≤ (Ls w).length) (ho : (Ls (1 - w)).length = 0) (h2 : L2 = ul_ (ul_ Ls w ((Ls w).take r)) (1 - w) ((Ls w).drop r)) : L2 w = (Ls w).take r ∧ L2 (1 - w) = (Ls w).drop r ∧ bo_ (L2 0) (L2 1) = Ls w ∧ vC_ L2 ∧ ∀ k, ul_ (ul_ L2 (1 - w) []) (1 - (1 - w)) (mg_ k (L2 (1 - w)) (L2 (1 - (1 - w))) (L2 (1 - w)).length) = Ls ∧ cm_ (L2 (1 - w)) (L2 (1 - (1 - w))) (L2 (1 - w)).length = 0 := by
  have hv := (hvC w hw).1
  have h24 := (hvC w hw).2
  have e1 : L2 w = (Ls w).take r := by rw [h2, ul_ne (by omega), ul_at]
  have e2 : L2 (1 - w) = (Ls w).drop r := by rw [h2, ul_at]
  have e3 : 1 - (1 - w) = w := by omega
  refine ⟨e1, e2, ?_, ?_, fun k => ?_⟩
  · rcases (show w = 0 ∨ w = 1 by omega) with e | e
    · subst e
      rw [e1, show L2 1 = (Ls 0).drop r from e2]
      exact (cut_bk (r := 0) hv).2.2.1
    · subst e
      rw [e1, show L2 0 = (Ls 1).drop r from e2]
      exact (cut_bk (r := 0) hv).2.2.2
  · rw [h2]
    refine vC_ul (vC_ul hvC (vL_take hv) ?_) (vL_drop hv) ?_
    · rw [List.length_take]; omega
    · rw [List.length_drop]; omega
  · rw [e3, e1, e2]
    obtain ⟨a1, a2, -, -⟩ := cut_bk (r := k) hv (k := r)
    refine ⟨?_, a2⟩
    rw [a1]
    have hn : Ls (1 - w) = [] := List.length_eq_zero_iff.mp ho
    funext v
    by_cases h1 : v = w
    · rw [h1, ul_at]
    · rw [ul_ne h1]
      by_cases h3 : v = 1 - w
      · rw [h3, ul_at, hn]
      · rw [ul_ne h3, h2, ul_ne h3, ul_ne h1]
set_option maxHeartbeats 4000000 in
set_option maxRecDepth 100000 in
theorem lw_b {p : Program} {l : Launch} {e : Env} {s : State} {m : MethodId} {args : Array Value} {below : List Frame} {meth : Method} {c : Code} {H : Heap} {locs : List Loc} {Q : State → Prop} {A : Nat → Prop} {cells slots : Nat} {D : va_G} {σ : Nat → va_E} {Ls : Nat → g_L} {xs : va_W} {b qs t : Nat} {xx : Int32} (hst : l.stackTraces = false) (hAD : g_AD D) (hAs : ∀ q, s.heap.size ≤ q → A q) (hvC : vC_ Ls) (hx : p.tables.exec = Jvm.exec) (hb : c.code = cL_law) (hml : c.maxLocals = 15) (hown : s.vm.findClass RL = some m.cls) (hts : ∀ w ∈ g_WA, w.before args s = true) (hE : g_EV D s) (hZ : g_EZ A s s.heap)  (hC : g_C D σ Ls) (hcl : cells ≤ 400000) (hsl : slots ≤ 4500000) (hP : va_P D vwCl (g_W D σ ++ xs) H) (hD : va_D A (g_W D σ ++ xs)) (hS : va_S A s.heap H locs) {ls : Array Slot} (hl : lv_has ls 15 [(4, .int xx), (3, .int (nI t)), (0, .ref b), (1, .ref (ad_ D 0)), (2, .ref qs)]) (kk : ∀ (σ1 : Nat → va_E) (H : Heap) (locs : List Loc) (ls : Array Slot), g_C D σ1 Ls → va_P D vwCl (g_W D σ1 ++ xs) H → va_D A (g_W D σ1 ++ xs) → va_S A s.heap H locs → lv_has ls 15 [(5, .long (di_ (Ls 0) (Ls 1))), (4, .int xx), (3, .int (nI t)), (0, .ref b), (1, .ref (ad_ D 0)), (2, .ref qs)] → W p l e room_1 s m args below meth c H locs (cells + 32700) (slots + 196100) Q (F0 m 817 ls [])) : W p l e room_1 s m args below meth c H locs cells slots Q (F0 m 80 ls []) := by
  refine lv_aload_n hx hb dL_law_80 rfl (lv_at hl 3 rfl) ?_
  refine h_callV (y := yX2_digest) (n := 0) (As := []) (rest := []) hx hb hml hown hts hE hZ hS hl.1 ((n_digest l D hAD σ Ls hC hvC ).h hAD) h_P0 (h_prf hP) (h_AP hD hS hAs) (fun _ _ _ => trivial) (h_jP hP hD (h_AP hD hS hAs)) k_L_87 (wr := (g_W D σ)) (q0 := 0) (ci := 2) (h_prf hP) (g_at (by decide) hC.1) rfl rfl rfl rfl ⟨Nat.le_of_ble_eq_true rfl, Nat.le_of_ble_eq_true rfl⟩ (Nat.le_of_ble_eq_true rfl) ⟨Nat.le_trans (show cells + 0 ≤ 510000 by omega) rC_, Nat.le_trans (show slots + 0 ≤ 6100000 by omega) rS_⟩ dL_law_81 (fun v3 w1 H locs hq hP hD hS => ?_)
  obtain ⟨σ_1, ⟨rfl, hC_2⟩, rfl⟩ := hq
  have hP : va_P D vwCl ((g_W D σ_1) ++ xs) H := hP
  have hD : va_D A ((g_W D σ_1) ++ xs) := hD
  refine W.widen (k := (cells + 0)) (n := (slots + 0)) (Nat.le_refl _) (Nat.le_refl _) ?_
  refine W.eq (g2 := F0 m 84 ls [.long (di_ (Ls 0) (Ls 1))]) rfl ?_
  refine lv_lstore (lv' := [(5, .long (di_ (Ls 0) (Ls 1))), (4, .int xx), (3, .int (nI t)), (0, .ref b), (1, .ref (ad_ D 0)), (2, .ref qs)]) hx hb dL_law_84 hl (by decide) rfl (fun ls hl => ?_)
  refine lv_iconst (v := nI 0) hx hb dL_law_86 (by decide) ?_
  refine lv_istore (lv' := [(7, .int (nI 0)), (5, .long (di_ (Ls 0) (Ls 1))), (4, .int xx), (3, .int (nI t)), (0, .ref b), (1, .ref (ad_ D 0)), (2, .ref qs)]) hx hb dL_law_87 hl (by decide) rfl (fun ls hl => ?_)
  have K89 : ∀ (fuel89 : Nat) (w : Nat) (σ2 : Nat → va_E), (2 - w) < fuel89 → (w ≤ 2) → (g_C D σ2 Ls) → ∀ (H : Heap) (locs : List Loc), va_P D vwCl ((g_W D σ2) ++ xs) H → va_D A ((g_W D σ2) ++ xs) → va_S A s.heap H locs → ∀ ls : Array Slot, lv_has ls 15 [(7, .int (nI w)), (5, .long (di_ (Ls 0) (Ls 1))), (4, .int xx), (3, .int (nI t)), (0, .ref b), (1, .ref (ad_ D 0)), (2, .ref qs)] → W p l e room_1 s m args below meth c H locs (cells + 16300 * w) (slots + 98000 * w) Q (F0 m 89 ls []) := by
    intro fuel89
    induction fuel89 with
    | zero => intro w σ2 hf; exact absurd hf (Nat.not_lt_zero _)
    | succ fuel89 ih89 =>
      intro w σ2 hf89 hw2 hC2 H locs hP hD hS ls hl
      refine lv_iload hx hb dL_law_89 (lv_at hl 0 rfl) ?_
      refine lv_iconst (v := nI 2) hx hb dL_law_91 (by decide) ?_
      refine lv_icmp_ge (tgt := 805) hx hb dL_law_92 (by decide) (fun h92 => ?_) (fun h92 => ?_)
      · have hb92 := g_le (a := 2) (b := w) h92 (by omega) (by omega)
        refine lv_aload_n hx hb dL_law_805 rfl (lv_at hl 5 rfl) ?_
        refine h_callV (y := yX2_digest) (n := 0) (As := []) (rest := []) hx hb hml hown hts hE hZ hS hl.1 ((n_digest l D hAD σ2 Ls hC2 hvC ).h hAD) h_P0 (h_prf hP) (h_AP hD hS hAs) (fun _ _ _ => trivial) (h_jP hP hD (h_AP hD hS hAs)) k_L_87 (wr := (g_W D σ2)) (q0 := 0) (ci := 2) (h_prf hP) (g_at (by decide) hC2.1) rfl rfl rfl rfl ⟨Nat.le_of_ble_eq_true rfl, Nat.le_of_ble_eq_true rfl⟩ (Nat.le_of_ble_eq_true rfl) ⟨Nat.le_trans (show (cells + 16300 * w) + 0 ≤ 510000 by omega) rC_, Nat.le_trans (show (slots + 98000 * w) + 0 ≤ 6100000 by omega) rS_⟩ dL_law_806 (fun v6 w1 H locs hq hP hD hS => ?_)
        obtain ⟨σ_4, ⟨rfl, hC_5⟩, rfl⟩ := hq
        have hP : va_P D vwCl ((g_W D σ_4) ++ xs) H := hP
        have hD : va_D A ((g_W D σ_4) ++ xs) := hD
        refine W.widen (k := ((cells + 16300 * w) + 0)) (n := ((slots + 98000 * w) + 0)) (Nat.le_refl _) (Nat.le_refl _) ?_
        refine W.eq (g2 := F0 m 809 ls [.long (di_ (Ls 0) (Ls 1))]) rfl ?_
        refine lv_lload hx hb dL_law_809 (lv_at hl 1 rfl) ?_
        refine W.lcmp hx hb dL_law_811 ?_
        refine g_top (y := nI 0) lg_self ?_
        refine lv_if_eq (tgt := 817) hx hb dL_law_812 (by decide) (fun h812 => ?_) (fun h812 => ?_)
        · refine W.widen (k := cells + 32700) (n := slots + 196100) (by omega) (by omega) ?_
          exact kk σ_4 H locs ls hC_5 hP hD hS (lv_sub hl [1, 2, 3, 4, 5, 6] rfl)
        · exact absurd rfl h812
      · have hb92 := g_nle (a := 2) (b := w) h92 (by omega) (by omega)
        refine lw_a hst hAD hAs hvC hx hb hml hown hts hE hZ (by omega) hC2 (by omega) (by omega) hP hD hS (lv_sub hl [0, 1, 2, 3, 4, 5, 6] rfl) (fun σ_7 H locs ls hC_8 hP hD hS hl => ?_)
        refine lv_iinc (v := nI (w + 1)) (lv' := [(7, .int (nI (w + 1))), (5, .long ((di_ (Ls 0) (Ls 1)))), (4, .int xx), (3, .int (nI t)), (0, .ref b), (1, .ref (ad_ D 0)), (2, .ref qs)]) hx hb dL_law_799 hl (k := 0) rfl (g_inc w) (by decide) rfl (fun ls hl => ?_)
        refine lv_goto (tgt := 89) hx hb dL_law_802 (by decide) ?_
        refine W.widen (k := (cells + 16300 * (w + 1))) (n := (slots + 98000 * (w + 1))) (by omega) (by omega) ?_
        exact ih89 (w + 1) σ_7 (by omega) (by omega) hC_8 _ _ hP hD hS ls (lv_sub hl [0, 1, 2, 3, 4, 5, 6] rfl)
  refine W.widen (k := (cells + 16300 * 0)) (n := (slots + 98000 * 0)) (by omega) (by omega) ?_
  exact K89 ((2 - 0) + 1) 0 σ_1 (Nat.lt_succ_self _) (Nat.zero_le _) hC_2 _ _ hP hD hS ls (lv_sub hl [0, 1, 2, 3, 4, 5, 6] rfl)

set_option maxHeartbeats 4000000 in
set_option maxRecDepth 100000 in
theorem lw_c {p : Program} {l : Launch} {e : Env} {s : State} {m : MethodId} {args : Array Value} {below : List Frame} {meth : Method} {c : Code} {H : Heap} {locs : List Loc} {Q : State → Prop} {A : Nat → Prop} {cells slots : Nat} {D : va_G} {σ : Nat → va_E} {Ls : Nat → g_L} {xs : va_W} {b qs t : Nat} {xx : Int32} (hst : l.stackTraces = false) (hAD : g_AD D) (hAs : ∀ q, s.heap.size ≤ q → A q) (hvC : vC_ Ls) (hx : p.tables.exec = Jvm.exec) (hb : c.code = cL_law) (hml : c.maxLocals = 15) (hown : s.vm.findClass RL = some m.cls) (hts : ∀ w ∈ g_WA, w.before args s = true) (hE : g_EV D s) (hZ : g_EZ A s s.heap)  (hC : g_C D σ Ls) (hcl : cells ≤ 440000) (hsl : slots ≤ 5000000) (hP : va_P D vwCl (g_W D σ ++ xs) H) (hD : va_D A (g_W D σ ++ xs)) (hS : va_S A s.heap H locs) {ls : Array Slot} (hl : lv_has ls 15 [(5, .long (di_ (Ls 0) (Ls 1))), (4, .int xx), (3, .int (nI t)), (0, .ref b), (1, .ref (ad_ D 0)), (2, .ref qs)]) (kk : ∀ (σ1 : Nat → va_E) (H : Heap) (locs : List Loc) (ls : Array Slot), g_C D σ1 Ls → va_P D vwCl (g_W D σ1 ++ xs) H → va_D A (g_W D σ1 ++ xs) → va_S A s.heap H locs → lv_has ls 15 [(4, .int xx), (3, .int (nI t)), (0, .ref b), (1, .ref (ad_ D 0)), (2, .ref qs)] → W p l e room_1 s m args below meth c H locs (cells + 250) (slots + 1500) Q (F0 m 1104 ls [])) : W p l e room_1 s m args below meth c H locs cells slots Q (F0 m 817 ls []) := by
  refine lv_iload hx hb dL_law_817 (lv_at hl 1 rfl) ?_
  refine lv_iconst (v := nI 4) hx hb dL_law_819 (by decide) ?_
  refine lv_ishr hx hb dL_law_820 ?_
  refine lv_iconst (v := nI 2) hx hb dL_law_821 (by decide) ?_
  refine h_callS (y := yL_below) (n := 2) (As := [.int (xx >>> ((nI 4) &&& 31)), .int (nI 2)]) (rest := []) hx hb hml hown hts hE hZ hS hl.1 (m_L_below l D (xx >>> ((nI 4) &&& 31)) 2 (by decide) (by decide)) h_P0 h_P0 (h_Anil hS hAs) (fun _ _ _ => trivial) (h_jR hP hD (h_Anil hS hAs)) k_L_9 rfl rfl ⟨Nat.le_of_ble_eq_true rfl, Nat.le_of_ble_eq_true rfl⟩ (Nat.le_of_ble_eq_true rfl) ⟨Nat.le_trans (show cells + 0 ≤ 510000 by omega) rC_, Nat.le_trans (show slots + 0 ≤ 6100000 by omega) rS_⟩ dL_law_822 (fun v2 w1 H locs hq hP hD hS => ?_)
  obtain ⟨bk1, hbk1, rfl, rfl⟩ := hq
  rw [List.append_nil] at hP hD
  have hP : va_P D vwCl ((g_W D σ) ++ xs) H := hP
  have hD : va_D A ((g_W D σ) ++ xs) := hD
  refine W.widen (k := (cells + 0)) (n := (slots + 0)) (Nat.le_refl _) (Nat.le_refl _) ?_
  refine W.eq (g2 := F0 m 825 ls [.int (nI bk1)]) rfl ?_
  obtain ⟨w, hw, ew⟩ : ∃ w : Nat, w ≤ 1 ∧ nI bk1 = nI w := ⟨bk1, by omega, rfl⟩
  refine g_top (y := nI w) ew ?_
  have hv := (hvC w hw).1
  have h24 := (hvC w hw).2
  have h48 : (Ls w).length ≤ 48 := by omega
  have c0 : cn_ (Ls w) 0 = nI (Ls w).length := by rw [(cn_row hv h48 (List.Perm.refl _) (k := 25) (by rw [List.length_map]; omega) (by decide)).1, List.length_map]
  have hvo := (hvC (1 - w) (by omega)).1
  have h24o := (hvC (1 - w) (by omega)).2
  have h48o : (Ls (1 - w)).length ≤ 48 := by omega
  have o0 : cn_ (Ls (1 - w)) 0 = nI (Ls (1 - w)).length := by rw [(cn_row hvo h48o (List.Perm.refl _) (k := 25) (by rw [List.length_map]; omega) (by decide)).1, List.length_map]
  refine lv_istore (lv' := [(7, .int (nI w)), (5, .long (di_ (Ls 0) (Ls 1))), (4, .int xx), (3, .int (nI t)), (0, .ref b), (1, .ref (ad_ D 0)), (2, .ref qs)]) hx hb dL_law_825 hl (by decide) rfl (fun ls hl => ?_)
  refine lv_aload_n hx hb dL_law_827 rfl (lv_at hl 5 rfl) ?_
  refine lv_iload hx hb dL_law_828 (lv_at hl 0 rfl) ?_
  refine lv_iconst (v := nI 0) hx hb dL_law_830 (by decide) ?_
  refine h_callV (y := yX2_count) (n := 2) (As := [.int (nI w), .int (nI 0)]) (rest := []) hx hb hml hown hts hE hZ hS hl.1 ((n_count l hst D hAD σ Ls hC hvC w 0 hw (by omega)).h hAD) h_P0 (h_prf hP) (h_AP hD hS hAs) (fun _ _ _ => trivial) (h_jP hP hD (h_AP hD hS hAs)) k_L_91 (wr := (g_W D σ)) (q0 := 0) (ci := 2) (h_prf hP) (g_at (by decide) hC.1) rfl rfl rfl rfl ⟨Nat.le_of_ble_eq_true rfl, Nat.le_of_ble_eq_true rfl⟩ (Nat.le_of_ble_eq_true rfl) ⟨Nat.le_trans (show (cells + 0) + 5 ≤ 510000 by omega) rC_, Nat.le_trans (show (slots + 0) + 30 ≤ 6100000 by omega) rS_⟩ dL_law_831 (fun v5 w1 H locs hq hP hD hS => ?_)
  obtain ⟨σ_3, ⟨rfl, hC_4⟩, rfl⟩ := hq
  have hP : va_P D vwCl ((g_W D σ_3) ++ xs) H := hP
  have hD : va_D A ((g_W D σ_3) ++ xs) := hD
  refine W.widen (k := ((cells + 0) + 5)) (n := ((slots + 0) + 30)) (Nat.le_refl _) (Nat.le_refl _) ?_
  refine W.eq (g2 := F0 m 834 ls [.int (cn_ (Ls w) 0)]) rfl ?_
  refine g_top (y := nI ((Ls w).length)) (c0) ?_
  refine lv_istore (lv' := [(8, .int (nI ((Ls w).length))), (7, .int (nI w)), (5, .long (di_ (Ls 0) (Ls 1))), (4, .int xx), (3, .int (nI t)), (0, .ref b), (1, .ref (ad_ D 0)), (2, .ref qs)]) hx hb dL_law_834 hl (by decide) rfl (fun ls hl => ?_)
  refine lv_iload hx hb dL_law_836 (lv_at hl 0 rfl) ?_
  refine lv_if_ne (tgt := 844) hx hb dL_law_838 (by decide) (fun h838 => ?_) (fun h838 => ?_)
  · have hb838 := g_ne (a := (Ls w).length) (b := 0) h838 (by omega) (by omega)
    refine lv_iload hx hb dL_law_844 (lv_at hl 3 rfl) ?_
    refine lv_iconst (v := nI 3) hx hb dL_law_846 (by decide) ?_
    refine lv_ishr hx hb dL_law_847 ?_
    refine lv_ldc (v := 65536) hx hb hown (hts _ wc_L_15) dL_law_848 ?_
    refine g_top (y := nI 65536) (by decide) ?_
    refine h_callS (y := yL_below) (n := 2) (As := [.int (xx >>> ((nI 3) &&& 31)), .int (nI 65536)]) (rest := []) hx hb hml hown hts hE hZ hS hl.1 (m_L_below l D (xx >>> ((nI 3) &&& 31)) 65536 (by decide) (by decide)) h_P0 h_P0 (h_Anil hS hAs) (fun _ _ _ => trivial) (h_jR hP hD (h_Anil hS hAs)) k_L_9 rfl rfl ⟨Nat.le_of_ble_eq_true rfl, Nat.le_of_ble_eq_true rfl⟩ (Nat.le_of_ble_eq_true rfl) ⟨Nat.le_trans (show ((cells + 0) + 5) + 0 ≤ 510000 by omega) rC_, Nat.le_trans (show ((slots + 0) + 30) + 0 ≤ 6100000 by omega) rS_⟩ dL_law_850 (fun v7 w1 H locs hq hP hD hS => ?_)
    obtain ⟨bk6, hbk6, rfl, rfl⟩ := hq
    rw [List.append_nil] at hP hD
    have hP : va_P D vwCl ((g_W D σ_3) ++ xs) H := hP
    have hD : va_D A ((g_W D σ_3) ++ xs) := hD
    refine W.widen (k := (((cells + 0) + 5) + 0)) (n := (((slots + 0) + 30) + 0)) (Nat.le_refl _) (Nat.le_refl _) ?_
    refine W.eq (g2 := F0 m 853 ls [.int (nI bk6)]) rfl ?_
    have hbits : nm1_ (nI bk6) := nm_of (by omega)
    obtain ⟨d0, d2, d3⟩ := cb_cn hv h24 hbits
    refine lv_istore (lv' := [(9, .int (nI bk6)), (8, .int (nI ((Ls w).length))), (7, .int (nI w)), (5, .long (di_ (Ls 0) (Ls 1))), (4, .int xx), (3, .int (nI t)), (0, .ref b), (1, .ref (ad_ D 0)), (2, .ref qs)]) hx hb dL_law_853 hl (by decide) rfl (fun ls hl => ?_)
    refine lv_aload_n hx hb dL_law_855 rfl (lv_at hl 7 rfl) ?_
    refine lv_iload hx hb dL_law_856 (lv_at hl 2 rfl) ?_
    refine lv_iconst (v := nI 2) hx hb dL_law_858 (by decide) ?_
    refine h_callV (y := yX2_count) (n := 2) (As := [.int (nI w), .int (nI 2)]) (rest := []) hx hb hml hown hts hE hZ hS hl.1 ((n_count l hst D hAD σ_3 Ls hC_4 hvC w 2 hw (by omega)).h hAD) h_P0 (h_prf hP) (h_AP hD hS hAs) (fun _ _ _ => trivial) (h_jP hP hD (h_AP hD hS hAs)) k_L_91 (wr := (g_W D σ_3)) (q0 := 0) (ci := 2) (h_prf hP) (g_at (by decide) hC_4.1) rfl rfl rfl rfl ⟨Nat.le_of_ble_eq_true rfl, Nat.le_of_ble_eq_true rfl⟩ (Nat.le_of_ble_eq_true rfl) ⟨Nat.le_trans (show (((cells + 0) + 5) + 0) + 5 ≤ 510000 by omega) rC_, Nat.le_trans (show (((slots + 0) + 30) + 0) + 30 ≤ 6100000 by omega) rS_⟩ dL_law_859 (fun v10 w1 H locs hq hP hD hS => ?_)
    obtain ⟨σ_8, ⟨rfl, hC_9⟩, rfl⟩ := hq
    have hP : va_P D vwCl ((g_W D σ_8) ++ xs) H := hP
    have hD : va_D A ((g_W D σ_8) ++ xs) := hD
    refine W.widen (k := ((((cells + 0) + 5) + 0) + 5)) (n := ((((slots + 0) + 30) + 0) + 30)) (Nat.le_refl _) (Nat.le_refl _) ?_
    refine W.eq (g2 := F0 m 862 ls [.int (cn_ (Ls w) 2)]) rfl ?_
    refine lv_istore (lv' := [(10, .int (cn_ (Ls w) 2)), (9, .int (nI bk6)), (8, .int (nI ((Ls w).length))), (7, .int (nI w)), (5, .long (di_ (Ls 0) (Ls 1))), (4, .int xx), (3, .int (nI t)), (0, .ref b), (1, .ref (ad_ D 0)), (2, .ref qs)]) hx hb dL_law_862 hl (by decide) rfl (fun ls hl => ?_)
    refine lv_aload_n hx hb dL_law_864 rfl (lv_at hl 8 rfl) ?_
    refine lv_iload hx hb dL_law_865 (lv_at hl 3 rfl) ?_
    refine lv_iconst (v := nI 3) hx hb dL_law_867 (by decide) ?_
    refine h_callV (y := yX2_count) (n := 2) (As := [.int (nI w), .int (nI 3)]) (rest := []) hx hb hml hown hts hE hZ hS hl.1 ((n_count l hst D hAD σ_8 Ls hC_9 hvC w 3 hw (by omega)).h hAD) h_P0 (h_prf hP) (h_AP hD hS hAs) (fun _ _ _ => trivial) (h_jP hP hD (h_AP hD hS hAs)) k_L_91 (wr := (g_W D σ_8)) (q0 := 0) (ci := 2) (h_prf hP) (g_at (by decide) hC_9.1) rfl rfl rfl rfl ⟨Nat.le_of_ble_eq_true rfl, Nat.le_of_ble_eq_true rfl⟩ (Nat.le_of_ble_eq_true rfl) ⟨Nat.le_trans (show ((((cells + 0) + 5) + 0) + 5) + 5 ≤ 510000 by omega) rC_, Nat.le_trans (show ((((slots + 0) + 30) + 0) + 30) + 30 ≤ 6100000 by omega) rS_⟩ dL_law_868 (fun v13 w1 H locs hq hP hD hS => ?_)
    obtain ⟨σ_11, ⟨rfl, hC_12⟩, rfl⟩ := hq
    have hP : va_P D vwCl ((g_W D σ_11) ++ xs) H := hP
    have hD : va_D A ((g_W D σ_11) ++ xs) := hD
    refine W.widen (k := (((((cells + 0) + 5) + 0) + 5) + 5)) (n := (((((slots + 0) + 30) + 0) + 30) + 30)) (Nat.le_refl _) (Nat.le_refl _) ?_
    refine W.eq (g2 := F0 m 871 ls [.int (cn_ (Ls w) 3)]) rfl ?_
    refine lv_istore (lv' := [(11, .int (cn_ (Ls w) 3)), (10, .int (cn_ (Ls w) 2)), (9, .int (nI bk6)), (8, .int (nI ((Ls w).length))), (7, .int (nI w)), (5, .long (di_ (Ls 0) (Ls 1))), (4, .int xx), (3, .int (nI t)), (0, .ref b), (1, .ref (ad_ D 0)), (2, .ref qs)]) hx hb dL_law_871 hl (by decide) rfl (fun ls hl => ?_)
    refine lv_aload_n hx hb dL_law_873 rfl (lv_at hl 9 rfl) ?_
    refine lv_iload hx hb dL_law_874 (lv_at hl 4 rfl) ?_
    refine lv_iload hx hb dL_law_876 (lv_at hl 2 rfl) ?_
    refine h_callV (y := yX2_turn) (n := 2) (As := [.int (nI w), .int (nI bk6)]) (rest := []) hx hb hml hown hts hE hZ hS hl.1 ((n_turn l hst D hAD σ_11 Ls hC_12 hvC w (nI bk6) hw hbits (by omega)).h hAD) h_P0 (h_prf hP) (h_AP hD hS hAs) (fun _ _ _ => trivial) (h_jP hP hD (h_AP hD hS hAs)) k_L_52 (wr := (g_W D σ_11)) (q0 := 0) (ci := 2) (h_prf hP) (g_at (by decide) hC_12.1) rfl rfl rfl rfl ⟨Nat.le_of_ble_eq_true rfl, Nat.le_of_ble_eq_true rfl⟩ (Nat.le_of_ble_eq_true rfl) ⟨Nat.le_trans (show (((((cells + 0) + 5) + 0) + 5) + 5) + 5 ≤ 510000 by omega) rC_, Nat.le_trans (show (((((slots + 0) + 30) + 0) + 30) + 30) + 30 ≤ 6100000 by omega) rS_⟩ dL_law_878 (fun v16 w1 H locs hq hP hD hS => ?_)
    obtain ⟨σ_14, ⟨rfl, hC_15⟩, rfl⟩ := hq
    have hP : va_P D vwCl ((g_W D σ_14) ++ xs) H := hP
    have hD : va_D A ((g_W D σ_14) ++ xs) := hD
    refine W.widen (k := ((((((cells + 0) + 5) + 0) + 5) + 5) + 5)) (n := ((((((slots + 0) + 30) + 0) + 30) + 30) + 30)) (Nat.le_refl _) (Nat.le_refl _) ?_
    refine W.eq (g2 := F0 m 881 ls [.int (fn_ (cb_ (Ls w) (nI bk6) (Ls w).length) 0)]) rfl ?_
    have hvC17 := vC_turn hvC hw hbits
    refine lv_pop hx hb dL_law_881 rfl ?_
    refine lv_aload_n hx hb dL_law_882 rfl (lv_at hl 9 rfl) ?_
    refine lv_iload hx hb dL_law_883 (lv_at hl 4 rfl) ?_
    refine lv_iconst (v := nI 0) hx hb dL_law_885 (by decide) ?_
    refine h_callV (y := yX2_count) (n := 2) (As := [.int (nI w), .int (nI 0)]) (rest := []) hx hb hml hown hts hE hZ hS hl.1 ((n_count l hst D hAD σ_14 ((ul_ Ls w (cb_ (Ls w) (nI bk6) (Ls w).length))) hC_15 hvC17 w 0 hw (by omega)).h hAD) h_P0 (h_prf hP) (h_AP hD hS hAs) (fun _ _ _ => trivial) (h_jP hP hD (h_AP hD hS hAs)) k_L_91 (wr := (g_W D σ_14)) (q0 := 0) (ci := 2) (h_prf hP) (g_at (by decide) hC_15.1) rfl rfl rfl rfl ⟨Nat.le_of_ble_eq_true rfl, Nat.le_of_ble_eq_true rfl⟩ (Nat.le_of_ble_eq_true rfl) ⟨Nat.le_trans (show ((((((cells + 0) + 5) + 0) + 5) + 5) + 5) + 5 ≤ 510000 by omega) rC_, Nat.le_trans (show ((((((slots + 0) + 30) + 0) + 30) + 30) + 30) + 30 ≤ 6100000 by omega) rS_⟩ dL_law_886 (fun v20 w1 H locs hq hP hD hS => ?_)
    obtain ⟨σ_18, ⟨rfl, hC_19⟩, rfl⟩ := hq
    have hP : va_P D vwCl ((g_W D σ_18) ++ xs) H := hP
    have hD : va_D A ((g_W D σ_18) ++ xs) := hD
    refine W.widen (k := (((((((cells + 0) + 5) + 0) + 5) + 5) + 5) + 5)) (n := (((((((slots + 0) + 30) + 0) + 30) + 30) + 30) + 30)) (Nat.le_refl _) (Nat.le_refl _) ?_
    refine W.eq (g2 := F0 m 889 ls [.int (cn_ (((ul_ Ls w (cb_ (Ls w) (nI bk6) (Ls w).length))) w) 0)]) rfl ?_
    refine g_top (y := nI ((Ls w).length)) (by rw [ul_at]; exact d0) ?_
    refine lv_iload hx hb dL_law_889 (lv_at hl 3 rfl) ?_
    refine lv_icmp_ne (tgt := 918) hx hb dL_law_891 (by decide) (fun h891 => ?_) (fun h891 => ?_)
    · exact absurd rfl h891
    · refine lv_aload_n hx hb dL_law_894 rfl (lv_at hl 9 rfl) ?_
      refine lv_iload hx hb dL_law_895 (lv_at hl 4 rfl) ?_
      refine lv_iconst (v := nI 2) hx hb dL_law_897 (by decide) ?_
      refine h_callV (y := yX2_count) (n := 2) (As := [.int (nI w), .int (nI 2)]) (rest := []) hx hb hml hown hts hE hZ hS hl.1 ((n_count l hst D hAD σ_18 ((ul_ Ls w (cb_ (Ls w) (nI bk6) (Ls w).length))) hC_19 hvC17 w 2 hw (by omega)).h hAD) h_P0 (h_prf hP) (h_AP hD hS hAs) (fun _ _ _ => trivial) (h_jP hP hD (h_AP hD hS hAs)) k_L_91 (wr := (g_W D σ_18)) (q0 := 0) (ci := 2) (h_prf hP) (g_at (by decide) hC_19.1) rfl rfl rfl rfl ⟨Nat.le_of_ble_eq_true rfl, Nat.le_of_ble_eq_true rfl⟩ (Nat.le_of_ble_eq_true rfl) ⟨Nat.le_trans (show (((((((cells + 0) + 5) + 0) + 5) + 5) + 5) + 5) + 5 ≤ 510000 by omega) rC_, Nat.le_trans (show (((((((slots + 0) + 30) + 0) + 30) + 30) + 30) + 30) + 30 ≤ 6100000 by omega) rS_⟩ dL_law_898 (fun v23 w1 H locs hq hP hD hS => ?_)
      obtain ⟨σ_21, ⟨rfl, hC_22⟩, rfl⟩ := hq
      have hP : va_P D vwCl ((g_W D σ_21) ++ xs) H := hP
      have hD : va_D A ((g_W D σ_21) ++ xs) := hD
      refine W.widen (k := ((((((((cells + 0) + 5) + 0) + 5) + 5) + 5) + 5) + 5)) (n := ((((((((slots + 0) + 30) + 0) + 30) + 30) + 30) + 30) + 30)) (Nat.le_refl _) (Nat.le_refl _) ?_
      refine W.eq (g2 := F0 m 901 ls [.int (cn_ (((ul_ Ls w (cb_ (Ls w) (nI bk6) (Ls w).length))) w) 2)]) rfl ?_
      refine g_top (y := cn_ (Ls w) 2) (by rw [ul_at]; exact d2) ?_
      refine lv_iload hx hb dL_law_901 (lv_at hl 1 rfl) ?_
      refine lv_icmp_ne (tgt := 918) hx hb dL_law_903 (by decide) (fun h903 => ?_) (fun h903 => ?_)
      · exact absurd rfl h903
      · refine lv_aload_n hx hb dL_law_906 rfl (lv_at hl 9 rfl) ?_
        refine lv_iload hx hb dL_law_907 (lv_at hl 4 rfl) ?_
        refine lv_iconst (v := nI 3) hx hb dL_law_909 (by decide) ?_
        refine h_callV (y := yX2_count) (n := 2) (As := [.int (nI w), .int (nI 3)]) (rest := []) hx hb hml hown hts hE hZ hS hl.1 ((n_count l hst D hAD σ_21 ((ul_ Ls w (cb_ (Ls w) (nI bk6) (Ls w).length))) hC_22 hvC17 w 3 hw (by omega)).h hAD) h_P0 (h_prf hP) (h_AP hD hS hAs) (fun _ _ _ => trivial) (h_jP hP hD (h_AP hD hS hAs)) k_L_91 (wr := (g_W D σ_21)) (q0 := 0) (ci := 2) (h_prf hP) (g_at (by decide) hC_22.1) rfl rfl rfl rfl ⟨Nat.le_of_ble_eq_true rfl, Nat.le_of_ble_eq_true rfl⟩ (Nat.le_of_ble_eq_true rfl) ⟨Nat.le_trans (show ((((((((cells + 0) + 5) + 0) + 5) + 5) + 5) + 5) + 5) + 5 ≤ 510000 by omega) rC_, Nat.le_trans (show ((((((((slots + 0) + 30) + 0) + 30) + 30) + 30) + 30) + 30) + 30 ≤ 6100000 by omega) rS_⟩ dL_law_910 (fun v26 w1 H locs hq hP hD hS => ?_)
        obtain ⟨σ_24, ⟨rfl, hC_25⟩, rfl⟩ := hq
        have hP : va_P D vwCl ((g_W D σ_24) ++ xs) H := hP
        have hD : va_D A ((g_W D σ_24) ++ xs) := hD
        refine W.widen (k := (((((((((cells + 0) + 5) + 0) + 5) + 5) + 5) + 5) + 5) + 5)) (n := (((((((((slots + 0) + 30) + 0) + 30) + 30) + 30) + 30) + 30) + 30)) (Nat.le_refl _) (Nat.le_refl _) ?_
        refine W.eq (g2 := F0 m 913 ls [.int (cn_ (((ul_ Ls w (cb_ (Ls w) (nI bk6) (Ls w).length))) w) 3)]) rfl ?_
        refine g_top (y := cn_ (Ls w) 3) (by rw [ul_at]; exact d3) ?_
        refine lv_iload hx hb dL_law_913 (lv_at hl 0 rfl) ?_
        refine lv_icmp_eq (tgt := 920) hx hb dL_law_915 (by decide) (fun h915 => ?_) (fun h915 => ?_)
        · refine lv_aload_n hx hb dL_law_920 rfl (lv_at hl 9 rfl) ?_
          refine lv_iload hx hb dL_law_921 (lv_at hl 4 rfl) ?_
          refine lv_iload hx hb dL_law_923 (lv_at hl 2 rfl) ?_
          refine h_callV (y := yX2_turn) (n := 2) (As := [.int (nI w), .int (nI bk6)]) (rest := []) hx hb hml hown hts hE hZ hS hl.1 ((n_turn l hst D hAD σ_24 ((ul_ Ls w (cb_ (Ls w) (nI bk6) (Ls w).length))) hC_25 hvC17 w (nI bk6) hw hbits (by rw [ul_at, cb_ln hv h24 hbits]; omega)).h hAD) h_P0 (h_prf hP) (h_AP hD hS hAs) (fun _ _ _ => trivial) (h_jP hP hD (h_AP hD hS hAs)) k_L_52 (wr := (g_W D σ_24)) (q0 := 0) (ci := 2) (h_prf hP) (g_at (by decide) hC_25.1) rfl rfl rfl rfl ⟨Nat.le_of_ble_eq_true rfl, Nat.le_of_ble_eq_true rfl⟩ (Nat.le_of_ble_eq_true rfl) ⟨Nat.le_trans (show (((((((((cells + 0) + 5) + 0) + 5) + 5) + 5) + 5) + 5) + 5) + 5 ≤ 510000 by omega) rC_, Nat.le_trans (show (((((((((slots + 0) + 30) + 0) + 30) + 30) + 30) + 30) + 30) + 30) + 30 ≤ 6100000 by omega) rS_⟩ dL_law_925 (fun v29 w1 H locs hq hP hD hS => ?_)
          obtain ⟨σ_27, ⟨rfl, hC_28⟩, rfl⟩ := hq
          have hP : va_P D vwCl ((g_W D σ_27) ++ xs) H := hP
          have hD : va_D A ((g_W D σ_27) ++ xs) := hD
          refine W.widen (k := ((((((((((cells + 0) + 5) + 0) + 5) + 5) + 5) + 5) + 5) + 5) + 5)) (n := ((((((((((slots + 0) + 30) + 0) + 30) + 30) + 30) + 30) + 30) + 30) + 30)) (Nat.le_refl _) (Nat.le_refl _) ?_
          refine W.eq (g2 := F0 m 928 ls [.int (fn_ (cb_ ((ul_ Ls w (cb_ (Ls w) (nI bk6) (Ls w).length)) w) (nI bk6) ((ul_ Ls w (cb_ (Ls w) (nI bk6) (Ls w).length)) w).length) 0)]) rfl ?_
          rw [turn2 hv hbits] at hC_28
          refine lv_pop hx hb dL_law_928 rfl ?_
          refine lv_aload_n hx hb dL_law_929 rfl (lv_at hl 9 rfl) ?_
          refine h_callV (y := yX2_digest) (n := 0) (As := []) (rest := []) hx hb hml hown hts hE hZ hS hl.1 ((n_digest l D hAD σ_27 Ls hC_28 hvC ).h hAD) h_P0 (h_prf hP) (h_AP hD hS hAs) (fun _ _ _ => trivial) (h_jP hP hD (h_AP hD hS hAs)) k_L_87 (wr := (g_W D σ_27)) (q0 := 0) (ci := 2) (h_prf hP) (g_at (by decide) hC_28.1) rfl rfl rfl rfl ⟨Nat.le_of_ble_eq_true rfl, Nat.le_of_ble_eq_true rfl⟩ (Nat.le_of_ble_eq_true rfl) ⟨Nat.le_trans (show ((((((((((cells + 0) + 5) + 0) + 5) + 5) + 5) + 5) + 5) + 5) + 5) + 0 ≤ 510000 by omega) rC_, Nat.le_trans (show ((((((((((slots + 0) + 30) + 0) + 30) + 30) + 30) + 30) + 30) + 30) + 30) + 0 ≤ 6100000 by omega) rS_⟩ dL_law_930 (fun v32 w1 H locs hq hP hD hS => ?_)
          obtain ⟨σ_30, ⟨rfl, hC_31⟩, rfl⟩ := hq
          have hP : va_P D vwCl ((g_W D σ_30) ++ xs) H := hP
          have hD : va_D A ((g_W D σ_30) ++ xs) := hD
          refine W.widen (k := (((((((((((cells + 0) + 5) + 0) + 5) + 5) + 5) + 5) + 5) + 5) + 5) + 0)) (n := (((((((((((slots + 0) + 30) + 0) + 30) + 30) + 30) + 30) + 30) + 30) + 30) + 0)) (Nat.le_refl _) (Nat.le_refl _) ?_
          refine W.eq (g2 := F0 m 933 ls [.long (di_ (Ls 0) (Ls 1))]) rfl ?_
          refine lv_lload hx hb dL_law_933 (lv_at hl 5 rfl) ?_
          refine W.lcmp hx hb dL_law_935 ?_
          refine g_top (y := nI 0) lg_self ?_
          refine lv_if_eq (tgt := 941) hx hb dL_law_936 (by decide) (fun h936 => ?_) (fun h936 => ?_)
          · refine lv_aload_n hx hb dL_law_941 rfl (lv_at hl 9 rfl) ?_
            refine lv_iconst (v := nI 1) hx hb dL_law_942 (by decide) ?_
            refine lv_iload hx hb dL_law_943 (lv_at hl 4 rfl) ?_
            refine lv_isub hx hb dL_law_945 ?_
            refine g_top (y := nI (1 - w)) (pk_sub (by omega)) ?_
            refine lv_iconst (v := nI 0) hx hb dL_law_946 (by decide) ?_
            refine h_callV (y := yX2_count) (n := 2) (As := [.int (nI (1 - w)), .int (nI 0)]) (rest := []) hx hb hml hown hts hE hZ hS hl.1 ((n_count l hst D hAD σ_30 Ls hC_31 hvC (1 - w) 0 (by omega) (by omega)).h hAD) h_P0 (h_prf hP) (h_AP hD hS hAs) (fun _ _ _ => trivial) (h_jP hP hD (h_AP hD hS hAs)) k_L_91 (wr := (g_W D σ_30)) (q0 := 0) (ci := 2) (h_prf hP) (g_at (by decide) hC_31.1) rfl rfl rfl rfl ⟨Nat.le_of_ble_eq_true rfl, Nat.le_of_ble_eq_true rfl⟩ (Nat.le_of_ble_eq_true rfl) ⟨Nat.le_trans (show (((((((((((cells + 0) + 5) + 0) + 5) + 5) + 5) + 5) + 5) + 5) + 5) + 0) + 5 ≤ 510000 by omega) rC_, Nat.le_trans (show (((((((((((slots + 0) + 30) + 0) + 30) + 30) + 30) + 30) + 30) + 30) + 30) + 0) + 30 ≤ 6100000 by omega) rS_⟩ dL_law_947 (fun v35 w1 H locs hq hP hD hS => ?_)
            obtain ⟨σ_33, ⟨rfl, hC_34⟩, rfl⟩ := hq
            have hP : va_P D vwCl ((g_W D σ_33) ++ xs) H := hP
            have hD : va_D A ((g_W D σ_33) ++ xs) := hD
            refine W.widen (k := ((((((((((((cells + 0) + 5) + 0) + 5) + 5) + 5) + 5) + 5) + 5) + 5) + 0) + 5)) (n := ((((((((((((slots + 0) + 30) + 0) + 30) + 30) + 30) + 30) + 30) + 30) + 30) + 0) + 30)) (Nat.le_refl _) (Nat.le_refl _) ?_
            refine W.eq (g2 := F0 m 950 ls [.int (cn_ (Ls (1 - w)) 0)]) rfl ?_
            refine g_top (y := nI ((Ls (1 - w)).length)) (o0) ?_
            refine lv_if_le (tgt := 956) hx hb dL_law_950 (by decide) (fun h950 => ?_) (fun h950 => ?_)
            · have hb950 := g_le (a := (Ls (1 - w)).length) (b := 0) h950 (by omega) (by omega)
              refine lv_iload hx hb dL_law_956 (lv_at hl 6 rfl) ?_
              refine lv_iconst (v := nI 5) hx hb dL_law_958 (by decide) ?_
              refine lv_ishr hx hb dL_law_959 ?_
              refine lv_ldc (v := 65536) hx hb hown (hts _ wc_L_15) dL_law_960 ?_
              refine g_top (y := nI 65536) (by decide) ?_
              refine h_callS (y := yL_below) (n := 2) (As := [.int (xx >>> ((nI 5) &&& 31)), .int (nI 65536)]) (rest := []) hx hb hml hown hts hE hZ hS hl.1 (m_L_below l D (xx >>> ((nI 5) &&& 31)) 65536 (by decide) (by decide)) h_P0 h_P0 (h_Anil hS hAs) (fun _ _ _ => trivial) (h_jR hP hD (h_Anil hS hAs)) k_L_9 rfl rfl ⟨Nat.le_of_ble_eq_true rfl, Nat.le_of_ble_eq_true rfl⟩ (Nat.le_of_ble_eq_true rfl) ⟨Nat.le_trans (show ((((((((((((cells + 0) + 5) + 0) + 5) + 5) + 5) + 5) + 5) + 5) + 5) + 0) + 5) + 0 ≤ 510000 by omega) rC_, Nat.le_trans (show ((((((((((((slots + 0) + 30) + 0) + 30) + 30) + 30) + 30) + 30) + 30) + 30) + 0) + 30) + 0 ≤ 6100000 by omega) rS_⟩ dL_law_962 (fun v37 w1 H locs hq hP hD hS => ?_)
              obtain ⟨bk36, hbk36, rfl, rfl⟩ := hq
              rw [List.append_nil] at hP hD
              have hP : va_P D vwCl ((g_W D σ_33) ++ xs) H := hP
              have hD : va_D A ((g_W D σ_33) ++ xs) := hD
              refine W.widen (k := (((((((((((((cells + 0) + 5) + 0) + 5) + 5) + 5) + 5) + 5) + 5) + 5) + 0) + 5) + 0)) (n := (((((((((((((slots + 0) + 30) + 0) + 30) + 30) + 30) + 30) + 30) + 30) + 30) + 0) + 30) + 0)) (Nat.le_refl _) (Nat.le_refl _) ?_
              refine W.eq (g2 := F0 m 965 ls [.int (nI bk36)]) rfl ?_
              have hnm : nm1_ (nI bk36) := nm_of (by omega)
              obtain ⟨r, hr⟩ : ∃ r, r = rk_ (Ls w) (nI bk36) := ⟨_, rfl⟩
              have hrl : r ≤ (Ls w).length := by rw [hr]; exact rk_le _ _
              have ho0 : (Ls (1 - w)).length = 0 := by omega
              have hhi : r < (Ls w).length → (nI bk36) ≤ fn_ ((Ls w).drop r) 0 := by rw [hr]; exact cut_hi hv
              have hlo : 0 < r → fn_ ((Ls w).take r) (r - 1) < (nI bk36) := by rw [hr]; exact cut_lo
              refine lv_istore (lv' := [(12, .int (nI bk36)), (11, .int (cn_ (Ls w) 3)), (10, .int (cn_ (Ls w) 2)), (9, .int (nI bk6)), (8, .int (nI ((Ls w).length))), (7, .int (nI w)), (5, .long (di_ (Ls 0) (Ls 1))), (4, .int xx), (3, .int (nI t)), (0, .ref b), (1, .ref (ad_ D 0)), (2, .ref qs)]) hx hb dL_law_965 hl (by decide) rfl (fun ls hl => ?_)
              refine lv_aload_n hx hb dL_law_967 rfl (lv_at hl 10 rfl) ?_
              refine lv_iload hx hb dL_law_968 (lv_at hl 5 rfl) ?_
              refine lv_iload hx hb dL_law_970 (lv_at hl 0 rfl) ?_
              refine h_callV (y := yX2_cut) (n := 2) (As := [.int (nI w), .int (nI bk36)]) (rest := []) hx hb hml hown hts hE hZ hS hl.1 ((n_cut l hst D hAD σ_33 Ls hC_34 hvC w (nI bk36) hw hnm ho0).h hAD) h_P0 (h_prf hP) (h_AP hD hS hAs) (fun _ _ _ => trivial) (h_jP hP hD (h_AP hD hS hAs)) k_L_67 (wr := (g_W D σ_33)) (q0 := 0) (ci := 2) (h_prf hP) (g_at (by decide) hC_34.1) rfl rfl rfl rfl ⟨Nat.le_of_ble_eq_true rfl, Nat.le_of_ble_eq_true rfl⟩ (Nat.le_of_ble_eq_true rfl) ⟨Nat.le_trans (show (((((((((((((cells + 0) + 5) + 0) + 5) + 5) + 5) + 5) + 5) + 5) + 5) + 0) + 5) + 0) + 5 ≤ 510000 by omega) rC_, Nat.le_trans (show (((((((((((((slots + 0) + 30) + 0) + 30) + 30) + 30) + 30) + 30) + 30) + 30) + 0) + 30) + 0) + 30 ≤ 6100000 by omega) rS_⟩ dL_law_972 (fun v40 w1 H locs hq hP hD hS => ?_)
              obtain ⟨σ_38, ⟨rfl, hC_39⟩, rfl⟩ := hq
              have hP : va_P D vwCl ((g_W D σ_38) ++ xs) H := hP
              have hD : va_D A ((g_W D σ_38) ++ xs) := hD
              refine W.widen (k := ((((((((((((((cells + 0) + 5) + 0) + 5) + 5) + 5) + 5) + 5) + 5) + 5) + 0) + 5) + 0) + 5)) (n := ((((((((((((((slots + 0) + 30) + 0) + 30) + 30) + 30) + 30) + 30) + 30) + 30) + 0) + 30) + 0) + 30)) (Nat.le_refl _) (Nat.le_refl _) ?_
              refine W.eq (g2 := F0 m 975 ls [.int (nI ((ct_ (Ls w) (Ls (1 - w)) (rk_ (Ls w) (nI bk36)) ((Ls w).length - rk_ (Ls w) (nI bk36))).length))]) rfl ?_
              rw [← hr, ct_drop hv hrl ho0] at hC_39
              obtain ⟨L2, hL2⟩ : ∃ z, z = ul_ (ul_ Ls w ((Ls w).take r)) (1 - w) ((Ls w).drop r) := ⟨_, rfl⟩
              rw [← hL2] at hC_39
              obtain ⟨g1, g2, g3, hvC2, g5⟩ := lc_all hvC hw hrl ho0 hL2
              have g1l : (L2 w).length = r := by rw [g1, List.length_take]; omega
              have g2l : (L2 (1 - w)).length = (Ls w).length - r := by rw [g2, List.length_drop]
              have hv2 := (hvC2 w hw).1
              have e48 : (L2 w).length ≤ 48 := by omega
              have q0 : cn_ (L2 w) 0 = nI (L2 w).length := by rw [(cn_row hv2 e48 (List.Perm.refl _) (k := 25) (by rw [List.length_map]; omega) (by decide)).1, List.length_map]
              have hv3 := (hvC2 (1 - w) (by omega)).1
              have f48 : (L2 (1 - w)).length ≤ 48 := by omega
              have q1 : cn_ (L2 (1 - w)) 0 = nI (L2 (1 - w)).length := by rw [(cn_row hv3 f48 (List.Perm.refl _) (k := 25) (by rw [List.length_map]; omega) (by decide)).1, List.length_map]
              rw [g1l] at q0
              rw [g2l] at q1
              refine g_top (y := nI (((Ls w).length - r))) (by rw [← hr, ct_drop hv hrl ho0, List.length_drop]) ?_
              refine lv_istore (lv' := [(13, .int (nI (((Ls w).length - r)))), (12, .int (nI bk36)), (11, .int (cn_ (Ls w) 3)), (10, .int (cn_ (Ls w) 2)), (9, .int (nI bk6)), (8, .int (nI ((Ls w).length))), (7, .int (nI w)), (5, .long (di_ (Ls 0) (Ls 1))), (4, .int xx), (3, .int (nI t)), (0, .ref b), (1, .ref (ad_ D 0)), (2, .ref qs)]) hx hb dL_law_975 hl (by decide) rfl (fun ls hl => ?_)
              refine lv_aload_n hx hb dL_law_977 rfl (lv_at hl 11 rfl) ?_
              refine lv_iload hx hb dL_law_978 (lv_at hl 6 rfl) ?_
              refine lv_iconst (v := nI 0) hx hb dL_law_980 (by decide) ?_
              refine h_callV (y := yX2_count) (n := 2) (As := [.int (nI w), .int (nI 0)]) (rest := []) hx hb hml hown hts hE hZ hS hl.1 ((n_count l hst D hAD σ_38 L2 hC_39 hvC2 w 0 hw (by omega)).h hAD) h_P0 (h_prf hP) (h_AP hD hS hAs) (fun _ _ _ => trivial) (h_jP hP hD (h_AP hD hS hAs)) k_L_91 (wr := (g_W D σ_38)) (q0 := 0) (ci := 2) (h_prf hP) (g_at (by decide) hC_39.1) rfl rfl rfl rfl ⟨Nat.le_of_ble_eq_true rfl, Nat.le_of_ble_eq_true rfl⟩ (Nat.le_of_ble_eq_true rfl) ⟨Nat.le_trans (show ((((((((((((((cells + 0) + 5) + 0) + 5) + 5) + 5) + 5) + 5) + 5) + 5) + 0) + 5) + 0) + 5) + 5 ≤ 510000 by omega) rC_, Nat.le_trans (show ((((((((((((((slots + 0) + 30) + 0) + 30) + 30) + 30) + 30) + 30) + 30) + 30) + 0) + 30) + 0) + 30) + 30 ≤ 6100000 by omega) rS_⟩ dL_law_981 (fun v43 w1 H locs hq hP hD hS => ?_)
              obtain ⟨σ_41, ⟨rfl, hC_42⟩, rfl⟩ := hq
              have hP : va_P D vwCl ((g_W D σ_41) ++ xs) H := hP
              have hD : va_D A ((g_W D σ_41) ++ xs) := hD
              refine W.widen (k := (((((((((((((((cells + 0) + 5) + 0) + 5) + 5) + 5) + 5) + 5) + 5) + 5) + 0) + 5) + 0) + 5) + 5)) (n := (((((((((((((((slots + 0) + 30) + 0) + 30) + 30) + 30) + 30) + 30) + 30) + 30) + 0) + 30) + 0) + 30) + 30)) (Nat.le_refl _) (Nat.le_refl _) ?_
              refine W.eq (g2 := F0 m 984 ls [.int (cn_ (L2 w) 0)]) rfl ?_
              refine g_top (y := nI ((Ls w).length - ((Ls w).length - r))) (by rw [q0, show (Ls w).length - ((Ls w).length - r) = r by omega]) ?_
              refine lv_iload hx hb dL_law_984 (lv_at hl 5 rfl) ?_
              refine lv_iload hx hb dL_law_986 (lv_at hl 0 rfl) ?_
              refine lv_isub hx hb dL_law_988 ?_
              refine g_top (y := nI (((Ls w).length) - (((Ls w).length - r)))) (pk_sub (by omega)) ?_
              refine lv_icmp_ne (tgt := 1070) hx hb dL_law_989 (by decide) (fun h989 => ?_) (fun h989 => ?_)
              · exact absurd rfl h989
              · refine lv_aload_n hx hb dL_law_992 rfl (lv_at hl 11 rfl) ?_
                refine lv_iconst (v := nI 1) hx hb dL_law_993 (by decide) ?_
                refine lv_iload hx hb dL_law_994 (lv_at hl 6 rfl) ?_
                refine lv_isub hx hb dL_law_996 ?_
                refine g_top (y := nI (1 - w)) (pk_sub (by omega)) ?_
                refine lv_iconst (v := nI 0) hx hb dL_law_997 (by decide) ?_
                refine h_callV (y := yX2_count) (n := 2) (As := [.int (nI (1 - w)), .int (nI 0)]) (rest := []) hx hb hml hown hts hE hZ hS hl.1 ((n_count l hst D hAD σ_41 L2 hC_42 hvC2 (1 - w) 0 (by omega) (by omega)).h hAD) h_P0 (h_prf hP) (h_AP hD hS hAs) (fun _ _ _ => trivial) (h_jP hP hD (h_AP hD hS hAs)) k_L_91 (wr := (g_W D σ_41)) (q0 := 0) (ci := 2) (h_prf hP) (g_at (by decide) hC_42.1) rfl rfl rfl rfl ⟨Nat.le_of_ble_eq_true rfl, Nat.le_of_ble_eq_true rfl⟩ (Nat.le_of_ble_eq_true rfl) ⟨Nat.le_trans (show (((((((((((((((cells + 0) + 5) + 0) + 5) + 5) + 5) + 5) + 5) + 5) + 5) + 0) + 5) + 0) + 5) + 5) + 5 ≤ 510000 by omega) rC_, Nat.le_trans (show (((((((((((((((slots + 0) + 30) + 0) + 30) + 30) + 30) + 30) + 30) + 30) + 30) + 0) + 30) + 0) + 30) + 30) + 30 ≤ 6100000 by omega) rS_⟩ dL_law_998 (fun v46 w1 H locs hq hP hD hS => ?_)
                obtain ⟨σ_44, ⟨rfl, hC_45⟩, rfl⟩ := hq
                have hP : va_P D vwCl ((g_W D σ_44) ++ xs) H := hP
                have hD : va_D A ((g_W D σ_44) ++ xs) := hD
                refine W.widen (k := ((((((((((((((((cells + 0) + 5) + 0) + 5) + 5) + 5) + 5) + 5) + 5) + 5) + 0) + 5) + 0) + 5) + 5) + 5)) (n := ((((((((((((((((slots + 0) + 30) + 0) + 30) + 30) + 30) + 30) + 30) + 30) + 30) + 0) + 30) + 0) + 30) + 30) + 30)) (Nat.le_refl _) (Nat.le_refl _) ?_
                refine W.eq (g2 := F0 m 1001 ls [.int (cn_ (L2 (1 - w)) 0)]) rfl ?_
                refine g_top (y := nI (((Ls w).length - r))) (q1) ?_
                refine lv_iload hx hb dL_law_1001 (lv_at hl 0 rfl) ?_
                refine lv_icmp_ne (tgt := 1070) hx hb dL_law_1003 (by decide) (fun h1003 => ?_) (fun h1003 => ?_)
                · exact absurd rfl h1003
                · refine lv_aload_n hx hb dL_law_1006 rfl (lv_at hl 11 rfl) ?_
                  refine lv_iconst (v := nI 0) hx hb dL_law_1007 (by decide) ?_
                  refine h_callV (y := yX2_would) (n := 1) (As := [.int (nI 0)]) (rest := []) hx hb hml hown hts hE hZ hS hl.1 ((n_would l hst D hAD σ_44 L2 hC_45 hvC2 0 (by omega)).h hAD) h_P0 (h_prf hP) (h_AP hD hS hAs) (fun _ _ _ => trivial) (h_jP hP hD (h_AP hD hS hAs)) k_L_131 (wr := (g_W D σ_44)) (q0 := 0) (ci := 2) (h_prf hP) (g_at (by decide) hC_45.1) rfl rfl rfl rfl ⟨Nat.le_of_ble_eq_true rfl, Nat.le_of_ble_eq_true rfl⟩ (Nat.le_of_ble_eq_true rfl) ⟨Nat.le_trans (show ((((((((((((((((cells + 0) + 5) + 0) + 5) + 5) + 5) + 5) + 5) + 5) + 5) + 0) + 5) + 0) + 5) + 5) + 5) + 5 ≤ 510000 by omega) rC_, Nat.le_trans (show ((((((((((((((((slots + 0) + 30) + 0) + 30) + 30) + 30) + 30) + 30) + 30) + 30) + 0) + 30) + 0) + 30) + 30) + 30) + 30 ≤ 6100000 by omega) rS_⟩ dL_law_1008 (fun v49 w1 H locs hq hP hD hS => ?_)
                  obtain ⟨σ_47, ⟨rfl, hC_48⟩, rfl⟩ := hq
                  have hP : va_P D vwCl ((g_W D σ_47) ++ xs) H := hP
                  have hD : va_D A ((g_W D σ_47) ++ xs) := hD
                  refine W.widen (k := (((((((((((((((((cells + 0) + 5) + 0) + 5) + 5) + 5) + 5) + 5) + 5) + 5) + 0) + 5) + 0) + 5) + 5) + 5) + 5)) (n := (((((((((((((((((slots + 0) + 30) + 0) + 30) + 30) + 30) + 30) + 30) + 30) + 30) + 0) + 30) + 0) + 30) + 30) + 30) + 30)) (Nat.le_refl _) (Nat.le_refl _) ?_
                  refine W.eq (g2 := F0 m 1011 ls [.int (cn_ (bo_ (L2 0) (L2 1)) 0)]) rfl ?_
                  refine g_top (y := nI ((Ls w).length)) (by rw [g3, c0]) ?_
                  refine lv_iload hx hb dL_law_1011 (lv_at hl 5 rfl) ?_
                  refine lv_icmp_ne (tgt := 1070) hx hb dL_law_1013 (by decide) (fun h1013 => ?_) (fun h1013 => ?_)
                  · exact absurd rfl h1013
                  · refine lv_aload_n hx hb dL_law_1016 rfl (lv_at hl 11 rfl) ?_
                    refine lv_iconst (v := nI 3) hx hb dL_law_1017 (by decide) ?_
                    refine h_callV (y := yX2_would) (n := 1) (As := [.int (nI 3)]) (rest := []) hx hb hml hown hts hE hZ hS hl.1 ((n_would l hst D hAD σ_47 L2 hC_48 hvC2 3 (by omega)).h hAD) h_P0 (h_prf hP) (h_AP hD hS hAs) (fun _ _ _ => trivial) (h_jP hP hD (h_AP hD hS hAs)) k_L_131 (wr := (g_W D σ_47)) (q0 := 0) (ci := 2) (h_prf hP) (g_at (by decide) hC_48.1) rfl rfl rfl rfl ⟨Nat.le_of_ble_eq_true rfl, Nat.le_of_ble_eq_true rfl⟩ (Nat.le_of_ble_eq_true rfl) ⟨Nat.le_trans (show (((((((((((((((((cells + 0) + 5) + 0) + 5) + 5) + 5) + 5) + 5) + 5) + 5) + 0) + 5) + 0) + 5) + 5) + 5) + 5) + 5 ≤ 510000 by omega) rC_, Nat.le_trans (show (((((((((((((((((slots + 0) + 30) + 0) + 30) + 30) + 30) + 30) + 30) + 30) + 30) + 0) + 30) + 0) + 30) + 30) + 30) + 30) + 30 ≤ 6100000 by omega) rS_⟩ dL_law_1018 (fun v52 w1 H locs hq hP hD hS => ?_)
                    obtain ⟨σ_50, ⟨rfl, hC_51⟩, rfl⟩ := hq
                    have hP : va_P D vwCl ((g_W D σ_50) ++ xs) H := hP
                    have hD : va_D A ((g_W D σ_50) ++ xs) := hD
                    refine W.widen (k := ((((((((((((((((((cells + 0) + 5) + 0) + 5) + 5) + 5) + 5) + 5) + 5) + 5) + 0) + 5) + 0) + 5) + 5) + 5) + 5) + 5)) (n := ((((((((((((((((((slots + 0) + 30) + 0) + 30) + 30) + 30) + 30) + 30) + 30) + 30) + 0) + 30) + 0) + 30) + 30) + 30) + 30) + 30)) (Nat.le_refl _) (Nat.le_refl _) ?_
                    refine W.eq (g2 := F0 m 1021 ls [.int (cn_ (bo_ (L2 0) (L2 1)) 3)]) rfl ?_
                    refine g_top (y := cn_ (Ls w) 3) (by rw [g3]) ?_
                    refine lv_iload hx hb dL_law_1021 (lv_at hl 2 rfl) ?_
                    refine lv_icmp_ne (tgt := 1070) hx hb dL_law_1023 (by decide) (fun h1023 => ?_) (fun h1023 => ?_)
                    · exact absurd rfl h1023
                    · refine lv_iload hx hb dL_law_1026 (lv_at hl 0 rfl) ?_
                      refine lv_if_le (tgt := 1045) hx hb dL_law_1028 (by decide) (fun h1028 => ?_) (fun h1028 => ?_)
                      · have hb1028 := g_le (a := ((Ls w).length - r)) (b := 0) h1028 (by omega) (by omega)
                        refine lv_iload hx hb dL_law_1045 (lv_at hl 0 rfl) ?_
                        refine lv_iload hx hb dL_law_1047 (lv_at hl 5 rfl) ?_
                        refine lv_icmp_ge (tgt := 1072) hx hb dL_law_1049 (by decide) (fun h1049 => ?_) (fun h1049 => ?_)
                        · have hb1049 := g_le (a := (Ls w).length) (b := ((Ls w).length - r)) h1049 (by omega) (by omega)
                          refine lv_aload_n hx hb dL_law_1072 rfl (lv_at hl 11 rfl) ?_
                          refine lv_iconst (v := nI 1) hx hb dL_law_1073 (by decide) ?_
                          refine lv_iload hx hb dL_law_1074 (lv_at hl 6 rfl) ?_
                          refine lv_isub hx hb dL_law_1076 ?_
                          refine g_top (y := nI (1 - w)) (pk_sub (by omega)) ?_
                          refine lv_iload hx hb dL_law_1077 (lv_at hl 8 rfl) ?_
                          refine lv_bipush (v := nI 6) hx hb dL_law_1079 (by decide) ?_
                          refine lv_ishr hx hb dL_law_1081 ?_
                          refine lv_iconst (v := nI 4) hx hb dL_law_1082 (by decide) ?_
                          refine h_callS (y := yL_below) (n := 2) (As := [.int (xx >>> ((nI 6) &&& 31)), .int (nI 4)]) (rest := [.int (nI (1 - w)), .ref (ad_ D 0)]) hx hb hml hown hts hE hZ hS hl.1 (m_L_below l D (xx >>> ((nI 6) &&& 31)) 4 (by decide) (by decide)) h_P0 h_P0 (h_Anil hS hAs) (fun _ _ _ => trivial) (h_jR hP hD (h_Anil hS hAs)) k_L_9 rfl rfl ⟨Nat.le_of_ble_eq_true rfl, Nat.le_of_ble_eq_true rfl⟩ (Nat.le_of_ble_eq_true rfl) ⟨Nat.le_trans (show ((((((((((((((((((cells + 0) + 5) + 0) + 5) + 5) + 5) + 5) + 5) + 5) + 5) + 0) + 5) + 0) + 5) + 5) + 5) + 5) + 5) + 0 ≤ 510000 by omega) rC_, Nat.le_trans (show ((((((((((((((((((slots + 0) + 30) + 0) + 30) + 30) + 30) + 30) + 30) + 30) + 30) + 0) + 30) + 0) + 30) + 30) + 30) + 30) + 30) + 0 ≤ 6100000 by omega) rS_⟩ dL_law_1083 (fun v54 w1 H locs hq hP hD hS => ?_)
                          obtain ⟨bk53, hbk53, rfl, rfl⟩ := hq
                          rw [List.append_nil] at hP hD
                          have hP : va_P D vwCl ((g_W D σ_50) ++ xs) H := hP
                          have hD : va_D A ((g_W D σ_50) ++ xs) := hD
                          refine W.widen (k := (((((((((((((((((((cells + 0) + 5) + 0) + 5) + 5) + 5) + 5) + 5) + 5) + 5) + 0) + 5) + 0) + 5) + 5) + 5) + 5) + 5) + 0)) (n := (((((((((((((((((((slots + 0) + 30) + 0) + 30) + 30) + 30) + 30) + 30) + 30) + 30) + 0) + 30) + 0) + 30) + 30) + 30) + 30) + 30) + 0)) (Nat.le_refl _) (Nat.le_refl _) ?_
                          refine W.eq (g2 := F0 m 1086 ls [.int (nI bk53), .int (nI (1 - w)), .ref (ad_ D 0)]) rfl ?_
                          refine h_callV (y := yX2_merge) (n := 2) (As := [.int (nI (1 - w)), .int (nI bk53)]) (rest := []) hx hb hml hown hts hE hZ hS hl.1 ((n_merge l hst D hAD σ_50 L2 hC_51 hvC2 (1 - w) bk53 (by omega) (by omega) (by rw [show 1 - (1 - w) = w by omega]; omega)).h hAD) h_P0 (h_prf hP) (h_AP hD hS hAs) (fun _ _ _ => trivial) (h_jP hP hD (h_AP hD hS hAs)) k_L_64 (wr := (g_W D σ_50)) (q0 := 0) (ci := 2) (h_prf hP) (g_at (by decide) hC_51.1) rfl rfl rfl rfl ⟨Nat.le_of_ble_eq_true rfl, Nat.le_of_ble_eq_true rfl⟩ (Nat.le_of_ble_eq_true rfl) ⟨Nat.le_trans (show (((((((((((((((((((cells + 0) + 5) + 0) + 5) + 5) + 5) + 5) + 5) + 5) + 5) + 0) + 5) + 0) + 5) + 5) + 5) + 5) + 5) + 0) + 5 ≤ 510000 by omega) rC_, Nat.le_trans (show (((((((((((((((((((slots + 0) + 30) + 0) + 30) + 30) + 30) + 30) + 30) + 30) + 30) + 0) + 30) + 0) + 30) + 30) + 30) + 30) + 30) + 0) + 30 ≤ 6100000 by omega) rS_⟩ dL_law_1086 (fun v57 w1 H locs hq hP hD hS => ?_)
                          obtain ⟨σ_55, ⟨rfl, hC_56⟩, rfl⟩ := hq
                          have hP : va_P D vwCl ((g_W D σ_55) ++ xs) H := hP
                          have hD : va_D A ((g_W D σ_55) ++ xs) := hD
                          refine W.widen (k := ((((((((((((((((((((cells + 0) + 5) + 0) + 5) + 5) + 5) + 5) + 5) + 5) + 5) + 0) + 5) + 0) + 5) + 5) + 5) + 5) + 5) + 0) + 5)) (n := ((((((((((((((((((((slots + 0) + 30) + 0) + 30) + 30) + 30) + 30) + 30) + 30) + 30) + 0) + 30) + 0) + 30) + 30) + 30) + 30) + 30) + 0) + 30)) (Nat.le_refl _) (Nat.le_refl _) ?_
                          refine W.eq (g2 := F0 m 1089 ls [.int (nI (cm_ (L2 (1 - w)) (L2 (1 - (1 - w))) (L2 (1 - w)).length))]) rfl ?_
                          rw [(g5 bk53).1] at hC_56
                          refine g_top (y := nI 0) (by rw [(g5 0).2]) ?_
                          refine lv_if_ne (tgt := 1102) hx hb dL_law_1089 (by decide) (fun h1089 => ?_) (fun h1089 => ?_)
                          · exact absurd rfl h1089
                          · refine lv_aload_n hx hb dL_law_1092 rfl (lv_at hl 11 rfl) ?_
                            refine h_callV (y := yX2_digest) (n := 0) (As := []) (rest := []) hx hb hml hown hts hE hZ hS hl.1 ((n_digest l D hAD σ_55 Ls hC_56 hvC ).h hAD) h_P0 (h_prf hP) (h_AP hD hS hAs) (fun _ _ _ => trivial) (h_jP hP hD (h_AP hD hS hAs)) k_L_87 (wr := (g_W D σ_55)) (q0 := 0) (ci := 2) (h_prf hP) (g_at (by decide) hC_56.1) rfl rfl rfl rfl ⟨Nat.le_of_ble_eq_true rfl, Nat.le_of_ble_eq_true rfl⟩ (Nat.le_of_ble_eq_true rfl) ⟨Nat.le_trans (show ((((((((((((((((((((cells + 0) + 5) + 0) + 5) + 5) + 5) + 5) + 5) + 5) + 5) + 0) + 5) + 0) + 5) + 5) + 5) + 5) + 5) + 0) + 5) + 0 ≤ 510000 by omega) rC_, Nat.le_trans (show ((((((((((((((((((((slots + 0) + 30) + 0) + 30) + 30) + 30) + 30) + 30) + 30) + 30) + 0) + 30) + 0) + 30) + 30) + 30) + 30) + 30) + 0) + 30) + 0 ≤ 6100000 by omega) rS_⟩ dL_law_1093 (fun v60 w1 H locs hq hP hD hS => ?_)
                            obtain ⟨σ_58, ⟨rfl, hC_59⟩, rfl⟩ := hq
                            have hP : va_P D vwCl ((g_W D σ_58) ++ xs) H := hP
                            have hD : va_D A ((g_W D σ_58) ++ xs) := hD
                            refine W.widen (k := (((((((((((((((((((((cells + 0) + 5) + 0) + 5) + 5) + 5) + 5) + 5) + 5) + 5) + 0) + 5) + 0) + 5) + 5) + 5) + 5) + 5) + 0) + 5) + 0)) (n := (((((((((((((((((((((slots + 0) + 30) + 0) + 30) + 30) + 30) + 30) + 30) + 30) + 30) + 0) + 30) + 0) + 30) + 30) + 30) + 30) + 30) + 0) + 30) + 0)) (Nat.le_refl _) (Nat.le_refl _) ?_
                            refine W.eq (g2 := F0 m 1096 ls [.long (di_ (Ls 0) (Ls 1))]) rfl ?_
                            refine lv_lload hx hb dL_law_1096 (lv_at hl 7 rfl) ?_
                            refine W.lcmp hx hb dL_law_1098 ?_
                            refine g_top (y := nI 0) lg_self ?_
                            refine lv_if_eq (tgt := 1104) hx hb dL_law_1099 (by decide) (fun h1099 => ?_) (fun h1099 => ?_)
                            · refine W.widen (k := cells + 250) (n := slots + 1500) (by omega) (by omega) ?_
                              exact kk σ_58 H locs ls hC_59 hP hD hS (lv_sub hl [8, 9, 10, 11, 12] rfl)
                            · exact absurd rfl h1099
                        · have hb1049 := g_nle (a := (Ls w).length) (b := ((Ls w).length - r)) h1049 (by omega) (by omega)
                          refine lv_aload_n hx hb dL_law_1052 rfl (lv_at hl 11 rfl) ?_
                          refine lv_iload hx hb dL_law_1053 (lv_at hl 6 rfl) ?_
                          refine lv_iload hx hb dL_law_1055 (lv_at hl 5 rfl) ?_
                          refine lv_iload hx hb dL_law_1057 (lv_at hl 0 rfl) ?_
                          refine lv_isub hx hb dL_law_1059 ?_
                          refine g_top (y := nI (((Ls w).length) - (((Ls w).length - r)))) (pk_sub (by omega)) ?_
                          refine lv_iconst (v := nI 1) hx hb dL_law_1060 (by decide) ?_
                          refine lv_isub hx hb dL_law_1061 ?_
                          refine g_top (y := nI ((((Ls w).length) - (((Ls w).length - r))) - 1)) (pk_sub (by omega)) ?_
                          refine h_callV (y := yX2_at) (n := 2) (As := [.int (nI w), .int (nI ((((Ls w).length) - (((Ls w).length - r))) - 1))]) (rest := []) hx hb hml hown hts hE hZ hS hl.1 ((n_at l hst D hAD σ_50 L2 hC_51 hvC2 w ((((Ls w).length) - (((Ls w).length - r))) - 1) hw (by omega)).h hAD) h_P0 (h_prf hP) (h_AP hD hS hAs) (fun _ _ _ => trivial) (h_jP hP hD (h_AP hD hS hAs)) k_L_101 (wr := (g_W D σ_50)) (q0 := 0) (ci := 2) (h_prf hP) (g_at (by decide) hC_51.1) rfl rfl rfl rfl ⟨Nat.le_of_ble_eq_true rfl, Nat.le_of_ble_eq_true rfl⟩ (Nat.le_of_ble_eq_true rfl) ⟨Nat.le_trans (show ((((((((((((((((((cells + 0) + 5) + 0) + 5) + 5) + 5) + 5) + 5) + 5) + 5) + 0) + 5) + 0) + 5) + 5) + 5) + 5) + 5) + 5 ≤ 510000 by omega) rC_, Nat.le_trans (show ((((((((((((((((((slots + 0) + 30) + 0) + 30) + 30) + 30) + 30) + 30) + 30) + 30) + 0) + 30) + 0) + 30) + 30) + 30) + 30) + 30) + 30 ≤ 6100000 by omega) rS_⟩ dL_law_1062 (fun v63 w1 H locs hq hP hD hS => ?_)
                          obtain ⟨σ_61, ⟨rfl, hC_62⟩, rfl⟩ := hq
                          have hP : va_P D vwCl ((g_W D σ_61) ++ xs) H := hP
                          have hD : va_D A ((g_W D σ_61) ++ xs) := hD
                          refine W.widen (k := (((((((((((((((((((cells + 0) + 5) + 0) + 5) + 5) + 5) + 5) + 5) + 5) + 5) + 0) + 5) + 0) + 5) + 5) + 5) + 5) + 5) + 5)) (n := (((((((((((((((((((slots + 0) + 30) + 0) + 30) + 30) + 30) + 30) + 30) + 30) + 30) + 0) + 30) + 0) + 30) + 30) + 30) + 30) + 30) + 30)) (Nat.le_refl _) (Nat.le_refl _) ?_
                          refine W.eq (g2 := F0 m 1065 ls [.int (fn_ (L2 w) ((((Ls w).length) - (((Ls w).length - r))) - 1))]) rfl ?_
                          refine lv_iload hx hb dL_law_1065 (lv_at hl 1 rfl) ?_
                          refine lv_icmp_lt (tgt := 1072) hx hb dL_law_1067 (by decide) (fun h1067 => ?_) (fun h1067 => ?_)
                          · refine lv_aload_n hx hb dL_law_1072 rfl (lv_at hl 11 rfl) ?_
                            refine lv_iconst (v := nI 1) hx hb dL_law_1073 (by decide) ?_
                            refine lv_iload hx hb dL_law_1074 (lv_at hl 6 rfl) ?_
                            refine lv_isub hx hb dL_law_1076 ?_
                            refine g_top (y := nI (1 - w)) (pk_sub (by omega)) ?_
                            refine lv_iload hx hb dL_law_1077 (lv_at hl 8 rfl) ?_
                            refine lv_bipush (v := nI 6) hx hb dL_law_1079 (by decide) ?_
                            refine lv_ishr hx hb dL_law_1081 ?_
                            refine lv_iconst (v := nI 4) hx hb dL_law_1082 (by decide) ?_
                            refine h_callS (y := yL_below) (n := 2) (As := [.int (xx >>> ((nI 6) &&& 31)), .int (nI 4)]) (rest := [.int (nI (1 - w)), .ref (ad_ D 0)]) hx hb hml hown hts hE hZ hS hl.1 (m_L_below l D (xx >>> ((nI 6) &&& 31)) 4 (by decide) (by decide)) h_P0 h_P0 (h_Anil hS hAs) (fun _ _ _ => trivial) (h_jR hP hD (h_Anil hS hAs)) k_L_9 rfl rfl ⟨Nat.le_of_ble_eq_true rfl, Nat.le_of_ble_eq_true rfl⟩ (Nat.le_of_ble_eq_true rfl) ⟨Nat.le_trans (show (((((((((((((((((((cells + 0) + 5) + 0) + 5) + 5) + 5) + 5) + 5) + 5) + 5) + 0) + 5) + 0) + 5) + 5) + 5) + 5) + 5) + 5) + 0 ≤ 510000 by omega) rC_, Nat.le_trans (show (((((((((((((((((((slots + 0) + 30) + 0) + 30) + 30) + 30) + 30) + 30) + 30) + 30) + 0) + 30) + 0) + 30) + 30) + 30) + 30) + 30) + 30) + 0 ≤ 6100000 by omega) rS_⟩ dL_law_1083 (fun v65 w1 H locs hq hP hD hS => ?_)
                            obtain ⟨bk64, hbk64, rfl, rfl⟩ := hq
                            rw [List.append_nil] at hP hD
                            have hP : va_P D vwCl ((g_W D σ_61) ++ xs) H := hP
                            have hD : va_D A ((g_W D σ_61) ++ xs) := hD
                            refine W.widen (k := ((((((((((((((((((((cells + 0) + 5) + 0) + 5) + 5) + 5) + 5) + 5) + 5) + 5) + 0) + 5) + 0) + 5) + 5) + 5) + 5) + 5) + 5) + 0)) (n := ((((((((((((((((((((slots + 0) + 30) + 0) + 30) + 30) + 30) + 30) + 30) + 30) + 30) + 0) + 30) + 0) + 30) + 30) + 30) + 30) + 30) + 30) + 0)) (Nat.le_refl _) (Nat.le_refl _) ?_
                            refine W.eq (g2 := F0 m 1086 ls [.int (nI bk64), .int (nI (1 - w)), .ref (ad_ D 0)]) rfl ?_
                            refine h_callV (y := yX2_merge) (n := 2) (As := [.int (nI (1 - w)), .int (nI bk64)]) (rest := []) hx hb hml hown hts hE hZ hS hl.1 ((n_merge l hst D hAD σ_61 L2 hC_62 hvC2 (1 - w) bk64 (by omega) (by omega) (by rw [show 1 - (1 - w) = w by omega]; omega)).h hAD) h_P0 (h_prf hP) (h_AP hD hS hAs) (fun _ _ _ => trivial) (h_jP hP hD (h_AP hD hS hAs)) k_L_64 (wr := (g_W D σ_61)) (q0 := 0) (ci := 2) (h_prf hP) (g_at (by decide) hC_62.1) rfl rfl rfl rfl ⟨Nat.le_of_ble_eq_true rfl, Nat.le_of_ble_eq_true rfl⟩ (Nat.le_of_ble_eq_true rfl) ⟨Nat.le_trans (show ((((((((((((((((((((cells + 0) + 5) + 0) + 5) + 5) + 5) + 5) + 5) + 5) + 5) + 0) + 5) + 0) + 5) + 5) + 5) + 5) + 5) + 5) + 0) + 5 ≤ 510000 by omega) rC_, Nat.le_trans (show ((((((((((((((((((((slots + 0) + 30) + 0) + 30) + 30) + 30) + 30) + 30) + 30) + 30) + 0) + 30) + 0) + 30) + 30) + 30) + 30) + 30) + 30) + 0) + 30 ≤ 6100000 by omega) rS_⟩ dL_law_1086 (fun v68 w1 H locs hq hP hD hS => ?_)
                            obtain ⟨σ_66, ⟨rfl, hC_67⟩, rfl⟩ := hq
                            have hP : va_P D vwCl ((g_W D σ_66) ++ xs) H := hP
                            have hD : va_D A ((g_W D σ_66) ++ xs) := hD
                            refine W.widen (k := (((((((((((((((((((((cells + 0) + 5) + 0) + 5) + 5) + 5) + 5) + 5) + 5) + 5) + 0) + 5) + 0) + 5) + 5) + 5) + 5) + 5) + 5) + 0) + 5)) (n := (((((((((((((((((((((slots + 0) + 30) + 0) + 30) + 30) + 30) + 30) + 30) + 30) + 30) + 0) + 30) + 0) + 30) + 30) + 30) + 30) + 30) + 30) + 0) + 30)) (Nat.le_refl _) (Nat.le_refl _) ?_
                            refine W.eq (g2 := F0 m 1089 ls [.int (nI (cm_ (L2 (1 - w)) (L2 (1 - (1 - w))) (L2 (1 - w)).length))]) rfl ?_
                            rw [(g5 bk64).1] at hC_67
                            refine g_top (y := nI 0) (by rw [(g5 0).2]) ?_
                            refine lv_if_ne (tgt := 1102) hx hb dL_law_1089 (by decide) (fun h1089 => ?_) (fun h1089 => ?_)
                            · exact absurd rfl h1089
                            · refine lv_aload_n hx hb dL_law_1092 rfl (lv_at hl 11 rfl) ?_
                              refine h_callV (y := yX2_digest) (n := 0) (As := []) (rest := []) hx hb hml hown hts hE hZ hS hl.1 ((n_digest l D hAD σ_66 Ls hC_67 hvC ).h hAD) h_P0 (h_prf hP) (h_AP hD hS hAs) (fun _ _ _ => trivial) (h_jP hP hD (h_AP hD hS hAs)) k_L_87 (wr := (g_W D σ_66)) (q0 := 0) (ci := 2) (h_prf hP) (g_at (by decide) hC_67.1) rfl rfl rfl rfl ⟨Nat.le_of_ble_eq_true rfl, Nat.le_of_ble_eq_true rfl⟩ (Nat.le_of_ble_eq_true rfl) ⟨Nat.le_trans (show (((((((((((((((((((((cells + 0) + 5) + 0) + 5) + 5) + 5) + 5) + 5) + 5) + 5) + 0) + 5) + 0) + 5) + 5) + 5) + 5) + 5) + 5) + 0) + 5) + 0 ≤ 510000 by omega) rC_, Nat.le_trans (show (((((((((((((((((((((slots + 0) + 30) + 0) + 30) + 30) + 30) + 30) + 30) + 30) + 30) + 0) + 30) + 0) + 30) + 30) + 30) + 30) + 30) + 30) + 0) + 30) + 0 ≤ 6100000 by omega) rS_⟩ dL_law_1093 (fun v71 w1 H locs hq hP hD hS => ?_)
                              obtain ⟨σ_69, ⟨rfl, hC_70⟩, rfl⟩ := hq
                              have hP : va_P D vwCl ((g_W D σ_69) ++ xs) H := hP
                              have hD : va_D A ((g_W D σ_69) ++ xs) := hD
                              refine W.widen (k := ((((((((((((((((((((((cells + 0) + 5) + 0) + 5) + 5) + 5) + 5) + 5) + 5) + 5) + 0) + 5) + 0) + 5) + 5) + 5) + 5) + 5) + 5) + 0) + 5) + 0)) (n := ((((((((((((((((((((((slots + 0) + 30) + 0) + 30) + 30) + 30) + 30) + 30) + 30) + 30) + 0) + 30) + 0) + 30) + 30) + 30) + 30) + 30) + 30) + 0) + 30) + 0)) (Nat.le_refl _) (Nat.le_refl _) ?_
                              refine W.eq (g2 := F0 m 1096 ls [.long (di_ (Ls 0) (Ls 1))]) rfl ?_
                              refine lv_lload hx hb dL_law_1096 (lv_at hl 7 rfl) ?_
                              refine W.lcmp hx hb dL_law_1098 ?_
                              refine g_top (y := nI 0) lg_self ?_
                              refine lv_if_eq (tgt := 1104) hx hb dL_law_1099 (by decide) (fun h1099 => ?_) (fun h1099 => ?_)
                              · refine W.widen (k := cells + 250) (n := slots + 1500) (by omega) (by omega) ?_
                                exact kk σ_69 H locs ls hC_70 hP hD hS (lv_sub hl [8, 9, 10, 11, 12] rfl)
                              · exact absurd rfl h1099
                          · exact absurd (by rw [g1, show (Ls w).length - ((Ls w).length - r) - 1 = r - 1 by omega]; exact hlo (by omega)) h1067
                      · have hb1028 := g_nle (a := ((Ls w).length - r)) (b := 0) h1028 (by omega) (by omega)
                        refine lv_aload_n hx hb dL_law_1031 rfl (lv_at hl 11 rfl) ?_
                        refine lv_iconst (v := nI 1) hx hb dL_law_1032 (by decide) ?_
                        refine lv_iload hx hb dL_law_1033 (lv_at hl 6 rfl) ?_
                        refine lv_isub hx hb dL_law_1035 ?_
                        refine g_top (y := nI (1 - w)) (pk_sub (by omega)) ?_
                        refine lv_iconst (v := nI 0) hx hb dL_law_1036 (by decide) ?_
                        refine h_callV (y := yX2_at) (n := 2) (As := [.int (nI (1 - w)), .int (nI 0)]) (rest := []) hx hb hml hown hts hE hZ hS hl.1 ((n_at l hst D hAD σ_50 L2 hC_51 hvC2 (1 - w) 0 (by omega) (by omega)).h hAD) h_P0 (h_prf hP) (h_AP hD hS hAs) (fun _ _ _ => trivial) (h_jP hP hD (h_AP hD hS hAs)) k_L_101 (wr := (g_W D σ_50)) (q0 := 0) (ci := 2) (h_prf hP) (g_at (by decide) hC_51.1) rfl rfl rfl rfl ⟨Nat.le_of_ble_eq_true rfl, Nat.le_of_ble_eq_true rfl⟩ (Nat.le_of_ble_eq_true rfl) ⟨Nat.le_trans (show ((((((((((((((((((cells + 0) + 5) + 0) + 5) + 5) + 5) + 5) + 5) + 5) + 5) + 0) + 5) + 0) + 5) + 5) + 5) + 5) + 5) + 5 ≤ 510000 by omega) rC_, Nat.le_trans (show ((((((((((((((((((slots + 0) + 30) + 0) + 30) + 30) + 30) + 30) + 30) + 30) + 30) + 0) + 30) + 0) + 30) + 30) + 30) + 30) + 30) + 30 ≤ 6100000 by omega) rS_⟩ dL_law_1037 (fun v74 w1 H locs hq hP hD hS => ?_)
                        obtain ⟨σ_72, ⟨rfl, hC_73⟩, rfl⟩ := hq
                        have hP : va_P D vwCl ((g_W D σ_72) ++ xs) H := hP
                        have hD : va_D A ((g_W D σ_72) ++ xs) := hD
                        refine W.widen (k := (((((((((((((((((((cells + 0) + 5) + 0) + 5) + 5) + 5) + 5) + 5) + 5) + 5) + 0) + 5) + 0) + 5) + 5) + 5) + 5) + 5) + 5)) (n := (((((((((((((((((((slots + 0) + 30) + 0) + 30) + 30) + 30) + 30) + 30) + 30) + 30) + 0) + 30) + 0) + 30) + 30) + 30) + 30) + 30) + 30)) (Nat.le_refl _) (Nat.le_refl _) ?_
                        refine W.eq (g2 := F0 m 1040 ls [.int (fn_ (L2 (1 - w)) 0)]) rfl ?_
                        refine lv_iload hx hb dL_law_1040 (lv_at hl 1 rfl) ?_
                        refine lv_icmp_lt (tgt := 1070) hx hb dL_law_1042 (by decide) (fun h1042 => ?_) (fun h1042 => ?_)
                        · exact absurd h1042 (Int32.not_lt.mpr (by rw [g2]; exact hhi (by omega)))
                        · refine lv_iload hx hb dL_law_1045 (lv_at hl 0 rfl) ?_
                          refine lv_iload hx hb dL_law_1047 (lv_at hl 5 rfl) ?_
                          refine lv_icmp_ge (tgt := 1072) hx hb dL_law_1049 (by decide) (fun h1049 => ?_) (fun h1049 => ?_)
                          · have hb1049 := g_le (a := (Ls w).length) (b := ((Ls w).length - r)) h1049 (by omega) (by omega)
                            refine lv_aload_n hx hb dL_law_1072 rfl (lv_at hl 11 rfl) ?_
                            refine lv_iconst (v := nI 1) hx hb dL_law_1073 (by decide) ?_
                            refine lv_iload hx hb dL_law_1074 (lv_at hl 6 rfl) ?_
                            refine lv_isub hx hb dL_law_1076 ?_
                            refine g_top (y := nI (1 - w)) (pk_sub (by omega)) ?_
                            refine lv_iload hx hb dL_law_1077 (lv_at hl 8 rfl) ?_
                            refine lv_bipush (v := nI 6) hx hb dL_law_1079 (by decide) ?_
                            refine lv_ishr hx hb dL_law_1081 ?_
                            refine lv_iconst (v := nI 4) hx hb dL_law_1082 (by decide) ?_
                            refine h_callS (y := yL_below) (n := 2) (As := [.int (xx >>> ((nI 6) &&& 31)), .int (nI 4)]) (rest := [.int (nI (1 - w)), .ref (ad_ D 0)]) hx hb hml hown hts hE hZ hS hl.1 (m_L_below l D (xx >>> ((nI 6) &&& 31)) 4 (by decide) (by decide)) h_P0 h_P0 (h_Anil hS hAs) (fun _ _ _ => trivial) (h_jR hP hD (h_Anil hS hAs)) k_L_9 rfl rfl ⟨Nat.le_of_ble_eq_true rfl, Nat.le_of_ble_eq_true rfl⟩ (Nat.le_of_ble_eq_true rfl) ⟨Nat.le_trans (show (((((((((((((((((((cells + 0) + 5) + 0) + 5) + 5) + 5) + 5) + 5) + 5) + 5) + 0) + 5) + 0) + 5) + 5) + 5) + 5) + 5) + 5) + 0 ≤ 510000 by omega) rC_, Nat.le_trans (show (((((((((((((((((((slots + 0) + 30) + 0) + 30) + 30) + 30) + 30) + 30) + 30) + 30) + 0) + 30) + 0) + 30) + 30) + 30) + 30) + 30) + 30) + 0 ≤ 6100000 by omega) rS_⟩ dL_law_1083 (fun v76 w1 H locs hq hP hD hS => ?_)
                            obtain ⟨bk75, hbk75, rfl, rfl⟩ := hq
                            rw [List.append_nil] at hP hD
                            have hP : va_P D vwCl ((g_W D σ_72) ++ xs) H := hP
                            have hD : va_D A ((g_W D σ_72) ++ xs) := hD
                            refine W.widen (k := ((((((((((((((((((((cells + 0) + 5) + 0) + 5) + 5) + 5) + 5) + 5) + 5) + 5) + 0) + 5) + 0) + 5) + 5) + 5) + 5) + 5) + 5) + 0)) (n := ((((((((((((((((((((slots + 0) + 30) + 0) + 30) + 30) + 30) + 30) + 30) + 30) + 30) + 0) + 30) + 0) + 30) + 30) + 30) + 30) + 30) + 30) + 0)) (Nat.le_refl _) (Nat.le_refl _) ?_
                            refine W.eq (g2 := F0 m 1086 ls [.int (nI bk75), .int (nI (1 - w)), .ref (ad_ D 0)]) rfl ?_
                            refine h_callV (y := yX2_merge) (n := 2) (As := [.int (nI (1 - w)), .int (nI bk75)]) (rest := []) hx hb hml hown hts hE hZ hS hl.1 ((n_merge l hst D hAD σ_72 L2 hC_73 hvC2 (1 - w) bk75 (by omega) (by omega) (by rw [show 1 - (1 - w) = w by omega]; omega)).h hAD) h_P0 (h_prf hP) (h_AP hD hS hAs) (fun _ _ _ => trivial) (h_jP hP hD (h_AP hD hS hAs)) k_L_64 (wr := (g_W D σ_72)) (q0 := 0) (ci := 2) (h_prf hP) (g_at (by decide) hC_73.1) rfl rfl rfl rfl ⟨Nat.le_of_ble_eq_true rfl, Nat.le_of_ble_eq_true rfl⟩ (Nat.le_of_ble_eq_true rfl) ⟨Nat.le_trans (show ((((((((((((((((((((cells + 0) + 5) + 0) + 5) + 5) + 5) + 5) + 5) + 5) + 5) + 0) + 5) + 0) + 5) + 5) + 5) + 5) + 5) + 5) + 0) + 5 ≤ 510000 by omega) rC_, Nat.le_trans (show ((((((((((((((((((((slots + 0) + 30) + 0) + 30) + 30) + 30) + 30) + 30) + 30) + 30) + 0) + 30) + 0) + 30) + 30) + 30) + 30) + 30) + 30) + 0) + 30 ≤ 6100000 by omega) rS_⟩ dL_law_1086 (fun v79 w1 H locs hq hP hD hS => ?_)
                            obtain ⟨σ_77, ⟨rfl, hC_78⟩, rfl⟩ := hq
                            have hP : va_P D vwCl ((g_W D σ_77) ++ xs) H := hP
                            have hD : va_D A ((g_W D σ_77) ++ xs) := hD
                            refine W.widen (k := (((((((((((((((((((((cells + 0) + 5) + 0) + 5) + 5) + 5) + 5) + 5) + 5) + 5) + 0) + 5) + 0) + 5) + 5) + 5) + 5) + 5) + 5) + 0) + 5)) (n := (((((((((((((((((((((slots + 0) + 30) + 0) + 30) + 30) + 30) + 30) + 30) + 30) + 30) + 0) + 30) + 0) + 30) + 30) + 30) + 30) + 30) + 30) + 0) + 30)) (Nat.le_refl _) (Nat.le_refl _) ?_
                            refine W.eq (g2 := F0 m 1089 ls [.int (nI (cm_ (L2 (1 - w)) (L2 (1 - (1 - w))) (L2 (1 - w)).length))]) rfl ?_
                            rw [(g5 bk75).1] at hC_78
                            refine g_top (y := nI 0) (by rw [(g5 0).2]) ?_
                            refine lv_if_ne (tgt := 1102) hx hb dL_law_1089 (by decide) (fun h1089 => ?_) (fun h1089 => ?_)
                            · exact absurd rfl h1089
                            · refine lv_aload_n hx hb dL_law_1092 rfl (lv_at hl 11 rfl) ?_
                              refine h_callV (y := yX2_digest) (n := 0) (As := []) (rest := []) hx hb hml hown hts hE hZ hS hl.1 ((n_digest l D hAD σ_77 Ls hC_78 hvC ).h hAD) h_P0 (h_prf hP) (h_AP hD hS hAs) (fun _ _ _ => trivial) (h_jP hP hD (h_AP hD hS hAs)) k_L_87 (wr := (g_W D σ_77)) (q0 := 0) (ci := 2) (h_prf hP) (g_at (by decide) hC_78.1) rfl rfl rfl rfl ⟨Nat.le_of_ble_eq_true rfl, Nat.le_of_ble_eq_true rfl⟩ (Nat.le_of_ble_eq_true rfl) ⟨Nat.le_trans (show (((((((((((((((((((((cells + 0) + 5) + 0) + 5) + 5) + 5) + 5) + 5) + 5) + 5) + 0) + 5) + 0) + 5) + 5) + 5) + 5) + 5) + 5) + 0) + 5) + 0 ≤ 510000 by omega) rC_, Nat.le_trans (show (((((((((((((((((((((slots + 0) + 30) + 0) + 30) + 30) + 30) + 30) + 30) + 30) + 30) + 0) + 30) + 0) + 30) + 30) + 30) + 30) + 30) + 30) + 0) + 30) + 0 ≤ 6100000 by omega) rS_⟩ dL_law_1093 (fun v82 w1 H locs hq hP hD hS => ?_)
                              obtain ⟨σ_80, ⟨rfl, hC_81⟩, rfl⟩ := hq
                              have hP : va_P D vwCl ((g_W D σ_80) ++ xs) H := hP
                              have hD : va_D A ((g_W D σ_80) ++ xs) := hD
                              refine W.widen (k := ((((((((((((((((((((((cells + 0) + 5) + 0) + 5) + 5) + 5) + 5) + 5) + 5) + 5) + 0) + 5) + 0) + 5) + 5) + 5) + 5) + 5) + 5) + 0) + 5) + 0)) (n := ((((((((((((((((((((((slots + 0) + 30) + 0) + 30) + 30) + 30) + 30) + 30) + 30) + 30) + 0) + 30) + 0) + 30) + 30) + 30) + 30) + 30) + 30) + 0) + 30) + 0)) (Nat.le_refl _) (Nat.le_refl _) ?_
                              refine W.eq (g2 := F0 m 1096 ls [.long (di_ (Ls 0) (Ls 1))]) rfl ?_
                              refine lv_lload hx hb dL_law_1096 (lv_at hl 7 rfl) ?_
                              refine W.lcmp hx hb dL_law_1098 ?_
                              refine g_top (y := nI 0) lg_self ?_
                              refine lv_if_eq (tgt := 1104) hx hb dL_law_1099 (by decide) (fun h1099 => ?_) (fun h1099 => ?_)
                              · refine W.widen (k := cells + 250) (n := slots + 1500) (by omega) (by omega) ?_
                                exact kk σ_80 H locs ls hC_81 hP hD hS (lv_sub hl [8, 9, 10, 11, 12] rfl)
                              · exact absurd rfl h1099
                          · have hb1049 := g_nle (a := (Ls w).length) (b := ((Ls w).length - r)) h1049 (by omega) (by omega)
                            refine lv_aload_n hx hb dL_law_1052 rfl (lv_at hl 11 rfl) ?_
                            refine lv_iload hx hb dL_law_1053 (lv_at hl 6 rfl) ?_
                            refine lv_iload hx hb dL_law_1055 (lv_at hl 5 rfl) ?_
                            refine lv_iload hx hb dL_law_1057 (lv_at hl 0 rfl) ?_
                            refine lv_isub hx hb dL_law_1059 ?_
                            refine g_top (y := nI (((Ls w).length) - (((Ls w).length - r)))) (pk_sub (by omega)) ?_
                            refine lv_iconst (v := nI 1) hx hb dL_law_1060 (by decide) ?_
                            refine lv_isub hx hb dL_law_1061 ?_
                            refine g_top (y := nI ((((Ls w).length) - (((Ls w).length - r))) - 1)) (pk_sub (by omega)) ?_
                            refine h_callV (y := yX2_at) (n := 2) (As := [.int (nI w), .int (nI ((((Ls w).length) - (((Ls w).length - r))) - 1))]) (rest := []) hx hb hml hown hts hE hZ hS hl.1 ((n_at l hst D hAD σ_72 L2 hC_73 hvC2 w ((((Ls w).length) - (((Ls w).length - r))) - 1) hw (by omega)).h hAD) h_P0 (h_prf hP) (h_AP hD hS hAs) (fun _ _ _ => trivial) (h_jP hP hD (h_AP hD hS hAs)) k_L_101 (wr := (g_W D σ_72)) (q0 := 0) (ci := 2) (h_prf hP) (g_at (by decide) hC_73.1) rfl rfl rfl rfl ⟨Nat.le_of_ble_eq_true rfl, Nat.le_of_ble_eq_true rfl⟩ (Nat.le_of_ble_eq_true rfl) ⟨Nat.le_trans (show (((((((((((((((((((cells + 0) + 5) + 0) + 5) + 5) + 5) + 5) + 5) + 5) + 5) + 0) + 5) + 0) + 5) + 5) + 5) + 5) + 5) + 5) + 5 ≤ 510000 by omega) rC_, Nat.le_trans (show (((((((((((((((((((slots + 0) + 30) + 0) + 30) + 30) + 30) + 30) + 30) + 30) + 30) + 0) + 30) + 0) + 30) + 30) + 30) + 30) + 30) + 30) + 30 ≤ 6100000 by omega) rS_⟩ dL_law_1062 (fun v85 w1 H locs hq hP hD hS => ?_)
                            obtain ⟨σ_83, ⟨rfl, hC_84⟩, rfl⟩ := hq
                            have hP : va_P D vwCl ((g_W D σ_83) ++ xs) H := hP
                            have hD : va_D A ((g_W D σ_83) ++ xs) := hD
                            refine W.widen (k := ((((((((((((((((((((cells + 0) + 5) + 0) + 5) + 5) + 5) + 5) + 5) + 5) + 5) + 0) + 5) + 0) + 5) + 5) + 5) + 5) + 5) + 5) + 5)) (n := ((((((((((((((((((((slots + 0) + 30) + 0) + 30) + 30) + 30) + 30) + 30) + 30) + 30) + 0) + 30) + 0) + 30) + 30) + 30) + 30) + 30) + 30) + 30)) (Nat.le_refl _) (Nat.le_refl _) ?_
                            refine W.eq (g2 := F0 m 1065 ls [.int (fn_ (L2 w) ((((Ls w).length) - (((Ls w).length - r))) - 1))]) rfl ?_
                            refine lv_iload hx hb dL_law_1065 (lv_at hl 1 rfl) ?_
                            refine lv_icmp_lt (tgt := 1072) hx hb dL_law_1067 (by decide) (fun h1067 => ?_) (fun h1067 => ?_)
                            · refine lv_aload_n hx hb dL_law_1072 rfl (lv_at hl 11 rfl) ?_
                              refine lv_iconst (v := nI 1) hx hb dL_law_1073 (by decide) ?_
                              refine lv_iload hx hb dL_law_1074 (lv_at hl 6 rfl) ?_
                              refine lv_isub hx hb dL_law_1076 ?_
                              refine g_top (y := nI (1 - w)) (pk_sub (by omega)) ?_
                              refine lv_iload hx hb dL_law_1077 (lv_at hl 8 rfl) ?_
                              refine lv_bipush (v := nI 6) hx hb dL_law_1079 (by decide) ?_
                              refine lv_ishr hx hb dL_law_1081 ?_
                              refine lv_iconst (v := nI 4) hx hb dL_law_1082 (by decide) ?_
                              refine h_callS (y := yL_below) (n := 2) (As := [.int (xx >>> ((nI 6) &&& 31)), .int (nI 4)]) (rest := [.int (nI (1 - w)), .ref (ad_ D 0)]) hx hb hml hown hts hE hZ hS hl.1 (m_L_below l D (xx >>> ((nI 6) &&& 31)) 4 (by decide) (by decide)) h_P0 h_P0 (h_Anil hS hAs) (fun _ _ _ => trivial) (h_jR hP hD (h_Anil hS hAs)) k_L_9 rfl rfl ⟨Nat.le_of_ble_eq_true rfl, Nat.le_of_ble_eq_true rfl⟩ (Nat.le_of_ble_eq_true rfl) ⟨Nat.le_trans (show ((((((((((((((((((((cells + 0) + 5) + 0) + 5) + 5) + 5) + 5) + 5) + 5) + 5) + 0) + 5) + 0) + 5) + 5) + 5) + 5) + 5) + 5) + 5) + 0 ≤ 510000 by omega) rC_, Nat.le_trans (show ((((((((((((((((((((slots + 0) + 30) + 0) + 30) + 30) + 30) + 30) + 30) + 30) + 30) + 0) + 30) + 0) + 30) + 30) + 30) + 30) + 30) + 30) + 30) + 0 ≤ 6100000 by omega) rS_⟩ dL_law_1083 (fun v87 w1 H locs hq hP hD hS => ?_)
                              obtain ⟨bk86, hbk86, rfl, rfl⟩ := hq
                              rw [List.append_nil] at hP hD
                              have hP : va_P D vwCl ((g_W D σ_83) ++ xs) H := hP
                              have hD : va_D A ((g_W D σ_83) ++ xs) := hD
                              refine W.widen (k := (((((((((((((((((((((cells + 0) + 5) + 0) + 5) + 5) + 5) + 5) + 5) + 5) + 5) + 0) + 5) + 0) + 5) + 5) + 5) + 5) + 5) + 5) + 5) + 0)) (n := (((((((((((((((((((((slots + 0) + 30) + 0) + 30) + 30) + 30) + 30) + 30) + 30) + 30) + 0) + 30) + 0) + 30) + 30) + 30) + 30) + 30) + 30) + 30) + 0)) (Nat.le_refl _) (Nat.le_refl _) ?_
                              refine W.eq (g2 := F0 m 1086 ls [.int (nI bk86), .int (nI (1 - w)), .ref (ad_ D 0)]) rfl ?_
                              refine h_callV (y := yX2_merge) (n := 2) (As := [.int (nI (1 - w)), .int (nI bk86)]) (rest := []) hx hb hml hown hts hE hZ hS hl.1 ((n_merge l hst D hAD σ_83 L2 hC_84 hvC2 (1 - w) bk86 (by omega) (by omega) (by rw [show 1 - (1 - w) = w by omega]; omega)).h hAD) h_P0 (h_prf hP) (h_AP hD hS hAs) (fun _ _ _ => trivial) (h_jP hP hD (h_AP hD hS hAs)) k_L_64 (wr := (g_W D σ_83)) (q0 := 0) (ci := 2) (h_prf hP) (g_at (by decide) hC_84.1) rfl rfl rfl rfl ⟨Nat.le_of_ble_eq_true rfl, Nat.le_of_ble_eq_true rfl⟩ (Nat.le_of_ble_eq_true rfl) ⟨Nat.le_trans (show (((((((((((((((((((((cells + 0) + 5) + 0) + 5) + 5) + 5) + 5) + 5) + 5) + 5) + 0) + 5) + 0) + 5) + 5) + 5) + 5) + 5) + 5) + 5) + 0) + 5 ≤ 510000 by omega) rC_, Nat.le_trans (show (((((((((((((((((((((slots + 0) + 30) + 0) + 30) + 30) + 30) + 30) + 30) + 30) + 30) + 0) + 30) + 0) + 30) + 30) + 30) + 30) + 30) + 30) + 30) + 0) + 30 ≤ 6100000 by omega) rS_⟩ dL_law_1086 (fun v90 w1 H locs hq hP hD hS => ?_)
                              obtain ⟨σ_88, ⟨rfl, hC_89⟩, rfl⟩ := hq
                              have hP : va_P D vwCl ((g_W D σ_88) ++ xs) H := hP
                              have hD : va_D A ((g_W D σ_88) ++ xs) := hD
                              refine W.widen (k := ((((((((((((((((((((((cells + 0) + 5) + 0) + 5) + 5) + 5) + 5) + 5) + 5) + 5) + 0) + 5) + 0) + 5) + 5) + 5) + 5) + 5) + 5) + 5) + 0) + 5)) (n := ((((((((((((((((((((((slots + 0) + 30) + 0) + 30) + 30) + 30) + 30) + 30) + 30) + 30) + 0) + 30) + 0) + 30) + 30) + 30) + 30) + 30) + 30) + 30) + 0) + 30)) (Nat.le_refl _) (Nat.le_refl _) ?_
                              refine W.eq (g2 := F0 m 1089 ls [.int (nI (cm_ (L2 (1 - w)) (L2 (1 - (1 - w))) (L2 (1 - w)).length))]) rfl ?_
                              rw [(g5 bk86).1] at hC_89
                              refine g_top (y := nI 0) (by rw [(g5 0).2]) ?_
                              refine lv_if_ne (tgt := 1102) hx hb dL_law_1089 (by decide) (fun h1089 => ?_) (fun h1089 => ?_)
                              · exact absurd rfl h1089
                              · refine lv_aload_n hx hb dL_law_1092 rfl (lv_at hl 11 rfl) ?_
                                refine h_callV (y := yX2_digest) (n := 0) (As := []) (rest := []) hx hb hml hown hts hE hZ hS hl.1 ((n_digest l D hAD σ_88 Ls hC_89 hvC ).h hAD) h_P0 (h_prf hP) (h_AP hD hS hAs) (fun _ _ _ => trivial) (h_jP hP hD (h_AP hD hS hAs)) k_L_87 (wr := (g_W D σ_88)) (q0 := 0) (ci := 2) (h_prf hP) (g_at (by decide) hC_89.1) rfl rfl rfl rfl ⟨Nat.le_of_ble_eq_true rfl, Nat.le_of_ble_eq_true rfl⟩ (Nat.le_of_ble_eq_true rfl) ⟨Nat.le_trans (show ((((((((((((((((((((((cells + 0) + 5) + 0) + 5) + 5) + 5) + 5) + 5) + 5) + 5) + 0) + 5) + 0) + 5) + 5) + 5) + 5) + 5) + 5) + 5) + 0) + 5) + 0 ≤ 510000 by omega) rC_, Nat.le_trans (show ((((((((((((((((((((((slots + 0) + 30) + 0) + 30) + 30) + 30) + 30) + 30) + 30) + 30) + 0) + 30) + 0) + 30) + 30) + 30) + 30) + 30) + 30) + 30) + 0) + 30) + 0 ≤ 6100000 by omega) rS_⟩ dL_law_1093 (fun v93 w1 H locs hq hP hD hS => ?_)
                                obtain ⟨σ_91, ⟨rfl, hC_92⟩, rfl⟩ := hq
                                have hP : va_P D vwCl ((g_W D σ_91) ++ xs) H := hP
                                have hD : va_D A ((g_W D σ_91) ++ xs) := hD
                                refine W.widen (k := (((((((((((((((((((((((cells + 0) + 5) + 0) + 5) + 5) + 5) + 5) + 5) + 5) + 5) + 0) + 5) + 0) + 5) + 5) + 5) + 5) + 5) + 5) + 5) + 0) + 5) + 0)) (n := (((((((((((((((((((((((slots + 0) + 30) + 0) + 30) + 30) + 30) + 30) + 30) + 30) + 30) + 0) + 30) + 0) + 30) + 30) + 30) + 30) + 30) + 30) + 30) + 0) + 30) + 0)) (Nat.le_refl _) (Nat.le_refl _) ?_
                                refine W.eq (g2 := F0 m 1096 ls [.long (di_ (Ls 0) (Ls 1))]) rfl ?_
                                refine lv_lload hx hb dL_law_1096 (lv_at hl 7 rfl) ?_
                                refine W.lcmp hx hb dL_law_1098 ?_
                                refine g_top (y := nI 0) lg_self ?_
                                refine lv_if_eq (tgt := 1104) hx hb dL_law_1099 (by decide) (fun h1099 => ?_) (fun h1099 => ?_)
                                · refine W.widen (k := cells + 250) (n := slots + 1500) (by omega) (by omega) ?_
                                  exact kk σ_91 H locs ls hC_92 hP hD hS (lv_sub hl [8, 9, 10, 11, 12] rfl)
                                · exact absurd rfl h1099
                            · exact absurd (by rw [g1, show (Ls w).length - ((Ls w).length - r) - 1 = r - 1 by omega]; exact hlo (by omega)) h1067
            · have hb950 := g_nle (a := (Ls (1 - w)).length) (b := 0) h950 (by omega) (by omega)
              refine lv_goto (tgt := 1104) hx hb dL_law_953 (by decide) ?_
              refine W.widen (k := cells + 250) (n := slots + 1500) (by omega) (by omega) ?_
              exact kk σ_33 H locs ls hC_34 hP hD hS (lv_sub hl [6, 7, 8, 9, 10] rfl)
          · exact absurd rfl h936
        · exact absurd rfl h915
  · have hb838 := g_eq (a := (Ls w).length) (b := 0) h838 (by omega) (by omega)
    refine lv_goto (tgt := 1104) hx hb dL_law_841 (by decide) ?_
    refine W.widen (k := cells + 250) (n := slots + 1500) (by omega) (by omega) ?_
    exact kk σ_3 H locs ls hC_4 hP hD hS (lv_sub hl [3, 4, 5, 6, 7] rfl)
