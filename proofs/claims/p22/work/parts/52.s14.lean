theorem rC_ : 510000 ≤ room_1.cells := Nat.le_of_ble_eq_true rfl
theorem rS_ : 6100000 ≤ room_1.slots := Nat.le_of_ble_eq_true rfl
theorem mo_fn {L : g_L} (h : vL_ L) {k : Nat} (hk : k < L.length) : 0 ≤ mo_ L (fn_ L k) ∧ mo_ L (fn_ L k) ≤ 999 := by
  have hm : (fn_ L k, gn_ L k) ∈ L := by
    have e : L[k] = (fn_ L k, gn_ L k) := by
      unfold fn_ gn_
      simp [List.getD_eq_getElem?_getD, hk]
    rw [← e]
    exact List.getElem_mem hk
  rw [mo_mem h hm]
  exact h.2.2 k hk
set_option maxHeartbeats 4000000 in
set_option maxRecDepth 100000 in
theorem lw_a1 {p : Program} {l : Launch} {e : Env} {s : State} {m : MethodId} {args : Array Value} {below : List Frame} {meth : Method} {c : Code} {H : Heap} {locs : List Loc} {Q : State → Prop} {A : Nat → Prop} {cells slots : Nat} {D : va_G} {σ : Nat → va_E} {Ls : Nat → g_L} {xs : va_W} {w : Nat} {b qs t : Nat} {xx : Int32} {bf : Int64} (hst : l.stackTraces = false) (hAD : g_AD D) (hAs : ∀ q, s.heap.size ≤ q → A q) (hvC : vC_ Ls) (hx : p.tables.exec = Jvm.exec) (hb : c.code = cL_law) (hml : c.maxLocals = 15) (hown : s.vm.findClass RL = some m.cls) (hts : ∀ w ∈ g_WA, w.before args s = true) (hE : g_EV D s) (hZ : g_EZ A s s.heap) (hw : w ≤ 1) (hC : g_C D σ Ls) (hcl : cells ≤ 480000) (hsl : slots ≤ 5700000) (hP : va_P D vwCl (g_W D σ ++ xs) H) (hD : va_D A (g_W D σ ++ xs)) (hS : va_S A s.heap H locs) {ls : Array Slot} (hl : lv_has ls 15 [(7, .int (nI w)), (5, .long bf), (4, .int xx), (3, .int (nI t)), (0, .ref b), (1, .ref (ad_ D 0)), (2, .ref qs)]) (kk : ∀ (σ1 : Nat → va_E) (H : Heap) (locs : List Loc) (ls : Array Slot), g_C D σ1 Ls → va_P D vwCl (g_W D σ1 ++ xs) H → va_D A (g_W D σ1 ++ xs) → va_S A s.heap H locs → lv_has ls 15 [(8, .int (nI ((Ls w).length))), (7, .int (nI w)), (5, .long bf), (4, .int xx), (3, .int (nI t)), (0, .ref b), (1, .ref (ad_ D 0)), (2, .ref qs)] → W p l e room_1 s m args below meth c H locs (cells + 15) (slots + 90) Q (F0 m 140 ls [])) : W p l e room_1 s m args below meth c H locs cells slots Q (F0 m 95 ls []) := by
  have hv := (hvC w hw).1
  have h24 := (hvC w hw).2
  have h48 : (Ls w).length ≤ 48 := by omega
  have c0 : cn_ (Ls w) 0 = nI (Ls w).length := by rw [(cn_row hv h48 (List.Perm.refl _) (k := 25) (by rw [List.length_map]; omega) (by decide)).1, List.length_map]
  have c1 : cn_ (Ls w) 1 = nI ((Ls w).length - 1) := by rw [(cn_row hv h48 (List.Perm.refl _) (k := 25) (by rw [List.length_map]; omega) (by decide)).2.1, List.length_map]
  refine lv_aload_n hx hb dL_law_95 rfl (lv_at hl 5 rfl) ?_
  refine lv_iload hx hb dL_law_96 (lv_at hl 0 rfl) ?_
  refine lv_iconst (v := nI 0) hx hb dL_law_98 (by decide) ?_
  refine h_callV (y := yX2_count) (n := 2) (As := [.int (nI w), .int (nI 0)]) (rest := []) hx hb hml hown hts hE hZ hS hl.1 ((n_count l hst D hAD σ Ls hC hvC w 0 hw (by omega)).h hAD) h_P0 (h_prf hP) (h_AP hD hS hAs) (fun _ _ _ => trivial) (h_jP hP hD (h_AP hD hS hAs)) k_L_91 (wr := (g_W D σ)) (q0 := 0) (ci := 2) (h_prf hP) (g_at (by decide) hC.1) rfl rfl rfl rfl ⟨Nat.le_of_ble_eq_true rfl, Nat.le_of_ble_eq_true rfl⟩ (Nat.le_of_ble_eq_true rfl) ⟨Nat.le_trans (show cells + 5 ≤ 510000 by omega) rC_, Nat.le_trans (show slots + 30 ≤ 6100000 by omega) rS_⟩ dL_law_99 (fun v3 w1 H locs hq hP hD hS => ?_)
  obtain ⟨σ_1, ⟨rfl, hC_2⟩, rfl⟩ := hq
  have hP : va_P D vwCl ((g_W D σ_1) ++ xs) H := hP
  have hD : va_D A ((g_W D σ_1) ++ xs) := hD
  refine W.widen (k := (cells + 5)) (n := (slots + 30)) (Nat.le_refl _) (Nat.le_refl _) ?_
  refine W.eq (g2 := F0 m 102 ls [.int (cn_ (Ls w) 0)]) rfl ?_
  refine g_top (y := nI ((Ls w).length)) (c0) ?_
  refine lv_istore (lv' := [(8, .int (nI ((Ls w).length))), (7, .int (nI w)), (5, .long bf), (4, .int xx), (3, .int (nI t)), (0, .ref b), (1, .ref (ad_ D 0)), (2, .ref qs)]) hx hb dL_law_102 hl (by decide) rfl (fun ls hl => ?_)
  refine lv_aload_n hx hb dL_law_104 rfl (lv_at hl 6 rfl) ?_
  refine lv_iload hx hb dL_law_105 (lv_at hl 1 rfl) ?_
  refine lv_iconst (v := nI 1) hx hb dL_law_107 (by decide) ?_
  refine h_callV (y := yX2_count) (n := 2) (As := [.int (nI w), .int (nI 1)]) (rest := []) hx hb hml hown hts hE hZ hS hl.1 ((n_count l hst D hAD σ_1 Ls hC_2 hvC w 1 hw (by omega)).h hAD) h_P0 (h_prf hP) (h_AP hD hS hAs) (fun _ _ _ => trivial) (h_jP hP hD (h_AP hD hS hAs)) k_L_91 (wr := (g_W D σ_1)) (q0 := 0) (ci := 2) (h_prf hP) (g_at (by decide) hC_2.1) rfl rfl rfl rfl ⟨Nat.le_of_ble_eq_true rfl, Nat.le_of_ble_eq_true rfl⟩ (Nat.le_of_ble_eq_true rfl) ⟨Nat.le_trans (show (cells + 5) + 5 ≤ 510000 by omega) rC_, Nat.le_trans (show (slots + 30) + 30 ≤ 6100000 by omega) rS_⟩ dL_law_108 (fun v6 w1 H locs hq hP hD hS => ?_)
  obtain ⟨σ_4, ⟨rfl, hC_5⟩, rfl⟩ := hq
  have hP : va_P D vwCl ((g_W D σ_4) ++ xs) H := hP
  have hD : va_D A ((g_W D σ_4) ++ xs) := hD
  refine W.widen (k := ((cells + 5) + 5)) (n := ((slots + 30) + 30)) (Nat.le_refl _) (Nat.le_refl _) ?_
  refine W.eq (g2 := F0 m 111 ls [.int (cn_ (Ls w) 1)]) rfl ?_
  refine g_top (y := nI ((Ls w).length - 1)) (c1) ?_
  refine lv_iconst (v := nI 0) hx hb dL_law_111 (by decide) ?_
  refine lv_iload hx hb dL_law_112 (lv_at hl 0 rfl) ?_
  refine lv_iconst (v := nI 1) hx hb dL_law_114 (by decide) ?_
  refine lv_isub hx hb dL_law_115 ?_
  refine g_mmax hx hb (hml.trans hl.1.symm) hown hts k_L_94 k_max ⟨Nat.le_of_ble_eq_true rfl, Nat.le_of_ble_eq_true rfl, Nat.le_trans (show ((cells + 5) + 5) ≤ 510000 by omega) rC_, Nat.le_trans (show ((slots + 30) + 30) ≤ 6100000 by omega) rS_⟩ dL_law_116 ?_
  refine g_top (y := nI ((Ls w).length - 1)) (mx_pred (by omega)) ?_
  refine lv_icmp_ne (tgt := 138) hx hb dL_law_119 (by decide) (fun h119 => ?_) (fun h119 => ?_)
  · exact absurd rfl h119
  · refine lv_iload hx hb dL_law_122 (lv_at hl 0 rfl) ?_
    refine lv_iconst (v := nI 2) hx hb dL_law_124 (by decide) ?_
    refine lv_icmp_ge (tgt := 140) hx hb dL_law_125 (by decide) (fun h125 => ?_) (fun h125 => ?_)
    · have hb125 := g_le (a := 2) (b := (Ls w).length) h125 (by omega) (by omega)
      refine W.widen (k := cells + 15) (n := slots + 90) (by omega) (by omega) ?_
      exact kk σ_4 H locs ls hC_5 hP hD hS (lv_sub hl [0, 1, 2, 3, 4, 5, 6, 7] rfl)
    · have hb125 := g_nle (a := 2) (b := (Ls w).length) h125 (by omega) (by omega)
      refine lv_aload_n hx hb dL_law_128 rfl (lv_at hl 6 rfl) ?_
      refine lv_iload hx hb dL_law_129 (lv_at hl 1 rfl) ?_
      refine h_callV (y := yX2_far) (n := 1) (As := [.int (nI w)]) (rest := []) hx hb hml hown hts hE hZ hS hl.1 ((n_far l hst D hAD σ_4 Ls hC_5 hvC w hw).h hAD) h_P0 (h_prf hP) (h_AP hD hS hAs) (fun _ _ _ => trivial) (h_jP hP hD (h_AP hD hS hAs)) k_L_97 (wr := (g_W D σ_4)) (q0 := 0) (ci := 2) (h_prf hP) (g_at (by decide) hC_5.1) rfl rfl rfl rfl ⟨Nat.le_of_ble_eq_true rfl, Nat.le_of_ble_eq_true rfl⟩ (Nat.le_of_ble_eq_true rfl) ⟨Nat.le_trans (show ((cells + 5) + 5) + 5 ≤ 510000 by omega) rC_, Nat.le_trans (show ((slots + 30) + 30) + 30 ≤ 6100000 by omega) rS_⟩ dL_law_131 (fun v9 w1 H locs hq hP hD hS => ?_)
      obtain ⟨σ_7, ⟨rfl, hC_8⟩, rfl⟩ := hq
      have hP : va_P D vwCl ((g_W D σ_7) ++ xs) H := hP
      have hD : va_D A ((g_W D σ_7) ++ xs) := hD
      refine W.widen (k := (((cells + 5) + 5) + 5)) (n := (((slots + 30) + 30) + 30)) (Nat.le_refl _) (Nat.le_refl _) ?_
      refine W.eq (g2 := F0 m 134 ls [.int (fa_ (Ls w) (Ls w).length)]) rfl ?_
      refine g_top (y := (-1)) (fa_1 (by omega)) ?_
      refine lv_iconst (v := (-1)) hx hb dL_law_134 (by decide) ?_
      refine lv_icmp_eq (tgt := 140) hx hb dL_law_135 (by decide) (fun h135 => ?_) (fun h135 => ?_)
      · refine W.widen (k := cells + 15) (n := slots + 90) (by omega) (by omega) ?_
        exact kk σ_7 H locs ls hC_8 hP hD hS (lv_sub hl [0, 1, 2, 3, 4, 5, 6, 7] rfl)
      · exact absurd rfl h135

set_option maxHeartbeats 4000000 in
set_option maxRecDepth 100000 in
theorem lw_a2a {p : Program} {l : Launch} {e : Env} {s : State} {m : MethodId} {args : Array Value} {below : List Frame} {meth : Method} {c : Code} {H : Heap} {locs : List Loc} {Q : State → Prop} {A : Nat → Prop} {cells slots : Nat} {D : va_G} {σ : Nat → va_E} {Ls : Nat → g_L} {xs : va_W} {w : Nat} {b qs t : Nat} {xx : Int32} {bf : Int64} {k u9 v9 : Nat} (hst : l.stackTraces = false) (hAD : g_AD D) (hAs : ∀ q, s.heap.size ≤ q → A q) (hvC : vC_ Ls) (hx : p.tables.exec = Jvm.exec) (hb : c.code = cL_law) (hml : c.maxLocals = 15) (hown : s.vm.findClass RL = some m.cls) (hts : ∀ w ∈ g_WA, w.before args s = true) (hE : g_EV D s) (hZ : g_EZ A s s.heap) (hw : w ≤ 1) (hk : k < (Ls w).length) (hC : g_C D σ Ls) (hcl : cells ≤ 500000) (hsl : slots ≤ 6000000) (hP : va_P D vwCl (g_W D σ ++ xs) H) (hD : va_D A (g_W D σ ++ xs)) (hS : va_S A s.heap H locs) {ls : Array Slot} (hl : lv_has ls 15 [(11, .int (nI k)), (8, .int (nI ((Ls w).length))), (9, .int (nI u9)), (10, .int (nI v9)), (7, .int (nI w)), (5, .long bf), (4, .int xx), (3, .int (nI t)), (0, .ref b), (1, .ref (ad_ D 0)), (2, .ref qs)]) (kk : ∀ (σ1 : Nat → va_E) (H : Heap) (locs : List Loc) (ls : Array Slot), g_C D σ1 Ls → va_P D vwCl (g_W D σ1 ++ xs) H → va_D A (g_W D σ1 ++ xs) → va_S A s.heap H locs → lv_has ls 15 [(12, .int (fn_ (Ls w) k)), (13, .int (nI (dp_ (Ls w) k))), (11, .int (nI k)), (8, .int (nI ((Ls w).length))), (9, .int (nI u9)), (10, .int (nI v9)), (7, .int (nI w)), (5, .long bf), (4, .int xx), (3, .int (nI t)), (0, .ref b), (1, .ref (ad_ D 0)), (2, .ref qs)] → W p l e room_1 s m args below meth c H locs (cells + 45) (slots + 270) Q (F0 m 279 ls [])) : W p l e room_1 s m args below meth c H locs cells slots Q (F0 m 156 ls []) := by
  have hv := (hvC w hw).1
  have h24 := (hvC w hw).2
  have h48 : (Ls w).length ≤ 48 := by omega
  have hnk := nm_fn hv hk
  obtain ⟨t0, t1, t2⟩ := tw_at hv h48 hk
  have hmo : 0 ≤ mo_ (Ls w) (fn_ (Ls w) k) ∧ mo_ (Ls w) (fn_ (Ls w) k) ≤ 999 := mo_fn hv hk
  refine lv_aload_n hx hb dL_law_156 rfl (lv_at hl 9 rfl) ?_
  refine lv_iload hx hb dL_law_157 (lv_at hl 4 rfl) ?_
  refine lv_iload hx hb dL_law_159 (lv_at hl 0 rfl) ?_
  refine h_callV (y := yX2_at) (n := 2) (As := [.int (nI w), .int (nI k)]) (rest := []) hx hb hml hown hts hE hZ hS hl.1 ((n_at l hst D hAD σ Ls hC hvC w k hw (by omega)).h hAD) h_P0 (h_prf hP) (h_AP hD hS hAs) (fun _ _ _ => trivial) (h_jP hP hD (h_AP hD hS hAs)) k_L_101 (wr := (g_W D σ)) (q0 := 0) (ci := 2) (h_prf hP) (g_at (by decide) hC.1) rfl rfl rfl rfl ⟨Nat.le_of_ble_eq_true rfl, Nat.le_of_ble_eq_true rfl⟩ (Nat.le_of_ble_eq_true rfl) ⟨Nat.le_trans (show cells + 5 ≤ 510000 by omega) rC_, Nat.le_trans (show slots + 30 ≤ 6100000 by omega) rS_⟩ dL_law_161 (fun v3 w1 H locs hq hP hD hS => ?_)
  obtain ⟨σ_1, ⟨rfl, hC_2⟩, rfl⟩ := hq
  have hP : va_P D vwCl ((g_W D σ_1) ++ xs) H := hP
  have hD : va_D A ((g_W D σ_1) ++ xs) := hD
  refine W.widen (k := (cells + 5)) (n := (slots + 30)) (Nat.le_refl _) (Nat.le_refl _) ?_
  refine W.eq (g2 := F0 m 164 ls [.int (fn_ (Ls w) k)]) rfl ?_
  refine lv_istore (lv' := [(12, .int (fn_ (Ls w) k)), (11, .int (nI k)), (8, .int (nI ((Ls w).length))), (9, .int (nI u9)), (10, .int (nI v9)), (7, .int (nI w)), (5, .long bf), (4, .int xx), (3, .int (nI t)), (0, .ref b), (1, .ref (ad_ D 0)), (2, .ref qs)]) hx hb dL_law_164 hl (by decide) rfl (fun ls hl => ?_)
  refine lv_aload_n hx hb dL_law_166 rfl (lv_at hl 10 rfl) ?_
  refine lv_iload hx hb dL_law_167 (lv_at hl 5 rfl) ?_
  refine lv_iload hx hb dL_law_169 (lv_at hl 0 rfl) ?_
  refine lv_iconst (v := nI 0) hx hb dL_law_171 (by decide) ?_
  refine h_callV (y := yX2_walk) (n := 3) (As := [.int (nI w), .int (fn_ (Ls w) k), .int (nI 0)]) (rest := []) hx hb hml hown hts hE hZ hS hl.1 ((n_walk l hst D hAD σ_1 Ls hC_2 hvC w (fn_ (Ls w) k) 0 hw hnk (by omega) (by omega)).h hAD) h_P0 (h_prf hP) (h_AP hD hS hAs) (fun _ _ _ => trivial) (h_jP hP hD (h_AP hD hS hAs)) k_L_104 (wr := (g_W D σ_1)) (q0 := 0) (ci := 2) (h_prf hP) (g_at (by decide) hC_2.1) rfl rfl rfl rfl ⟨Nat.le_of_ble_eq_true rfl, Nat.le_of_ble_eq_true rfl⟩ (Nat.le_of_ble_eq_true rfl) ⟨Nat.le_trans (show (cells + 5) + 5 ≤ 510000 by omega) rC_, Nat.le_trans (show (slots + 30) + 30 ≤ 6100000 by omega) rS_⟩ dL_law_172 (fun v6 w1 H locs hq hP hD hS => ?_)
  obtain ⟨σ_4, ⟨rfl, hC_5⟩, rfl⟩ := hq
  have hP : va_P D vwCl ((g_W D σ_4) ++ xs) H := hP
  have hD : va_D A ((g_W D σ_4) ++ xs) := hD
  refine W.widen (k := ((cells + 5) + 5)) (n := ((slots + 30) + 30)) (Nat.le_refl _) (Nat.le_refl _) ?_
  refine W.eq (g2 := F0 m 175 ls [.int (tw_ (tb_ (Ls w)) (fn_ (Ls w) k) 0)]) rfl ?_
  refine g_top (y := nI (dp_ (Ls w) k)) (t0) ?_
  refine lv_istore (lv' := [(13, .int (nI (dp_ (Ls w) k))), (12, .int (fn_ (Ls w) k)), (11, .int (nI k)), (8, .int (nI ((Ls w).length))), (9, .int (nI u9)), (10, .int (nI v9)), (7, .int (nI w)), (5, .long bf), (4, .int xx), (3, .int (nI t)), (0, .ref b), (1, .ref (ad_ D 0)), (2, .ref qs)]) hx hb dL_law_175 hl (by decide) rfl (fun ls hl => ?_)
  refine lv_aload_n hx hb dL_law_177 rfl (lv_at hl 11 rfl) ?_
  refine lv_iload hx hb dL_law_178 (lv_at hl 6 rfl) ?_
  refine lv_iload hx hb dL_law_180 (lv_at hl 1 rfl) ?_
  refine lv_iconst (v := nI 1) hx hb dL_law_182 (by decide) ?_
  refine h_callV (y := yX2_walk) (n := 3) (As := [.int (nI w), .int (fn_ (Ls w) k), .int (nI 1)]) (rest := []) hx hb hml hown hts hE hZ hS hl.1 ((n_walk l hst D hAD σ_4 Ls hC_5 hvC w (fn_ (Ls w) k) 1 hw hnk (by omega) (by omega)).h hAD) h_P0 (h_prf hP) (h_AP hD hS hAs) (fun _ _ _ => trivial) (h_jP hP hD (h_AP hD hS hAs)) k_L_104 (wr := (g_W D σ_4)) (q0 := 0) (ci := 2) (h_prf hP) (g_at (by decide) hC_5.1) rfl rfl rfl rfl ⟨Nat.le_of_ble_eq_true rfl, Nat.le_of_ble_eq_true rfl⟩ (Nat.le_of_ble_eq_true rfl) ⟨Nat.le_trans (show ((cells + 5) + 5) + 5 ≤ 510000 by omega) rC_, Nat.le_trans (show ((slots + 30) + 30) + 30 ≤ 6100000 by omega) rS_⟩ dL_law_183 (fun v9 w1 H locs hq hP hD hS => ?_)
  obtain ⟨σ_7, ⟨rfl, hC_8⟩, rfl⟩ := hq
  have hP : va_P D vwCl ((g_W D σ_7) ++ xs) H := hP
  have hD : va_D A ((g_W D σ_7) ++ xs) := hD
  refine W.widen (k := (((cells + 5) + 5) + 5)) (n := (((slots + 30) + 30) + 30)) (Nat.le_refl _) (Nat.le_refl _) ?_
  refine W.eq (g2 := F0 m 186 ls [.int (tw_ (tb_ (Ls w)) (fn_ (Ls w) k) 1)]) rfl ?_
  refine g_top (y := fn_ (Ls w) k) (t1) ?_
  refine lv_iload hx hb dL_law_186 (lv_at hl 1 rfl) ?_
  refine lv_icmp_ne (tgt := 242) hx hb dL_law_188 (by decide) (fun h188 => ?_) (fun h188 => ?_)
  · exact absurd rfl h188
  · refine lv_aload_n hx hb dL_law_191 rfl (lv_at hl 11 rfl) ?_
    refine lv_iload hx hb dL_law_192 (lv_at hl 6 rfl) ?_
    refine lv_iload hx hb dL_law_194 (lv_at hl 1 rfl) ?_
    refine lv_iconst (v := nI 2) hx hb dL_law_196 (by decide) ?_
    refine h_callV (y := yX2_walk) (n := 3) (As := [.int (nI w), .int (fn_ (Ls w) k), .int (nI 2)]) (rest := []) hx hb hml hown hts hE hZ hS hl.1 ((n_walk l hst D hAD σ_7 Ls hC_8 hvC w (fn_ (Ls w) k) 2 hw hnk (by omega) (by omega)).h hAD) h_P0 (h_prf hP) (h_AP hD hS hAs) (fun _ _ _ => trivial) (h_jP hP hD (h_AP hD hS hAs)) k_L_104 (wr := (g_W D σ_7)) (q0 := 0) (ci := 2) (h_prf hP) (g_at (by decide) hC_8.1) rfl rfl rfl rfl ⟨Nat.le_of_ble_eq_true rfl, Nat.le_of_ble_eq_true rfl⟩ (Nat.le_of_ble_eq_true rfl) ⟨Nat.le_trans (show (((cells + 5) + 5) + 5) + 5 ≤ 510000 by omega) rC_, Nat.le_trans (show (((slots + 30) + 30) + 30) + 30 ≤ 6100000 by omega) rS_⟩ dL_law_197 (fun v12 w1 H locs hq hP hD hS => ?_)
    obtain ⟨σ_10, ⟨rfl, hC_11⟩, rfl⟩ := hq
    have hP : va_P D vwCl ((g_W D σ_10) ++ xs) H := hP
    have hD : va_D A ((g_W D σ_10) ++ xs) := hD
    refine W.widen (k := ((((cells + 5) + 5) + 5) + 5)) (n := ((((slots + 30) + 30) + 30) + 30)) (Nat.le_refl _) (Nat.le_refl _) ?_
    refine W.eq (g2 := F0 m 200 ls [.int (tw_ (tb_ (Ls w)) (fn_ (Ls w) k) 2)]) rfl ?_
    refine g_top (y := (-1)) (t2) ?_
    refine lv_iconst (v := (-1)) hx hb dL_law_200 (by decide) ?_
    refine lv_icmp_ne (tgt := 242) hx hb dL_law_201 (by decide) (fun h201 => ?_) (fun h201 => ?_)
    · exact absurd rfl h201
    · refine lv_aload_n hx hb dL_law_204 rfl (lv_at hl 11 rfl) ?_
      refine lv_iload hx hb dL_law_205 (lv_at hl 6 rfl) ?_
      refine lv_iload hx hb dL_law_207 (lv_at hl 1 rfl) ?_
      refine h_callV (y := yX2_near) (n := 2) (As := [.int (nI w), .int (fn_ (Ls w) k)]) (rest := []) hx hb hml hown hts hE hZ hS hl.1 ((n_near l hst D hAD σ_10 Ls hC_11 hvC w (fn_ (Ls w) k) hw hnk).h hAD) h_P0 (h_prf hP) (h_AP hD hS hAs) (fun _ _ _ => trivial) (h_jP hP hD (h_AP hD hS hAs)) k_L_107 (wr := (g_W D σ_10)) (q0 := 0) (ci := 2) (h_prf hP) (g_at (by decide) hC_11.1) rfl rfl rfl rfl ⟨Nat.le_of_ble_eq_true rfl, Nat.le_of_ble_eq_true rfl⟩ (Nat.le_of_ble_eq_true rfl) ⟨Nat.le_trans (show ((((cells + 5) + 5) + 5) + 5) + 5 ≤ 510000 by omega) rC_, Nat.le_trans (show ((((slots + 30) + 30) + 30) + 30) + 30 ≤ 6100000 by omega) rS_⟩ dL_law_209 (fun v15 w1 H locs hq hP hD hS => ?_)
      obtain ⟨σ_13, ⟨rfl, hC_14⟩, rfl⟩ := hq
      have hP : va_P D vwCl ((g_W D σ_13) ++ xs) H := hP
      have hD : va_D A ((g_W D σ_13) ++ xs) := hD
      refine W.widen (k := (((((cells + 5) + 5) + 5) + 5) + 5)) (n := (((((slots + 30) + 30) + 30) + 30) + 30)) (Nat.le_refl _) (Nat.le_refl _) ?_
      refine W.eq (g2 := F0 m 212 ls [.int (ne_ (Ls w) (fn_ (Ls w) k) (Ls w).length)]) rfl ?_
      refine g_top (y := fn_ (Ls w) k) (near_at hv hk) ?_
      refine lv_iload hx hb dL_law_212 (lv_at hl 1 rfl) ?_
      refine lv_icmp_ne (tgt := 242) hx hb dL_law_214 (by decide) (fun h214 => ?_) (fun h214 => ?_)
      · exact absurd rfl h214
      · refine lv_aload_n hx hb dL_law_217 rfl (lv_at hl 11 rfl) ?_
        refine lv_iload hx hb dL_law_218 (lv_at hl 6 rfl) ?_
        refine lv_iload hx hb dL_law_220 (lv_at hl 1 rfl) ?_
        refine h_callV (y := yX2_miles) (n := 2) (As := [.int (nI w), .int (fn_ (Ls w) k)]) (rest := []) hx hb hml hown hts hE hZ hS hl.1 ((n_miles l hst D hAD σ_13 Ls hC_14 hvC w (fn_ (Ls w) k) hw hnk).h hAD) h_P0 (h_prf hP) (h_AP hD hS hAs) (fun _ _ _ => trivial) (h_jP hP hD (h_AP hD hS hAs)) k_L_110 (wr := (g_W D σ_13)) (q0 := 0) (ci := 2) (h_prf hP) (g_at (by decide) hC_14.1) rfl rfl rfl rfl ⟨Nat.le_of_ble_eq_true rfl, Nat.le_of_ble_eq_true rfl⟩ (Nat.le_of_ble_eq_true rfl) ⟨Nat.le_trans (show (((((cells + 5) + 5) + 5) + 5) + 5) + 5 ≤ 510000 by omega) rC_, Nat.le_trans (show (((((slots + 30) + 30) + 30) + 30) + 30) + 30 ≤ 6100000 by omega) rS_⟩ dL_law_222 (fun v18 w1 H locs hq hP hD hS => ?_)
        obtain ⟨σ_16, ⟨rfl, hC_17⟩, rfl⟩ := hq
        have hP : va_P D vwCl ((g_W D σ_16) ++ xs) H := hP
        have hD : va_D A ((g_W D σ_16) ++ xs) := hD
        refine W.widen (k := ((((((cells + 5) + 5) + 5) + 5) + 5) + 5)) (n := ((((((slots + 30) + 30) + 30) + 30) + 30) + 30)) (Nat.le_refl _) (Nat.le_refl _) ?_
        refine W.eq (g2 := F0 m 225 ls [.int (mo_ (Ls w) (fn_ (Ls w) k))]) rfl ?_
        refine lv_if_lt (tgt := 242) hx hb dL_law_225 (by decide) (fun h225 => ?_) (fun h225 => ?_)
        · exact absurd hmo.1 (Int32.not_le.mpr h225)
        · refine lv_aload_n hx hb dL_law_228 rfl (lv_at hl 11 rfl) ?_
          refine lv_iload hx hb dL_law_229 (lv_at hl 6 rfl) ?_
          refine lv_iload hx hb dL_law_231 (lv_at hl 1 rfl) ?_
          refine h_callV (y := yX2_miles) (n := 2) (As := [.int (nI w), .int (fn_ (Ls w) k)]) (rest := []) hx hb hml hown hts hE hZ hS hl.1 ((n_miles l hst D hAD σ_16 Ls hC_17 hvC w (fn_ (Ls w) k) hw hnk).h hAD) h_P0 (h_prf hP) (h_AP hD hS hAs) (fun _ _ _ => trivial) (h_jP hP hD (h_AP hD hS hAs)) k_L_110 (wr := (g_W D σ_16)) (q0 := 0) (ci := 2) (h_prf hP) (g_at (by decide) hC_17.1) rfl rfl rfl rfl ⟨Nat.le_of_ble_eq_true rfl, Nat.le_of_ble_eq_true rfl⟩ (Nat.le_of_ble_eq_true rfl) ⟨Nat.le_trans (show ((((((cells + 5) + 5) + 5) + 5) + 5) + 5) + 5 ≤ 510000 by omega) rC_, Nat.le_trans (show ((((((slots + 30) + 30) + 30) + 30) + 30) + 30) + 30 ≤ 6100000 by omega) rS_⟩ dL_law_233 (fun v21 w1 H locs hq hP hD hS => ?_)
          obtain ⟨σ_19, ⟨rfl, hC_20⟩, rfl⟩ := hq
          have hP : va_P D vwCl ((g_W D σ_19) ++ xs) H := hP
          have hD : va_D A ((g_W D σ_19) ++ xs) := hD
          refine W.widen (k := (((((((cells + 5) + 5) + 5) + 5) + 5) + 5) + 5)) (n := (((((((slots + 30) + 30) + 30) + 30) + 30) + 30) + 30)) (Nat.le_refl _) (Nat.le_refl _) ?_
          refine W.eq (g2 := F0 m 236 ls [.int (mo_ (Ls w) (fn_ (Ls w) k))]) rfl ?_
          refine lv_sipush (v := nI 999) hx hb dL_law_236 (by decide) ?_
          refine lv_icmp_le (tgt := 244) hx hb dL_law_239 (by decide) (fun h239 => ?_) (fun h239 => ?_)
          · refine lv_aload_n hx hb dL_law_244 rfl (lv_at hl 11 rfl) ?_
            refine lv_iload hx hb dL_law_245 (lv_at hl 6 rfl) ?_
            refine lv_iload hx hb dL_law_247 (lv_at hl 1 rfl) ?_
            refine lv_iconst (v := nI 1) hx hb dL_law_249 (by decide) ?_
            refine h_callV (y := yX2_step) (n := 3) (As := [.int (nI w), .int (fn_ (Ls w) k), .int (nI 1)]) (rest := []) hx hb hml hown hts hE hZ hS hl.1 ((n_step l hst D hAD σ_19 Ls hC_20 hvC w (fn_ (Ls w) k) (nI 1) hw hnk).h hAD) h_P0 (h_prf hP) (h_AP hD hS hAs) (fun _ _ _ => trivial) (h_jP hP hD (h_AP hD hS hAs)) k_L_112 (wr := (g_W D σ_19)) (q0 := 0) (ci := 2) (h_prf hP) (g_at (by decide) hC_20.1) rfl rfl rfl rfl ⟨Nat.le_of_ble_eq_true rfl, Nat.le_of_ble_eq_true rfl⟩ (Nat.le_of_ble_eq_true rfl) ⟨Nat.le_trans (show (((((((cells + 5) + 5) + 5) + 5) + 5) + 5) + 5) + 5 ≤ 510000 by omega) rC_, Nat.le_trans (show (((((((slots + 30) + 30) + 30) + 30) + 30) + 30) + 30) + 30 ≤ 6100000 by omega) rS_⟩ dL_law_250 (fun v24 w1 H locs hq hP hD hS => ?_)
            obtain ⟨σ_22, ⟨rfl, hC_23⟩, rfl⟩ := hq
            have hP : va_P D vwCl ((g_W D σ_22) ++ xs) H := hP
            have hD : va_D A ((g_W D σ_22) ++ xs) := hD
            refine W.widen (k := ((((((((cells + 5) + 5) + 5) + 5) + 5) + 5) + 5) + 5)) (n := ((((((((slots + 30) + 30) + 30) + 30) + 30) + 30) + 30) + 30)) (Nat.le_refl _) (Nat.le_refl _) ?_
            refine W.eq (g2 := F0 m 253 ls [.int (if (nI 1) = 0 then na_ (Ls w) (nI (rk_ (Ls w) (fn_ (Ls w) k)) - nI 1) else fn_ (Ls w) (rk_ (Ls w) ((fn_ (Ls w) k) + nI 1)))]) rfl ?_
            refine g_top (y := fn_ (Ls w) (k + 1)) (by rw [if_neg (by decide), step_u hv hk]) ?_
            refine lv_iload hx hb dL_law_253 (lv_at hl 2 rfl) ?_
            refine lv_iconst (v := nI 1) hx hb dL_law_255 (by decide) ?_
            refine lv_iadd hx hb dL_law_256 ?_
            refine g_top (y := nI (k + 1)) (nI_add k 1) ?_
            refine lv_iload hx hb dL_law_257 (lv_at hl 3 rfl) ?_
            refine lv_icmp_ge (tgt := 275) hx hb dL_law_259 (by decide) (fun h259 => ?_) (fun h259 => ?_)
            · have hb259 := g_le (a := (Ls w).length) (b := k + 1) h259 (by omega) (by omega)
              refine lv_iconst (v := (-1)) hx hb dL_law_275 (by decide) ?_
              refine lv_icmp_ne (tgt := 330) hx hb dL_law_276 (by decide) (fun h276 => ?_) (fun h276 => ?_)
              · first | exact absurd rfl h276 | exact absurd (fn_out (by omega)) h276
              · refine W.widen (k := cells + 45) (n := slots + 270) (by omega) (by omega) ?_
                exact kk σ_22 H locs ls hC_23 hP hD hS (lv_sub hl [1, 0, 2, 3, 4, 5, 6, 7, 8, 9, 10, 11, 12] rfl)
            · have hb259 := g_nle (a := (Ls w).length) (b := k + 1) h259 (by omega) (by omega)
              refine lv_aload_n hx hb dL_law_262 rfl (lv_at hl 11 rfl) ?_
              refine lv_iload hx hb dL_law_263 (lv_at hl 6 rfl) ?_
              refine lv_iload hx hb dL_law_265 (lv_at hl 2 rfl) ?_
              refine lv_iconst (v := nI 1) hx hb dL_law_267 (by decide) ?_
              refine lv_iadd hx hb dL_law_268 ?_
              refine g_top (y := nI (k + 1)) (nI_add k 1) ?_
              refine h_callV (y := yX2_at) (n := 2) (As := [.int (nI w), .int (nI (k + 1))]) (rest := [.int (fn_ (Ls w) (k + 1))]) hx hb hml hown hts hE hZ hS hl.1 ((n_at l hst D hAD σ_22 Ls hC_23 hvC w (k + 1) hw (by omega)).h hAD) h_P0 (h_prf hP) (h_AP hD hS hAs) (fun _ _ _ => trivial) (h_jP hP hD (h_AP hD hS hAs)) k_L_101 (wr := (g_W D σ_22)) (q0 := 0) (ci := 2) (h_prf hP) (g_at (by decide) hC_23.1) rfl rfl rfl rfl ⟨Nat.le_of_ble_eq_true rfl, Nat.le_of_ble_eq_true rfl⟩ (Nat.le_of_ble_eq_true rfl) ⟨Nat.le_trans (show ((((((((cells + 5) + 5) + 5) + 5) + 5) + 5) + 5) + 5) + 5 ≤ 510000 by omega) rC_, Nat.le_trans (show ((((((((slots + 30) + 30) + 30) + 30) + 30) + 30) + 30) + 30) + 30 ≤ 6100000 by omega) rS_⟩ dL_law_269 (fun v27 w1 H locs hq hP hD hS => ?_)
              obtain ⟨σ_25, ⟨rfl, hC_26⟩, rfl⟩ := hq
              have hP : va_P D vwCl ((g_W D σ_25) ++ xs) H := hP
              have hD : va_D A ((g_W D σ_25) ++ xs) := hD
              refine W.widen (k := (((((((((cells + 5) + 5) + 5) + 5) + 5) + 5) + 5) + 5) + 5)) (n := (((((((((slots + 30) + 30) + 30) + 30) + 30) + 30) + 30) + 30) + 30)) (Nat.le_refl _) (Nat.le_refl _) ?_
              refine W.eq (g2 := F0 m 272 ls [.int (fn_ (Ls w) (k + 1)), .int (fn_ (Ls w) (k + 1))]) rfl ?_
              refine lv_goto (tgt := 276) hx hb dL_law_272 (by decide) ?_
              refine lv_icmp_ne (tgt := 330) hx hb dL_law_276 (by decide) (fun h276 => ?_) (fun h276 => ?_)
              · first | exact absurd rfl h276 | exact absurd (fn_out (by omega)) h276
              · refine W.widen (k := cells + 45) (n := slots + 270) (by omega) (by omega) ?_
                exact kk σ_25 H locs ls hC_26 hP hD hS (lv_sub hl [1, 0, 2, 3, 4, 5, 6, 7, 8, 9, 10, 11, 12] rfl)
          · exact absurd hmo.2 h239

set_option maxHeartbeats 4000000 in
set_option maxRecDepth 100000 in
theorem lw_a2b {p : Program} {l : Launch} {e : Env} {s : State} {m : MethodId} {args : Array Value} {below : List Frame} {meth : Method} {c : Code} {H : Heap} {locs : List Loc} {Q : State → Prop} {A : Nat → Prop} {cells slots : Nat} {D : va_G} {σ : Nat → va_E} {Ls : Nat → g_L} {xs : va_W} {w : Nat} {b qs t : Nat} {xx : Int32} {bf : Int64} {k u9 v9 : Nat} (hst : l.stackTraces = false) (hAD : g_AD D) (hAs : ∀ q, s.heap.size ≤ q → A q) (hvC : vC_ Ls) (hx : p.tables.exec = Jvm.exec) (hb : c.code = cL_law) (hml : c.maxLocals = 15) (hown : s.vm.findClass RL = some m.cls) (hts : ∀ w ∈ g_WA, w.before args s = true) (hE : g_EV D s) (hZ : g_EZ A s s.heap) (hw : w ≤ 1) (hk : k < (Ls w).length) (hC : g_C D σ Ls) (hcl : cells ≤ 500000) (hsl : slots ≤ 6000000) (hP : va_P D vwCl (g_W D σ ++ xs) H) (hD : va_D A (g_W D σ ++ xs)) (hS : va_S A s.heap H locs) {ls : Array Slot} (hl : lv_has ls 15 [(12, .int (fn_ (Ls w) k)), (13, .int (nI (dp_ (Ls w) k))), (11, .int (nI k)), (8, .int (nI ((Ls w).length))), (9, .int (nI u9)), (10, .int (nI v9)), (7, .int (nI w)), (5, .long bf), (4, .int xx), (3, .int (nI t)), (0, .ref b), (1, .ref (ad_ D 0)), (2, .ref qs)]) (kk : ∀ (σ1 : Nat → va_E) (H : Heap) (locs : List Loc) (ls : Array Slot), g_C D σ1 Ls → va_P D vwCl (g_W D σ1 ++ xs) H → va_D A (g_W D σ1 ++ xs) → va_S A s.heap H locs → lv_has ls 15 [(12, .int (fn_ (Ls w) k)), (13, .int (nI (dp_ (Ls w) k))), (11, .int (nI k)), (8, .int (nI ((Ls w).length))), (9, .int (nI u9)), (10, .int (nI v9)), (7, .int (nI w)), (5, .long bf), (4, .int xx), (3, .int (nI t)), (0, .ref b), (1, .ref (ad_ D 0)), (2, .ref qs)] → W p l e room_1 s m args below meth c H locs (cells + 15) (slots + 90) Q (F0 m 332 ls [])) : W p l e room_1 s m args below meth c H locs cells slots Q (F0 m 279 ls []) := by
  have hv := (hvC w hw).1
  have h24 := (hvC w hw).2
  have h48 : (Ls w).length ≤ 48 := by omega
  have hnk := nm_fn hv hk
  refine lv_aload_n hx hb dL_law_279 rfl (lv_at hl 11 rfl) ?_
  refine lv_iload hx hb dL_law_280 (lv_at hl 6 rfl) ?_
  refine lv_iload hx hb dL_law_282 (lv_at hl 0 rfl) ?_
  refine lv_iconst (v := nI 0) hx hb dL_law_284 (by decide) ?_
  refine h_callV (y := yX2_step) (n := 3) (As := [.int (nI w), .int (fn_ (Ls w) k), .int (nI 0)]) (rest := []) hx hb hml hown hts hE hZ hS hl.1 ((n_step l hst D hAD σ Ls hC hvC w (fn_ (Ls w) k) (nI 0) hw hnk).h hAD) h_P0 (h_prf hP) (h_AP hD hS hAs) (fun _ _ _ => trivial) (h_jP hP hD (h_AP hD hS hAs)) k_L_112 (wr := (g_W D σ)) (q0 := 0) (ci := 2) (h_prf hP) (g_at (by decide) hC.1) rfl rfl rfl rfl ⟨Nat.le_of_ble_eq_true rfl, Nat.le_of_ble_eq_true rfl⟩ (Nat.le_of_ble_eq_true rfl) ⟨Nat.le_trans (show cells + 5 ≤ 510000 by omega) rC_, Nat.le_trans (show slots + 30 ≤ 6100000 by omega) rS_⟩ dL_law_285 (fun v3 w1 H locs hq hP hD hS => ?_)
  obtain ⟨σ_1, ⟨rfl, hC_2⟩, rfl⟩ := hq
  have hP : va_P D vwCl ((g_W D σ_1) ++ xs) H := hP
  have hD : va_D A ((g_W D σ_1) ++ xs) := hD
  refine W.widen (k := (cells + 5)) (n := (slots + 30)) (Nat.le_refl _) (Nat.le_refl _) ?_
  refine W.eq (g2 := F0 m 288 ls [.int (if (nI 0) = 0 then na_ (Ls w) (nI (rk_ (Ls w) (fn_ (Ls w) k)) - nI 1) else fn_ (Ls w) (rk_ (Ls w) ((fn_ (Ls w) k) + nI 1)))]) rfl ?_
  refine g_top (y := if k = 0 then -1 else fn_ (Ls w) (k - 1)) ((if_pos (show nI 0 = 0 from rfl)).trans (step_d hv h48 hk)) ?_
  refine lv_iload hx hb dL_law_288 (lv_at hl 2 rfl) ?_
  refine lv_if_le (tgt := 306) hx hb dL_law_290 (by decide) (fun h290 => ?_) (fun h290 => ?_)
  · have hb290 := g_le (a := k) (b := 0) h290 (by omega) (by omega)
    refine lv_iconst (v := (-1)) hx hb dL_law_306 (by decide) ?_
    refine lv_icmp_ne (tgt := 330) hx hb dL_law_307 (by decide) (fun h307 => ?_) (fun h307 => ?_)
    · first | exact absurd (if_pos (by omega)) h307 | exact absurd (if_neg (by omega)) h307
    · refine lv_iload hx hb dL_law_310 (lv_at hl 2 rfl) ?_
      refine lv_if_le (tgt := 332) hx hb dL_law_312 (by decide) (fun h312 => ?_) (fun h312 => ?_)
      · have hb312 := g_le (a := k) (b := 0) h312 (by omega) (by omega)
        refine W.widen (k := cells + 15) (n := slots + 90) (by omega) (by omega) ?_
        exact kk σ_1 H locs ls hC_2 hP hD hS (lv_sub hl [0, 1, 2, 3, 4, 5, 6, 7, 8, 9, 10, 11, 12] rfl)
      · have hb312 := g_nle (a := k) (b := 0) h312 (by omega) (by omega)
        refine lv_aload_n hx hb dL_law_315 rfl (lv_at hl 11 rfl) ?_
        refine lv_iload hx hb dL_law_316 (lv_at hl 6 rfl) ?_
        refine lv_iload hx hb dL_law_318 (lv_at hl 2 rfl) ?_
        refine lv_iconst (v := nI 1) hx hb dL_law_320 (by decide) ?_
        refine lv_isub hx hb dL_law_321 ?_
        refine g_top (y := nI (k - 1)) (pk_sub (by omega)) ?_
        refine h_callV (y := yX2_at) (n := 2) (As := [.int (nI w), .int (nI (k - 1))]) (rest := []) hx hb hml hown hts hE hZ hS hl.1 ((n_at l hst D hAD σ_1 Ls hC_2 hvC w (k - 1) hw (by omega)).h hAD) h_P0 (h_prf hP) (h_AP hD hS hAs) (fun _ _ _ => trivial) (h_jP hP hD (h_AP hD hS hAs)) k_L_101 (wr := (g_W D σ_1)) (q0 := 0) (ci := 2) (h_prf hP) (g_at (by decide) hC_2.1) rfl rfl rfl rfl ⟨Nat.le_of_ble_eq_true rfl, Nat.le_of_ble_eq_true rfl⟩ (Nat.le_of_ble_eq_true rfl) ⟨Nat.le_trans (show (cells + 5) + 5 ≤ 510000 by omega) rC_, Nat.le_trans (show (slots + 30) + 30 ≤ 6100000 by omega) rS_⟩ dL_law_322 (fun v6 w1 H locs hq hP hD hS => ?_)
        obtain ⟨σ_4, ⟨rfl, hC_5⟩, rfl⟩ := hq
        have hP : va_P D vwCl ((g_W D σ_4) ++ xs) H := hP
        have hD : va_D A ((g_W D σ_4) ++ xs) := hD
        refine W.widen (k := ((cells + 5) + 5)) (n := ((slots + 30) + 30)) (Nat.le_refl _) (Nat.le_refl _) ?_
        refine W.eq (g2 := F0 m 325 ls [.int (fn_ (Ls w) (k - 1))]) rfl ?_
        refine lv_iload hx hb dL_law_325 (lv_at hl 0 rfl) ?_
        refine lv_icmp_lt (tgt := 332) hx hb dL_law_327 (by decide) (fun h327 => ?_) (fun h327 => ?_)
        · refine W.widen (k := cells + 15) (n := slots + 90) (by omega) (by omega) ?_
          exact kk σ_4 H locs ls hC_5 hP hD hS (lv_sub hl [0, 1, 2, 3, 4, 5, 6, 7, 8, 9, 10, 11, 12] rfl)
        · exact absurd (by have := vL_lt hv 0 (k - 1) (by omega); rwa [show k - 1 + 0 + 1 = k by omega] at this) h327
  · have hb290 := g_nle (a := k) (b := 0) h290 (by omega) (by omega)
    refine lv_aload_n hx hb dL_law_293 rfl (lv_at hl 11 rfl) ?_
    refine lv_iload hx hb dL_law_294 (lv_at hl 6 rfl) ?_
    refine lv_iload hx hb dL_law_296 (lv_at hl 2 rfl) ?_
    refine lv_iconst (v := nI 1) hx hb dL_law_298 (by decide) ?_
    refine lv_isub hx hb dL_law_299 ?_
    refine g_top (y := nI (k - 1)) (pk_sub (by omega)) ?_
    refine h_callV (y := yX2_at) (n := 2) (As := [.int (nI w), .int (nI (k - 1))]) (rest := [.int (if k = 0 then -1 else fn_ (Ls w) (k - 1))]) hx hb hml hown hts hE hZ hS hl.1 ((n_at l hst D hAD σ_1 Ls hC_2 hvC w (k - 1) hw (by omega)).h hAD) h_P0 (h_prf hP) (h_AP hD hS hAs) (fun _ _ _ => trivial) (h_jP hP hD (h_AP hD hS hAs)) k_L_101 (wr := (g_W D σ_1)) (q0 := 0) (ci := 2) (h_prf hP) (g_at (by decide) hC_2.1) rfl rfl rfl rfl ⟨Nat.le_of_ble_eq_true rfl, Nat.le_of_ble_eq_true rfl⟩ (Nat.le_of_ble_eq_true rfl) ⟨Nat.le_trans (show (cells + 5) + 5 ≤ 510000 by omega) rC_, Nat.le_trans (show (slots + 30) + 30 ≤ 6100000 by omega) rS_⟩ dL_law_300 (fun v9 w1 H locs hq hP hD hS => ?_)
    obtain ⟨σ_7, ⟨rfl, hC_8⟩, rfl⟩ := hq
    have hP : va_P D vwCl ((g_W D σ_7) ++ xs) H := hP
    have hD : va_D A ((g_W D σ_7) ++ xs) := hD
    refine W.widen (k := ((cells + 5) + 5)) (n := ((slots + 30) + 30)) (Nat.le_refl _) (Nat.le_refl _) ?_
    refine W.eq (g2 := F0 m 303 ls [.int (fn_ (Ls w) (k - 1)), .int (if k = 0 then -1 else fn_ (Ls w) (k - 1))]) rfl ?_
    refine lv_goto (tgt := 307) hx hb dL_law_303 (by decide) ?_
    refine lv_icmp_ne (tgt := 330) hx hb dL_law_307 (by decide) (fun h307 => ?_) (fun h307 => ?_)
    · first | exact absurd (if_pos (by omega)) h307 | exact absurd (if_neg (by omega)) h307
    · refine lv_iload hx hb dL_law_310 (lv_at hl 2 rfl) ?_
      refine lv_if_le (tgt := 332) hx hb dL_law_312 (by decide) (fun h312 => ?_) (fun h312 => ?_)
      · have hb312 := g_le (a := k) (b := 0) h312 (by omega) (by omega)
        refine W.widen (k := cells + 15) (n := slots + 90) (by omega) (by omega) ?_
        exact kk σ_7 H locs ls hC_8 hP hD hS (lv_sub hl [0, 1, 2, 3, 4, 5, 6, 7, 8, 9, 10, 11, 12] rfl)
      · have hb312 := g_nle (a := k) (b := 0) h312 (by omega) (by omega)
        refine lv_aload_n hx hb dL_law_315 rfl (lv_at hl 11 rfl) ?_
        refine lv_iload hx hb dL_law_316 (lv_at hl 6 rfl) ?_
        refine lv_iload hx hb dL_law_318 (lv_at hl 2 rfl) ?_
        refine lv_iconst (v := nI 1) hx hb dL_law_320 (by decide) ?_
        refine lv_isub hx hb dL_law_321 ?_
        refine g_top (y := nI (k - 1)) (pk_sub (by omega)) ?_
        refine h_callV (y := yX2_at) (n := 2) (As := [.int (nI w), .int (nI (k - 1))]) (rest := []) hx hb hml hown hts hE hZ hS hl.1 ((n_at l hst D hAD σ_7 Ls hC_8 hvC w (k - 1) hw (by omega)).h hAD) h_P0 (h_prf hP) (h_AP hD hS hAs) (fun _ _ _ => trivial) (h_jP hP hD (h_AP hD hS hAs)) k_L_101 (wr := (g_W D σ_7)) (q0 := 0) (ci := 2) (h_prf hP) (g_at (by decide) hC_8.1) rfl rfl rfl rfl ⟨Nat.le_of_ble_eq_true rfl, Nat.le_of_ble_eq_true rfl⟩ (Nat.le_of_ble_eq_true rfl) ⟨Nat.le_trans (show ((cells + 5) + 5) + 5 ≤ 510000 by omega) rC_, Nat.le_trans (show ((slots + 30) + 30) + 30 ≤ 6100000 by omega) rS_⟩ dL_law_322 (fun v12 w1 H locs hq hP hD hS => ?_)
        obtain ⟨σ_10, ⟨rfl, hC_11⟩, rfl⟩ := hq
        have hP : va_P D vwCl ((g_W D σ_10) ++ xs) H := hP
        have hD : va_D A ((g_W D σ_10) ++ xs) := hD
        refine W.widen (k := (((cells + 5) + 5) + 5)) (n := (((slots + 30) + 30) + 30)) (Nat.le_refl _) (Nat.le_refl _) ?_
        refine W.eq (g2 := F0 m 325 ls [.int (fn_ (Ls w) (k - 1))]) rfl ?_
        refine lv_iload hx hb dL_law_325 (lv_at hl 0 rfl) ?_
        refine lv_icmp_lt (tgt := 332) hx hb dL_law_327 (by decide) (fun h327 => ?_) (fun h327 => ?_)
        · refine W.widen (k := cells + 15) (n := slots + 90) (by omega) (by omega) ?_
          exact kk σ_10 H locs ls hC_11 hP hD hS (lv_sub hl [0, 1, 2, 3, 4, 5, 6, 7, 8, 9, 10, 11, 12] rfl)
        · exact absurd (by have := vL_lt hv 0 (k - 1) (by omega); rwa [show k - 1 + 0 + 1 = k by omega] at this) h327
