def ot_ (Ls : Nat → g_L) (wood : Int32) : g_L := if wood = 0 then Ls 1 else Ls 0
theorem ot_n {Ls : Nat → g_L} {w : Nat} (h : w ≤ 1) : ot_ Ls (nI w) = Ls (1 - w) := by
  rcases (show w = 0 ∨ w = 1 by omega) with rfl | rfl
  · rfl
  · rfl
abbrev wk1_ (x : Int32) : Prop := ix_ x (nI 1)
abbrev nm1_ (x : Int32) : Prop := ix_ x (nI 65535)
def er_put (Ls : Nat → g_L) (wood name mi : Int32) : Nat := if wk1_ wood then if nm1_ name ∧ ix_ mi (nI 999) then (if mo_ (wl_ Ls wood) name = -1 ∧ 24 ≤ (wl_ Ls wood).length then 3 else 0) else 2 else 1
def er_take (Ls : Nat → g_L) (wood name : Int32) : Nat := if wk1_ wood then if nm1_ name then (if mo_ (wl_ Ls wood) name = -1 then 3 else 0) else 2 else 1
def er_merge (Ls : Nat → g_L) (wood rule : Int32) : Nat := if wk1_ wood ∧ ix_ rule (nI 3) then (if 24 < (wl_ Ls wood).length + (ot_ Ls wood).length - cm_ (wl_ Ls wood) (ot_ Ls wood) (wl_ Ls wood).length then 2 else 0) else 1
def er_cut (Ls : Nat → g_L) (wood name : Int32) : Nat := if wk1_ wood then if nm1_ name then (if 0 < (ot_ Ls wood).length then 3 else 0) else 2 else 1
def er_turn (Ls : Nat → g_L) (wood bits : Int32) : Nat := if wk1_ wood then if nm1_ bits then (if (wl_ Ls wood).length = 0 then 3 else 0) else 2 else 1
def er_miles (wood name : Int32) : Nat := if wk1_ wood then if nm1_ name then 0 else 2 else 1
def er_count (wood what : Int32) : Nat := if wk1_ wood ∧ ix_ what (nI 6) then 0 else 1
def er_sign (Ls : Nat → g_L) (wood place what : Int32) : Nat := if wk1_ wood ∧ ix_ place (nI (zs_ (wl_ Ls wood).length) - nI 1) ∧ ix_ what (nI 6) then 0 else 1
def er_walk (Ls : Nat → g_L) (wood name what : Int32) : Nat := if wk1_ wood ∧ ix_ what (nI 2) then if nm1_ name then (if (wl_ Ls wood).length = 0 then 3 else 0) else 2 else 1
def er_at (Ls : Nat → g_L) (wood k : Int32) : Nat := if wk1_ wood ∧ ix_ k (nI (wl_ Ls wood).length - nI 1) then 0 else 1
def er_range (wood lo hi what : Int32) : Nat := if wk1_ wood ∧ ix_ what (nI 3) then if nm1_ lo ∧ nm1_ hi ∧ lo ≤ hi then 0 else 2 else 1
def er_wood (wood : Int32) : Nat := if wk1_ wood then 0 else 1
def er_unlike (a b : Int32) : Nat := if nm1_ a ∧ nm1_ b then 0 else 1
def er_would (what : Int32) : Nat := if ix_ what (nI 3) then 0 else 1
theorem nm_le {x : Int32} (h : nm1_ x) : 0 ≤ x ∧ x ≤ 65535 := ⟨Int32.not_lt.mp h.1, Int32.not_lt.mp h.2⟩
theorem cm_bd (L M : g_L) : cm_ L M L.length ≤ L.length := cm_le L M L.length
/-- one past a name -/
theorem sz_ix {k : Int32} {n : Nat} (hn : n < 2 ^ 30) (h : ix_ k (nI n - nI 1)) : ∃ j : Nat, j < n ∧ k = nI j := by
  obtain ⟨j, hj, rfl⟩ := nI_of h.1
  refine ⟨j, ?_, rfl⟩
  cases n with
  | zero => exact absurd (show nI 0 - nI 1 < nI j from (by
      refine Int32.lt_of_lt_of_le (show nI 0 - nI 1 < (0 : Int32) by decide) (nI_pos' hj))) h.2
  | succ n =>
    have e : nI (n + 1) - nI 1 = nI n := nI_pred n
    rw [e] at h
    have : j ≤ n := Nat.not_lt.mp (mt (fun q => nI_lt q hj) h.2)
    omega
abbrev m_X2_checkIndex_rm : Room := { frames := 8, cells := 1, slots := 6, locals := 200 }
set_option maxHeartbeats 4000000 in
set_option maxRecDepth 100000 in
theorem m_X2_checkIndex (l : Launch) (hst : l.stackTraces = false) (D : va_G) (hAD : g_AD D) (σ : Nat → va_E) (i g9 : Int32)  : g_X l D yX2_checkIndex cX2_checkIndex 2 none m_X2_checkIndex_rm [.int i, .int g9] σ (fun v1 σ1 => v1 = none ∧ σ = σ1 ∧ ix_ i g9) (fun E => E = g_E0 ∧ ¬ ix_ i g9) := by
  refine g_ofX [(0, .int i), (1, .int g9)] (by decide +kernel) (Nat.le_of_ble_eq_true rfl) rfl ?_
  intro p e s m args below meth c hx hb hr hml hown hlocks hts hE hZ hP hS htab ls hl
  have hown : s.vm.findClass RX2 = some m.cls := hown
  generalize hQ : vx_MQ _ _ _ _ _ _ _ _ = Q
  refine lv_iload_n hx hb dX2_checkIndex_0 rfl (lv_at hl 0 rfl) ?_
  refine lv_if_lt (tgt := 9) hx hb dX2_checkIndex_1 (by decide) (fun h1 => ?_) (fun h1 => ?_)
  · rw [← hQ]
    exact g_throw (cls := g_E0) (text := "there is no such number") hx hb hst hown hts hE hZ hP hS (hl.1.trans hml.symm) (by decide +kernel) wl_X2_180 (g_mem 19 (by decide +kernel)) (by decide +kernel) (by decide +kernel) tw_E0.1 tw_E0.2.1 tw_E0.2.2 dX2_checkIndex_9 dX2_checkIndex_12 dX2_checkIndex_13 dX2_checkIndex_15 dX2_checkIndex_18 htab hlocks ⟨Nat.le_of_ble_eq_true rfl, Nat.le_of_ble_eq_true rfl, Nat.le_of_ble_eq_true rfl, Nat.le_of_ble_eq_true rfl⟩ (⟨rfl, fun q => by first | exact q.1 h1 | exact h6 (Int32.not_lt.mp q.2)⟩) (Nat.le_of_ble_eq_true rfl) (Nat.le_of_ble_eq_true rfl)
  · refine lv_iload_n hx hb dX2_checkIndex_4 rfl (lv_at hl 0 rfl) ?_
    refine lv_iload_n hx hb dX2_checkIndex_5 rfl (lv_at hl 1 rfl) ?_
    refine lv_icmp_le (tgt := 19) hx hb dX2_checkIndex_6 (by decide) (fun h6 => ?_) (fun h6 => ?_)
    · refine W.widen (k := 1) (n := 6) (by omega) (by omega) ?_
      rw [← hQ]
      refine vx_ret ?_
      exact W.vret hx hb hr (fun te9 hte9 _ => g_fin (⟨rfl, rfl, h1, Int32.not_lt.mpr h6⟩) hP hS hte9) hS.2.2 dX2_checkIndex_19 hlocks
    · rw [← hQ]
      exact g_throw (cls := g_E0) (text := "there is no such number") hx hb hst hown hts hE hZ hP hS (hl.1.trans hml.symm) (by decide +kernel) wl_X2_180 (g_mem 19 (by decide +kernel)) (by decide +kernel) (by decide +kernel) tw_E0.1 tw_E0.2.1 tw_E0.2.2 dX2_checkIndex_9 dX2_checkIndex_12 dX2_checkIndex_13 dX2_checkIndex_15 dX2_checkIndex_18 htab hlocks ⟨Nat.le_of_ble_eq_true rfl, Nat.le_of_ble_eq_true rfl, Nat.le_of_ble_eq_true rfl, Nat.le_of_ble_eq_true rfl⟩ (⟨rfl, fun q => by first | exact q.1 h1 | exact h6 (Int32.not_lt.mp q.2)⟩) (Nat.le_of_ble_eq_true rfl) (Nat.le_of_ble_eq_true rfl)

abbrev m_X2_checkName_rm : Room := { frames := 8, cells := 1, slots := 6, locals := 200 }
set_option maxHeartbeats 4000000 in
set_option maxRecDepth 100000 in
theorem m_X2_checkName (l : Launch) (hst : l.stackTraces = false) (D : va_G) (hAD : g_AD D) (σ : Nat → va_E) (i : Int32)  : g_X l D yX2_checkName cX2_checkName 1 none m_X2_checkName_rm [.int i] σ (fun v1 σ1 => v1 = none ∧ σ = σ1 ∧ nm1_ i) (fun E => E = g_E1 ∧ ¬ nm1_ i) := by
  refine g_ofX [(0, .int i)] (by decide +kernel) (Nat.le_of_ble_eq_true rfl) rfl ?_
  intro p e s m args below meth c hx hb hr hml hown hlocks hts hE hZ hP hS htab ls hl
  have hown : s.vm.findClass RX2 = some m.cls := hown
  generalize hQ : vx_MQ _ _ _ _ _ _ _ _ = Q
  refine lv_iload_n hx hb dX2_checkName_0 rfl (lv_at hl 0 rfl) ?_
  refine lv_if_lt (tgt := 10) hx hb dX2_checkName_1 (by decide) (fun h1 => ?_) (fun h1 => ?_)
  · rw [← hQ]
    exact g_throw (cls := g_E1) (text := "that is not a name") hx hb hst hown hts hE hZ hP hS (hl.1.trans hml.symm) (by decide +kernel) wl_X2_119 (g_mem 20 (by decide +kernel)) (by decide +kernel) (by decide +kernel) tw_E1.1 tw_E1.2.1 tw_E1.2.2 dX2_checkName_10 dX2_checkName_13 dX2_checkName_14 dX2_checkName_16 dX2_checkName_19 htab hlocks ⟨Nat.le_of_ble_eq_true rfl, Nat.le_of_ble_eq_true rfl, Nat.le_of_ble_eq_true rfl, Nat.le_of_ble_eq_true rfl⟩ (⟨rfl, fun q => by first | exact q.1 h1 | exact h7 (Int32.not_lt.mp q.2)⟩) (Nat.le_of_ble_eq_true rfl) (Nat.le_of_ble_eq_true rfl)
  · refine lv_iload_n hx hb dX2_checkName_4 rfl (lv_at hl 0 rfl) ?_
    refine lv_ldc (v := 65535) hx hb hown (hts _ wc_X2_185) dX2_checkName_5 ?_
    refine g_top (y := nI 65535) (by decide) ?_
    refine lv_icmp_le (tgt := 20) hx hb dX2_checkName_7 (by decide) (fun h7 => ?_) (fun h7 => ?_)
    · refine W.widen (k := 1) (n := 6) (by omega) (by omega) ?_
      rw [← hQ]
      refine vx_ret ?_
      exact W.vret hx hb hr (fun te9 hte9 _ => g_fin (⟨rfl, rfl, h1, Int32.not_lt.mpr h7⟩) hP hS hte9) hS.2.2 dX2_checkName_20 hlocks
    · rw [← hQ]
      exact g_throw (cls := g_E1) (text := "that is not a name") hx hb hst hown hts hE hZ hP hS (hl.1.trans hml.symm) (by decide +kernel) wl_X2_119 (g_mem 20 (by decide +kernel)) (by decide +kernel) (by decide +kernel) tw_E1.1 tw_E1.2.1 tw_E1.2.2 dX2_checkName_10 dX2_checkName_13 dX2_checkName_14 dX2_checkName_16 dX2_checkName_19 htab hlocks ⟨Nat.le_of_ble_eq_true rfl, Nat.le_of_ble_eq_true rfl, Nat.le_of_ble_eq_true rfl, Nat.le_of_ble_eq_true rfl⟩ (⟨rfl, fun q => by first | exact q.1 h1 | exact h7 (Int32.not_lt.mp q.2)⟩) (Nat.le_of_ble_eq_true rfl) (Nat.le_of_ble_eq_true rfl)

abbrev m_X2_checkMiles_rm : Room := { frames := 8, cells := 1, slots := 6, locals := 200 }
set_option maxHeartbeats 4000000 in
set_option maxRecDepth 100000 in
theorem m_X2_checkMiles (l : Launch) (hst : l.stackTraces = false) (D : va_G) (hAD : g_AD D) (σ : Nat → va_E) (i : Int32)  : g_X l D yX2_checkMiles cX2_checkMiles 1 none m_X2_checkMiles_rm [.int i] σ (fun v1 σ1 => v1 = none ∧ σ = σ1 ∧ ix_ i (nI 999)) (fun E => E = g_E1 ∧ ¬ ix_ i (nI 999)) := by
  refine g_ofX [(0, .int i)] (by decide +kernel) (Nat.le_of_ble_eq_true rfl) rfl ?_
  intro p e s m args below meth c hx hb hr hml hown hlocks hts hE hZ hP hS htab ls hl
  have hown : s.vm.findClass RX2 = some m.cls := hown
  generalize hQ : vx_MQ _ _ _ _ _ _ _ _ = Q
  refine lv_iload_n hx hb dX2_checkMiles_0 rfl (lv_at hl 0 rfl) ?_
  refine lv_if_lt (tgt := 11) hx hb dX2_checkMiles_1 (by decide) (fun h1 => ?_) (fun h1 => ?_)
  · rw [← hQ]
    exact g_throw (cls := g_E1) (text := "these are not miles") hx hb hst hown hts hE hZ hP hS (hl.1.trans hml.symm) (by decide +kernel) wl_X2_119 (g_mem 20 (by decide +kernel)) (by decide +kernel) (by decide +kernel) tw_E1.1 tw_E1.2.1 tw_E1.2.2 dX2_checkMiles_11 dX2_checkMiles_14 dX2_checkMiles_15 dX2_checkMiles_17 dX2_checkMiles_20 htab hlocks ⟨Nat.le_of_ble_eq_true rfl, Nat.le_of_ble_eq_true rfl, Nat.le_of_ble_eq_true rfl, Nat.le_of_ble_eq_true rfl⟩ (⟨rfl, fun q => by first | exact q.1 h1 | exact h8 (Int32.not_lt.mp q.2)⟩) (Nat.le_of_ble_eq_true rfl) (Nat.le_of_ble_eq_true rfl)
  · refine lv_iload_n hx hb dX2_checkMiles_4 rfl (lv_at hl 0 rfl) ?_
    refine lv_sipush (v := nI 999) hx hb dX2_checkMiles_5 (by decide) ?_
    refine lv_icmp_le (tgt := 21) hx hb dX2_checkMiles_8 (by decide) (fun h8 => ?_) (fun h8 => ?_)
    · refine W.widen (k := 1) (n := 6) (by omega) (by omega) ?_
      rw [← hQ]
      refine vx_ret ?_
      exact W.vret hx hb hr (fun te9 hte9 _ => g_fin (⟨rfl, rfl, h1, Int32.not_lt.mpr h8⟩) hP hS hte9) hS.2.2 dX2_checkMiles_21 hlocks
    · rw [← hQ]
      exact g_throw (cls := g_E1) (text := "these are not miles") hx hb hst hown hts hE hZ hP hS (hl.1.trans hml.symm) (by decide +kernel) wl_X2_119 (g_mem 20 (by decide +kernel)) (by decide +kernel) (by decide +kernel) tw_E1.1 tw_E1.2.1 tw_E1.2.2 dX2_checkMiles_11 dX2_checkMiles_14 dX2_checkMiles_15 dX2_checkMiles_17 dX2_checkMiles_20 htab hlocks ⟨Nat.le_of_ble_eq_true rfl, Nat.le_of_ble_eq_true rfl, Nat.le_of_ble_eq_true rfl, Nat.le_of_ble_eq_true rfl⟩ (⟨rfl, fun q => by first | exact q.1 h1 | exact h8 (Int32.not_lt.mp q.2)⟩) (Nat.le_of_ble_eq_true rfl) (Nat.le_of_ble_eq_true rfl)

abbrev m_X2_checkNotEmpty_rm : Room := { frames := 9, cells := 1, slots := 6, locals := 220 }
set_option maxHeartbeats 4000000 in
set_option maxRecDepth 100000 in
theorem m_X2_checkNotEmpty (l : Launch) (hst : l.stackTraces = false) (D : va_G) (hAD : g_AD D) (σ : Nat → va_E) (v : Nat) (L : g_L) (F G : Nat → Int32) (hV : g_VF D σ v L F G) : g_X l D yX2_checkNotEmpty cX2_checkNotEmpty 1 none m_X2_checkNotEmpty_rm [.ref (ad_ D v)] σ (fun v1 σ1 => v1 = none ∧ σ = σ1 ∧ L.length ≠ 0) (fun E => E = g_E2 ∧ L.length = 0) := by
  refine g_ofX [(0, .ref (ad_ D v))] (by decide +kernel) (Nat.le_of_ble_eq_true rfl) rfl ?_
  intro p e s m args below meth c hx hb hr hml hown hlocks hts hE hZ hP hS htab ls hl
  have hown : s.vm.findClass RX2 = some m.cls := hown
  generalize hQ : vx_MQ _ _ _ _ _ _ _ _ = Q
  have hvv := hV.2.2.2.2.2
  have hLn := hV.2.2.2.2.1
  refine lv_aload_n hx hb dX2_checkNotEmpty_0 rfl (lv_at hl 0 rfl) ?_
  refine g_callV0 (y := yX1_size) (n := 0) (As := []) (rest := []) hx hb hml hown hts hE hZ hP hS hl.1 (m_X1_size l D hAD σ v L F G hV) k_X2_47 (ci := 1) (by omega) hV.1 rfl rfl rfl rfl rfl ⟨rfl, rfl⟩ ⟨Nat.le_of_ble_eq_true rfl, Nat.le_of_ble_eq_true rfl⟩ (Nat.le_of_ble_eq_true rfl) ⟨Nat.le_of_ble_eq_true rfl, Nat.le_of_ble_eq_true rfl⟩ dX2_checkNotEmpty_1 (fun v1 σ_2 H locs hq hP hS => ?_)
  obtain ⟨rfl, rfl⟩ := hq
  refine W.eq (g2 := F0 m 4 ls [.int (nI L.length)]) rfl ?_
  refine lv_if_ne (tgt := 17) hx hb dX2_checkNotEmpty_4 (by decide) (fun h4 => ?_) (fun h4 => ?_)
  · have hb4 := g_ne (a := L.length) (b := 0) h4 (by omega) (by omega)
    refine W.widen (k := 1) (n := 6) (by omega) (by omega) ?_
    rw [← hQ]
    refine vx_ret ?_
    exact W.vret hx hb hr (fun te9 hte9 _ => g_fin (⟨rfl, rfl, hb4⟩) hP hS hte9) hS.2.2 dX2_checkNotEmpty_17 hlocks
  · have hb4 := g_eq (a := L.length) (b := 0) h4 (by omega) (by omega)
    rw [← hQ]
    exact g_throw (cls := g_E2) (text := "the wood has no village") hx hb hst hown hts hE hZ hP hS (hl.1.trans hml.symm) (by decide +kernel) wl_X2_51 (g_mem 21 (by decide +kernel)) (by decide +kernel) (by decide +kernel) tw_E2.1 tw_E2.2.1 tw_E2.2.2 dX2_checkNotEmpty_7 dX2_checkNotEmpty_10 dX2_checkNotEmpty_11 dX2_checkNotEmpty_13 dX2_checkNotEmpty_16 htab hlocks ⟨Nat.le_of_ble_eq_true rfl, Nat.le_of_ble_eq_true rfl, Nat.le_of_ble_eq_true rfl, Nat.le_of_ble_eq_true rfl⟩ (⟨rfl, hb4⟩) (Nat.le_of_ble_eq_true rfl) (Nat.le_of_ble_eq_true rfl)

abbrev m_X2_checkWood_rm : Room := { frames := 9, cells := 2, slots := 12, locals := 221 }
set_option maxHeartbeats 4000000 in
set_option maxRecDepth 100000 in
theorem m_X2_checkWood (l : Launch) (hst : l.stackTraces = false) (D : va_G) (hAD : g_AD D) (σ : Nat → va_E) (i : Int32)  : g_X l D yX2_checkWood cX2_checkWood 1 none m_X2_checkWood_rm [.int i] σ (fun v1 σ1 => v1 = none ∧ σ = σ1 ∧ wk1_ i) (fun E => E = g_E0 ∧ ¬ wk1_ i) := by
  refine g_ofX [(0, .int i)] (by decide +kernel) (Nat.le_of_ble_eq_true rfl) rfl ?_
  intro p e s m args below meth c hx hb hr hml hown hlocks hts hE hZ hP hS htab ls hl
  have hown : s.vm.findClass RX2 = some m.cls := hown
  generalize hQ : vx_MQ _ _ _ _ _ _ _ _ = Q
  refine lv_iload_n hx hb dX2_checkWood_0 rfl (lv_at hl 0 rfl) ?_
  refine lv_iconst (v := nI 1) hx hb dX2_checkWood_1 (by decide) ?_
  refine g_callSX (y := yX2_checkIndex) (n := 2) (As := [.int i, .int (nI 1)]) (rest := []) hx hb hml hown hts hE hZ hP hS hl.1 (m_X2_checkIndex l hst D hAD σ (i) (nI 1)) k_X2_67 rfl rfl ⟨Nat.le_of_ble_eq_true rfl, Nat.le_of_ble_eq_true rfl⟩ (Nat.le_of_ble_eq_true rfl) ⟨Nat.le_of_ble_eq_true rfl, Nat.le_of_ble_eq_true rfl⟩ dX2_checkWood_2 (fun E ce q9 H locs hq hP hS hc9 hv9 hk9 => ?_) (fun v1 σ_2 H locs hq hP hS => ?_)
  · rw [← hQ]
    exact g_out htab hlocks (hq) hP hS hc9 hv9 hk9 (Nat.le_of_ble_eq_true rfl) (Nat.le_of_ble_eq_true rfl)
  obtain ⟨rfl, rfl, hx2⟩ := hq
  refine W.eq (g2 := F0 m 5 ls []) rfl ?_
  refine W.widen (k := 1) (n := 6) (Nat.le_of_ble_eq_true rfl) (Nat.le_of_ble_eq_true rfl) ?_
  refine W.widen (k := 2) (n := 12) (by omega) (by omega) ?_
  rw [← hQ]
  refine vx_ret ?_
  exact W.vret hx hb hr (fun te9 hte9 _ => g_fin (⟨rfl, rfl, hx2⟩) hP hS hte9) hS.2.2 dX2_checkWood_5 hlocks

abbrev m_X2_villagesOf_rm : Room := { frames := 8, cells := 0, slots := 0, locals := 200 }
set_option maxHeartbeats 4000000 in
set_option maxRecDepth 100000 in
theorem m_X2_villagesOf (l : Launch) (D : va_G) (hAD : g_AD D) (σ : Nat → va_E) (w : Nat) (hw : w ≤ 1) (hc0 : σ 0 = .inr (2, [.ref (ad_ D 1), .ref (ad_ D 4), .ref (ad_ D 7), .ref (ad_ D 10)])) : g_M l D yX2_villagesOf cX2_villagesOf 2 (some (.object "FingerPosts$Villages")) m_X2_villagesOf_rm [.ref (ad_ D 0), .int (nI w)] σ (fun v1 σ1 => v1 = some (.ref (ad_ D (1 + 3 * w))) ∧ σ = σ1) := by
  refine g_ofW [(0, .ref (ad_ D 0)), (1, .int (nI w))] (by decide +kernel) (Nat.le_of_ble_eq_true rfl) rfl ?_
  intro p e s m args below meth c hx hb hr hml hown hlocks hts hE hZ hP hS hnm ls hl
  have hown : s.vm.findClass RX2 = some m.cls := hown
  generalize hQ : MQ _ _ _ _ _ _ _ = Q
  refine lv_iload_n hx hb dX2_villagesOf_0 rfl (lv_at hl 1 rfl) ?_
  refine lv_if_ne (tgt := 11) hx hb dX2_villagesOf_1 (by decide) (fun h1 => ?_) (fun h1 => ?_)
  · have hb1 := g_ne (a := w) (b := 0) h1 (by omega) (by omega)
    refine lv_aload_n hx hb dX2_villagesOf_11 rfl (lv_at hl 0 rfl) ?_
    refine g_get hx hb hts hE hown hP g_inX2 rfl (by decide) hc0 1 (by decide) rfl wf_X2_16 (v := .ref (ad_ D 4)) rfl dX2_villagesOf_12 ?_
    rw [← hQ]
    exact W.aret (v := .ref (ad_ D 4)) hx hb hr (Or.inl ⟨_, rfl⟩) (Or.inr ⟨_, rfl⟩) (fun te9 hte9 _ => g_fin (⟨by first | (rw [show w = 0 by omega]) | (rw [show w = 1 by omega]), rfl⟩) hP hS hte9) hS.2.2 dX2_villagesOf_15 hlocks
  · have hb1 := g_eq (a := w) (b := 0) h1 (by omega) (by omega)
    refine lv_aload_n hx hb dX2_villagesOf_4 rfl (lv_at hl 0 rfl) ?_
    refine g_get hx hb hts hE hown hP g_inX2 rfl (by decide) hc0 0 (by decide) rfl wf_X2_12 (v := .ref (ad_ D 1)) rfl dX2_villagesOf_5 ?_
    refine lv_goto (tgt := 15) hx hb dX2_villagesOf_8 (by decide) ?_
    rw [← hQ]
    exact W.aret (v := .ref (ad_ D 1)) hx hb hr (Or.inl ⟨_, rfl⟩) (Or.inr ⟨_, rfl⟩) (fun te9 hte9 _ => g_fin (⟨by first | (rw [show w = 0 by omega]) | (rw [show w = 1 by omega]), rfl⟩) hP hS hte9) hS.2.2 dX2_villagesOf_15 hlocks

abbrev m_X2_otherThan_rm : Room := { frames := 8, cells := 0, slots := 0, locals := 200 }
set_option maxHeartbeats 4000000 in
set_option maxRecDepth 100000 in
theorem m_X2_otherThan (l : Launch) (D : va_G) (hAD : g_AD D) (σ : Nat → va_E) (w : Nat) (hw : w ≤ 1) (hc0 : σ 0 = .inr (2, [.ref (ad_ D 1), .ref (ad_ D 4), .ref (ad_ D 7), .ref (ad_ D 10)])) : g_M l D yX2_otherThan cX2_otherThan 2 (some (.object "FingerPosts$Villages")) m_X2_otherThan_rm [.ref (ad_ D 0), .int (nI w)] σ (fun v1 σ1 => v1 = some (.ref (ad_ D (4 - 3 * w))) ∧ σ = σ1) := by
  refine g_ofW [(0, .ref (ad_ D 0)), (1, .int (nI w))] (by decide +kernel) (Nat.le_of_ble_eq_true rfl) rfl ?_
  intro p e s m args below meth c hx hb hr hml hown hlocks hts hE hZ hP hS hnm ls hl
  have hown : s.vm.findClass RX2 = some m.cls := hown
  generalize hQ : MQ _ _ _ _ _ _ _ = Q
  refine lv_iload_n hx hb dX2_otherThan_0 rfl (lv_at hl 1 rfl) ?_
  refine lv_if_ne (tgt := 11) hx hb dX2_otherThan_1 (by decide) (fun h1 => ?_) (fun h1 => ?_)
  · have hb1 := g_ne (a := w) (b := 0) h1 (by omega) (by omega)
    refine lv_aload_n hx hb dX2_otherThan_11 rfl (lv_at hl 0 rfl) ?_
    refine g_get hx hb hts hE hown hP g_inX2 rfl (by decide) hc0 0 (by decide) rfl wf_X2_12 (v := .ref (ad_ D 1)) rfl dX2_otherThan_12 ?_
    rw [← hQ]
    exact W.aret (v := .ref (ad_ D 1)) hx hb hr (Or.inl ⟨_, rfl⟩) (Or.inr ⟨_, rfl⟩) (fun te9 hte9 _ => g_fin (⟨by first | (rw [show w = 0 by omega]) | (rw [show w = 1 by omega]), rfl⟩) hP hS hte9) hS.2.2 dX2_otherThan_15 hlocks
  · have hb1 := g_eq (a := w) (b := 0) h1 (by omega) (by omega)
    refine lv_aload_n hx hb dX2_otherThan_4 rfl (lv_at hl 0 rfl) ?_
    refine g_get hx hb hts hE hown hP g_inX2 rfl (by decide) hc0 1 (by decide) rfl wf_X2_16 (v := .ref (ad_ D 4)) rfl dX2_otherThan_5 ?_
    refine lv_goto (tgt := 15) hx hb dX2_otherThan_8 (by decide) ?_
    rw [← hQ]
    exact W.aret (v := .ref (ad_ D 4)) hx hb hr (Or.inl ⟨_, rfl⟩) (Or.inr ⟨_, rfl⟩) (fun te9 hte9 _ => g_fin (⟨by first | (rw [show w = 0 by omega]) | (rw [show w = 1 by omega]), rfl⟩) hP hS hte9) hS.2.2 dX2_otherThan_15 hlocks

abbrev m_X2_digested_rm : Room := { frames := 8, cells := 0, slots := 0, locals := 200 }
set_option maxHeartbeats 4000000 in
set_option maxRecDepth 100000 in
theorem m_X2_digested (l : Launch) (D : va_G) (hAD : g_AD D) (σ : Nat → va_E) (d9 : Int64) (x9 : Int32)  : g_M l D yX2_digested cX2_digested 3 (some .long) m_X2_digested_rm [.long d9, .int x9] σ (fun v1 σ1 => v1 = some (.long (dg_ d9 x9)) ∧ σ = σ1) := by
  refine g_ofW [(0, .long d9), (2, .int x9)] (by decide +kernel) (Nat.le_of_ble_eq_true rfl) rfl ?_
  intro p e s m args below meth c hx hb hr hml hown hlocks hts hE hZ hP hS hnm ls hl
  have hown : s.vm.findClass RX2 = some m.cls := hown
  generalize hQ : MQ _ _ _ _ _ _ _ = Q
  refine lv_lload_n hx hb dX2_digested_0 rfl (lv_at hl 0 rfl) ?_
  refine lv_ldc2 (v := 31) hx hb hown (hts _ wC_X2_161) dX2_digested_1 ?_
  refine lv_lmul hx hb dX2_digested_4 ?_
  refine lv_iload_n hx hb dX2_digested_5 rfl (lv_at hl 1 rfl) ?_
  refine lv_i2l (v := (x9).toInt64) hx hb dX2_digested_6 rfl ?_
  refine lv_ladd hx hb dX2_digested_7 ?_
  rw [← hQ]
  exact W.lret (v := (d9 * 31) + ((x9).toInt64)) hx hb hr (fun te9 hte9 _ => g_fin (⟨rfl, rfl⟩) hP hS hte9) hS.2.2 dX2_digested_8 hlocks

abbrev m_X2_fillBoth_rm : Room := { frames := 12, cells := 0, slots := 0, locals := 289 }
set_option maxHeartbeats 4000000 in
set_option maxRecDepth 100000 in
theorem m_X2_fillBoth (l : Launch) (D : va_G) (hAD : g_AD D) (σ : Nat → va_E) (Ls : Nat → g_L) (hC : g_C D σ Ls) (hvC : vC_ Ls) : g_M l D yX2_fillBoth cX2_fillBoth 1 none m_X2_fillBoth_rm [.ref (ad_ D 0)] σ (fun v1 σ1 => v1 = none ∧ g_V D σ1 7 (bo_ (Ls 0) (Ls 1)) ∧ g_off 7 9 σ σ1) := by
  refine g_ofW [(0, .ref (ad_ D 0))] (by decide +kernel) (Nat.le_of_ble_eq_true rfl) rfl ?_
  intro p e s m args below meth c hx hb hr hml hown hlocks hts hE hZ hP hS hnm ls hl
  have hown : s.vm.findClass RX2 = some m.cls := hown
  generalize hQ : MQ _ _ _ _ _ _ _ = Q
  obtain ⟨hc0, hcA, hcB, ⟨Lc, hcBo⟩, sz, T, hG⟩ := id hC
  obtain ⟨Fa, Ga, hVa⟩ := hcA
  obtain ⟨Fb, Gb, hVb⟩ := hcB
  obtain ⟨Fc, Gc, hVc⟩ := hcBo
  have v0 := hvC 0 (by decide)
  have v1 := hvC 1 (by decide)
  refine lv_aload_n hx hb dX2_fillBoth_0 rfl (lv_at hl 0 rfl) ?_
  refine g_get hx hb hts hE hown hP g_inX2 rfl (by decide) hc0 2 (by decide) rfl wf_X2_19 (v := .ref (ad_ D 7)) rfl dX2_fillBoth_1 ?_
  refine lv_iconst (v := nI 0) hx hb dX2_fillBoth_4 (by decide) ?_
  refine g_callV0 (y := yX1_keepFirst) (n := 1) (As := [.int (nI 0)]) (rest := []) hx hb hml hown hts hE hZ hP hS hl.1 (m_X1_keepFirst l D hAD σ 7 Lc Fc Gc hVc 0 (by omega)) k_X2_89 (ci := 1) (by decide) hVc.1 rfl rfl rfl rfl rfl ⟨rfl, rfl⟩ ⟨Nat.le_of_ble_eq_true rfl, Nat.le_of_ble_eq_true rfl⟩ (Nat.le_of_ble_eq_true rfl) ⟨Nat.le_of_ble_eq_true rfl, Nat.le_of_ble_eq_true rfl⟩ dX2_fillBoth_5 (fun v1 σ_2 H locs hq hP hS => ?_)
  obtain ⟨rfl, hq2⟩ := hq
  refine W.eq (g2 := F0 m 8 ls []) rfl ?_
  obtain ⟨hVk3, hok4⟩ := hq2
  have hV5 := g_VF.off hVa hok4 (by omega)
  have hV6 := g_VF.off hVb hok4 (by omega)
  have ho7 := g_off.tr (g_off.rf (lo := 7) (hi := 9) (σ := σ)) (g_off.wd hok4 (by omega) (by omega))
  have hc8 := g_off.at0 hok4 hc0 (by omega)
  refine lv_aload_n hx hb dX2_fillBoth_8 rfl (lv_at hl 0 rfl) ?_
  refine g_get hx hb hts hE hown hP g_inX2 rfl (by decide) hc8 2 (by decide) rfl wf_X2_19 (v := .ref (ad_ D 7)) rfl dX2_fillBoth_9 ?_
  refine lv_aload_n hx hb dX2_fillBoth_12 rfl (lv_at hl 0 rfl) ?_
  refine g_get hx hb hts hE hown hP g_inX2 rfl (by decide) hc8 0 (by decide) rfl wf_X2_12 (v := .ref (ad_ D 1)) rfl dX2_fillBoth_13 ?_
  refine g_callV0 (y := yX1_setAll) (n := 1) (As := [.ref (ad_ D 1)]) (rest := []) hx hb hml hown hts hE hZ hP hS hl.1 (m_X1_setAll l D hAD σ_2 7 (List.take 0 Lc) Fc Gc hVk3 1 (Ls 0) Fa Ga hV5 (by omega) (vL_ne v0.1) (by have q9 := v0.2; simp only [List.length_take, Nat.zero_min]; omega)) k_X2_163 (ci := 1) (by decide) hVk3.1 rfl rfl rfl rfl rfl ⟨rfl, rfl⟩ ⟨Nat.le_of_ble_eq_true rfl, Nat.le_of_ble_eq_true rfl⟩ (Nat.le_of_ble_eq_true rfl) ⟨Nat.le_of_ble_eq_true rfl, Nat.le_of_ble_eq_true rfl⟩ dX2_fillBoth_16 (fun v9 σ_10 H locs hq hP hS => ?_)
  obtain ⟨rfl, hq2⟩ := hq
  refine W.eq (g2 := F0 m 19 ls []) rfl ?_
  obtain ⟨⟨Fr13, Gr14, hVk11⟩, hok12⟩ := hq2
  have hV15 := g_VF.off hV5 hok12 (by omega)
  have hV16 := g_VF.off hV6 hok12 (by omega)
  have ho17 := g_off.tr ho7 (g_off.wd hok12 (by omega) (by omega))
  have hc18 := g_off.at0 hok12 hc8 (by omega)
  refine lv_aload_n hx hb dX2_fillBoth_19 rfl (lv_at hl 0 rfl) ?_
  refine g_get hx hb hts hE hown hP g_inX2 rfl (by decide) hc18 2 (by decide) rfl wf_X2_19 (v := .ref (ad_ D 7)) rfl dX2_fillBoth_20 ?_
  refine lv_aload_n hx hb dX2_fillBoth_23 rfl (lv_at hl 0 rfl) ?_
  refine g_get hx hb hts hE hown hP g_inX2 rfl (by decide) hc18 1 (by decide) rfl wf_X2_16 (v := .ref (ad_ D 4)) rfl dX2_fillBoth_24 ?_
  have hl9 := sa_len (List.take 0 Lc) (Ls 0) (Ls 0).length
  have hl8 : (List.take 0 Lc).length = 0 := by simp
  refine g_callV0 (y := yX1_setAll) (n := 1) (As := [.ref (ad_ D 4)]) (rest := []) hx hb hml hown hts hE hZ hP hS hl.1 (m_X1_setAll l D hAD σ_10 7 (sa_ (List.take 0 Lc) (Ls 0) (List.length (Ls 0))) Fr13 Gr14 hVk11 4 (Ls 1) Fb Gb hV16 (by omega) (vL_ne v1.1) (by have q9 := v0.2; have q8 := v1.2; omega)) k_X2_163 (ci := 1) (by decide) hVk11.1 rfl rfl rfl rfl rfl ⟨rfl, rfl⟩ ⟨Nat.le_of_ble_eq_true rfl, Nat.le_of_ble_eq_true rfl⟩ (Nat.le_of_ble_eq_true rfl) ⟨Nat.le_of_ble_eq_true rfl, Nat.le_of_ble_eq_true rfl⟩ dX2_fillBoth_27 (fun v19 σ_20 H locs hq hP hS => ?_)
  obtain ⟨rfl, hq2⟩ := hq
  refine W.eq (g2 := F0 m 30 ls []) rfl ?_
  obtain ⟨⟨Fr23, Gr24, hVk21⟩, hok22⟩ := hq2
  have hV25 := g_VF.off hV15 hok22 (by omega)
  have hV26 := g_VF.off hV16 hok22 (by omega)
  have ho27 := g_off.tr ho17 (g_off.wd hok22 (by omega) (by omega))
  have hc28 := g_off.at0 hok22 hc18 (by omega)
  rw [← hQ]
  exact W.vret hx hb hr (fun te9 hte9 _ => g_fin (⟨rfl, ⟨_, _, hVk21⟩, ho27⟩) hP hS hte9) hS.2.2 dX2_fillBoth_30 hlocks

abbrev m_X2_countOf_rm : Room := { frames := 11, cells := 0, slots := 0, locals := 266 }
set_option maxHeartbeats 4000000 in
set_option maxRecDepth 100000 in
theorem m_X2_countOf (l : Launch) (D : va_G) (hAD : g_AD D) (σ : Nat → va_E) (v : Nat) (L : g_L) (F G : Nat → Int32) (T : Nat → Nat → Int32) (w9 : Nat) (hV : g_VF D σ v L F G) (hG : g_S D σ (zs_ L.length) T) (hTB : tB_ (fn_ L) L.length T) (hvl : vL_ L) (hw9 : w9 ≤ 6) : g_M l D yX2_countOf cX2_countOf 3 (some .int) m_X2_countOf_rm [.ref (ad_ D v), .ref (ad_ D 10), .int (nI w9)] σ (fun v1 σ1 => v1 = some (.int (cn_ L w9)) ∧ σ = σ1) := by
  refine g_ofW [(0, .ref (ad_ D v)), (1, .ref (ad_ D 10)), (2, .int (nI w9))] (by decide +kernel) (Nat.le_of_ble_eq_true rfl) rfl ?_
  intro p e s m args below meth c hx hb hr hml hown hlocks hts hE hZ hP hS hnm ls hl
  have hown : s.vm.findClass RX2 = some m.cls := hown
  generalize hQ : MQ _ _ _ _ _ _ _ = Q
  have hvv := hV.2.2.2.2.2
  have hLn := hV.2.2.2.2.1
  refine lv_iload_n hx hb dX2_countOf_0 rfl (lv_at hl 2 rfl) ?_
  rcases (show w9 = 0 ∨ w9 = 1 ∨ w9 = 2 ∨ w9 = 3 ∨ w9 = 4 ∨ w9 = 5 ∨ w9 = 6 by omega) with rfl | rfl | rfl | rfl | rfl | rfl | rfl
  · refine lv_tableIn (x := nI 0) (off := 39) (tgt := 40) hx hb dX2_countOf_1 (by decide) (by decide) rfl (by decide) ?_
    refine lv_aload_n hx hb dX2_countOf_40 rfl (lv_at hl 0 rfl) ?_
    refine g_callV0 (y := yX1_size) (n := 0) (As := []) (rest := []) hx hb hml hown hts hE hZ hP hS hl.1 (m_X1_size l D hAD σ v L F G hV) k_X2_47 (ci := 1) (by omega) hV.1 rfl rfl rfl rfl rfl ⟨rfl, rfl⟩ ⟨Nat.le_of_ble_eq_true rfl, Nat.le_of_ble_eq_true rfl⟩ (Nat.le_of_ble_eq_true rfl) ⟨Nat.le_of_ble_eq_true rfl, Nat.le_of_ble_eq_true rfl⟩ dX2_countOf_41 (fun v1 σ_2 H locs hq hP hS => ?_)
    obtain ⟨rfl, rfl⟩ := hq
    refine W.eq (g2 := F0 m 44 ls [.int (nI L.length)]) rfl ?_
    rw [← hQ]
    exact W.iret (v := nI L.length) hx hb hr (fun te9 hte9 _ => g_fin (⟨by rw [cn_, ← co_cg (tB_eq hvl hTB) 0]; rfl, rfl⟩) hP hS hte9) hS.2.2 dX2_countOf_44 hlocks
  · refine lv_tableIn (x := nI 1) (off := 44) (tgt := 45) hx hb dX2_countOf_1 (by decide) (by decide) rfl (by decide) ?_
    refine lv_aload_n hx hb dX2_countOf_45 rfl (lv_at hl 1 rfl) ?_
    refine g_callV0 (y := yX0_postCount) (n := 0) (As := []) (rest := []) hx hb hml hown hts hE hZ hP hS hl.1 (m_X0_postCount l D hAD σ (zs_ L.length) T hG) k_X2_166 (ci := 0) (by decide) hG.1 rfl rfl rfl rfl rfl ⟨rfl, rfl⟩ ⟨Nat.le_of_ble_eq_true rfl, Nat.le_of_ble_eq_true rfl⟩ (Nat.le_of_ble_eq_true rfl) ⟨Nat.le_of_ble_eq_true rfl, Nat.le_of_ble_eq_true rfl⟩ dX2_countOf_46 (fun v3 σ_4 H locs hq hP hS => ?_)
    obtain ⟨rfl, rfl⟩ := hq
    refine W.eq (g2 := F0 m 49 ls [.int (nI (pc_ (T 0) (zs_ L.length)))]) rfl ?_
    rw [← hQ]
    exact W.iret (v := nI (pc_ (T 0) (zs_ L.length))) hx hb hr (fun te9 hte9 _ => g_fin (⟨by rw [cn_, ← co_cg (tB_eq hvl hTB) 1]; rfl, rfl⟩) hP hS hte9) hS.2.2 dX2_countOf_49 hlocks
  · refine lv_tableIn (x := nI 2) (off := 49) (tgt := 50) hx hb dX2_countOf_1 (by decide) (by decide) rfl (by decide) ?_
    refine lv_aload_n hx hb dX2_countOf_50 rfl (lv_at hl 1 rfl) ?_
    refine g_callV0 (y := yX0_longestPath) (n := 0) (As := []) (rest := []) hx hb hml hown hts hE hZ hP hS hl.1 (m_X0_longestPath l D hAD σ (zs_ L.length) T hG) k_X2_169 (ci := 0) (by decide) hG.1 rfl rfl rfl rfl rfl ⟨rfl, rfl⟩ ⟨Nat.le_of_ble_eq_true rfl, Nat.le_of_ble_eq_true rfl⟩ (Nat.le_of_ble_eq_true rfl) ⟨Nat.le_of_ble_eq_true rfl, Nat.le_of_ble_eq_true rfl⟩ dX2_countOf_51 (fun v5 σ_6 H locs hq hP hS => ?_)
    obtain ⟨rfl, rfl⟩ := hq
    refine W.eq (g2 := F0 m 54 ls [.int (lg_ (T 7) (zs_ L.length))]) rfl ?_
    rw [← hQ]
    exact W.iret (v := lg_ (T 7) (zs_ L.length)) hx hb hr (fun te9 hte9 _ => g_fin (⟨by rw [cn_, ← co_cg (tB_eq hvl hTB) 2]; rfl, rfl⟩) hP hS hte9) hS.2.2 dX2_countOf_54 hlocks
  · refine lv_tableIn (x := nI 3) (off := 54) (tgt := 55) hx hb dX2_countOf_1 (by decide) (by decide) rfl (by decide) ?_
    refine lv_aload_n hx hb dX2_countOf_55 rfl (lv_at hl 1 rfl) ?_
    refine g_callV0 (y := yX0_addedPaths) (n := 0) (As := []) (rest := []) hx hb hml hown hts hE hZ hP hS hl.1 (m_X0_addedPaths l D hAD σ (zs_ L.length) T hG) k_X2_148 (ci := 0) (by decide) hG.1 rfl rfl rfl rfl rfl ⟨rfl, rfl⟩ ⟨Nat.le_of_ble_eq_true rfl, Nat.le_of_ble_eq_true rfl⟩ (Nat.le_of_ble_eq_true rfl) ⟨Nat.le_of_ble_eq_true rfl, Nat.le_of_ble_eq_true rfl⟩ dX2_countOf_56 (fun v7 σ_8 H locs hq hP hS => ?_)
    obtain ⟨rfl, rfl⟩ := hq
    refine W.eq (g2 := F0 m 59 ls [.int (ap_ (T 0) (T 7) (zs_ L.length))]) rfl ?_
    rw [← hQ]
    exact W.iret (v := ap_ (T 0) (T 7) (zs_ L.length)) hx hb hr (fun te9 hte9 _ => g_fin (⟨by rw [cn_, ← co_cg (tB_eq hvl hTB) 3]; rfl, rfl⟩) hP hS hte9) hS.2.2 dX2_countOf_59 hlocks
  · refine lv_tableIn (x := nI 4) (off := 59) (tgt := 60) hx hb dX2_countOf_1 (by decide) (by decide) rfl (by decide) ?_
    refine lv_aload_n hx hb dX2_countOf_60 rfl (lv_at hl 0 rfl) ?_
    refine lv_iconst (v := nI 0) hx hb dX2_countOf_61 (by decide) ?_
    refine lv_aload_n hx hb dX2_countOf_62 rfl (lv_at hl 0 rfl) ?_
    refine g_callV0 (y := yX1_size) (n := 0) (As := []) (rest := [.int (nI 0), .ref (ad_ D v)]) hx hb hml hown hts hE hZ hP hS hl.1 (m_X1_size l D hAD σ v L F G hV) k_X2_47 (ci := 1) (by omega) hV.1 rfl rfl rfl rfl rfl ⟨rfl, rfl⟩ ⟨Nat.le_of_ble_eq_true rfl, Nat.le_of_ble_eq_true rfl⟩ (Nat.le_of_ble_eq_true rfl) ⟨Nat.le_of_ble_eq_true rfl, Nat.le_of_ble_eq_true rfl⟩ dX2_countOf_63 (fun v9 σ_10 H locs hq hP hS => ?_)
    obtain ⟨rfl, rfl⟩ := hq
    refine W.eq (g2 := F0 m 66 ls [.int (nI L.length), .int (nI 0), .ref (ad_ D v)]) rfl ?_
    refine g_callV0 (y := yX1_sharedBits) (n := 2) (As := [.int (nI 0), .int (nI L.length)]) (rest := []) hx hb hml hown hts hE hZ hP hS hl.1 (m_X1_sharedBits l D hAD σ v L F G hV 0 L.length (by omega)) k_X2_127 (ci := 1) (by omega) hV.1 rfl rfl rfl rfl rfl ⟨rfl, rfl⟩ ⟨Nat.le_of_ble_eq_true rfl, Nat.le_of_ble_eq_true rfl⟩ (Nat.le_of_ble_eq_true rfl) ⟨Nat.le_of_ble_eq_true rfl, Nat.le_of_ble_eq_true rfl⟩ dX2_countOf_66 (fun v11 σ_12 H locs hq hP hS => ?_)
    obtain ⟨rfl, rfl⟩ := hq
    refine W.eq (g2 := F0 m 69 ls [.int (hs_ L 0 L.length)]) rfl ?_
    rw [← hQ]
    exact W.iret (v := hs_ L 0 L.length) hx hb hr (fun te9 hte9 _ => g_fin (⟨by rw [cn_, ← co_cg (tB_eq hvl hTB) 4]; rfl, rfl⟩) hP hS hte9) hS.2.2 dX2_countOf_69 hlocks
  · refine lv_tableIn (x := nI 5) (off := 69) (tgt := 70) hx hb dX2_countOf_1 (by decide) (by decide) rfl (by decide) ?_
    refine lv_aload_n hx hb dX2_countOf_70 rfl (lv_at hl 1 rfl) ?_
    refine g_callV0 (y := yX0_postBits) (n := 0) (As := []) (rest := []) hx hb hml hown hts hE hZ hP hS hl.1 (m_X0_postBits l D hAD σ (zs_ L.length) T hG) k_X2_172 (ci := 0) (by decide) hG.1 rfl rfl rfl rfl rfl ⟨rfl, rfl⟩ ⟨Nat.le_of_ble_eq_true rfl, Nat.le_of_ble_eq_true rfl⟩ (Nat.le_of_ble_eq_true rfl) ⟨Nat.le_of_ble_eq_true rfl, Nat.le_of_ble_eq_true rfl⟩ dX2_countOf_71 (fun v13 σ_14 H locs hq hP hS => ?_)
    obtain ⟨rfl, rfl⟩ := hq
    refine W.eq (g2 := F0 m 74 ls [.int (pb_ (T 0) (zs_ L.length))]) rfl ?_
    rw [← hQ]
    exact W.iret (v := pb_ (T 0) (zs_ L.length)) hx hb hr (fun te9 hte9 _ => g_fin (⟨by rw [cn_, ← co_cg (tB_eq hvl hTB) 5]; rfl, rfl⟩) hP hS hte9) hS.2.2 dX2_countOf_74 hlocks
  · refine lv_tableOut (x := nI 6) (tgt := 75) hx hb dX2_countOf_1 (by decide) (by decide) ?_
    refine lv_aload_n hx hb dX2_countOf_75 rfl (lv_at hl 0 rfl) ?_
    refine lv_iconst (v := nI 0) hx hb dX2_countOf_76 (by decide) ?_
    refine lv_aload_n hx hb dX2_countOf_77 rfl (lv_at hl 0 rfl) ?_
    refine g_callV0 (y := yX1_size) (n := 0) (As := []) (rest := [.int (nI 0), .ref (ad_ D v)]) hx hb hml hown hts hE hZ hP hS hl.1 (m_X1_size l D hAD σ v L F G hV) k_X2_47 (ci := 1) (by omega) hV.1 rfl rfl rfl rfl rfl ⟨rfl, rfl⟩ ⟨Nat.le_of_ble_eq_true rfl, Nat.le_of_ble_eq_true rfl⟩ (Nat.le_of_ble_eq_true rfl) ⟨Nat.le_of_ble_eq_true rfl, Nat.le_of_ble_eq_true rfl⟩ dX2_countOf_78 (fun v15 σ_16 H locs hq hP hS => ?_)
    obtain ⟨rfl, rfl⟩ := hq
    refine W.eq (g2 := F0 m 81 ls [.int (nI L.length), .int (nI 0), .ref (ad_ D v)]) rfl ?_
    refine g_callV0 (y := yX1_addedMiles) (n := 2) (As := [.int (nI 0), .int (nI L.length)]) (rest := []) hx hb hml hown hts hE hZ hP hS hl.1 (m_X1_addedMiles l D hAD σ v L F G hV 0 L.length (by omega)) k_X2_124 (ci := 1) (by omega) hV.1 rfl rfl rfl rfl rfl ⟨rfl, rfl⟩ ⟨Nat.le_of_ble_eq_true rfl, Nat.le_of_ble_eq_true rfl⟩ (Nat.le_of_ble_eq_true rfl) ⟨Nat.le_of_ble_eq_true rfl, Nat.le_of_ble_eq_true rfl⟩ dX2_countOf_81 (fun v17 σ_18 H locs hq hP hS => ?_)
    obtain ⟨rfl, rfl⟩ := hq
    refine W.eq (g2 := F0 m 84 ls [.int (sm_ L 0 (L.length - 0))]) rfl ?_
    rw [← hQ]
    exact W.iret (v := sm_ L 0 (L.length - 0)) hx hb hr (fun te9 hte9 _ => g_fin (⟨by rw [cn_, ← co_cg (tB_eq hvl hTB) 6]; rfl, rfl⟩) hP hS hte9) hS.2.2 dX2_countOf_84 hlocks

abbrev m_X2_mergedMiles_rm : Room := { frames := 8, cells := 0, slots := 0, locals := 200 }
set_option maxHeartbeats 4000000 in
set_option maxRecDepth 100000 in
theorem m_X2_mergedMiles (l : Launch) (D : va_G) (hAD : g_AD D) (σ : Nat → va_E) (r9 : Nat) (a9 b9 : Int32) (hr9 : r9 ≤ 3) : g_M l D yX2_mergedMiles cX2_mergedMiles 3 (some .int) m_X2_mergedMiles_rm [.int (nI r9), .int a9, .int b9] σ (fun v1 σ1 => v1 = some (.int (mgm_ r9 a9 b9)) ∧ σ = σ1) := by
  refine g_ofW [(0, .int (nI r9)), (1, .int a9), (2, .int b9)] (by decide +kernel) (Nat.le_of_ble_eq_true rfl) rfl ?_
  intro p e s m args below meth c hx hb hr hml hown hlocks hts hE hZ hP hS hnm ls hl
  have hown : s.vm.findClass RX2 = some m.cls := hown
  generalize hQ : MQ _ _ _ _ _ _ _ = Q
  refine lv_iload_n hx hb dX2_mergedMiles_0 rfl (lv_at hl 2 rfl) ?_
  refine lv_iconst (v := (-1)) hx hb dX2_mergedMiles_1 (by decide) ?_
  refine lv_icmp_ne (tgt := 7) hx hb dX2_mergedMiles_2 (by decide) (fun h2 => ?_) (fun h2 => ?_)
  · refine lv_iload_n hx hb dX2_mergedMiles_7 rfl (lv_at hl 0 rfl) ?_
    rcases (show r9 = 0 ∨ r9 = 1 ∨ r9 = 2 ∨ r9 = 3 by omega) with rfl | rfl | rfl | rfl
    · refine lv_tableIn (x := nI 0) (off := 28) (tgt := 36) hx hb dX2_mergedMiles_8 (by decide) (by decide) rfl (by decide) ?_
      refine lv_iload_n hx hb dX2_mergedMiles_36 rfl (lv_at hl 1 rfl) ?_
      rw [← hQ]
      exact W.iret (v := a9) hx hb hr (fun te9 hte9 _ => g_fin (⟨by first | (unfold mgm_; rw [if_pos h2]) | (unfold mgm_; rw [if_neg h2]; done) | (unfold mgm_; rw [if_neg h2]; rfl), rfl⟩) hP hS hte9) hS.2.2 dX2_mergedMiles_37 hlocks
    · refine lv_tableIn (x := nI 1) (off := 30) (tgt := 38) hx hb dX2_mergedMiles_8 (by decide) (by decide) rfl (by decide) ?_
      refine lv_iload_n hx hb dX2_mergedMiles_38 rfl (lv_at hl 2 rfl) ?_
      rw [← hQ]
      exact W.iret (v := b9) hx hb hr (fun te9 hte9 _ => g_fin (⟨by first | (unfold mgm_; rw [if_pos h2]) | (unfold mgm_; rw [if_neg h2]; done) | (unfold mgm_; rw [if_neg h2]; rfl), rfl⟩) hP hS hte9) hS.2.2 dX2_mergedMiles_39 hlocks
    · refine lv_tableIn (x := nI 2) (off := 32) (tgt := 40) hx hb dX2_mergedMiles_8 (by decide) (by decide) rfl (by decide) ?_
      refine lv_iload_n hx hb dX2_mergedMiles_40 rfl (lv_at hl 1 rfl) ?_
      refine lv_iload_n hx hb dX2_mergedMiles_41 rfl (lv_at hl 2 rfl) ?_
      refine lv_iadd hx hb dX2_mergedMiles_42 ?_
      refine lv_sipush (v := nI 999) hx hb dX2_mergedMiles_43 (by decide) ?_
      refine g_mmin hx hb (hml.trans hl.1.symm) hown hts k_X2_175 k_min ⟨Nat.le_of_ble_eq_true rfl, Nat.le_of_ble_eq_true rfl, by omega, by omega⟩ dX2_mergedMiles_46 ?_
      rw [← hQ]
      exact W.iret (v := if nI 999 < (a9) + (b9) then nI 999 else (a9) + (b9)) hx hb hr (fun te9 hte9 _ => g_fin (⟨by first | (unfold mgm_; rw [if_pos h2]) | (unfold mgm_; rw [if_neg h2]; done) | (unfold mgm_; rw [if_neg h2]; rfl), rfl⟩) hP hS hte9) hS.2.2 dX2_mergedMiles_49 hlocks
    · refine lv_tableOut (x := nI 3) (tgt := 50) hx hb dX2_mergedMiles_8 (by decide) (by decide) ?_
      refine lv_iload_n hx hb dX2_mergedMiles_50 rfl (lv_at hl 1 rfl) ?_
      refine lv_iload_n hx hb dX2_mergedMiles_51 rfl (lv_at hl 2 rfl) ?_
      refine g_mmin hx hb (hml.trans hl.1.symm) hown hts k_X2_175 k_min ⟨Nat.le_of_ble_eq_true rfl, Nat.le_of_ble_eq_true rfl, by omega, by omega⟩ dX2_mergedMiles_52 ?_
      rw [← hQ]
      exact W.iret (v := if b9 < a9 then b9 else a9) hx hb hr (fun te9 hte9 _ => g_fin (⟨by first | (unfold mgm_; rw [if_pos h2]) | (unfold mgm_; rw [if_neg h2]; done) | (unfold mgm_; rw [if_neg h2]; rfl), rfl⟩) hP hS hte9) hS.2.2 dX2_mergedMiles_55 hlocks
  · refine lv_iload_n hx hb dX2_mergedMiles_5 rfl (lv_at hl 1 rfl) ?_
    rw [← hQ]
    exact W.iret (v := a9) hx hb hr (fun te9 hte9 _ => g_fin (⟨by first | (unfold mgm_; rw [if_pos h2]) | (unfold mgm_; rw [if_neg h2]; done) | (unfold mgm_; rw [if_neg h2]; rfl), rfl⟩) hP hS hte9) hS.2.2 dX2_mergedMiles_6 hlocks
