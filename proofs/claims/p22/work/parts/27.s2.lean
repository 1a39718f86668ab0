/-- paths: the longest, all, the bits of posts -/
def pth_ : Nat → List Int32 → Nat × Nat × Int32
  | 0, _ => (0, 0, 0)
  | k + 1, R => if bt_ R < 0 then (0, 0, 0) else (1 + max (pth_ k (wi_ R (bt_ R).toNatClampNeg false)).1 (pth_ k (wi_ R (bt_ R).toNatClampNeg true)).1, R.length + (pth_ k (wi_ R (bt_ R).toNatClampNeg false)).2.1 + (pth_ k (wi_ R (bt_ R).toNatClampNeg true)).2.1, (nI 1 <<< (bt_ R &&& 31)) ||| (pth_ k (wi_ R (bt_ R).toNatClampNeg false)).2.2 ||| (pth_ k (wi_ R (bt_ R).toNatClampNeg true)).2.2)
theorem pth_n {R : List Int32} {k : Nat} (h : bt_ R = -1) : pth_ (k + 1) R = (0, 0, 0) := by rw [pth_, h, if_pos (by decide)]
theorem pth_b {R : List Int32} {k b : Nat} (h : bt_ R = nI b) (hb : b < 16) : pth_ (k + 1) R = (1 + max (pth_ k (wi_ R b false)).1 (pth_ k (wi_ R b true)).1, R.length + (pth_ k (wi_ R b false)).2.1 + (pth_ k (wi_ R b true)).2.1, (nI 1 <<< (nI b &&& 31)) ||| (pth_ k (wi_ R b false)).2.2 ||| (pth_ k (wi_ R b true)).2.2) := by
  rw [pth_, h, if_neg (nI_pos (by omega)), nI_clamp (by omega)]
theorem pth_le : ∀ (k : Nat) (R : List Int32), (pth_ k R).1 ≤ k
  | 0, _ => Nat.le_refl _
  | k + 1, R => by
    rw [pth_]
    split
    · exact Nat.zero_le _
    · have h1 := pth_le k (wi_ R (bt_ R).toNatClampNeg false)
      have h2 := pth_le k (wi_ R (bt_ R).toNatClampNeg true)
      show 1 + max _ _ ≤ k + 1
      omega
theorem im_n {a b : Nat} (ha : a < 2 ^ 31) (hb : b < 2 ^ 31) : (if nI a < nI b then nI b else nI a) = nI (max a b) := by
  by_cases h : a < b
  · rw [if_pos (nI_lt h hb), Nat.max_eq_right (by omega)]
  · rw [if_neg (nI_nlt (by omega) ha), Nat.max_eq_left (by omega)]
abbrev m_X3_paths_rm (k c : Nat) : Room := { frames := k + 12, cells := 6 * c - 3 + (1 - c), slots := 60 * c - 57 + 3 * (1 - c), locals := 600 + 100 * k }
set_option maxHeartbeats 4000000 in
set_option maxRecDepth 100000 in
theorem m_X3_paths (l : Launch)  (D : va_G)  : ∀ (k : Nat) (a0 : Nat) (R : List Int32) (hn : R.length ≤ 24) (hrn : rn_ R) (hk : R.length < k) (hk30 : k ≤ 30), h_M l D yX3_paths cX3_paths 4 (some (.array .int)) (m_X3_paths_rm k R.length) [.ref a0] none ([(a0, h_row D R)]) ([]) (fun v1 w1 => ∃ a1, v1 = some (.ref a1) ∧ w1 = [(a1, h_row D [nI (pth_ k R).1, nI (pth_ k R).2.1, (pth_ k R).2.2])]) := by
  intro k
  induction k with
  | zero => intro a0 R hn hrn hk hk30; exact absurd hk (Nat.not_lt_zero _)
  | succ k ih =>
  intro a0 R hn hrn hk hk30
  refine h_ofW [(0, .ref a0)] (by decide +kernel) (Nat.le_of_ble_eq_true rfl) rfl ?_
  intro p e s m args below meth c hx hb hr hml hown hlocks hts hE hZ hR hP hS hX ls hl
  have hown : s.vm.findClass RX3 = some m.cls := hown
  generalize hQ : MQ _ _ _ _ _ _ _ = Q
  have hap : h_ap ([(a0, h_row D R)]) [] := h_ap.nil
  have hD : va_D (va_A ([]) s.heap.size) [] := h_D0
  refine lv_aload_n hx hb dX3_paths_0 rfl (lv_at hl 0 rfl) ?_
  refine h_callS (y := yX3_bit) (n := 1) (As := [.ref a0]) (rest := []) hx hb hml hown hts hE hZ hS hl.1 (m_X3_bit l D a0 R hn hrn) (h_pick (w := []) (xs := [(a0, h_row D R)]) (i := 0) (h_rk hR hap hS) (rfl)) h_P0 (h_Anil hS h_Asz) (fun _ _ _ => trivial) (h_jR hP hD (h_Anil hS h_Asz)) k_X3_48 rfl rfl ⟨by show 9 + 1 ≤ k + 1 + 12; omega, by show 8 + (3 + 11) + 226 ≤ 600 + 100 * (k + 1); omega⟩ (Nat.le_of_ble_eq_true rfl) ⟨by show 0 + 0 ≤ (6 * R.length - 3 + (1 - R.length)); omega, by show 0 + 0 ≤ (60 * R.length - 57 + 3 * (1 - R.length)); omega⟩ dX3_paths_1 (fun v1 w1 H locs hq hP hD hS => ?_)
  obtain ⟨rfl, rfl⟩ := hq
  rw [List.append_nil] at hP hD
  have hP : va_P D vwCl [] H := hP
  have hD : va_D (va_A ([]) s.heap.size) [] := hD
  refine W.widen (k := 0) (n := 0) (Nat.le_of_ble_eq_true rfl) (Nat.le_of_ble_eq_true rfl) ?_
  refine W.eq (g2 := F0 m 4 ls [.int (bt_ R)]) rfl ?_
  refine lv_istore_n (lv' := [(1, .int (bt_ R)), (0, .ref a0)]) hx hb dX3_paths_4 rfl hl (by decide) rfl (fun ls hl => ?_)
  refine lv_iload_n hx hb dX3_paths_5 rfl (lv_at hl 0 rfl) ?_
  refine lv_if_ge (tgt := 13) hx hb dX3_paths_6 (by decide) (fun h6 => ?_) (fun h6 => ?_)
  · rcases bt_r R with hbe | ⟨b, hb16, hbe, hb0, hb1⟩
    · rw [hbe] at h6; exact absurd h6 (by decide)
    rw [hbe] at hl
    have hwl := wi_len R b
    have hwt := wi_t R b
    have hpx := pth_le k (wi_ R b false)
    have hpy := pth_le k (wi_ R b true)
    refine lv_aload_n hx hb dX3_paths_13 rfl (lv_at hl 1 rfl) ?_
    refine lv_iload_n hx hb dX3_paths_14 rfl (lv_at hl 0 rfl) ?_
    refine lv_iconst (v := nI 0) hx hb dX3_paths_15 (by decide) ?_
    refine h_callS (y := yX3_with) (n := 3) (As := [.ref a0, .int (nI b), .int (nI 0)]) (rest := []) hx hb hml hown hts hE hZ hS hl.1 (m_X3_with l D a0 R b 0 hn hrn (by omega) (by decide)) (h_pick (w := []) (xs := [(a0, h_row D R)]) (i := 0) (h_rk hR hap hS) (rfl)) h_P0 (h_Anil hS h_Asz) (fun _ _ _ => trivial) (h_jR hP hD (h_Anil hS h_Asz)) k_X3_64 rfl rfl ⟨by show 9 + 1 ≤ k + 1 + 12; omega, by show 8 + (9 + 11) + 226 ≤ 600 + 100 * (k + 1); omega⟩ (Nat.le_of_ble_eq_true rfl) ⟨by show 0 + 1 ≤ (6 * R.length - 3 + (1 - R.length)); omega, by show 0 + 24 ≤ (60 * R.length - 57 + 3 * (1 - R.length)); omega⟩ dX3_paths_16 (fun v3 w1 H locs hq hP hD hS => ?_)
    obtain ⟨aw2, rfl, rfl⟩ := hq
    have hP : va_P D vwCl [(aw2, h_row D (wi_ R b false))] H := hP
    have hD : va_D (va_A ([]) s.heap.size) [(aw2, h_row D (wi_ R b false))] := hD
    refine W.widen (k := 1) (n := 24) (Nat.le_of_ble_eq_true rfl) (Nat.le_of_ble_eq_true rfl) ?_
    refine W.eq (g2 := F0 m 19 ls [.ref aw2]) rfl ?_
    refine h_callS (y := yX3_paths) (n := 1) (As := [.ref aw2]) (rest := []) hx hb hml hown hts hE hZ hS hl.1 (ih aw2 (wi_ R b false) (by omega) (rn_wi hrn) (by omega) (by omega)) (h_pick (w := []) (xs := [(aw2, h_row D (wi_ R b false))]) (i := 0) hP (rfl)) h_P0 (h_Anil hS h_Asz) (fun _ _ _ => trivial) (h_jR hP hD (h_Anil hS h_Asz)) k_X3_72 rfl rfl ⟨by show k + 12 + 1 ≤ k + 1 + 12; omega, by show 8 + (4 + 11) + (600 + 100 * k) ≤ 600 + 100 * (k + 1); omega⟩ (Nat.le_of_ble_eq_true rfl) ⟨by show 1 + (6 * (wi_ R b false).length - 3 + (1 - (wi_ R b false).length)) ≤ (6 * R.length - 3 + (1 - R.length)); omega, by show 24 + (60 * (wi_ R b false).length - 57 + 3 * (1 - (wi_ R b false).length)) ≤ (60 * R.length - 57 + 3 * (1 - R.length)); omega⟩ dX3_paths_19 (fun v5 w1 H locs hq hP hD hS => ?_)
    obtain ⟨pp4, rfl, rfl⟩ := hq
    have hP : va_P D vwCl [(aw2, h_row D (wi_ R b false)), (pp4, h_row D ([nI (pth_ k (wi_ R b false)).1, nI (pth_ k (wi_ R b false)).2.1, (pth_ k (wi_ R b false)).2.2]))] H := hP
    have hD : va_D (va_A ([]) s.heap.size) [(aw2, h_row D (wi_ R b false)), (pp4, h_row D ([nI (pth_ k (wi_ R b false)).1, nI (pth_ k (wi_ R b false)).2.1, (pth_ k (wi_ R b false)).2.2]))] := hD
    refine W.widen (k := (1 + (6 * (wi_ R b false).length - 3 + (1 - (wi_ R b false).length)))) (n := (24 + (60 * (wi_ R b false).length - 57 + 3 * (1 - (wi_ R b false).length)))) (Nat.le_refl _) (Nat.le_refl _) ?_
    refine W.eq (g2 := F0 m 22 ls [.ref pp4]) rfl ?_
    refine lv_astore_n (lv' := [(2, .ref pp4), (1, .int (nI b)), (0, .ref a0)]) hx hb dX3_paths_22 rfl hl (by decide) rfl (fun ls hl => ?_)
    refine lv_aload_n hx hb dX3_paths_23 rfl (lv_at hl 2 rfl) ?_
    refine lv_iload_n hx hb dX3_paths_24 rfl (lv_at hl 1 rfl) ?_
    refine lv_iconst (v := nI 1) hx hb dX3_paths_25 (by decide) ?_
    refine h_callS (y := yX3_with) (n := 3) (As := [.ref a0, .int (nI b), .int (nI 1)]) (rest := []) hx hb hml hown hts hE hZ hS hl.1 (m_X3_with l D a0 R b 1 hn hrn (by omega) (by decide)) (h_pick (w := []) (xs := [(a0, h_row D R)]) (i := 0) (h_rk hR hap hS) (rfl)) h_P0 (h_Anil hS h_Asz) (fun _ _ _ => trivial) (h_jR hP hD (h_Anil hS h_Asz)) k_X3_64 rfl rfl ⟨by show 9 + 1 ≤ k + 1 + 12; omega, by show 8 + (9 + 11) + 226 ≤ 600 + 100 * (k + 1); omega⟩ (Nat.le_of_ble_eq_true rfl) ⟨by show (1 + (6 * (wi_ R b false).length - 3 + (1 - (wi_ R b false).length))) + 1 ≤ (6 * R.length - 3 + (1 - R.length)); omega, by show (24 + (60 * (wi_ R b false).length - 57 + 3 * (1 - (wi_ R b false).length))) + 24 ≤ (60 * R.length - 57 + 3 * (1 - R.length)); omega⟩ dX3_paths_26 (fun v7 w1 H locs hq hP hD hS => ?_)
    obtain ⟨aw6, rfl, rfl⟩ := hq
    have hP : va_P D vwCl [(aw2, h_row D (wi_ R b false)), (pp4, h_row D ([nI (pth_ k (wi_ R b false)).1, nI (pth_ k (wi_ R b false)).2.1, (pth_ k (wi_ R b false)).2.2])), (aw6, h_row D (wi_ R b true))] H := hP
    have hD : va_D (va_A ([]) s.heap.size) [(aw2, h_row D (wi_ R b false)), (pp4, h_row D ([nI (pth_ k (wi_ R b false)).1, nI (pth_ k (wi_ R b false)).2.1, (pth_ k (wi_ R b false)).2.2])), (aw6, h_row D (wi_ R b true))] := hD
    refine W.widen (k := ((1 + (6 * (wi_ R b false).length - 3 + (1 - (wi_ R b false).length))) + 1)) (n := ((24 + (60 * (wi_ R b false).length - 57 + 3 * (1 - (wi_ R b false).length))) + 24)) (Nat.le_refl _) (Nat.le_refl _) ?_
    refine W.eq (g2 := F0 m 29 ls [.ref aw6]) rfl ?_
    refine h_callS (y := yX3_paths) (n := 1) (As := [.ref aw6]) (rest := []) hx hb hml hown hts hE hZ hS hl.1 (ih aw6 (wi_ R b true) (by omega) (rn_wi hrn) (by omega) (by omega)) (h_pick (w := []) (xs := [(aw2, h_row D (wi_ R b false)), (pp4, h_row D ([nI (pth_ k (wi_ R b false)).1, nI (pth_ k (wi_ R b false)).2.1, (pth_ k (wi_ R b false)).2.2])), (aw6, h_row D (wi_ R b true))]) (i := 2) hP (rfl)) h_P0 (h_Anil hS h_Asz) (fun _ _ _ => trivial) (h_jR hP hD (h_Anil hS h_Asz)) k_X3_72 rfl rfl ⟨by show k + 12 + 1 ≤ k + 1 + 12; omega, by show 8 + (4 + 11) + (600 + 100 * k) ≤ 600 + 100 * (k + 1); omega⟩ (Nat.le_of_ble_eq_true rfl) ⟨by show ((1 + (6 * (wi_ R b false).length - 3 + (1 - (wi_ R b false).length))) + 1) + (6 * (wi_ R b true).length - 3 + (1 - (wi_ R b true).length)) ≤ (6 * R.length - 3 + (1 - R.length)); omega, by show ((24 + (60 * (wi_ R b false).length - 57 + 3 * (1 - (wi_ R b false).length))) + 24) + (60 * (wi_ R b true).length - 57 + 3 * (1 - (wi_ R b true).length)) ≤ (60 * R.length - 57 + 3 * (1 - R.length)); omega⟩ dX3_paths_29 (fun v9 w1 H locs hq hP hD hS => ?_)
    obtain ⟨pp8, rfl, rfl⟩ := hq
    have hP : va_P D vwCl [(aw2, h_row D (wi_ R b false)), (pp4, h_row D ([nI (pth_ k (wi_ R b false)).1, nI (pth_ k (wi_ R b false)).2.1, (pth_ k (wi_ R b false)).2.2])), (aw6, h_row D (wi_ R b true)), (pp8, h_row D ([nI (pth_ k (wi_ R b true)).1, nI (pth_ k (wi_ R b true)).2.1, (pth_ k (wi_ R b true)).2.2]))] H := hP
    have hD : va_D (va_A ([]) s.heap.size) [(aw2, h_row D (wi_ R b false)), (pp4, h_row D ([nI (pth_ k (wi_ R b false)).1, nI (pth_ k (wi_ R b false)).2.1, (pth_ k (wi_ R b false)).2.2])), (aw6, h_row D (wi_ R b true)), (pp8, h_row D ([nI (pth_ k (wi_ R b true)).1, nI (pth_ k (wi_ R b true)).2.1, (pth_ k (wi_ R b true)).2.2]))] := hD
    refine W.widen (k := (((1 + (6 * (wi_ R b false).length - 3 + (1 - (wi_ R b false).length))) + 1) + (6 * (wi_ R b true).length - 3 + (1 - (wi_ R b true).length)))) (n := (((24 + (60 * (wi_ R b false).length - 57 + 3 * (1 - (wi_ R b false).length))) + 24) + (60 * (wi_ R b true).length - 57 + 3 * (1 - (wi_ R b true).length)))) (Nat.le_refl _) (Nat.le_refl _) ?_
    refine W.eq (g2 := F0 m 32 ls [.ref pp8]) rfl ?_
    refine lv_astore_n (lv' := [(3, .ref pp8), (2, .ref pp4), (1, .int (nI b)), (0, .ref a0)]) hx hb dX3_paths_32 rfl hl (by decide) rfl (fun ls hl => ?_)
    refine lv_iconst (v := nI 3) hx hb dX3_paths_33 (by decide) ?_
    refine h_new (w := []) (xs := [(aw2, h_row D (wi_ R b false)), (pp4, h_row D ([nI (pth_ k (wi_ R b false)).1, nI (pth_ k (wi_ R b false)).2.1, (pth_ k (wi_ R b false)).2.2])), (aw6, h_row D (wi_ R b true)), (pp8, h_row D ([nI (pth_ k (wi_ R b true)).1, nI (pth_ k (wi_ R b true)).2.1, (pth_ k (wi_ R b true)).2.2]))]) (n := 3) hx hb hts hE hP hD hS h_Asz (by omega) (by show (((1 + (6 * (wi_ R b false).length - 3 + (1 - (wi_ R b false).length))) + 1) + (6 * (wi_ R b true).length - 3 + (1 - (wi_ R b true).length))) + 1 ≤ (6 * R.length - 3 + (1 - R.length)); omega) (by show (((24 + (60 * (wi_ R b false).length - 57 + 3 * (1 - (wi_ R b false).length))) + 24) + (60 * (wi_ R b true).length - 57 + 3 * (1 - (wi_ R b true).length))) + 3 ≤ (60 * R.length - 57 + 3 * (1 - R.length)); omega) dX3_paths_34 (fun q10 H hP hD hS => ?_)
    refine W.widen (k := (((1 + (6 * (wi_ R b false).length - 3 + (1 - (wi_ R b false).length))) + 1) + (6 * (wi_ R b true).length - 3 + (1 - (wi_ R b true).length))) + 1) (n := (((24 + (60 * (wi_ R b false).length - 57 + 3 * (1 - (wi_ R b false).length))) + 24) + (60 * (wi_ R b true).length - 57 + 3 * (1 - (wi_ R b true).length))) + 3) (by omega) (by omega) ?_
    have hP : va_P D vwCl [(aw2, h_row D (wi_ R b false)), (pp4, h_row D ([nI (pth_ k (wi_ R b false)).1, nI (pth_ k (wi_ R b false)).2.1, (pth_ k (wi_ R b false)).2.2])), (aw6, h_row D (wi_ R b true)), (pp8, h_row D ([nI (pth_ k (wi_ R b true)).1, nI (pth_ k (wi_ R b true)).2.1, (pth_ k (wi_ R b true)).2.2])), (q10, h_row D (List.replicate 3 0))] H := hP
    have hD : va_D (va_A ([]) s.heap.size) [(aw2, h_row D (wi_ R b false)), (pp4, h_row D ([nI (pth_ k (wi_ R b false)).1, nI (pth_ k (wi_ R b false)).2.1, (pth_ k (wi_ R b false)).2.2])), (aw6, h_row D (wi_ R b true)), (pp8, h_row D ([nI (pth_ k (wi_ R b true)).1, nI (pth_ k (wi_ R b true)).2.1, (pth_ k (wi_ R b true)).2.2])), (q10, h_row D (List.replicate 3 0))] := hD
    have hP : va_P D vwCl [(aw2, h_row D (wi_ R b false)), (pp4, h_row D ([nI (pth_ k (wi_ R b false)).1, nI (pth_ k (wi_ R b false)).2.1, (pth_ k (wi_ R b false)).2.2])), (aw6, h_row D (wi_ R b true)), (pp8, h_row D ([nI (pth_ k (wi_ R b true)).1, nI (pth_ k (wi_ R b true)).2.1, (pth_ k (wi_ R b true)).2.2])), (q10, h_row D ([0, 0, 0]))] H := hP
    have hD : va_D (va_A ([]) s.heap.size) [(aw2, h_row D (wi_ R b false)), (pp4, h_row D ([nI (pth_ k (wi_ R b false)).1, nI (pth_ k (wi_ R b false)).2.1, (pth_ k (wi_ R b false)).2.2])), (aw6, h_row D (wi_ R b true)), (pp8, h_row D ([nI (pth_ k (wi_ R b true)).1, nI (pth_ k (wi_ R b true)).2.1, (pth_ k (wi_ R b true)).2.2])), (q10, h_row D ([0, 0, 0]))] := hD
    refine lv_dup hx hb dX3_paths_36 rfl ?_
    refine lv_iconst (v := nI 0) hx hb dX3_paths_37 (by decide) ?_
    refine lv_iconst (v := nI 1) hx hb dX3_paths_38 (by decide) ?_
    refine lv_aload_n hx hb dX3_paths_39 rfl (lv_at hl 1 rfl) ?_
    refine lv_iconst (v := nI 0) hx hb dX3_paths_40 (by decide) ?_
    refine h_ild (w := []) (xs := [(aw2, h_row D (wi_ R b false)), (pp4, h_row D ([nI (pth_ k (wi_ R b false)).1, nI (pth_ k (wi_ R b false)).2.1, (pth_ k (wi_ R b false)).2.2])), (aw6, h_row D (wi_ R b true)), (pp8, h_row D ([nI (pth_ k (wi_ R b true)).1, nI (pth_ k (wi_ R b true)).2.1, (pth_ k (wi_ R b true)).2.2])), (q10, h_row D ([0, 0, 0]))]) (i := 1) (R := [nI (pth_ k (wi_ R b false)).1, nI (pth_ k (wi_ R b false)).2.1, (pth_ k (wi_ R b false)).2.2]) (j := 0) hx hb hE hP (rfl) (show 0 < 3 by decide) (show 3 < 2 ^ 31 by decide) (v := nI ((pth_ k (wi_ R b false)).1)) (rfl) dX3_paths_41 ?_
    refine lv_aload_n hx hb dX3_paths_42 rfl (lv_at hl 0 rfl) ?_
    refine lv_iconst (v := nI 0) hx hb dX3_paths_43 (by decide) ?_
    refine h_ild (w := []) (xs := [(aw2, h_row D (wi_ R b false)), (pp4, h_row D ([nI (pth_ k (wi_ R b false)).1, nI (pth_ k (wi_ R b false)).2.1, (pth_ k (wi_ R b false)).2.2])), (aw6, h_row D (wi_ R b true)), (pp8, h_row D ([nI (pth_ k (wi_ R b true)).1, nI (pth_ k (wi_ R b true)).2.1, (pth_ k (wi_ R b true)).2.2])), (q10, h_row D ([0, 0, 0]))]) (i := 3) (R := [nI (pth_ k (wi_ R b true)).1, nI (pth_ k (wi_ R b true)).2.1, (pth_ k (wi_ R b true)).2.2]) (j := 0) hx hb hE hP (rfl) (show 0 < 3 by decide) (show 3 < 2 ^ 31 by decide) (v := nI ((pth_ k (wi_ R b true)).1)) (rfl) dX3_paths_44 ?_
    refine g_mmax hx hb (hml.trans hl.1.symm) hown hts k_X3_45 k_max ⟨Nat.le_of_ble_eq_true rfl, Nat.le_of_ble_eq_true rfl, by show ((((1 + (6 * (wi_ R b false).length - 3 + (1 - (wi_ R b false).length))) + 1) + (6 * (wi_ R b true).length - 3 + (1 - (wi_ R b true).length))) + 1) ≤ (6 * R.length - 3 + (1 - R.length)); omega, by show ((((24 + (60 * (wi_ R b false).length - 57 + 3 * (1 - (wi_ R b false).length))) + 24) + (60 * (wi_ R b true).length - 57 + 3 * (1 - (wi_ R b true).length))) + 3) ≤ (60 * R.length - 57 + 3 * (1 - R.length)); omega⟩ dX3_paths_45 ?_
    refine g_top (y := nI (max (pth_ k (wi_ R b false)).1 (pth_ k (wi_ R b true)).1)) (im_n (by omega) (by omega)) ?_
    refine lv_iadd hx hb dX3_paths_48 ?_
    refine g_top (y := nI (1 + (max (pth_ k (wi_ R b false)).1 (pth_ k (wi_ R b true)).1))) (nI_add 1 (max (pth_ k (wi_ R b false)).1 (pth_ k (wi_ R b true)).1)) ?_
    refine h_ist (w := []) (xs := [(aw2, h_row D (wi_ R b false)), (pp4, h_row D ([nI (pth_ k (wi_ R b false)).1, nI (pth_ k (wi_ R b false)).2.1, (pth_ k (wi_ R b false)).2.2])), (aw6, h_row D (wi_ R b true)), (pp8, h_row D ([nI (pth_ k (wi_ R b true)).1, nI (pth_ k (wi_ R b true)).2.1, (pth_ k (wi_ R b true)).2.2])), (q10, h_row D ([0, 0, 0]))]) (i := 4) (R := [0, 0, 0]) (j := 0) (x := nI (1 + (max (pth_ k (wi_ R b false)).1 (pth_ k (wi_ R b true)).1))) hx hb hE hP hD hS (rfl) (show 0 < 3 by decide) (show 3 < 2 ^ 31 by decide) dX3_paths_49 (fun H locs hP hD hS => ?_)
    rw [show ([0, 0, 0]).set 0 (nI (1 + (max (pth_ k (wi_ R b false)).1 (pth_ k (wi_ R b true)).1))) = [nI (1 + (max (pth_ k (wi_ R b false)).1 (pth_ k (wi_ R b true)).1)), 0, 0] from rfl] at hP hD
    have hP : va_P D vwCl [(aw2, h_row D (wi_ R b false)), (pp4, h_row D ([nI (pth_ k (wi_ R b false)).1, nI (pth_ k (wi_ R b false)).2.1, (pth_ k (wi_ R b false)).2.2])), (aw6, h_row D (wi_ R b true)), (pp8, h_row D ([nI (pth_ k (wi_ R b true)).1, nI (pth_ k (wi_ R b true)).2.1, (pth_ k (wi_ R b true)).2.2])), (q10, h_row D ([nI (1 + (max (pth_ k (wi_ R b false)).1 (pth_ k (wi_ R b true)).1)), 0, 0]))] H := hP
    have hD : va_D (va_A ([]) s.heap.size) [(aw2, h_row D (wi_ R b false)), (pp4, h_row D ([nI (pth_ k (wi_ R b false)).1, nI (pth_ k (wi_ R b false)).2.1, (pth_ k (wi_ R b false)).2.2])), (aw6, h_row D (wi_ R b true)), (pp8, h_row D ([nI (pth_ k (wi_ R b true)).1, nI (pth_ k (wi_ R b true)).2.1, (pth_ k (wi_ R b true)).2.2])), (q10, h_row D ([nI (1 + (max (pth_ k (wi_ R b false)).1 (pth_ k (wi_ R b true)).1)), 0, 0]))] := hD
    refine lv_dup hx hb dX3_paths_50 rfl ?_
    refine lv_iconst (v := nI 1) hx hb dX3_paths_51 (by decide) ?_
    refine lv_aload_n hx hb dX3_paths_52 rfl (lv_at hl 3 rfl) ?_
    refine h_aln (w := []) (xs := [(a0, h_row D R)]) (i := 0) (R := R) hx hb hE (h_rk hR hap hS) (rfl) dX3_paths_53 ?_
    refine lv_aload_n hx hb dX3_paths_54 rfl (lv_at hl 1 rfl) ?_
    refine lv_iconst (v := nI 1) hx hb dX3_paths_55 (by decide) ?_
    refine h_ild (w := []) (xs := [(aw2, h_row D (wi_ R b false)), (pp4, h_row D ([nI (pth_ k (wi_ R b false)).1, nI (pth_ k (wi_ R b false)).2.1, (pth_ k (wi_ R b false)).2.2])), (aw6, h_row D (wi_ R b true)), (pp8, h_row D ([nI (pth_ k (wi_ R b true)).1, nI (pth_ k (wi_ R b true)).2.1, (pth_ k (wi_ R b true)).2.2])), (q10, h_row D ([nI (1 + (max (pth_ k (wi_ R b false)).1 (pth_ k (wi_ R b true)).1)), 0, 0]))]) (i := 1) (R := [nI (pth_ k (wi_ R b false)).1, nI (pth_ k (wi_ R b false)).2.1, (pth_ k (wi_ R b false)).2.2]) (j := 1) hx hb hE hP (rfl) (show 1 < 3 by decide) (show 3 < 2 ^ 31 by decide) (v := nI ((pth_ k (wi_ R b false)).2.1)) (rfl) dX3_paths_56 ?_
    refine lv_iadd hx hb dX3_paths_57 ?_
    refine g_top (y := nI (R.length + ((pth_ k (wi_ R b false)).2.1))) (nI_add R.length ((pth_ k (wi_ R b false)).2.1)) ?_
    refine lv_aload_n hx hb dX3_paths_58 rfl (lv_at hl 0 rfl) ?_
    refine lv_iconst (v := nI 1) hx hb dX3_paths_59 (by decide) ?_
    refine h_ild (w := []) (xs := [(aw2, h_row D (wi_ R b false)), (pp4, h_row D ([nI (pth_ k (wi_ R b false)).1, nI (pth_ k (wi_ R b false)).2.1, (pth_ k (wi_ R b false)).2.2])), (aw6, h_row D (wi_ R b true)), (pp8, h_row D ([nI (pth_ k (wi_ R b true)).1, nI (pth_ k (wi_ R b true)).2.1, (pth_ k (wi_ R b true)).2.2])), (q10, h_row D ([nI (1 + (max (pth_ k (wi_ R b false)).1 (pth_ k (wi_ R b true)).1)), 0, 0]))]) (i := 3) (R := [nI (pth_ k (wi_ R b true)).1, nI (pth_ k (wi_ R b true)).2.1, (pth_ k (wi_ R b true)).2.2]) (j := 1) hx hb hE hP (rfl) (show 1 < 3 by decide) (show 3 < 2 ^ 31 by decide) (v := nI ((pth_ k (wi_ R b true)).2.1)) (rfl) dX3_paths_60 ?_
    refine lv_iadd hx hb dX3_paths_61 ?_
    refine g_top (y := nI ((R.length + ((pth_ k (wi_ R b false)).2.1)) + ((pth_ k (wi_ R b true)).2.1))) (nI_add (R.length + ((pth_ k (wi_ R b false)).2.1)) ((pth_ k (wi_ R b true)).2.1)) ?_
    refine h_ist (w := []) (xs := [(aw2, h_row D (wi_ R b false)), (pp4, h_row D ([nI (pth_ k (wi_ R b false)).1, nI (pth_ k (wi_ R b false)).2.1, (pth_ k (wi_ R b false)).2.2])), (aw6, h_row D (wi_ R b true)), (pp8, h_row D ([nI (pth_ k (wi_ R b true)).1, nI (pth_ k (wi_ R b true)).2.1, (pth_ k (wi_ R b true)).2.2])), (q10, h_row D ([nI (1 + (max (pth_ k (wi_ R b false)).1 (pth_ k (wi_ R b true)).1)), 0, 0]))]) (i := 4) (R := [nI (1 + (max (pth_ k (wi_ R b false)).1 (pth_ k (wi_ R b true)).1)), 0, 0]) (j := 1) (x := nI ((R.length + ((pth_ k (wi_ R b false)).2.1)) + ((pth_ k (wi_ R b true)).2.1))) hx hb hE hP hD hS (rfl) (show 1 < 3 by decide) (show 3 < 2 ^ 31 by decide) dX3_paths_62 (fun H locs hP hD hS => ?_)
    rw [show ([nI (1 + (max (pth_ k (wi_ R b false)).1 (pth_ k (wi_ R b true)).1)), 0, 0]).set 1 (nI ((R.length + ((pth_ k (wi_ R b false)).2.1)) + ((pth_ k (wi_ R b true)).2.1))) = [nI (1 + (max (pth_ k (wi_ R b false)).1 (pth_ k (wi_ R b true)).1)), nI ((R.length + ((pth_ k (wi_ R b false)).2.1)) + ((pth_ k (wi_ R b true)).2.1)), 0] from rfl] at hP hD
    have hP : va_P D vwCl [(aw2, h_row D (wi_ R b false)), (pp4, h_row D ([nI (pth_ k (wi_ R b false)).1, nI (pth_ k (wi_ R b false)).2.1, (pth_ k (wi_ R b false)).2.2])), (aw6, h_row D (wi_ R b true)), (pp8, h_row D ([nI (pth_ k (wi_ R b true)).1, nI (pth_ k (wi_ R b true)).2.1, (pth_ k (wi_ R b true)).2.2])), (q10, h_row D ([nI (1 + (max (pth_ k (wi_ R b false)).1 (pth_ k (wi_ R b true)).1)), nI ((R.length + ((pth_ k (wi_ R b false)).2.1)) + ((pth_ k (wi_ R b true)).2.1)), 0]))] H := hP
    have hD : va_D (va_A ([]) s.heap.size) [(aw2, h_row D (wi_ R b false)), (pp4, h_row D ([nI (pth_ k (wi_ R b false)).1, nI (pth_ k (wi_ R b false)).2.1, (pth_ k (wi_ R b false)).2.2])), (aw6, h_row D (wi_ R b true)), (pp8, h_row D ([nI (pth_ k (wi_ R b true)).1, nI (pth_ k (wi_ R b true)).2.1, (pth_ k (wi_ R b true)).2.2])), (q10, h_row D ([nI (1 + (max (pth_ k (wi_ R b false)).1 (pth_ k (wi_ R b true)).1)), nI ((R.length + ((pth_ k (wi_ R b false)).2.1)) + ((pth_ k (wi_ R b true)).2.1)), 0]))] := hD
    refine lv_dup hx hb dX3_paths_63 rfl ?_
    refine lv_iconst (v := nI 2) hx hb dX3_paths_64 (by decide) ?_
    refine lv_iconst (v := nI 1) hx hb dX3_paths_65 (by decide) ?_
    refine lv_iload_n hx hb dX3_paths_66 rfl (lv_at hl 2 rfl) ?_
    refine lv_ishl hx hb dX3_paths_67 ?_
    refine lv_aload_n hx hb dX3_paths_68 rfl (lv_at hl 1 rfl) ?_
    refine lv_iconst (v := nI 2) hx hb dX3_paths_69 (by decide) ?_
    refine h_ild (w := []) (xs := [(aw2, h_row D (wi_ R b false)), (pp4, h_row D ([nI (pth_ k (wi_ R b false)).1, nI (pth_ k (wi_ R b false)).2.1, (pth_ k (wi_ R b false)).2.2])), (aw6, h_row D (wi_ R b true)), (pp8, h_row D ([nI (pth_ k (wi_ R b true)).1, nI (pth_ k (wi_ R b true)).2.1, (pth_ k (wi_ R b true)).2.2])), (q10, h_row D ([nI (1 + (max (pth_ k (wi_ R b false)).1 (pth_ k (wi_ R b true)).1)), nI ((R.length + ((pth_ k (wi_ R b false)).2.1)) + ((pth_ k (wi_ R b true)).2.1)), 0]))]) (i := 1) (R := [nI (pth_ k (wi_ R b false)).1, nI (pth_ k (wi_ R b false)).2.1, (pth_ k (wi_ R b false)).2.2]) (j := 2) hx hb hE hP (rfl) (show 2 < 3 by decide) (show 3 < 2 ^ 31 by decide) (v := (pth_ k (wi_ R b false)).2.2) (rfl) dX3_paths_70 ?_
    refine lv_ior hx hb dX3_paths_71 ?_
    refine lv_aload_n hx hb dX3_paths_72 rfl (lv_at hl 0 rfl) ?_
    refine lv_iconst (v := nI 2) hx hb dX3_paths_73 (by decide) ?_
    refine h_ild (w := []) (xs := [(aw2, h_row D (wi_ R b false)), (pp4, h_row D ([nI (pth_ k (wi_ R b false)).1, nI (pth_ k (wi_ R b false)).2.1, (pth_ k (wi_ R b false)).2.2])), (aw6, h_row D (wi_ R b true)), (pp8, h_row D ([nI (pth_ k (wi_ R b true)).1, nI (pth_ k (wi_ R b true)).2.1, (pth_ k (wi_ R b true)).2.2])), (q10, h_row D ([nI (1 + (max (pth_ k (wi_ R b false)).1 (pth_ k (wi_ R b true)).1)), nI ((R.length + ((pth_ k (wi_ R b false)).2.1)) + ((pth_ k (wi_ R b true)).2.1)), 0]))]) (i := 3) (R := [nI (pth_ k (wi_ R b true)).1, nI (pth_ k (wi_ R b true)).2.1, (pth_ k (wi_ R b true)).2.2]) (j := 2) hx hb hE hP (rfl) (show 2 < 3 by decide) (show 3 < 2 ^ 31 by decide) (v := (pth_ k (wi_ R b true)).2.2) (rfl) dX3_paths_74 ?_
    refine lv_ior hx hb dX3_paths_75 ?_
    refine h_ist (w := []) (xs := [(aw2, h_row D (wi_ R b false)), (pp4, h_row D ([nI (pth_ k (wi_ R b false)).1, nI (pth_ k (wi_ R b false)).2.1, (pth_ k (wi_ R b false)).2.2])), (aw6, h_row D (wi_ R b true)), (pp8, h_row D ([nI (pth_ k (wi_ R b true)).1, nI (pth_ k (wi_ R b true)).2.1, (pth_ k (wi_ R b true)).2.2])), (q10, h_row D ([nI (1 + (max (pth_ k (wi_ R b false)).1 (pth_ k (wi_ R b true)).1)), nI ((R.length + ((pth_ k (wi_ R b false)).2.1)) + ((pth_ k (wi_ R b true)).2.1)), 0]))]) (i := 4) (R := [nI (1 + (max (pth_ k (wi_ R b false)).1 (pth_ k (wi_ R b true)).1)), nI ((R.length + ((pth_ k (wi_ R b false)).2.1)) + ((pth_ k (wi_ R b true)).2.1)), 0]) (j := 2) (x := (((nI 1) <<< ((nI b) &&& 31)) ||| ((pth_ k (wi_ R b false)).2.2)) ||| ((pth_ k (wi_ R b true)).2.2)) hx hb hE hP hD hS (rfl) (show 2 < 3 by decide) (show 3 < 2 ^ 31 by decide) dX3_paths_76 (fun H locs hP hD hS => ?_)
    rw [show ([nI (1 + (max (pth_ k (wi_ R b false)).1 (pth_ k (wi_ R b true)).1)), nI ((R.length + ((pth_ k (wi_ R b false)).2.1)) + ((pth_ k (wi_ R b true)).2.1)), 0]).set 2 ((((nI 1) <<< ((nI b) &&& 31)) ||| ((pth_ k (wi_ R b false)).2.2)) ||| ((pth_ k (wi_ R b true)).2.2)) = [nI (1 + (max (pth_ k (wi_ R b false)).1 (pth_ k (wi_ R b true)).1)), nI ((R.length + ((pth_ k (wi_ R b false)).2.1)) + ((pth_ k (wi_ R b true)).2.1)), (((nI 1) <<< ((nI b) &&& 31)) ||| ((pth_ k (wi_ R b false)).2.2)) ||| ((pth_ k (wi_ R b true)).2.2)] from rfl] at hP hD
    have hP : va_P D vwCl [(aw2, h_row D (wi_ R b false)), (pp4, h_row D ([nI (pth_ k (wi_ R b false)).1, nI (pth_ k (wi_ R b false)).2.1, (pth_ k (wi_ R b false)).2.2])), (aw6, h_row D (wi_ R b true)), (pp8, h_row D ([nI (pth_ k (wi_ R b true)).1, nI (pth_ k (wi_ R b true)).2.1, (pth_ k (wi_ R b true)).2.2])), (q10, h_row D ([nI (1 + (max (pth_ k (wi_ R b false)).1 (pth_ k (wi_ R b true)).1)), nI ((R.length + ((pth_ k (wi_ R b false)).2.1)) + ((pth_ k (wi_ R b true)).2.1)), (((nI 1) <<< ((nI b) &&& 31)) ||| ((pth_ k (wi_ R b false)).2.2)) ||| ((pth_ k (wi_ R b true)).2.2)]))] H := hP
    have hD : va_D (va_A ([]) s.heap.size) [(aw2, h_row D (wi_ R b false)), (pp4, h_row D ([nI (pth_ k (wi_ R b false)).1, nI (pth_ k (wi_ R b false)).2.1, (pth_ k (wi_ R b false)).2.2])), (aw6, h_row D (wi_ R b true)), (pp8, h_row D ([nI (pth_ k (wi_ R b true)).1, nI (pth_ k (wi_ R b true)).2.1, (pth_ k (wi_ R b true)).2.2])), (q10, h_row D ([nI (1 + (max (pth_ k (wi_ R b false)).1 (pth_ k (wi_ R b true)).1)), nI ((R.length + ((pth_ k (wi_ R b false)).2.1)) + ((pth_ k (wi_ R b true)).2.1)), (((nI 1) <<< ((nI b) &&& 31)) ||| ((pth_ k (wi_ R b false)).2.2)) ||| ((pth_ k (wi_ R b true)).2.2)]))] := hD
    have hP : va_P D vwCl [(q10, h_row D ([nI (1 + (max (pth_ k (wi_ R b false)).1 (pth_ k (wi_ R b true)).1)), nI ((R.length + ((pth_ k (wi_ R b false)).2.1)) + ((pth_ k (wi_ R b true)).2.1)), (((nI 1) <<< ((nI b) &&& 31)) ||| ((pth_ k (wi_ R b false)).2.2)) ||| ((pth_ k (wi_ R b true)).2.2)]))] H := hP.sub [4] rfl
    have hD : va_D (va_A ([]) s.heap.size) [(q10, h_row D ([nI (1 + (max (pth_ k (wi_ R b false)).1 (pth_ k (wi_ R b true)).1)), nI ((R.length + ((pth_ k (wi_ R b false)).2.1)) + ((pth_ k (wi_ R b true)).2.1)), (((nI 1) <<< ((nI b) &&& 31)) ||| ((pth_ k (wi_ R b false)).2.2)) ||| ((pth_ k (wi_ R b true)).2.2)]))] := hD.sub [4] rfl rfl
    refine W.widen (k := (6 * R.length - 3 + (1 - R.length))) (n := (60 * R.length - 57 + 3 * (1 - R.length))) (by omega) (by omega) ?_
    rw [← hQ]
    exact W.aret (v := .ref q10) hx hb hr (Or.inr ⟨_, rfl⟩) (Or.inr ⟨_, rfl⟩) (fun te9 hte9 _ => h_fin (⟨_, rfl, by rw [pth_b hbe hb16]⟩) hP hD hS hte9) hS.2.2 dX3_paths_77 hlocks
  · have hbn : bt_ R = -1 := by rcases bt_r R with hbe | ⟨b, hb16, hbe, -⟩; exact hbe; rw [hbe] at h6; exact absurd (nI_pos' (show b < 2 ^ 31 by omega)) h6
    refine lv_iconst (v := nI 3) hx hb dX3_paths_9 (by decide) ?_
    refine h_new (w := []) (xs := []) (n := 3) hx hb hts hE hP hD hS h_Asz (by omega) (by show 0 + 1 ≤ (6 * R.length - 3 + (1 - R.length)); omega) (by show 0 + 3 ≤ (60 * R.length - 57 + 3 * (1 - R.length)); omega) dX3_paths_10 (fun q11 H hP hD hS => ?_)
    refine W.widen (k := 0 + 1) (n := 0 + 3) (by omega) (by omega) ?_
    refine W.widen (k := 1) (n := 3) (by omega) (by omega) ?_
    have hP : va_P D vwCl [(q11, h_row D (List.replicate 3 0))] H := hP
    have hD : va_D (va_A ([]) s.heap.size) [(q11, h_row D (List.replicate 3 0))] := hD
    have hP : va_P D vwCl [(q11, h_row D ([0, 0, 0]))] H := hP
    have hD : va_D (va_A ([]) s.heap.size) [(q11, h_row D ([0, 0, 0]))] := hD
    have hP : va_P D vwCl [(q11, h_row D ([0, 0, 0]))] H := hP.sub [0] rfl
    have hD : va_D (va_A ([]) s.heap.size) [(q11, h_row D ([0, 0, 0]))] := hD.sub [0] rfl rfl
    refine W.widen (k := (6 * R.length - 3 + (1 - R.length))) (n := (60 * R.length - 57 + 3 * (1 - R.length))) (by omega) (by omega) ?_
    rw [← hQ]
    exact W.aret (v := .ref q11) hx hb hr (Or.inr ⟨_, rfl⟩) (Or.inr ⟨_, rfl⟩) (fun te9 hte9 _ => h_fin (⟨_, rfl, by rw [pth_n hbn]; rfl⟩) hP hD hS hte9) hS.2.2 dX3_paths_12 hlocks
