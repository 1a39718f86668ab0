theorem h_Dprf {A : Nat → Prop} {w xs : va_W} (hD : va_D A (w ++ xs)) : va_D A w := by
  have hl : ∀ (k : Nat) (q : Nat × va_E), w[k]? = some q → (w ++ xs)[k]? = some q := fun k q hq => by rw [List.getElem?_append_left (List.getElem?_eq_some_iff.mp hq).1]; exact hq
  exact ⟨fun i j p q hi hj e => hD.1 i j p q (hl i p hi) (hl j q hj) e, fun k q hq => hD.2 k q (hl k q hq)⟩
theorem h_apD {A : Nat → Prop} {w xs : va_W} {i : Nat} {q : Nat × va_E} (hD : va_D A (w ++ xs)) (hi : xs[i]? = some q) : h_ap [q] w := fun a b x y hx hy e => by
  have hz : a < 1 := (List.getElem?_eq_some_iff.mp hx).1
  rw [show a = 0 by omega] at hx
  cases hx
  have hb := (List.getElem?_eq_some_iff.mp hy).1
  have := hD.1 (w.length + i) b q y (h_xi hi) (by rw [List.getElem?_append_left hb]; exact hy) e
  omega
abbrev m_X3_signs_rm (k c : Nat) : Room := { frames := k + 20, cells := 76 * c - 38, slots := 524 * c - 262, locals := 1000 + 100 * k }
set_option maxHeartbeats 4000000 in
set_option maxRecDepth 100000 in
theorem m_X3_signs (l : Launch) (hst : l.stackTraces = false) (D : va_G) (hAD : g_AD D) (Ls : Nat → g_L) (hvC : vC_ Ls) : ∀ (k : Nat) (σ : Nat → va_E) (w pl a0 : Nat) (R : List Int32) (ah : Nat) (hw : w ≤ 1) (hC : g_C D σ Ls) (hs : SG_ (Ls w) pl R ah) (hn : R.length ≤ 24) (hrn : rn_ R) (hap : h_ap [(a0, h_row D R)] (g_W D σ)) (hk : R.length < k) (hk30 : k ≤ 30), h_M l D yX3_signs cX3_signs 8 (some .int) (m_X3_signs_rm k R.length) [.ref (ad_ D 0), .int (nI w), .int (nI pl), .ref a0, .int (nI ah)] none ([(a0, h_row D R)]) ((g_W D σ)) (fun v1 w1 => v1 = some (.int (nI (pl + 2 * R.length - 1))) ∧ ∃ σ1, w1 = g_W D σ1 ∧ g_C D σ1 Ls) := by
  intro k
  induction k with
  | zero => intro σ w pl a0 R ah hw hC hs hn hrn hap hk hk30; exact absurd hk (Nat.not_lt_zero _)
  | succ k ih =>
  intro σ w pl a0 R ah hw hC hs hn hrn hap hk hk30
  have hD0 : va_D (fun _ => True) (g_W D σ) := g_D hAD (fun _ _ => trivial)
  refine h_ofW [(0, .ref (ad_ D 0)), (1, .int (nI w)), (2, .int (nI pl)), (3, .ref a0), (4, .int (nI ah))] (by decide +kernel) (Nat.le_of_ble_eq_true rfl) rfl ?_
  intro p e s m args below meth c hx hb hr hml hown hlocks hts hE hZ hR hP hS hX ls hl
  have hown : s.vm.findClass RX3 = some m.cls := hown
  generalize hQ : MQ _ _ _ _ _ _ _ = Q
  have hD : va_D (va_A ((g_W D σ)) s.heap.size) ((g_W D σ)) := va_D.self hD0
  have hP : va_P D vwCl (g_W D σ ++ []) s.heap := by rw [List.append_nil]; exact hP
  have hD : va_D (va_A (g_W D σ) s.heap.size) (g_W D σ ++ []) := by rw [List.append_nil]; exact hD
  have hv := (hvC w hw).1
  have h24 := (hvC w hw).2
  obtain ⟨hpz, hR1, hpR, t0, t1, t2, t3, t6, hleaf, hpost⟩ := SG_tel hv hs
  obtain ⟨sa, sb, hsn, -⟩ := id hs
  have hah := (nd_ok hv hsn).2.2.1
  have hdue : ∀ i, i < 4 → tel_ (tb_ (Ls w)) i pl = ([bt_ R, nI R.length, le_ R, mx_ R] : List Int32).getD i 0 := by
    intro i hi
    rcases (show i = 0 ∨ i = 1 ∨ i = 2 ∨ i = 3 by omega) with rfl | rfl | rfl | rfl
    · exact t0
    · exact t1
    · exact t2
    · exact t3
  refine lv_aload_n hx hb dX3_signs_0 rfl (lv_at hl 3 rfl) ?_
  refine h_callS (y := yX3_bit) (n := 1) (As := [.ref a0]) (rest := []) hx hb hml hown hts hE hZ hS hl.1 (m_X3_bit l D a0 R hn hrn) (h_pick (w := []) (xs := [(a0, h_row D R)]) (i := 0) (h_rk hR hap hS) (rfl)) h_P0 (h_Anil hS h_Asz) (fun _ _ _ => trivial) (h_jR hP hD (h_Anil hS h_Asz)) k_X3_48 rfl rfl ⟨by show 9 + 1 ≤ k + 1 + 20; omega, by show 8 + (3 + 11) + 226 ≤ 1000 + 100 * (k + 1); omega⟩ (Nat.le_of_ble_eq_true rfl) ⟨by show 0 + 0 ≤ (76 * R.length - 38); omega, by show 0 + 0 ≤ (524 * R.length - 262); omega⟩ dX3_signs_1 (fun v1 w1 H locs hq hP hD hS => ?_)
  obtain ⟨rfl, rfl⟩ := hq
  rw [List.append_nil] at hP hD
  have hP : va_P D vwCl ((g_W D σ) ++ []) H := hP
  have hD : va_D (va_A ((g_W D σ)) s.heap.size) ((g_W D σ) ++ []) := hD
  refine W.widen (k := 0) (n := 0) (Nat.le_of_ble_eq_true rfl) (Nat.le_of_ble_eq_true rfl) ?_
  refine W.eq (g2 := F0 m 4 ls [.int (bt_ R)]) rfl ?_
  refine lv_istore (lv' := [(5, .int (bt_ R)), (0, .ref (ad_ D 0)), (1, .int (nI w)), (2, .int (nI pl)), (3, .ref a0), (4, .int (nI ah))]) hx hb dX3_signs_4 hl (by decide) rfl (fun ls hl => ?_)
  refine lv_iconst (v := nI 4) hx hb dX3_signs_6 (by decide) ?_
  refine h_new (w := (g_W D σ)) (xs := []) (n := 4) hx hb hts hE hP hD hS h_Asz (by omega) (by show 0 + 1 ≤ (76 * R.length - 38); omega) (by show 0 + 4 ≤ (524 * R.length - 262); omega) dX3_signs_7 (fun q2 H hP hD hS => ?_)
  refine W.widen (k := 0 + 1) (n := 0 + 4) (by omega) (by omega) ?_
  refine W.widen (k := 1) (n := 4) (by omega) (by omega) ?_
  have hP : va_P D vwCl ((g_W D σ) ++ [(q2, h_row D (List.replicate 4 0))]) H := hP
  have hD : va_D (va_A ((g_W D σ)) s.heap.size) ((g_W D σ) ++ [(q2, h_row D (List.replicate 4 0))]) := hD
  have hP : va_P D vwCl ((g_W D σ) ++ [(q2, h_row D ([0, 0, 0, 0]))]) H := hP
  have hD : va_D (va_A ((g_W D σ)) s.heap.size) ((g_W D σ) ++ [(q2, h_row D ([0, 0, 0, 0]))]) := hD
  refine lv_dup hx hb dX3_signs_9 rfl ?_
  refine lv_iconst (v := nI 0) hx hb dX3_signs_10 (by decide) ?_
  refine lv_iload hx hb dX3_signs_11 (lv_at hl 0 rfl) ?_
  refine h_ist (w := (g_W D σ)) (xs := [(q2, h_row D ([0, 0, 0, 0]))]) (i := 0) (R := [0, 0, 0, 0]) (j := 0) (x := bt_ R) hx hb hE hP hD hS (rfl) (show 0 < 4 by decide) (show 4 < 2 ^ 31 by decide) dX3_signs_13 (fun H locs hP hD hS => ?_)
  rw [show ([0, 0, 0, 0] : List Int32).set 0 (bt_ R) = [bt_ R, 0, 0, 0] from rfl] at hP hD
  have hP : va_P D vwCl ((g_W D σ) ++ [(q2, h_row D ([bt_ R, 0, 0, 0]))]) H := hP
  have hD : va_D (va_A ((g_W D σ)) s.heap.size) ((g_W D σ) ++ [(q2, h_row D ([bt_ R, 0, 0, 0]))]) := hD
  refine lv_dup hx hb dX3_signs_14 rfl ?_
  refine lv_iconst (v := nI 1) hx hb dX3_signs_15 (by decide) ?_
  refine lv_aload_n hx hb dX3_signs_16 rfl (lv_at hl 4 rfl) ?_
  refine h_aln (w := []) (xs := [(a0, h_row D R)]) (i := 0) (R := R) hx hb hE (h_rk hR hap hS) (rfl) dX3_signs_17 ?_
  refine h_ist (w := (g_W D σ)) (xs := [(q2, h_row D ([bt_ R, 0, 0, 0]))]) (i := 0) (R := [bt_ R, 0, 0, 0]) (j := 1) (x := nI R.length) hx hb hE hP hD hS (rfl) (show 1 < 4 by decide) (show 4 < 2 ^ 31 by decide) dX3_signs_18 (fun H locs hP hD hS => ?_)
  rw [show ([bt_ R, 0, 0, 0] : List Int32).set 1 (nI R.length) = [bt_ R, nI R.length, 0, 0] from rfl] at hP hD
  have hP : va_P D vwCl ((g_W D σ) ++ [(q2, h_row D ([bt_ R, nI R.length, 0, 0]))]) H := hP
  have hD : va_D (va_A ((g_W D σ)) s.heap.size) ((g_W D σ) ++ [(q2, h_row D ([bt_ R, nI R.length, 0, 0]))]) := hD
  refine lv_dup hx hb dX3_signs_19 rfl ?_
  refine lv_iconst (v := nI 2) hx hb dX3_signs_20 (by decide) ?_
  refine lv_aload_n hx hb dX3_signs_21 rfl (lv_at hl 4 rfl) ?_
  refine h_callS (y := yX3_least) (n := 1) (As := [.ref a0]) (rest := [.int (nI 2), .ref q2, .ref q2]) hx hb hml hown hts hE hZ hS hl.1 (m_X3_least l D a0 R hn hrn) (h_pick (w := []) (xs := [(a0, h_row D R)]) (i := 0) (h_rk hR hap hS) (rfl)) h_P0 (h_Anil hS h_Asz) (fun _ _ _ => trivial) (h_jR hP hD (h_Anil hS h_Asz)) k_X3_52 rfl rfl ⟨by show 8 + 1 ≤ k + 1 + 20; omega, by show 8 + (6 + 11) + 200 ≤ 1000 + 100 * (k + 1); omega⟩ (Nat.le_of_ble_eq_true rfl) ⟨by show 1 + 0 ≤ (76 * R.length - 38); omega, by show 4 + 0 ≤ (524 * R.length - 262); omega⟩ dX3_signs_22 (fun v3 w1 H locs hq hP hD hS => ?_)
  obtain ⟨rfl, rfl⟩ := hq
  rw [List.append_nil] at hP hD
  have hP : va_P D vwCl ((g_W D σ) ++ [(q2, h_row D ([bt_ R, nI R.length, 0, 0]))]) H := hP
  have hD : va_D (va_A ((g_W D σ)) s.heap.size) ((g_W D σ) ++ [(q2, h_row D ([bt_ R, nI R.length, 0, 0]))]) := hD
  refine W.widen (k := 1) (n := 4) (Nat.le_of_ble_eq_true rfl) (Nat.le_of_ble_eq_true rfl) ?_
  refine W.eq (g2 := F0 m 25 ls [.int (le_ R), .int (nI 2), .ref q2, .ref q2]) rfl ?_
  refine h_ist (w := (g_W D σ)) (xs := [(q2, h_row D ([bt_ R, nI R.length, 0, 0]))]) (i := 0) (R := [bt_ R, nI R.length, 0, 0]) (j := 2) (x := le_ R) hx hb hE hP hD hS (rfl) (show 2 < 4 by decide) (show 4 < 2 ^ 31 by decide) dX3_signs_25 (fun H locs hP hD hS => ?_)
  rw [show ([bt_ R, nI R.length, 0, 0] : List Int32).set 2 (le_ R) = [bt_ R, nI R.length, le_ R, 0] from rfl] at hP hD
  have hP : va_P D vwCl ((g_W D σ) ++ [(q2, h_row D ([bt_ R, nI R.length, le_ R, 0]))]) H := hP
  have hD : va_D (va_A ((g_W D σ)) s.heap.size) ((g_W D σ) ++ [(q2, h_row D ([bt_ R, nI R.length, le_ R, 0]))]) := hD
  refine lv_dup hx hb dX3_signs_26 rfl ?_
  refine lv_iconst (v := nI 3) hx hb dX3_signs_27 (by decide) ?_
  refine lv_aload_n hx hb dX3_signs_28 rfl (lv_at hl 4 rfl) ?_
  refine h_callS (y := yX3_most) (n := 1) (As := [.ref a0]) (rest := [.int (nI 3), .ref q2, .ref q2]) hx hb hml hown hts hE hZ hS hl.1 (m_X3_most l D a0 R hn hrn) (h_pick (w := []) (xs := [(a0, h_row D R)]) (i := 0) (h_rk hR hap hS) (rfl)) h_P0 (h_Anil hS h_Asz) (fun _ _ _ => trivial) (h_jR hP hD (h_Anil hS h_Asz)) k_X3_55 rfl rfl ⟨by show 8 + 1 ≤ k + 1 + 20; omega, by show 8 + (6 + 11) + 200 ≤ 1000 + 100 * (k + 1); omega⟩ (Nat.le_of_ble_eq_true rfl) ⟨by show 1 + 0 ≤ (76 * R.length - 38); omega, by show 4 + 0 ≤ (524 * R.length - 262); omega⟩ dX3_signs_29 (fun v4 w1 H locs hq hP hD hS => ?_)
  obtain ⟨rfl, rfl⟩ := hq
  rw [List.append_nil] at hP hD
  have hP : va_P D vwCl ((g_W D σ) ++ [(q2, h_row D ([bt_ R, nI R.length, le_ R, 0]))]) H := hP
  have hD : va_D (va_A ((g_W D σ)) s.heap.size) ((g_W D σ) ++ [(q2, h_row D ([bt_ R, nI R.length, le_ R, 0]))]) := hD
  refine W.widen (k := 1) (n := 4) (Nat.le_of_ble_eq_true rfl) (Nat.le_of_ble_eq_true rfl) ?_
  refine W.eq (g2 := F0 m 32 ls [.int (mx_ R), .int (nI 3), .ref q2, .ref q2]) rfl ?_
  refine h_ist (w := (g_W D σ)) (xs := [(q2, h_row D ([bt_ R, nI R.length, le_ R, 0]))]) (i := 0) (R := [bt_ R, nI R.length, le_ R, 0]) (j := 3) (x := mx_ R) hx hb hE hP hD hS (rfl) (show 3 < 4 by decide) (show 4 < 2 ^ 31 by decide) dX3_signs_32 (fun H locs hP hD hS => ?_)
  rw [show ([bt_ R, nI R.length, le_ R, 0] : List Int32).set 3 (mx_ R) = [bt_ R, nI R.length, le_ R, mx_ R] from rfl] at hP hD
  have hP : va_P D vwCl ((g_W D σ) ++ [(q2, h_row D ([bt_ R, nI R.length, le_ R, mx_ R]))]) H := hP
  have hD : va_D (va_A ((g_W D σ)) s.heap.size) ((g_W D σ) ++ [(q2, h_row D ([bt_ R, nI R.length, le_ R, mx_ R]))]) := hD
  refine lv_astore (lv' := [(6, .ref q2), (5, .int (bt_ R)), (0, .ref (ad_ D 0)), (1, .int (nI w)), (2, .int (nI pl)), (3, .ref a0), (4, .int (nI ah))]) hx hb dX3_signs_33 hl (by decide) rfl (fun ls hl => ?_)
  refine lv_iconst (v := nI 0) hx hb dX3_signs_35 (by decide) ?_
  refine lv_istore (lv' := [(7, .int (nI 0)), (6, .ref q2), (5, .int (bt_ R)), (0, .ref (ad_ D 0)), (1, .int (nI w)), (2, .int (nI pl)), (3, .ref a0), (4, .int (nI ah))]) hx hb dX3_signs_36 hl (by decide) rfl (fun ls hl => ?_)
  have K38 : ∀ (fuel38 : Nat) (i : Nat) (σ2 : Nat → va_E), (4 - i) < fuel38 → (i ≤ 4) → (g_C D σ2 Ls) → ∀ (H : Heap) (locs : List Loc), va_P D vwCl ((g_W D σ2) ++ [(q2, h_row D ([bt_ R, nI R.length, le_ R, mx_ R]))]) H → va_D (va_A ((g_W D σ)) s.heap.size) ((g_W D σ2) ++ [(q2, h_row D ([bt_ R, nI R.length, le_ R, mx_ R]))]) → va_S (va_A ((g_W D σ)) s.heap.size) s.heap H locs → ∀ ls : Array Slot, lv_has ls 8 [(0, .ref (ad_ D 0)), (1, .int (nI w)), (2, .int (nI pl)), (3, .ref a0), (4, .int (nI ah)), (5, .int (bt_ R)), (6, .ref q2), (7, .int (nI i))] → W p l e (m_X3_signs_rm (k + 1) R.length) s m args below meth c H locs (1 + 5 * i) (4 + 30 * i) Q (F0 m 38 ls []) := by
    intro fuel38
    induction fuel38 with
    | zero => intro i σ2 hf; exact absurd hf (Nat.not_lt_zero _)
    | succ fuel38 ih38 =>
      intro i σ2 hf38 hi hC2 H locs hP hD hS ls hl
      refine lv_iload hx hb dX3_signs_38 (lv_at hl 7 rfl) ?_
      refine lv_iconst (v := nI 4) hx hb dX3_signs_40 (by decide) ?_
      refine lv_icmp_ge (tgt := 68) hx hb dX3_signs_41 (by decide) (fun h41 => ?_) (fun h41 => ?_)
      · have hb41 := g_le (a := 4) (b := i) h41 (by omega) (by omega)
        refine lv_aload_n hx hb dX3_signs_68 rfl (lv_at hl 0 rfl) ?_
        refine lv_iload_n hx hb dX3_signs_69 rfl (lv_at hl 1 rfl) ?_
        refine lv_iload_n hx hb dX3_signs_70 rfl (lv_at hl 2 rfl) ?_
        refine lv_bipush (v := nI 6) hx hb dX3_signs_71 (by decide) ?_
        refine h_callV (y := yX2_sign) (n := 3) (As := [.int (nI w), .int (nI pl), .int (nI 6)]) (rest := []) hx hb hml hown hts hE hZ hS hl.1 ((n_sign l hst D hAD σ2 Ls hC2 hvC w pl 6 hw hpz (by omega)).h hAD) h_P0 (h_prf hP) (h_AP hD hS h_Asz) (fun _ _ _ => trivial) (h_jP hP hD (h_AP hD hS h_Asz)) k_X3_58 (wr := (g_W D σ2)) (q0 := 0) (ci := 2) (h_prf hP) (g_at (by decide) hC2.1) rfl rfl rfl rfl ⟨by show 13 + 1 ≤ k + 1 + 20; omega, by show 8 + (4 + 11) + 323 ≤ 1000 + 100 * (k + 1); omega⟩ (Nat.le_of_ble_eq_true rfl) ⟨by show (1 + 5 * i) + 5 ≤ (76 * R.length - 38); omega, by show (4 + 30 * i) + 30 ≤ (524 * R.length - 262); omega⟩ dX3_signs_73 (fun v7 w1 H locs hq hP hD hS => ?_)
        obtain ⟨σ_5, ⟨rfl, hC_6⟩, rfl⟩ := hq
        have hP : va_P D vwCl ((g_W D σ_5) ++ [(q2, h_row D ([bt_ R, nI R.length, le_ R, mx_ R]))]) H := hP
        have hD : va_D (va_A ((g_W D σ)) s.heap.size) ((g_W D σ_5) ++ [(q2, h_row D ([bt_ R, nI R.length, le_ R, mx_ R]))]) := hD
        refine W.widen (k := ((1 + 5 * i) + 5)) (n := ((4 + 30 * i) + 30)) (Nat.le_refl _) (Nat.le_refl _) ?_
        refine W.eq (g2 := F0 m 76 ls [.int (tel_ (tb_ (Ls w)) 6 pl)]) rfl ?_
        refine g_top (y := nI ah) (t6) ?_
        refine lv_iload hx hb dX3_signs_76 (lv_at hl 4 rfl) ?_
        refine lv_icmp_eq (tgt := 83) hx hb dX3_signs_78 (by decide) (fun h78 => ?_) (fun h78 => ?_)
        · refine lv_iload hx hb dX3_signs_83 (lv_at hl 5 rfl) ?_
          refine lv_if_ge (tgt := 118) hx hb dX3_signs_85 (by decide) (fun h85 => ?_) (fun h85 => ?_)
          · rcases bt_r R with hbe | ⟨b, hb16, hbe, -, -⟩
            · rw [hbe] at h85; exact absurd h85 (by decide)
            rw [hbe] at hl
            obtain ⟨q4, q5, hsl, hsh, hll, hlh⟩ := hpost b hb16 hbe
            have hwl := wi_len R b
            obtain ⟨-, hll1, -⟩ := SG_tel hv hsl
            obtain ⟨-, hlh1, -⟩ := SG_tel hv hsh
            refine lv_aload_n hx hb dX3_signs_118 rfl (lv_at hl 0 rfl) ?_
            refine lv_iload_n hx hb dX3_signs_119 rfl (lv_at hl 1 rfl) ?_
            refine lv_iload_n hx hb dX3_signs_120 rfl (lv_at hl 2 rfl) ?_
            refine lv_iconst (v := nI 4) hx hb dX3_signs_121 (by decide) ?_
            refine h_callV (y := yX2_sign) (n := 3) (As := [.int (nI w), .int (nI pl), .int (nI 4)]) (rest := []) hx hb hml hown hts hE hZ hS hl.1 ((n_sign l hst D hAD σ_5 Ls hC_6 hvC w pl 4 hw hpz (by omega)).h hAD) h_P0 (h_prf hP) (h_AP hD hS h_Asz) (fun _ _ _ => trivial) (h_jP hP hD (h_AP hD hS h_Asz)) k_X3_58 (wr := (g_W D σ_5)) (q0 := 0) (ci := 2) (h_prf hP) (g_at (by decide) hC_6.1) rfl rfl rfl rfl ⟨by show 13 + 1 ≤ k + 1 + 20; omega, by show 8 + (4 + 11) + 323 ≤ 1000 + 100 * (k + 1); omega⟩ (Nat.le_of_ble_eq_true rfl) ⟨by show ((1 + 5 * i) + 5) + 5 ≤ (76 * R.length - 38); omega, by show ((4 + 30 * i) + 30) + 30 ≤ (524 * R.length - 262); omega⟩ dX3_signs_122 (fun v10 w1 H locs hq hP hD hS => ?_)
            obtain ⟨σ_8, ⟨rfl, hC_9⟩, rfl⟩ := hq
            have hP : va_P D vwCl ((g_W D σ_8) ++ [(q2, h_row D ([bt_ R, nI R.length, le_ R, mx_ R]))]) H := hP
            have hD : va_D (va_A ((g_W D σ)) s.heap.size) ((g_W D σ_8) ++ [(q2, h_row D ([bt_ R, nI R.length, le_ R, mx_ R]))]) := hD
            refine W.widen (k := (((1 + 5 * i) + 5) + 5)) (n := (((4 + 30 * i) + 30) + 30)) (Nat.le_refl _) (Nat.le_refl _) ?_
            refine W.eq (g2 := F0 m 125 ls [.int (tel_ (tb_ (Ls w)) 4 pl)]) rfl ?_
            refine g_top (y := nI (pl + 1)) (q4) ?_
            refine lv_iload_n hx hb dX3_signs_125 rfl (lv_at hl 2 rfl) ?_
            refine lv_iconst (v := nI 1) hx hb dX3_signs_126 (by decide) ?_
            refine lv_iadd hx hb dX3_signs_127 ?_
            refine g_top (y := nI (pl + 1)) (nI_add pl 1) ?_
            refine lv_icmp_eq (tgt := 133) hx hb dX3_signs_128 (by decide) (fun h128 => ?_) (fun h128 => ?_)
            · refine lv_aload_n hx hb dX3_signs_133 rfl (lv_at hl 0 rfl) ?_
              refine lv_iload_n hx hb dX3_signs_134 rfl (lv_at hl 1 rfl) ?_
              refine lv_iload_n hx hb dX3_signs_135 rfl (lv_at hl 2 rfl) ?_
              refine lv_iconst (v := nI 1) hx hb dX3_signs_136 (by decide) ?_
              refine lv_iadd hx hb dX3_signs_137 ?_
              refine g_top (y := nI (pl + 1)) (nI_add pl 1) ?_
              refine lv_aload_n hx hb dX3_signs_138 rfl (lv_at hl 3 rfl) ?_
              refine lv_iload hx hb dX3_signs_139 (lv_at hl 5 rfl) ?_
              refine lv_iconst (v := nI 0) hx hb dX3_signs_141 (by decide) ?_
              refine h_callS (y := yX3_with) (n := 3) (As := [.ref a0, .int (nI b), .int (nI 0)]) (rest := [.int (nI (pl + 1)), .int (nI w), .ref (ad_ D 0)]) hx hb hml hown hts hE hZ hS hl.1 (m_X3_with l D a0 R b 0 hn hrn (by omega) (by decide)) (h_pick (w := []) (xs := [(a0, h_row D R)]) (i := 0) (h_rk hR hap hS) (rfl)) h_P0 (h_Anil hS h_Asz) (fun _ _ _ => trivial) (h_jR hP hD (h_Anil hS h_Asz)) k_X3_64 rfl rfl ⟨by show 9 + 1 ≤ k + 1 + 20; omega, by show 8 + (9 + 11) + 226 ≤ 1000 + 100 * (k + 1); omega⟩ (Nat.le_of_ble_eq_true rfl) ⟨by show (((1 + 5 * i) + 5) + 5) + 1 ≤ (76 * R.length - 38); omega, by show (((4 + 30 * i) + 30) + 30) + 24 ≤ (524 * R.length - 262); omega⟩ dX3_signs_142 (fun v12 w1 H locs hq hP hD hS => ?_)
              obtain ⟨aw11, rfl, rfl⟩ := hq
              have hP : va_P D vwCl ((g_W D σ_8) ++ [(q2, h_row D ([bt_ R, nI R.length, le_ R, mx_ R])), (aw11, h_row D (wi_ R b false))]) H := hP
              have hD : va_D (va_A ((g_W D σ)) s.heap.size) ((g_W D σ_8) ++ [(q2, h_row D ([bt_ R, nI R.length, le_ R, mx_ R])), (aw11, h_row D (wi_ R b false))]) := hD
              refine W.widen (k := ((((1 + 5 * i) + 5) + 5) + 1)) (n := ((((4 + 30 * i) + 30) + 30) + 24)) (Nat.le_refl _) (Nat.le_refl _) ?_
              refine W.eq (g2 := F0 m 145 ls [.ref aw11, .int (nI (pl + 1)), .int (nI w), .ref (ad_ D 0)]) rfl ?_
              refine lv_iload hx hb dX3_signs_145 (lv_at hl 4 rfl) ?_
              refine lv_iconst (v := nI 1) hx hb dX3_signs_147 (by decide) ?_
              refine lv_iadd hx hb dX3_signs_148 ?_
              refine g_top (y := nI (ah + 1)) (nI_add ah 1) ?_
              refine h_callS (y := yX3_signs) (n := 5) (As := [.ref (ad_ D 0), .int (nI w), .int (nI (pl + 1)), .ref aw11, .int (nI (ah + 1))]) (rest := []) hx hb hml hown hts hE hZ hS hl.1 (ih σ_8 w (pl + 1) aw11 (wi_ R b false) (ah + 1) hw hC_9 hsl (by omega) (rn_wi hrn) (h_apD hD (i := 1) rfl) (by omega) (by omega)) (h_pick (w := (g_W D σ_8)) (xs := [(q2, h_row D ([bt_ R, nI R.length, le_ R, mx_ R])), (aw11, h_row D (wi_ R b false))]) (i := 1) hP (rfl)) (h_prf hP) (h_AP hD hS h_Asz) (fun _ _ _ => trivial) (h_jP hP hD (h_AP hD hS h_Asz)) k_X3_68 rfl rfl ⟨by show k + 20 + 1 ≤ k + 1 + 20; omega, by show 8 + (8 + 11) + (1000 + 100 * k) ≤ 1000 + 100 * (k + 1); omega⟩ (Nat.le_of_ble_eq_true rfl) ⟨by show ((((1 + 5 * i) + 5) + 5) + 1) + (76 * (wi_ R b false).length - 38) ≤ (76 * R.length - 38); omega, by show ((((4 + 30 * i) + 30) + 30) + 24) + (524 * (wi_ R b false).length - 262) ≤ (524 * R.length - 262); omega⟩ dX3_signs_149 (fun v15 w1 H locs hq hP hD hS => ?_)
              obtain ⟨rfl, σ_13, rfl, hC_14⟩ := hq
              have hP : va_P D vwCl ((g_W D σ_13) ++ [(q2, h_row D ([bt_ R, nI R.length, le_ R, mx_ R])), (aw11, h_row D (wi_ R b false))]) H := hP
              have hD : va_D (va_A ((g_W D σ)) s.heap.size) ((g_W D σ_13) ++ [(q2, h_row D ([bt_ R, nI R.length, le_ R, mx_ R])), (aw11, h_row D (wi_ R b false))]) := hD
              refine W.widen (k := (((((1 + 5 * i) + 5) + 5) + 1) + (76 * (wi_ R b false).length - 38))) (n := (((((4 + 30 * i) + 30) + 30) + 24) + (524 * (wi_ R b false).length - 262))) (Nat.le_refl _) (Nat.le_refl _) ?_
              refine W.eq (g2 := F0 m 152 ls [.int (nI ((pl + 1) + 2 * (wi_ R b false).length - 1))]) rfl ?_
              refine g_top (y := nI (pl + 2 * (wi_ R b false).length)) (by rw [show pl + 1 + 2 * (wi_ R b false).length - 1 = pl + 2 * (wi_ R b false).length by omega]) ?_
              refine lv_istore (lv' := [(7, .int (nI (pl + 2 * (wi_ R b false).length))), (0, .ref (ad_ D 0)), (1, .int (nI w)), (2, .int (nI pl)), (3, .ref a0), (4, .int (nI ah)), (5, .int (nI b)), (6, .ref q2)]) hx hb dX3_signs_152 hl (by decide) rfl (fun ls hl => ?_)
              refine lv_iload hx hb dX3_signs_154 (lv_at hl 0 rfl) ?_
              refine lv_if_lt (tgt := 171) hx hb dX3_signs_156 (by decide) (fun h156 => ?_) (fun h156 => ?_)
              · have hb156 := g_lt (a := pl + 2 * (wi_ R b false).length) (b := 0) h156 (by omega) (by omega)
                omega
              · have hb156 := g_nlt (a := pl + 2 * (wi_ R b false).length) (b := 0) h156 (by omega) (by omega)
                refine lv_aload_n hx hb dX3_signs_159 rfl (lv_at hl 1 rfl) ?_
                refine lv_iload_n hx hb dX3_signs_160 rfl (lv_at hl 2 rfl) ?_
                refine lv_iload_n hx hb dX3_signs_161 rfl (lv_at hl 3 rfl) ?_
                refine lv_iconst (v := nI 5) hx hb dX3_signs_162 (by decide) ?_
                refine h_callV (y := yX2_sign) (n := 3) (As := [.int (nI w), .int (nI pl), .int (nI 5)]) (rest := []) hx hb hml hown hts hE hZ hS hl.1 ((n_sign l hst D hAD σ_13 Ls hC_14 hvC w pl 5 hw hpz (by omega)).h hAD) h_P0 (h_prf hP) (h_AP hD hS h_Asz) (fun _ _ _ => trivial) (h_jP hP hD (h_AP hD hS h_Asz)) k_X3_58 (wr := (g_W D σ_13)) (q0 := 0) (ci := 2) (h_prf hP) (g_at (by decide) hC_14.1) rfl rfl rfl rfl ⟨by show 13 + 1 ≤ k + 1 + 20; omega, by show 8 + (4 + 11) + 323 ≤ 1000 + 100 * (k + 1); omega⟩ (Nat.le_of_ble_eq_true rfl) ⟨by show (((((1 + 5 * i) + 5) + 5) + 1) + (76 * (wi_ R b false).length - 38)) + 5 ≤ (76 * R.length - 38); omega, by show (((((4 + 30 * i) + 30) + 30) + 24) + (524 * (wi_ R b false).length - 262)) + 30 ≤ (524 * R.length - 262); omega⟩ dX3_signs_163 (fun v18 w1 H locs hq hP hD hS => ?_)
                obtain ⟨σ_16, ⟨rfl, hC_17⟩, rfl⟩ := hq
                have hP : va_P D vwCl ((g_W D σ_16) ++ [(q2, h_row D ([bt_ R, nI R.length, le_ R, mx_ R])), (aw11, h_row D (wi_ R b false))]) H := hP
                have hD : va_D (va_A ((g_W D σ)) s.heap.size) ((g_W D σ_16) ++ [(q2, h_row D ([bt_ R, nI R.length, le_ R, mx_ R])), (aw11, h_row D (wi_ R b false))]) := hD
                refine W.widen (k := ((((((1 + 5 * i) + 5) + 5) + 1) + (76 * (wi_ R b false).length - 38)) + 5)) (n := ((((((4 + 30 * i) + 30) + 30) + 24) + (524 * (wi_ R b false).length - 262)) + 30)) (Nat.le_refl _) (Nat.le_refl _) ?_
                refine W.eq (g2 := F0 m 166 ls [.int (tel_ (tb_ (Ls w)) 5 pl)]) rfl ?_
                refine g_top (y := nI (pl + 2 * (wi_ R b false).length)) (q5) ?_
                refine lv_iload hx hb dX3_signs_166 (lv_at hl 0 rfl) ?_
                refine lv_icmp_eq (tgt := 173) hx hb dX3_signs_168 (by decide) (fun h168 => ?_) (fun h168 => ?_)
                · refine lv_aload_n hx hb dX3_signs_173 rfl (lv_at hl 1 rfl) ?_
                  refine lv_iload_n hx hb dX3_signs_174 rfl (lv_at hl 2 rfl) ?_
                  refine lv_iload hx hb dX3_signs_175 (lv_at hl 0 rfl) ?_
                  refine lv_aload_n hx hb dX3_signs_177 rfl (lv_at hl 4 rfl) ?_
                  refine lv_iload hx hb dX3_signs_178 (lv_at hl 6 rfl) ?_
                  refine lv_iconst (v := nI 1) hx hb dX3_signs_180 (by decide) ?_
                  refine h_callS (y := yX3_with) (n := 3) (As := [.ref a0, .int (nI b), .int (nI 1)]) (rest := [.int (nI (pl + 2 * (wi_ R b false).length)), .int (nI w), .ref (ad_ D 0)]) hx hb hml hown hts hE hZ hS hl.1 (m_X3_with l D a0 R b 1 hn hrn (by omega) (by decide)) (h_pick (w := []) (xs := [(a0, h_row D R)]) (i := 0) (h_rk hR hap hS) (rfl)) h_P0 (h_Anil hS h_Asz) (fun _ _ _ => trivial) (h_jR hP hD (h_Anil hS h_Asz)) k_X3_64 rfl rfl ⟨by show 9 + 1 ≤ k + 1 + 20; omega, by show 8 + (9 + 11) + 226 ≤ 1000 + 100 * (k + 1); omega⟩ (Nat.le_of_ble_eq_true rfl) ⟨by show ((((((1 + 5 * i) + 5) + 5) + 1) + (76 * (wi_ R b false).length - 38)) + 5) + 1 ≤ (76 * R.length - 38); omega, by show ((((((4 + 30 * i) + 30) + 30) + 24) + (524 * (wi_ R b false).length - 262)) + 30) + 24 ≤ (524 * R.length - 262); omega⟩ dX3_signs_181 (fun v20 w1 H locs hq hP hD hS => ?_)
                  obtain ⟨aw19, rfl, rfl⟩ := hq
                  have hP : va_P D vwCl ((g_W D σ_16) ++ [(q2, h_row D ([bt_ R, nI R.length, le_ R, mx_ R])), (aw11, h_row D (wi_ R b false)), (aw19, h_row D (wi_ R b true))]) H := hP
                  have hD : va_D (va_A ((g_W D σ)) s.heap.size) ((g_W D σ_16) ++ [(q2, h_row D ([bt_ R, nI R.length, le_ R, mx_ R])), (aw11, h_row D (wi_ R b false)), (aw19, h_row D (wi_ R b true))]) := hD
                  refine W.widen (k := (((((((1 + 5 * i) + 5) + 5) + 1) + (76 * (wi_ R b false).length - 38)) + 5) + 1)) (n := (((((((4 + 30 * i) + 30) + 30) + 24) + (524 * (wi_ R b false).length - 262)) + 30) + 24)) (Nat.le_refl _) (Nat.le_refl _) ?_
                  refine W.eq (g2 := F0 m 184 ls [.ref aw19, .int (nI (pl + 2 * (wi_ R b false).length)), .int (nI w), .ref (ad_ D 0)]) rfl ?_
                  refine lv_iload hx hb dX3_signs_184 (lv_at hl 5 rfl) ?_
                  refine lv_iconst (v := nI 1) hx hb dX3_signs_186 (by decide) ?_
                  refine lv_iadd hx hb dX3_signs_187 ?_
                  refine g_top (y := nI (ah + 1)) (nI_add ah 1) ?_
                  refine h_callS (y := yX3_signs) (n := 5) (As := [.ref (ad_ D 0), .int (nI w), .int (nI (pl + 2 * (wi_ R b false).length)), .ref aw19, .int (nI (ah + 1))]) (rest := []) hx hb hml hown hts hE hZ hS hl.1 (ih σ_16 w (pl + 2 * (wi_ R b false).length) aw19 (wi_ R b true) (ah + 1) hw hC_17 hsh (by omega) (rn_wi hrn) (h_apD hD (i := 2) rfl) (by omega) (by omega)) (h_pick (w := (g_W D σ_16)) (xs := [(q2, h_row D ([bt_ R, nI R.length, le_ R, mx_ R])), (aw11, h_row D (wi_ R b false)), (aw19, h_row D (wi_ R b true))]) (i := 2) hP (rfl)) (h_prf hP) (h_AP hD hS h_Asz) (fun _ _ _ => trivial) (h_jP hP hD (h_AP hD hS h_Asz)) k_X3_68 rfl rfl ⟨by show k + 20 + 1 ≤ k + 1 + 20; omega, by show 8 + (8 + 11) + (1000 + 100 * k) ≤ 1000 + 100 * (k + 1); omega⟩ (Nat.le_of_ble_eq_true rfl) ⟨by show (((((((1 + 5 * i) + 5) + 5) + 1) + (76 * (wi_ R b false).length - 38)) + 5) + 1) + (76 * (wi_ R b true).length - 38) ≤ (76 * R.length - 38); omega, by show (((((((4 + 30 * i) + 30) + 30) + 24) + (524 * (wi_ R b false).length - 262)) + 30) + 24) + (524 * (wi_ R b true).length - 262) ≤ (524 * R.length - 262); omega⟩ dX3_signs_188 (fun v23 w1 H locs hq hP hD hS => ?_)
                  obtain ⟨rfl, σ_21, rfl, hC_22⟩ := hq
                  have hP : va_P D vwCl ((g_W D σ_21) ++ [(q2, h_row D ([bt_ R, nI R.length, le_ R, mx_ R])), (aw11, h_row D (wi_ R b false)), (aw19, h_row D (wi_ R b true))]) H := hP
                  have hD : va_D (va_A ((g_W D σ)) s.heap.size) ((g_W D σ_21) ++ [(q2, h_row D ([bt_ R, nI R.length, le_ R, mx_ R])), (aw11, h_row D (wi_ R b false)), (aw19, h_row D (wi_ R b true))]) := hD
                  refine W.widen (k := ((((((((1 + 5 * i) + 5) + 5) + 1) + (76 * (wi_ R b false).length - 38)) + 5) + 1) + (76 * (wi_ R b true).length - 38))) (n := ((((((((4 + 30 * i) + 30) + 30) + 24) + (524 * (wi_ R b false).length - 262)) + 30) + 24) + (524 * (wi_ R b true).length - 262))) (Nat.le_refl _) (Nat.le_refl _) ?_
                  refine W.eq (g2 := F0 m 191 ls [.int (nI ((pl + 2 * (wi_ R b false).length) + 2 * (wi_ R b true).length - 1))]) rfl ?_
                  have hP := h_prf hP
                  have hD := h_Dprf hD
                  refine W.widen (k := (76 * R.length - 38)) (n := (524 * R.length - 262)) (by omega) (by omega) ?_
                  rw [← hQ]
                  exact W.iret (v := nI ((pl + 2 * (wi_ R b false).length) + 2 * (wi_ R b true).length - 1)) hx hb hr (fun te9 hte9 _ => h_fin (⟨by rw [show pl + 2 * R.length - 1 = (pl + 2 * (wi_ R b false).length) + 2 * (wi_ R b true).length - 1 by omega], σ_21, rfl, hC_22⟩) hP hD hS hte9) hS.2.2 dX3_signs_191 hlocks
                · exact absurd rfl h168
            · exact absurd rfl h128
          · have hbn : bt_ R = -1 := by rcases bt_r R with hbe | ⟨b, hb16, hbe, -⟩; exact hbe; rw [hbe] at h85; exact absurd (nI_pos' (show b < 2 ^ 31 by omega)) h85
            obtain ⟨hl1, hl4, hl5⟩ := hleaf hbn
            refine lv_aload_n hx hb dX3_signs_88 rfl (lv_at hl 0 rfl) ?_
            refine lv_iload_n hx hb dX3_signs_89 rfl (lv_at hl 1 rfl) ?_
            refine lv_iload_n hx hb dX3_signs_90 rfl (lv_at hl 2 rfl) ?_
            refine lv_iconst (v := nI 4) hx hb dX3_signs_91 (by decide) ?_
            refine h_callV (y := yX2_sign) (n := 3) (As := [.int (nI w), .int (nI pl), .int (nI 4)]) (rest := []) hx hb hml hown hts hE hZ hS hl.1 ((n_sign l hst D hAD σ_5 Ls hC_6 hvC w pl 4 hw hpz (by omega)).h hAD) h_P0 (h_prf hP) (h_AP hD hS h_Asz) (fun _ _ _ => trivial) (h_jP hP hD (h_AP hD hS h_Asz)) k_X3_58 (wr := (g_W D σ_5)) (q0 := 0) (ci := 2) (h_prf hP) (g_at (by decide) hC_6.1) rfl rfl rfl rfl ⟨by show 13 + 1 ≤ k + 1 + 20; omega, by show 8 + (4 + 11) + 323 ≤ 1000 + 100 * (k + 1); omega⟩ (Nat.le_of_ble_eq_true rfl) ⟨by show ((1 + 5 * i) + 5) + 5 ≤ (76 * R.length - 38); omega, by show ((4 + 30 * i) + 30) + 30 ≤ (524 * R.length - 262); omega⟩ dX3_signs_92 (fun v26 w1 H locs hq hP hD hS => ?_)
            obtain ⟨σ_24, ⟨rfl, hC_25⟩, rfl⟩ := hq
            have hP : va_P D vwCl ((g_W D σ_24) ++ [(q2, h_row D ([bt_ R, nI R.length, le_ R, mx_ R]))]) H := hP
            have hD : va_D (va_A ((g_W D σ)) s.heap.size) ((g_W D σ_24) ++ [(q2, h_row D ([bt_ R, nI R.length, le_ R, mx_ R]))]) := hD
            refine W.widen (k := (((1 + 5 * i) + 5) + 5)) (n := (((4 + 30 * i) + 30) + 30)) (Nat.le_refl _) (Nat.le_refl _) ?_
            refine W.eq (g2 := F0 m 95 ls [.int (tel_ (tb_ (Ls w)) 4 pl)]) rfl ?_
            refine g_top (y := (-1)) (hl4) ?_
            refine lv_iconst (v := (-1)) hx hb dX3_signs_95 (by decide) ?_
            refine lv_icmp_ne (tgt := 116) hx hb dX3_signs_96 (by decide) (fun h96 => ?_) (fun h96 => ?_)
            · exact absurd rfl h96
            · refine lv_aload_n hx hb dX3_signs_99 rfl (lv_at hl 0 rfl) ?_
              refine lv_iload_n hx hb dX3_signs_100 rfl (lv_at hl 1 rfl) ?_
              refine lv_iload_n hx hb dX3_signs_101 rfl (lv_at hl 2 rfl) ?_
              refine lv_iconst (v := nI 5) hx hb dX3_signs_102 (by decide) ?_
              refine h_callV (y := yX2_sign) (n := 3) (As := [.int (nI w), .int (nI pl), .int (nI 5)]) (rest := []) hx hb hml hown hts hE hZ hS hl.1 ((n_sign l hst D hAD σ_24 Ls hC_25 hvC w pl 5 hw hpz (by omega)).h hAD) h_P0 (h_prf hP) (h_AP hD hS h_Asz) (fun _ _ _ => trivial) (h_jP hP hD (h_AP hD hS h_Asz)) k_X3_58 (wr := (g_W D σ_24)) (q0 := 0) (ci := 2) (h_prf hP) (g_at (by decide) hC_25.1) rfl rfl rfl rfl ⟨by show 13 + 1 ≤ k + 1 + 20; omega, by show 8 + (4 + 11) + 323 ≤ 1000 + 100 * (k + 1); omega⟩ (Nat.le_of_ble_eq_true rfl) ⟨by show (((1 + 5 * i) + 5) + 5) + 5 ≤ (76 * R.length - 38); omega, by show (((4 + 30 * i) + 30) + 30) + 30 ≤ (524 * R.length - 262); omega⟩ dX3_signs_103 (fun v29 w1 H locs hq hP hD hS => ?_)
              obtain ⟨σ_27, ⟨rfl, hC_28⟩, rfl⟩ := hq
              have hP : va_P D vwCl ((g_W D σ_27) ++ [(q2, h_row D ([bt_ R, nI R.length, le_ R, mx_ R]))]) H := hP
              have hD : va_D (va_A ((g_W D σ)) s.heap.size) ((g_W D σ_27) ++ [(q2, h_row D ([bt_ R, nI R.length, le_ R, mx_ R]))]) := hD
              refine W.widen (k := ((((1 + 5 * i) + 5) + 5) + 5)) (n := ((((4 + 30 * i) + 30) + 30) + 30)) (Nat.le_refl _) (Nat.le_refl _) ?_
              refine W.eq (g2 := F0 m 106 ls [.int (tel_ (tb_ (Ls w)) 5 pl)]) rfl ?_
              refine g_top (y := (-1)) (hl5) ?_
              refine lv_iconst (v := (-1)) hx hb dX3_signs_106 (by decide) ?_
              refine lv_icmp_ne (tgt := 116) hx hb dX3_signs_107 (by decide) (fun h107 => ?_) (fun h107 => ?_)
              · exact absurd rfl h107
              · refine lv_iload_n hx hb dX3_signs_110 rfl (lv_at hl 2 rfl) ?_
                refine lv_iconst (v := nI 1) hx hb dX3_signs_111 (by decide) ?_
                refine lv_iadd hx hb dX3_signs_112 ?_
                refine g_top (y := nI (pl + 1)) (nI_add pl 1) ?_
                refine lv_goto (tgt := 117) hx hb dX3_signs_113 (by decide) ?_
                have hP := h_prf hP
                have hD := h_Dprf hD
                refine W.widen (k := (76 * R.length - 38)) (n := (524 * R.length - 262)) (by omega) (by omega) ?_
                rw [← hQ]
                exact W.iret (v := nI (pl + 1)) hx hb hr (fun te9 hte9 _ => h_fin (⟨by rw [show pl + 2 * R.length - 1 = pl + 1 by omega], σ_27, rfl, hC_28⟩) hP hD hS hte9) hS.2.2 dX3_signs_117 hlocks
        · exact absurd rfl h78
      · have hb41 := g_nle (a := 4) (b := i) h41 (by omega) (by omega)
        refine lv_aload_n hx hb dX3_signs_44 rfl (lv_at hl 0 rfl) ?_
        refine lv_iload_n hx hb dX3_signs_45 rfl (lv_at hl 1 rfl) ?_
        refine lv_iload_n hx hb dX3_signs_46 rfl (lv_at hl 2 rfl) ?_
        refine lv_iload hx hb dX3_signs_47 (lv_at hl 7 rfl) ?_
        refine h_callV (y := yX2_sign) (n := 3) (As := [.int (nI w), .int (nI pl), .int (nI i)]) (rest := []) hx hb hml hown hts hE hZ hS hl.1 ((n_sign l hst D hAD σ2 Ls hC2 hvC w pl i hw hpz (by omega)).h hAD) h_P0 (h_prf hP) (h_AP hD hS h_Asz) (fun _ _ _ => trivial) (h_jP hP hD (h_AP hD hS h_Asz)) k_X3_58 (wr := (g_W D σ2)) (q0 := 0) (ci := 2) (h_prf hP) (g_at (by decide) hC2.1) rfl rfl rfl rfl ⟨by show 13 + 1 ≤ k + 1 + 20; omega, by show 8 + (4 + 11) + 323 ≤ 1000 + 100 * (k + 1); omega⟩ (Nat.le_of_ble_eq_true rfl) ⟨by show (1 + 5 * i) + 5 ≤ (76 * R.length - 38); omega, by show (4 + 30 * i) + 30 ≤ (524 * R.length - 262); omega⟩ dX3_signs_49 (fun v32 w1 H locs hq hP hD hS => ?_)
        obtain ⟨σ_30, ⟨rfl, hC_31⟩, rfl⟩ := hq
        have hP : va_P D vwCl ((g_W D σ_30) ++ [(q2, h_row D ([bt_ R, nI R.length, le_ R, mx_ R]))]) H := hP
        have hD : va_D (va_A ((g_W D σ)) s.heap.size) ((g_W D σ_30) ++ [(q2, h_row D ([bt_ R, nI R.length, le_ R, mx_ R]))]) := hD
        refine W.widen (k := ((1 + 5 * i) + 5)) (n := ((4 + 30 * i) + 30)) (Nat.le_refl _) (Nat.le_refl _) ?_
        refine W.eq (g2 := F0 m 52 ls [.int (tel_ (tb_ (Ls w)) i pl)]) rfl ?_
        refine lv_aload hx hb dX3_signs_52 (lv_at hl 6 rfl) ?_
        refine lv_iload hx hb dX3_signs_54 (lv_at hl 7 rfl) ?_
        refine h_ild (w := (g_W D σ_30)) (xs := [(q2, h_row D ([bt_ R, nI R.length, le_ R, mx_ R]))]) (i := 0) (R := [bt_ R, nI R.length, le_ R, mx_ R]) (j := i) hx hb hE hP (rfl) (show i < 4 by omega) (show 4 < 2 ^ 31 by decide) (v := ([bt_ R, nI R.length, le_ R, mx_ R] : List Int32).getD i 0) (rfl) dX3_signs_56 ?_
        refine lv_icmp_eq (tgt := 62) hx hb dX3_signs_57 (by decide) (fun h57 => ?_) (fun h57 => ?_)
        · refine lv_iinc (v := nI (i + 1)) (lv' := [(7, .int (nI (i + 1))), (0, .ref (ad_ D 0)), (1, .int (nI w)), (2, .int (nI pl)), (3, .ref a0), (4, .int (nI ah)), (5, .int (bt_ R)), (6, .ref q2)]) hx hb dX3_signs_62 hl (k := 7) rfl (g_inc i) (by decide) rfl (fun ls hl => ?_)
          refine lv_goto (tgt := 38) hx hb dX3_signs_65 (by decide) ?_
          refine W.widen (k := (1 + 5 * (i + 1))) (n := (4 + 30 * (i + 1))) (by omega) (by omega) ?_
          exact ih38 (i + 1) σ_30 (by omega) (by omega) hC_31 _ _ hP hD hS ls (lv_sub hl [1, 2, 3, 4, 5, 6, 7, 0] rfl)
        · exact absurd (hdue i (by omega)) h57
  refine W.widen (k := (1 + 5 * 0)) (n := (4 + 30 * 0)) (by omega) (by omega) ?_
  exact K38 ((4 - 0) + 1) 0 σ (Nat.lt_succ_self _) (Nat.zero_le _) hC _ _ hP hD hS ls (lv_sub hl [3, 4, 5, 6, 7, 2, 1, 0] rfl)
