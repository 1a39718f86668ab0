theorem wm_t {z : Bool} {vv : Nat} (hv : vv ≤ 1) (h : (if z = true then 1 else 0) = vv) : z = (vv == 1) := by
  cases z <;> simp at h <;> subst h <;> rfl
theorem wm_f {z : Bool} {vv : Nat} (hv : vv ≤ 1) (h : (if z = true then 1 else 0) ≠ vv) : ¬ z = (vv == 1) := by
  cases z <;> rcases (show vv = 0 ∨ vv = 1 by omega) with rfl | rfl <;> simp at h ⊢
abbrev m_X3_ones_rm  : Room := { frames := 8, cells := 0, slots := 0, locals := 200 }
set_option maxHeartbeats 4000000 in
set_option maxRecDepth 100000 in
theorem m_X3_ones (l : Launch) (D : va_G) (a0 : Nat) (R : List Int32) (b : Nat) (hn : R.length ≤ 24) (hrn : rn_ R) (hb16 : b < 16) : h_M l D yX3_ones cX3_ones 7 (some .int) m_X3_ones_rm [.ref a0, .int (nI b)] none ([(a0, h_row D R)]) ([]) (fun v1 w1 => v1 = some (.int (nI (on_ R b))) ∧ w1 = []) := by
  refine h_ofW [(0, .ref a0), (1, .int (nI b))] (by decide +kernel) (Nat.le_of_ble_eq_true rfl) rfl ?_
  intro p e s m args below meth c hx hb hr hml hown hlocks hts hE hZ hR hP hS hX ls hl
  have hown : s.vm.findClass RX3 = some m.cls := hown
  generalize hQ : MQ _ _ _ _ _ _ _ = Q
  have hap : h_ap ([(a0, h_row D R)]) [] := h_ap.nil
  have hD : va_D (va_A ([]) s.heap.size) [] := h_D0
  refine lv_iconst (v := nI 0) hx hb dX3_ones_0 (by decide) ?_
  refine lv_istore_n (lv' := [(2, .int (nI 0)), (0, .ref a0), (1, .int (nI b))]) hx hb dX3_ones_1 rfl hl (by decide) rfl (fun ls hl => ?_)
  refine lv_aload_n hx hb dX3_ones_2 rfl (lv_at hl 1 rfl) ?_
  refine lv_astore_n (lv' := [(3, .ref a0), (2, .int (nI 0)), (0, .ref a0), (1, .int (nI b))]) hx hb dX3_ones_3 rfl hl (by decide) rfl (fun ls hl => ?_)
  refine lv_aload_n hx hb dX3_ones_4 rfl (lv_at hl 0 rfl) ?_
  refine h_aln (w := []) (xs := [(a0, h_row D R)]) (i := 0) (R := R) hx hb hE (h_rk hR hap hS) (rfl) dX3_ones_5 ?_
  refine lv_istore (lv' := [(4, .int (nI R.length)), (3, .ref a0), (2, .int (nI 0)), (0, .ref a0), (1, .int (nI b))]) hx hb dX3_ones_6 hl (by decide) rfl (fun ls hl => ?_)
  refine lv_iconst (v := nI 0) hx hb dX3_ones_8 (by decide) ?_
  refine lv_istore (lv' := [(5, .int (nI 0)), (4, .int (nI R.length)), (3, .ref a0), (2, .int (nI 0)), (0, .ref a0), (1, .int (nI b))]) hx hb dX3_ones_9 hl (by decide) rfl (fun ls hl => ?_)
  have K11 : ∀ (fuel11 : Nat) (i : Nat), (R.length - i) < fuel11 → (i ≤ R.length) → ∀ (H : Heap) (locs : List Loc), va_P D vwCl [] H → va_D (va_A ([]) s.heap.size) [] → va_S (va_A ([]) s.heap.size) s.heap H locs → ∀ ls : Array Slot, lv_has ls 7 [(0, .ref a0), (1, .int (nI b)), (2, .int (nI (on_ (R.take i) b))), (3, .ref a0), (4, .int (nI R.length)), (5, .int (nI i))] → W p l e m_X3_ones_rm s m args below meth c H locs 0 0 Q (F0 m 11 ls []) := by
    intro fuel11
    induction fuel11 with
    | zero => intro i hf; exact absurd hf (Nat.not_lt_zero _)
    | succ fuel11 ih11 =>
      intro i hf11 hi H locs hP hD hS ls hl
      refine lv_iload hx hb dX3_ones_11 (lv_at hl 5 rfl) ?_
      refine lv_iload hx hb dX3_ones_13 (lv_at hl 4 rfl) ?_
      refine lv_icmp_ge (tgt := 39) hx hb dX3_ones_15 (by decide) (fun h15 => ?_) (fun h15 => ?_)
      · have hb15 := g_le (a := R.length) (b := i) h15 (by omega) (by omega)
        refine lv_iload_n hx hb dX3_ones_39 rfl (lv_at hl 2 rfl) ?_
        refine W.widen (k := 0) (n := 0) (by omega) (by omega) ?_
        rw [← hQ]
        exact W.iret (v := nI (on_ (R.take i) b)) hx hb hr (fun te9 hte9 _ => h_fin (⟨by rw [tk_all (by omega)], rfl⟩) hP hD hS hte9) hS.2.2 dX3_ones_40 hlocks
      · have hb15 := g_nle (a := R.length) (b := i) h15 (by omega) (by omega)
        refine lv_aload_n hx hb dX3_ones_18 rfl (lv_at hl 3 rfl) ?_
        refine lv_iload hx hb dX3_ones_19 (lv_at hl 5 rfl) ?_
        refine h_ild (w := []) (xs := [(a0, h_row D R)]) (i := 0) (R := R) (j := i) hx hb hE (h_rk hR hap hS) (rfl) (by omega) (by omega) (v := R.getD i 0) (rfl) dX3_ones_21 ?_
        refine lv_istore (lv' := [(6, .int (R.getD i 0)), (0, .ref a0), (1, .int (nI b)), (2, .int (nI (on_ (R.take i) b))), (3, .ref a0), (4, .int (nI R.length)), (5, .int (nI i))]) hx hb dX3_ones_22 hl (by decide) rfl (fun ls hl => ?_)
        refine lv_iload_n hx hb dX3_ones_24 rfl (lv_at hl 3 rfl) ?_
        refine lv_iload hx hb dX3_ones_25 (lv_at hl 0 rfl) ?_
        refine lv_iload_n hx hb dX3_ones_27 rfl (lv_at hl 2 rfl) ?_
        refine lv_ishr hx hb dX3_ones_28 ?_
        refine lv_iconst (v := nI 2) hx hb dX3_ones_29 (by decide) ?_
        refine lv_irem hx hb dX3_ones_30 (by decide) ?_
        refine g_top (y := nI ((if hb_ (R.getD i 0) (nI b) then 1 else 0))) (sh2_ (hrn _ (gD_mem (by omega))) (by omega)) ?_
        refine lv_iadd hx hb dX3_ones_31 ?_
        refine g_top (y := nI ((on_ (R.take i) b) + ((if hb_ (R.getD i 0) (nI b) then 1 else 0)))) (nI_add (on_ (R.take i) b) ((if hb_ (R.getD i 0) (nI b) then 1 else 0))) ?_
        refine g_top (y := nI (on_ (R.take (i + 1)) b)) (by rw [on_s (by omega)]) ?_
        refine lv_istore_n (lv' := [(2, .int (nI (on_ (R.take (i + 1)) b))), (6, .int (R.getD i 0)), (0, .ref a0), (1, .int (nI b)), (3, .ref a0), (4, .int (nI R.length)), (5, .int (nI i))]) hx hb dX3_ones_32 rfl hl (by decide) rfl (fun ls hl => ?_)
        refine lv_iinc (v := nI (i + 1)) (lv' := [(5, .int (nI (i + 1))), (2, .int (nI (on_ (R.take (i + 1)) b))), (6, .int (R.getD i 0)), (0, .ref a0), (1, .int (nI b)), (3, .ref a0), (4, .int (nI R.length))]) hx hb dX3_ones_33 hl (k := 6) rfl (g_inc i) (by decide) rfl (fun ls hl => ?_)
        refine lv_goto (tgt := 11) hx hb dX3_ones_36 (by decide) ?_
        exact ih11 (i + 1) (by omega) (by omega) _ _ hP hD hS ls (lv_sub hl [3, 4, 1, 5, 6, 0] rfl)
  exact K11 ((R.length - 0) + 1) 0 (Nat.lt_succ_self _) (Nat.zero_le _) _ _ hP hD hS ls (lv_sub hl [4, 5, 3, 2, 1, 0] rfl)

abbrev m_X3_bit_rm  : Room := { frames := 9, cells := 0, slots := 0, locals := 226 }
set_option maxHeartbeats 4000000 in
set_option maxRecDepth 100000 in
theorem m_X3_bit (l : Launch) (D : va_G) (a0 : Nat) (R : List Int32) (hn : R.length ≤ 24) (hrn : rn_ R) : h_M l D yX3_bit cX3_bit 3 (some .int) m_X3_bit_rm [.ref a0] none ([(a0, h_row D R)]) ([]) (fun v1 w1 => v1 = some (.int (bt_ R)) ∧ w1 = []) := by
  refine h_ofW [(0, .ref a0)] (by decide +kernel) (Nat.le_of_ble_eq_true rfl) rfl ?_
  intro p e s m args below meth c hx hb hr hml hown hlocks hts hE hZ hR hP hS hX ls hl
  have hown : s.vm.findClass RX3 = some m.cls := hown
  generalize hQ : MQ _ _ _ _ _ _ _ = Q
  have hap : h_ap ([(a0, h_row D R)]) [] := h_ap.nil
  have hD : va_D (va_A ([]) s.heap.size) [] := h_D0
  refine lv_bipush (v := nI 15) hx hb dX3_bit_0 (by decide) ?_
  refine lv_istore_n (lv' := [(1, .int (nI 15)), (0, .ref a0)]) hx hb dX3_bit_2 rfl hl (by decide) rfl (fun ls hl => ?_)
  have K3 : ∀ (fuel3 : Nat) (k : Nat), (k) < fuel3 → (k ≤ 16) → (bt_ R = bf_ R k) → ∀ (H : Heap) (locs : List Loc), va_P D vwCl [] H → va_D (va_A ([]) s.heap.size) [] → va_S (va_A ([]) s.heap.size) s.heap H locs → ∀ ls : Array Slot, lv_has ls 3 [(0, .ref a0), (1, .int (bk_ k))] → W p l e m_X3_bit_rm s m args below meth c H locs 0 0 Q (F0 m 3 ls []) := by
    intro fuel3
    induction fuel3 with
    | zero => intro k hf; exact absurd hf (Nat.not_lt_zero _)
    | succ fuel3 ih3 =>
      intro k hf3 hk hbt H locs hP hD hS ls hl
      refine lv_iload_n hx hb dX3_bit_3 rfl (lv_at hl 1 rfl) ?_
      refine lv_if_lt (tgt := 31) hx hb dX3_bit_4 (by decide) (fun h4 => ?_) (fun h4 => ?_)
      · have hk0 := bk_neg hk h4
        refine lv_iconst (v := (-1)) hx hb dX3_bit_31 (by decide) ?_
        refine W.widen (k := 0) (n := 0) (by omega) (by omega) ?_
        rw [← hQ]
        exact W.iret (v := (-1)) hx hb hr (fun te9 hte9 _ => h_fin (⟨by rw [hbt, hk0]; rfl, rfl⟩) hP hD hS hte9) hS.2.2 dX3_bit_32 hlocks
      · obtain ⟨j, rfl⟩ := bk_pos h4
        have hol := on_le R j
        have hl : lv_has ls 3 [(0, .ref a0), (1, .int (nI j))] := hl
        refine lv_aload_n hx hb dX3_bit_7 rfl (lv_at hl 0 rfl) ?_
        refine lv_iload_n hx hb dX3_bit_8 rfl (lv_at hl 1 rfl) ?_
        refine h_callS (y := yX3_ones) (n := 2) (As := [.ref a0, .int (nI j)]) (rest := []) hx hb hml hown hts hE hZ hS hl.1 (m_X3_ones l D a0 R j hn hrn (by omega)) (h_pick (w := []) (xs := [(a0, h_row D R)]) (i := 0) (h_rk hR hap hS) (rfl)) h_P0 (h_Anil hS h_Asz) (fun _ _ _ => trivial) (h_jR hP hD (h_Anil hS h_Asz)) k_X3_35 rfl rfl ⟨Nat.le_of_ble_eq_true rfl, Nat.le_of_ble_eq_true rfl⟩ (Nat.le_of_ble_eq_true rfl) ⟨Nat.le_of_ble_eq_true rfl, Nat.le_of_ble_eq_true rfl⟩ dX3_bit_9 (fun v1 w1 H locs hq hP hD hS => ?_)
        obtain ⟨rfl, rfl⟩ := hq
        rw [List.append_nil] at hP hD
        have hP : va_P D vwCl [] H := hP
        have hD : va_D (va_A ([]) s.heap.size) [] := hD
        refine W.widen (k := 0) (n := 0) (Nat.le_of_ble_eq_true rfl) (Nat.le_of_ble_eq_true rfl) ?_
        refine W.eq (g2 := F0 m 12 ls [.int (nI (on_ R j))]) rfl ?_
        refine lv_istore_n (lv' := [(2, .int (nI (on_ R j))), (0, .ref a0), (1, .int (nI j))]) hx hb dX3_bit_12 rfl hl (by decide) rfl (fun ls hl => ?_)
        refine lv_iload_n hx hb dX3_bit_13 rfl (lv_at hl 0 rfl) ?_
        refine lv_if_le (tgt := 25) hx hb dX3_bit_14 (by decide) (fun h14 => ?_) (fun h14 => ?_)
        · have hb14 := g_le (a := on_ R j) (b := 0) h14 (by omega) (by omega)
          refine lv_iinc (v := bk_ j) (lv' := [(1, .int (bk_ j)), (2, .int (nI (on_ R j))), (0, .ref a0)]) hx hb dX3_bit_25 hl (k := 2) rfl (bk_dec j) (by decide) rfl (fun ls hl => ?_)
          refine lv_goto (tgt := 3) hx hb dX3_bit_28 (by decide) ?_
          exact ih3 j (by omega) (by omega) (by rw [hbt, bf_, if_neg (by intro q; omega)]) _ _ hP hD hS ls (lv_sub hl [2, 0] rfl)
        · have hb14 := g_nle (a := on_ R j) (b := 0) h14 (by omega) (by omega)
          refine lv_iload_n hx hb dX3_bit_17 rfl (lv_at hl 0 rfl) ?_
          refine lv_aload_n hx hb dX3_bit_18 rfl (lv_at hl 1 rfl) ?_
          refine h_aln (w := []) (xs := [(a0, h_row D R)]) (i := 0) (R := R) hx hb hE (h_rk hR hap hS) (rfl) dX3_bit_19 ?_
          refine lv_icmp_ge (tgt := 25) hx hb dX3_bit_20 (by decide) (fun h20 => ?_) (fun h20 => ?_)
          · have hb20 := g_le (a := R.length) (b := on_ R j) h20 (by omega) (by omega)
            refine lv_iinc (v := bk_ j) (lv' := [(1, .int (bk_ j)), (2, .int (nI (on_ R j))), (0, .ref a0)]) hx hb dX3_bit_25 hl (k := 2) rfl (bk_dec j) (by decide) rfl (fun ls hl => ?_)
            refine lv_goto (tgt := 3) hx hb dX3_bit_28 (by decide) ?_
            exact ih3 j (by omega) (by omega) (by rw [hbt, bf_, if_neg (by intro q; omega)]) _ _ hP hD hS ls (lv_sub hl [2, 0] rfl)
          · have hb20 := g_nle (a := R.length) (b := on_ R j) h20 (by omega) (by omega)
            refine lv_iload_n hx hb dX3_bit_23 rfl (lv_at hl 2 rfl) ?_
            refine W.widen (k := 0) (n := 0) (by omega) (by omega) ?_
            rw [← hQ]
            exact W.iret (v := nI j) hx hb hr (fun te9 hte9 _ => h_fin (⟨by rw [hbt, bf_, if_pos ⟨by omega, by omega⟩], rfl⟩) hP hD hS hte9) hS.2.2 dX3_bit_24 hlocks
  exact K3 ((16) + 1) 16 (Nat.lt_succ_self _) (Nat.le_refl _) rfl _ _ hP hD hS ls (lv_sub hl [1, 0] rfl)

abbrev m_X3_least_rm  : Room := { frames := 8, cells := 0, slots := 0, locals := 200 }
set_option maxHeartbeats 4000000 in
set_option maxRecDepth 100000 in
theorem m_X3_least (l : Launch) (D : va_G) (a0 : Nat) (R : List Int32) (hn : R.length ≤ 24) (hrn : rn_ R) : h_M l D yX3_least cX3_least 6 (some .int) m_X3_least_rm [.ref a0] none ([(a0, h_row D R)]) ([]) (fun v1 w1 => v1 = some (.int (le_ R)) ∧ w1 = []) := by
  refine h_ofW [(0, .ref a0)] (by decide +kernel) (Nat.le_of_ble_eq_true rfl) rfl ?_
  intro p e s m args below meth c hx hb hr hml hown hlocks hts hE hZ hR hP hS hX ls hl
  have hown : s.vm.findClass RX3 = some m.cls := hown
  generalize hQ : MQ _ _ _ _ _ _ _ = Q
  have hap : h_ap ([(a0, h_row D R)]) [] := h_ap.nil
  have hD : va_D (va_A ([]) s.heap.size) [] := h_D0
  refine lv_ldc (v := 99999) hx hb hown (hts _ wc_X3_39) dX3_least_0 ?_
  refine g_top (y := nI 99999) (by decide) ?_
  refine lv_istore_n (lv' := [(1, .int (nI 99999)), (0, .ref a0)]) hx hb dX3_least_2 rfl hl (by decide) rfl (fun ls hl => ?_)
  refine lv_aload_n hx hb dX3_least_3 rfl (lv_at hl 1 rfl) ?_
  refine lv_astore_n (lv' := [(2, .ref a0), (1, .int (nI 99999)), (0, .ref a0)]) hx hb dX3_least_4 rfl hl (by decide) rfl (fun ls hl => ?_)
  refine lv_aload_n hx hb dX3_least_5 rfl (lv_at hl 0 rfl) ?_
  refine h_aln (w := []) (xs := [(a0, h_row D R)]) (i := 0) (R := R) hx hb hE (h_rk hR hap hS) (rfl) dX3_least_6 ?_
  refine lv_istore_n (lv' := [(3, .int (nI R.length)), (2, .ref a0), (1, .int (nI 99999)), (0, .ref a0)]) hx hb dX3_least_7 rfl hl (by decide) rfl (fun ls hl => ?_)
  refine lv_iconst (v := nI 0) hx hb dX3_least_8 (by decide) ?_
  refine lv_istore (lv' := [(4, .int (nI 0)), (3, .int (nI R.length)), (2, .ref a0), (1, .int (nI 99999)), (0, .ref a0)]) hx hb dX3_least_9 hl (by decide) rfl (fun ls hl => ?_)
  have K11 : ∀ (fuel11 : Nat) (i : Nat), (R.length - i) < fuel11 → (i ≤ R.length) → ∀ (H : Heap) (locs : List Loc), va_P D vwCl [] H → va_D (va_A ([]) s.heap.size) [] → va_S (va_A ([]) s.heap.size) s.heap H locs → ∀ ls : Array Slot, lv_has ls 6 [(0, .ref a0), (1, .int (le_ (R.take i))), (2, .ref a0), (3, .int (nI R.length)), (4, .int (nI i))] → W p l e m_X3_least_rm s m args below meth c H locs 0 0 Q (F0 m 11 ls []) := by
    intro fuel11
    induction fuel11 with
    | zero => intro i hf; exact absurd hf (Nat.not_lt_zero _)
    | succ fuel11 ih11 =>
      intro i hf11 hi H locs hP hD hS ls hl
      refine lv_iload hx hb dX3_least_11 (lv_at hl 4 rfl) ?_
      refine lv_iload_n hx hb dX3_least_13 rfl (lv_at hl 3 rfl) ?_
      refine lv_icmp_ge (tgt := 36) hx hb dX3_least_14 (by decide) (fun h14 => ?_) (fun h14 => ?_)
      · have hb14 := g_le (a := R.length) (b := i) h14 (by omega) (by omega)
        refine lv_iload_n hx hb dX3_least_36 rfl (lv_at hl 1 rfl) ?_
        refine W.widen (k := 0) (n := 0) (by omega) (by omega) ?_
        rw [← hQ]
        exact W.iret (v := le_ (R.take i)) hx hb hr (fun te9 hte9 _ => h_fin (⟨by rw [tk_all (by omega)], rfl⟩) hP hD hS hte9) hS.2.2 dX3_least_37 hlocks
      · have hb14 := g_nle (a := R.length) (b := i) h14 (by omega) (by omega)
        refine lv_aload_n hx hb dX3_least_17 rfl (lv_at hl 2 rfl) ?_
        refine lv_iload hx hb dX3_least_18 (lv_at hl 4 rfl) ?_
        refine h_ild (w := []) (xs := [(a0, h_row D R)]) (i := 0) (R := R) (j := i) hx hb hE (h_rk hR hap hS) (rfl) (by omega) (by omega) (v := R.getD i 0) (rfl) dX3_least_20 ?_
        refine lv_istore (lv' := [(5, .int (R.getD i 0)), (0, .ref a0), (1, .int (le_ (R.take i))), (2, .ref a0), (3, .int (nI R.length)), (4, .int (nI i))]) hx hb dX3_least_21 hl (by decide) rfl (fun ls hl => ?_)
        refine lv_iload_n hx hb dX3_least_23 rfl (lv_at hl 2 rfl) ?_
        refine lv_iload hx hb dX3_least_24 (lv_at hl 0 rfl) ?_
        refine g_mmin hx hb (hml.trans hl.1.symm) hown hts k_X3_40 k_min ⟨Nat.le_of_ble_eq_true rfl, Nat.le_of_ble_eq_true rfl, by omega, by omega⟩ dX3_least_26 ?_
        refine g_top (y := le_ (R.take (i + 1))) (by rw [le_s (by omega)]) ?_
        refine lv_istore_n (lv' := [(1, .int (le_ (R.take (i + 1)))), (5, .int (R.getD i 0)), (0, .ref a0), (2, .ref a0), (3, .int (nI R.length)), (4, .int (nI i))]) hx hb dX3_least_29 rfl hl (by decide) rfl (fun ls hl => ?_)
        refine lv_iinc (v := nI (i + 1)) (lv' := [(4, .int (nI (i + 1))), (1, .int (le_ (R.take (i + 1)))), (5, .int (R.getD i 0)), (0, .ref a0), (2, .ref a0), (3, .int (nI R.length))]) hx hb dX3_least_30 hl (k := 5) rfl (g_inc i) (by decide) rfl (fun ls hl => ?_)
        refine lv_goto (tgt := 11) hx hb dX3_least_33 (by decide) ?_
        exact ih11 (i + 1) (by omega) (by omega) _ _ hP hD hS ls (lv_sub hl [3, 1, 4, 5, 0] rfl)
  exact K11 ((R.length - 0) + 1) 0 (Nat.lt_succ_self _) (Nat.zero_le _) _ _ hP hD hS ls (lv_sub hl [4, 3, 2, 1, 0] rfl)

abbrev m_X3_most_rm  : Room := { frames := 8, cells := 0, slots := 0, locals := 200 }
set_option maxHeartbeats 4000000 in
set_option maxRecDepth 100000 in
theorem m_X3_most (l : Launch) (D : va_G) (a0 : Nat) (R : List Int32) (hn : R.length ≤ 24) (hrn : rn_ R) : h_M l D yX3_most cX3_most 6 (some .int) m_X3_most_rm [.ref a0] none ([(a0, h_row D R)]) ([]) (fun v1 w1 => v1 = some (.int (mx_ R)) ∧ w1 = []) := by
  refine h_ofW [(0, .ref a0)] (by decide +kernel) (Nat.le_of_ble_eq_true rfl) rfl ?_
  intro p e s m args below meth c hx hb hr hml hown hlocks hts hE hZ hR hP hS hX ls hl
  have hown : s.vm.findClass RX3 = some m.cls := hown
  generalize hQ : MQ _ _ _ _ _ _ _ = Q
  have hap : h_ap ([(a0, h_row D R)]) [] := h_ap.nil
  have hD : va_D (va_A ([]) s.heap.size) [] := h_D0
  refine lv_iconst (v := (-1)) hx hb dX3_most_0 (by decide) ?_
  refine lv_istore_n (lv' := [(1, .int ((-1))), (0, .ref a0)]) hx hb dX3_most_1 rfl hl (by decide) rfl (fun ls hl => ?_)
  refine lv_aload_n hx hb dX3_most_2 rfl (lv_at hl 1 rfl) ?_
  refine lv_astore_n (lv' := [(2, .ref a0), (1, .int ((-1))), (0, .ref a0)]) hx hb dX3_most_3 rfl hl (by decide) rfl (fun ls hl => ?_)
  refine lv_aload_n hx hb dX3_most_4 rfl (lv_at hl 0 rfl) ?_
  refine h_aln (w := []) (xs := [(a0, h_row D R)]) (i := 0) (R := R) hx hb hE (h_rk hR hap hS) (rfl) dX3_most_5 ?_
  refine lv_istore_n (lv' := [(3, .int (nI R.length)), (2, .ref a0), (1, .int ((-1))), (0, .ref a0)]) hx hb dX3_most_6 rfl hl (by decide) rfl (fun ls hl => ?_)
  refine lv_iconst (v := nI 0) hx hb dX3_most_7 (by decide) ?_
  refine lv_istore (lv' := [(4, .int (nI 0)), (3, .int (nI R.length)), (2, .ref a0), (1, .int ((-1))), (0, .ref a0)]) hx hb dX3_most_8 hl (by decide) rfl (fun ls hl => ?_)
  have K10 : ∀ (fuel10 : Nat) (i : Nat), (R.length - i) < fuel10 → (i ≤ R.length) → ∀ (H : Heap) (locs : List Loc), va_P D vwCl [] H → va_D (va_A ([]) s.heap.size) [] → va_S (va_A ([]) s.heap.size) s.heap H locs → ∀ ls : Array Slot, lv_has ls 6 [(0, .ref a0), (1, .int (mx_ (R.take i))), (2, .ref a0), (3, .int (nI R.length)), (4, .int (nI i))] → W p l e m_X3_most_rm s m args below meth c H locs 0 0 Q (F0 m 10 ls []) := by
    intro fuel10
    induction fuel10 with
    | zero => intro i hf; exact absurd hf (Nat.not_lt_zero _)
    | succ fuel10 ih10 =>
      intro i hf10 hi H locs hP hD hS ls hl
      refine lv_iload hx hb dX3_most_10 (lv_at hl 4 rfl) ?_
      refine lv_iload_n hx hb dX3_most_12 rfl (lv_at hl 3 rfl) ?_
      refine lv_icmp_ge (tgt := 35) hx hb dX3_most_13 (by decide) (fun h13 => ?_) (fun h13 => ?_)
      · have hb13 := g_le (a := R.length) (b := i) h13 (by omega) (by omega)
        refine lv_iload_n hx hb dX3_most_35 rfl (lv_at hl 1 rfl) ?_
        refine W.widen (k := 0) (n := 0) (by omega) (by omega) ?_
        rw [← hQ]
        exact W.iret (v := mx_ (R.take i)) hx hb hr (fun te9 hte9 _ => h_fin (⟨by rw [tk_all (by omega)], rfl⟩) hP hD hS hte9) hS.2.2 dX3_most_36 hlocks
      · have hb13 := g_nle (a := R.length) (b := i) h13 (by omega) (by omega)
        refine lv_aload_n hx hb dX3_most_16 rfl (lv_at hl 2 rfl) ?_
        refine lv_iload hx hb dX3_most_17 (lv_at hl 4 rfl) ?_
        refine h_ild (w := []) (xs := [(a0, h_row D R)]) (i := 0) (R := R) (j := i) hx hb hE (h_rk hR hap hS) (rfl) (by omega) (by omega) (v := R.getD i 0) (rfl) dX3_most_19 ?_
        refine lv_istore (lv' := [(5, .int (R.getD i 0)), (0, .ref a0), (1, .int (mx_ (R.take i))), (2, .ref a0), (3, .int (nI R.length)), (4, .int (nI i))]) hx hb dX3_most_20 hl (by decide) rfl (fun ls hl => ?_)
        refine lv_iload_n hx hb dX3_most_22 rfl (lv_at hl 2 rfl) ?_
        refine lv_iload hx hb dX3_most_23 (lv_at hl 0 rfl) ?_
        refine g_mmax hx hb (hml.trans hl.1.symm) hown hts k_X3_45 k_max ⟨Nat.le_of_ble_eq_true rfl, Nat.le_of_ble_eq_true rfl, by omega, by omega⟩ dX3_most_25 ?_
        refine g_top (y := mx_ (R.take (i + 1))) (by rw [mx_s (by omega)]) ?_
        refine lv_istore_n (lv' := [(1, .int (mx_ (R.take (i + 1)))), (5, .int (R.getD i 0)), (0, .ref a0), (2, .ref a0), (3, .int (nI R.length)), (4, .int (nI i))]) hx hb dX3_most_28 rfl hl (by decide) rfl (fun ls hl => ?_)
        refine lv_iinc (v := nI (i + 1)) (lv' := [(4, .int (nI (i + 1))), (1, .int (mx_ (R.take (i + 1)))), (5, .int (R.getD i 0)), (0, .ref a0), (2, .ref a0), (3, .int (nI R.length))]) hx hb dX3_most_29 hl (k := 5) rfl (g_inc i) (by decide) rfl (fun ls hl => ?_)
        refine lv_goto (tgt := 10) hx hb dX3_most_32 (by decide) ?_
        exact ih10 (i + 1) (by omega) (by omega) _ _ hP hD hS ls (lv_sub hl [3, 1, 4, 5, 0] rfl)
  exact K10 ((R.length - 0) + 1) 0 (Nat.lt_succ_self _) (Nat.zero_le _) _ _ hP hD hS ls (lv_sub hl [4, 3, 2, 1, 0] rfl)

abbrev m_X3_shared_rm  : Room := { frames := 10, cells := 0, slots := 0, locals := 248 }
set_option maxHeartbeats 4000000 in
set_option maxRecDepth 100000 in
theorem m_X3_shared (l : Launch) (D : va_G) (a0 : Nat) (R : List Int32) (hn : R.length ≤ 24) (hrn : rn_ R) : h_M l D yX3_shared cX3_shared 1 (some .int) m_X3_shared_rm [.ref a0] none ([(a0, h_row D R)]) ([]) (fun v1 w1 => v1 = some (.int (if R.length = 0 then 0 else nI 15 - bt_ R)) ∧ w1 = []) := by
  refine h_ofW [(0, .ref a0)] (by decide +kernel) (Nat.le_of_ble_eq_true rfl) rfl ?_
  intro p e s m args below meth c hx hb hr hml hown hlocks hts hE hZ hR hP hS hX ls hl
  have hown : s.vm.findClass RX3 = some m.cls := hown
  generalize hQ : MQ _ _ _ _ _ _ _ = Q
  have hap : h_ap ([(a0, h_row D R)]) [] := h_ap.nil
  have hD : va_D (va_A ([]) s.heap.size) [] := h_D0
  refine lv_aload_n hx hb dX3_shared_0 rfl (lv_at hl 0 rfl) ?_
  refine h_aln (w := []) (xs := [(a0, h_row D R)]) (i := 0) (R := R) hx hb hE (h_rk hR hap hS) (rfl) dX3_shared_1 ?_
  refine lv_if_ne (tgt := 9) hx hb dX3_shared_2 (by decide) (fun h2 => ?_) (fun h2 => ?_)
  · have hb2 := g_ne (a := R.length) (b := 0) h2 (by omega) (by omega)
    refine lv_bipush (v := nI 15) hx hb dX3_shared_9 (by decide) ?_
    refine lv_aload_n hx hb dX3_shared_11 rfl (lv_at hl 0 rfl) ?_
    refine h_callS (y := yX3_bit) (n := 1) (As := [.ref a0]) (rest := [.int (nI 15)]) hx hb hml hown hts hE hZ hS hl.1 (m_X3_bit l D a0 R hn hrn) (h_pick (w := []) (xs := [(a0, h_row D R)]) (i := 0) (h_rk hR hap hS) (rfl)) h_P0 (h_Anil hS h_Asz) (fun _ _ _ => trivial) (h_jR hP hD (h_Anil hS h_Asz)) k_X3_48 rfl rfl ⟨Nat.le_of_ble_eq_true rfl, Nat.le_of_ble_eq_true rfl⟩ (Nat.le_of_ble_eq_true rfl) ⟨Nat.le_of_ble_eq_true rfl, Nat.le_of_ble_eq_true rfl⟩ dX3_shared_12 (fun v1 w1 H locs hq hP hD hS => ?_)
    obtain ⟨rfl, rfl⟩ := hq
    rw [List.append_nil] at hP hD
    have hP : va_P D vwCl [] H := hP
    have hD : va_D (va_A ([]) s.heap.size) [] := hD
    refine W.widen (k := 0) (n := 0) (Nat.le_of_ble_eq_true rfl) (Nat.le_of_ble_eq_true rfl) ?_
    refine W.eq (g2 := F0 m 15 ls [.int (bt_ R), .int (nI 15)]) rfl ?_
    refine lv_isub hx hb dX3_shared_15 ?_
    refine W.widen (k := 0) (n := 0) (by omega) (by omega) ?_
    rw [← hQ]
    exact W.iret (v := (nI 15) - (bt_ R)) hx hb hr (fun te9 hte9 _ => h_fin (⟨by first | (rw [if_pos (by omega)]; rfl) | rw [if_neg (by omega)], rfl⟩) hP hD hS hte9) hS.2.2 dX3_shared_16 hlocks
  · have hb2 := g_eq (a := R.length) (b := 0) h2 (by omega) (by omega)
    refine lv_iconst (v := nI 0) hx hb dX3_shared_5 (by decide) ?_
    refine lv_goto (tgt := 16) hx hb dX3_shared_6 (by decide) ?_
    refine W.widen (k := 0) (n := 0) (by omega) (by omega) ?_
    rw [← hQ]
    exact W.iret (v := nI 0) hx hb hr (fun te9 hte9 _ => h_fin (⟨by first | (rw [if_pos (by omega)]; rfl) | rw [if_neg (by omega)], rfl⟩) hP hD hS hte9) hS.2.2 dX3_shared_16 hlocks

abbrev m_X3_with_rm  : Room := { frames := 9, cells := 1, slots := 24, locals := 226 }
set_option maxHeartbeats 4000000 in
set_option maxRecDepth 100000 in
theorem m_X3_with (l : Launch) (D : va_G) (a0 : Nat) (R : List Int32) (b vv : Nat) (hn : R.length ≤ 24) (hrn : rn_ R) (hb16 : b < 16) (hv : vv ≤ 1) : h_M l D yX3_with cX3_with 9 (some (.array .int)) m_X3_with_rm [.ref a0, .int (nI b), .int (nI vv)] none ([(a0, h_row D R)]) ([]) (fun v1 w1 => ∃ a1, v1 = some (.ref a1) ∧ w1 = [(a1, h_row D (wi_ R b (vv == 1)))]) := by
  refine h_ofW [(0, .ref a0), (1, .int (nI b)), (2, .int (nI vv))] (by decide +kernel) (Nat.le_of_ble_eq_true rfl) rfl ?_
  intro p e s m args below meth c hx hb hr hml hown hlocks hts hE hZ hR hP hS hX ls hl
  have hown : s.vm.findClass RX3 = some m.cls := hown
  generalize hQ : MQ _ _ _ _ _ _ _ = Q
  have hap : h_ap ([(a0, h_row D R)]) [] := h_ap.nil
  have hD : va_D (va_A ([]) s.heap.size) [] := h_D0
  have hol := on_le R b
  refine lv_iload_n hx hb dX3_with_0 rfl (lv_at hl 2 rfl) ?_
  refine lv_iconst (v := nI 1) hx hb dX3_with_1 (by decide) ?_
  refine lv_icmp_ne (tgt := 13) hx hb dX3_with_2 (by decide) (fun h2 => ?_) (fun h2 => ?_)
  · have hb2 := g_ne (a := vv) (b := 1) h2 (by omega) (by omega)
    refine lv_aload_n hx hb dX3_with_13 rfl (lv_at hl 0 rfl) ?_
    refine h_aln (w := []) (xs := [(a0, h_row D R)]) (i := 0) (R := R) hx hb hE (h_rk hR hap hS) (rfl) dX3_with_14 ?_
    refine lv_aload_n hx hb dX3_with_15 rfl (lv_at hl 0 rfl) ?_
    refine lv_iload_n hx hb dX3_with_16 rfl (lv_at hl 1 rfl) ?_
    refine h_callS (y := yX3_ones) (n := 2) (As := [.ref a0, .int (nI b)]) (rest := [.int (nI R.length)]) hx hb hml hown hts hE hZ hS hl.1 (m_X3_ones l D a0 R b hn hrn (by omega)) (h_pick (w := []) (xs := [(a0, h_row D R)]) (i := 0) (h_rk hR hap hS) (rfl)) h_P0 (h_Anil hS h_Asz) (fun _ _ _ => trivial) (h_jR hP hD (h_Anil hS h_Asz)) k_X3_35 rfl rfl ⟨Nat.le_of_ble_eq_true rfl, Nat.le_of_ble_eq_true rfl⟩ (Nat.le_of_ble_eq_true rfl) ⟨Nat.le_of_ble_eq_true rfl, Nat.le_of_ble_eq_true rfl⟩ dX3_with_17 (fun v1 w1 H locs hq hP hD hS => ?_)
    obtain ⟨rfl, rfl⟩ := hq
    rw [List.append_nil] at hP hD
    have hP : va_P D vwCl [] H := hP
    have hD : va_D (va_A ([]) s.heap.size) [] := hD
    refine W.widen (k := 0) (n := 0) (Nat.le_of_ble_eq_true rfl) (Nat.le_of_ble_eq_true rfl) ?_
    refine W.eq (g2 := F0 m 20 ls [.int (nI (on_ R b)), .int (nI R.length)]) rfl ?_
    refine lv_isub hx hb dX3_with_20 ?_
    refine g_top (y := nI (R.length - (on_ R b))) (pk_sub (by omega)) ?_
    have hw9 : (wi_ R b (vv == 1)).length = R.length - (on_ R b) := by rw [show vv = 0 by omega]; exact wi_f R b
    have hw24 : (wi_ R b (vv == 1)).length ≤ 24 := by have := on_le R b; omega
    rw [← hw9]
    refine h_new (w := []) (xs := []) (n := (wi_ R b (vv == 1)).length) hx hb hts hE hP hD hS h_Asz (by omega) (by show 0 + 1 ≤ 1; omega) (by show 0 + (wi_ R b (vv == 1)).length ≤ 24; omega) dX3_with_21 (fun q2 H hP hD hS => ?_)
    refine W.widen (k := 0 + 1) (n := 0 + 24) (by omega) (by omega) ?_
    refine W.widen (k := 1) (n := 24) (by omega) (by omega) ?_
    have hP : va_P D vwCl [(q2, h_row D (List.replicate ((wi_ R b (vv == 1)).length) 0))] H := hP
    have hD : va_D (va_A ([]) s.heap.size) [(q2, h_row D (List.replicate ((wi_ R b (vv == 1)).length) 0))] := hD
    rw [show List.replicate ((wi_ R b (vv == 1)).length) 0 = pad_ (wi_ (R.take 0) b (vv == 1)) (wi_ R b (vv == 1)).length from by rw [List.take_zero]; exact pad_0] at hP hD
    have hP : va_P D vwCl [(q2, h_row D (pad_ (wi_ (R.take 0) b (vv == 1)) (wi_ R b (vv == 1)).length))] H := hP
    have hD : va_D (va_A ([]) s.heap.size) [(q2, h_row D (pad_ (wi_ (R.take 0) b (vv == 1)) (wi_ R b (vv == 1)).length))] := hD
    refine lv_astore_n (lv' := [(3, .ref q2), (0, .ref a0), (1, .int (nI b)), (2, .int (nI vv))]) hx hb dX3_with_23 rfl hl (by decide) rfl (fun ls hl => ?_)
    refine lv_iconst (v := nI 0) hx hb dX3_with_24 (by decide) ?_
    refine lv_istore (lv' := [(4, .int (nI 0)), (3, .ref q2), (0, .ref a0), (1, .int (nI b)), (2, .int (nI vv))]) hx hb dX3_with_25 hl (by decide) rfl (fun ls hl => ?_)
    have hl : lv_has ls 9 [(4, .int (nI ((wi_ (R.take 0) b (vv == 1)).length))), (3, .ref q2), (0, .ref a0), (1, .int (nI b)), (2, .int (nI vv))] := hl
    refine lv_aload_n hx hb dX3_with_27 rfl (lv_at hl 2 rfl) ?_
    refine lv_astore (lv' := [(5, .ref a0), (4, .int (nI ((wi_ (R.take 0) b (vv == 1)).length))), (3, .ref q2), (0, .ref a0), (1, .int (nI b)), (2, .int (nI vv))]) hx hb dX3_with_28 hl (by decide) rfl (fun ls hl => ?_)
    refine lv_aload hx hb dX3_with_30 (lv_at hl 0 rfl) ?_
    refine h_aln (w := []) (xs := [(a0, h_row D R)]) (i := 0) (R := R) hx hb hE (h_rk hR hap hS) (rfl) dX3_with_32 ?_
    refine lv_istore (lv' := [(6, .int (nI R.length)), (5, .ref a0), (4, .int (nI ((wi_ (R.take 0) b (vv == 1)).length))), (3, .ref q2), (0, .ref a0), (1, .int (nI b)), (2, .int (nI vv))]) hx hb dX3_with_33 hl (by decide) rfl (fun ls hl => ?_)
    refine lv_iconst (v := nI 0) hx hb dX3_with_35 (by decide) ?_
    refine lv_istore (lv' := [(7, .int (nI 0)), (6, .int (nI R.length)), (5, .ref a0), (4, .int (nI ((wi_ (R.take 0) b (vv == 1)).length))), (3, .ref q2), (0, .ref a0), (1, .int (nI b)), (2, .int (nI vv))]) hx hb dX3_with_36 hl (by decide) rfl (fun ls hl => ?_)
    have K38 : ∀ (fuel38 : Nat) (i : Nat), (R.length - i) < fuel38 → (i ≤ R.length) → ∀ (H : Heap) (locs : List Loc), va_P D vwCl [(q2, h_row D (pad_ (wi_ (R.take i) b (vv == 1)) (wi_ R b (vv == 1)).length))] H → va_D (va_A ([]) s.heap.size) [(q2, h_row D (pad_ (wi_ (R.take i) b (vv == 1)) (wi_ R b (vv == 1)).length))] → va_S (va_A ([]) s.heap.size) s.heap H locs → ∀ ls : Array Slot, lv_has ls 9 [(0, .ref a0), (1, .int (nI b)), (2, .int (nI vv)), (3, .ref q2), (4, .int (nI ((wi_ (R.take i) b (vv == 1)).length))), (5, .ref a0), (6, .int (nI R.length)), (7, .int (nI i))] → W p l e m_X3_with_rm s m args below meth c H locs 1 24 Q (F0 m 38 ls []) := by
      intro fuel38
      induction fuel38 with
      | zero => intro i hf; exact absurd hf (Nat.not_lt_zero _)
      | succ fuel38 ih38 =>
        intro i hf38 hi H locs hP hD hS ls hl
        have hple := wi_tk R i b (vv == 1)
        refine lv_iload hx hb dX3_with_38 (lv_at hl 7 rfl) ?_
        refine lv_iload hx hb dX3_with_40 (lv_at hl 6 rfl) ?_
        refine lv_icmp_ge (tgt := 80) hx hb dX3_with_42 (by decide) (fun h42 => ?_) (fun h42 => ?_)
        · have hb42 := g_le (a := R.length) (b := i) h42 (by omega) (by omega)
          refine lv_aload_n hx hb dX3_with_80 rfl (lv_at hl 3 rfl) ?_
          rw [tk_all (by omega), pad_all rfl] at hP hD
          refine W.widen (k := 1) (n := 24) (by omega) (by omega) ?_
          rw [← hQ]
          exact W.aret (v := .ref q2) hx hb hr (Or.inr ⟨_, rfl⟩) (Or.inr ⟨_, rfl⟩) (fun te9 hte9 _ => h_fin (⟨_, rfl, rfl⟩) hP hD hS hte9) hS.2.2 dX3_with_81 hlocks
        · have hb42 := g_nle (a := R.length) (b := i) h42 (by omega) (by omega)
          refine lv_aload hx hb dX3_with_45 (lv_at hl 5 rfl) ?_
          refine lv_iload hx hb dX3_with_47 (lv_at hl 7 rfl) ?_
          refine h_ild (w := []) (xs := [(a0, h_row D R)]) (i := 0) (R := R) (j := i) hx hb hE (h_rk hR hap hS) (rfl) (by omega) (by omega) (v := R.getD i 0) (rfl) dX3_with_49 ?_
          refine lv_istore (lv' := [(8, .int (R.getD i 0)), (0, .ref a0), (1, .int (nI b)), (2, .int (nI vv)), (3, .ref q2), (4, .int (nI ((wi_ (R.take i) b (vv == 1)).length))), (5, .ref a0), (6, .int (nI R.length)), (7, .int (nI i))]) hx hb dX3_with_50 hl (by decide) rfl (fun ls hl => ?_)
          refine lv_iload hx hb dX3_with_52 (lv_at hl 0 rfl) ?_
          refine lv_iload_n hx hb dX3_with_54 rfl (lv_at hl 2 rfl) ?_
          refine lv_ishr hx hb dX3_with_55 ?_
          refine lv_iconst (v := nI 2) hx hb dX3_with_56 (by decide) ?_
          refine lv_irem hx hb dX3_with_57 (by decide) ?_
          have hi01 : (if hb_ (R.getD i 0) (nI b) then 1 else 0 : Nat) ≤ 1 := by split <;> omega
          refine g_top (y := nI ((if hb_ (R.getD i 0) (nI b) then 1 else 0))) (sh2_ (hrn _ (gD_mem (by omega))) (by omega)) ?_
          refine lv_iload_n hx hb dX3_with_58 rfl (lv_at hl 3 rfl) ?_
          refine lv_icmp_eq (tgt := 65) hx hb dX3_with_59 (by decide) (fun h59 => ?_) (fun h59 => ?_)
          · have hb59 := g_eq (a := (if hb_ (R.getD i 0) (nI b) then 1 else 0)) (b := vv) h59 (by omega) (by omega)
            have hm9 : hb_ (R.getD i 0) (nI b) = (vv == 1) := wm_t hv hb59
            have hplt : (wi_ (R.take i) b (vv == 1)).length < (wi_ R b (vv == 1)).length := by have z := wi_tk R (i + 1) b (vv == 1); rw [wi_s (by omega), if_pos hm9, List.length_append, List.length_singleton] at z; omega
            refine lv_aload_n hx hb dX3_with_65 rfl (lv_at hl 4 rfl) ?_
            refine lv_iload hx hb dX3_with_66 (lv_at hl 5 rfl) ?_
            refine lv_iload hx hb dX3_with_68 (lv_at hl 0 rfl) ?_
            refine h_ist (w := []) (xs := [(q2, h_row D (pad_ (wi_ (R.take i) b (vv == 1)) (wi_ R b (vv == 1)).length))]) (i := 0) (R := pad_ (wi_ (R.take i) b (vv == 1)) (wi_ R b (vv == 1)).length) (j := (wi_ (R.take i) b (vv == 1)).length) (x := R.getD i 0) hx hb hE hP hD hS (rfl) (by rw [pad_len hple]; exact hplt) (by rw [pad_len hple]; omega) dX3_with_70 (fun H locs hP hD hS => ?_)
            rw [show (pad_ (wi_ (R.take i) b (vv == 1)) (wi_ R b (vv == 1)).length).set ((wi_ (R.take i) b (vv == 1)).length) (R.getD i 0) = pad_ (wi_ (R.take (i + 1)) b (vv == 1)) (wi_ R b (vv == 1)).length from by rw [pad_set hplt, wi_s (by omega), if_pos hm9]] at hP hD
            have hP : va_P D vwCl [(q2, h_row D (pad_ (wi_ (R.take (i + 1)) b (vv == 1)) (wi_ R b (vv == 1)).length))] H := hP
            have hD : va_D (va_A ([]) s.heap.size) [(q2, h_row D (pad_ (wi_ (R.take (i + 1)) b (vv == 1)) (wi_ R b (vv == 1)).length))] := hD
            refine lv_iinc (v := nI (wi_ (R.take (i + 1)) b (vv == 1)).length) (lv' := [(4, .int (nI ((wi_ (R.take (i + 1)) b (vv == 1)).length))), (8, .int (R.getD i 0)), (0, .ref a0), (1, .int (nI b)), (2, .int (nI vv)), (3, .ref q2), (5, .ref a0), (6, .int (nI R.length)), (7, .int (nI i))]) hx hb dX3_with_71 hl (k := 5) rfl (by rw [g_inc, wi_s (by omega), if_pos hm9, List.length_append, List.length_singleton]) (by decide) rfl (fun ls hl => ?_)
            refine lv_iinc (v := nI (i + 1)) (lv' := [(7, .int (nI (i + 1))), (4, .int (nI ((wi_ (R.take (i + 1)) b (vv == 1)).length))), (8, .int (R.getD i 0)), (0, .ref a0), (1, .int (nI b)), (2, .int (nI vv)), (3, .ref q2), (5, .ref a0), (6, .int (nI R.length))]) hx hb dX3_with_74 hl (k := 8) rfl (g_inc i) (by decide) rfl (fun ls hl => ?_)
            refine lv_goto (tgt := 38) hx hb dX3_with_77 (by decide) ?_
            exact ih38 (i + 1) (by omega) (by omega) _ _ hP hD hS ls (lv_sub hl [3, 4, 5, 6, 1, 7, 8, 0] rfl)
          · have hb59 := g_ne (a := (if hb_ (R.getD i 0) (nI b) then 1 else 0)) (b := vv) h59 (by omega) (by omega)
            have hm9 : ¬ hb_ (R.getD i 0) (nI b) = (vv == 1) := wm_f hv hb59
            refine lv_goto (tgt := 74) hx hb dX3_with_62 (by decide) ?_
            refine lv_iinc (v := nI (i + 1)) (lv' := [(7, .int (nI (i + 1))), (8, .int (R.getD i 0)), (0, .ref a0), (1, .int (nI b)), (2, .int (nI vv)), (3, .ref q2), (4, .int (nI ((wi_ (R.take i) b (vv == 1)).length))), (5, .ref a0), (6, .int (nI R.length))]) hx hb dX3_with_74 hl (k := 8) rfl (g_inc i) (by decide) rfl (fun ls hl => ?_)
            refine lv_goto (tgt := 38) hx hb dX3_with_77 (by decide) ?_
            have he9 : wi_ (R.take (i + 1)) b (vv == 1) = wi_ (R.take i) b (vv == 1) := by rw [wi_s (by omega), if_neg hm9, List.append_nil]
            rw [← he9] at hP hD hl
            exact ih38 (i + 1) (by omega) (by omega) _ _ hP hD hS ls (lv_sub hl [2, 3, 4, 5, 6, 7, 8, 0] rfl)
    exact K38 ((R.length - 0) + 1) 0 (Nat.lt_succ_self _) (Nat.zero_le _) _ _ hP hD hS ls (lv_sub hl [5, 6, 7, 4, 3, 2, 1, 0] rfl)
  · have hb2 := g_eq (a := vv) (b := 1) h2 (by omega) (by omega)
    have hb2 : vv = 1 := by omega
    refine lv_aload_n hx hb dX3_with_5 rfl (lv_at hl 0 rfl) ?_
    refine lv_iload_n hx hb dX3_with_6 rfl (lv_at hl 1 rfl) ?_
    refine h_callS (y := yX3_ones) (n := 2) (As := [.ref a0, .int (nI b)]) (rest := []) hx hb hml hown hts hE hZ hS hl.1 (m_X3_ones l D a0 R b hn hrn (by omega)) (h_pick (w := []) (xs := [(a0, h_row D R)]) (i := 0) (h_rk hR hap hS) (rfl)) h_P0 (h_Anil hS h_Asz) (fun _ _ _ => trivial) (h_jR hP hD (h_Anil hS h_Asz)) k_X3_35 rfl rfl ⟨Nat.le_of_ble_eq_true rfl, Nat.le_of_ble_eq_true rfl⟩ (Nat.le_of_ble_eq_true rfl) ⟨Nat.le_of_ble_eq_true rfl, Nat.le_of_ble_eq_true rfl⟩ dX3_with_7 (fun v3 w1 H locs hq hP hD hS => ?_)
    obtain ⟨rfl, rfl⟩ := hq
    rw [List.append_nil] at hP hD
    have hP : va_P D vwCl [] H := hP
    have hD : va_D (va_A ([]) s.heap.size) [] := hD
    refine W.widen (k := 0) (n := 0) (Nat.le_of_ble_eq_true rfl) (Nat.le_of_ble_eq_true rfl) ?_
    refine W.eq (g2 := F0 m 10 ls [.int (nI (on_ R b))]) rfl ?_
    refine lv_goto (tgt := 21) hx hb dX3_with_10 (by decide) ?_
    have hw9 : (wi_ R b (vv == 1)).length = on_ R b := by rw [hb2]; exact wi_t R b
    have hw24 : (wi_ R b (vv == 1)).length ≤ 24 := by have := on_le R b; omega
    rw [← hw9]
    refine h_new (w := []) (xs := []) (n := (wi_ R b (vv == 1)).length) hx hb hts hE hP hD hS h_Asz (by omega) (by show 0 + 1 ≤ 1; omega) (by show 0 + (wi_ R b (vv == 1)).length ≤ 24; omega) dX3_with_21 (fun q4 H hP hD hS => ?_)
    refine W.widen (k := 0 + 1) (n := 0 + 24) (by omega) (by omega) ?_
    refine W.widen (k := 1) (n := 24) (by omega) (by omega) ?_
    have hP : va_P D vwCl [(q4, h_row D (List.replicate ((wi_ R b (vv == 1)).length) 0))] H := hP
    have hD : va_D (va_A ([]) s.heap.size) [(q4, h_row D (List.replicate ((wi_ R b (vv == 1)).length) 0))] := hD
    rw [show List.replicate ((wi_ R b (vv == 1)).length) 0 = pad_ (wi_ (R.take 0) b (vv == 1)) (wi_ R b (vv == 1)).length from by rw [List.take_zero]; exact pad_0] at hP hD
    have hP : va_P D vwCl [(q4, h_row D (pad_ (wi_ (R.take 0) b (vv == 1)) (wi_ R b (vv == 1)).length))] H := hP
    have hD : va_D (va_A ([]) s.heap.size) [(q4, h_row D (pad_ (wi_ (R.take 0) b (vv == 1)) (wi_ R b (vv == 1)).length))] := hD
    refine lv_astore_n (lv' := [(3, .ref q4), (0, .ref a0), (1, .int (nI b)), (2, .int (nI vv))]) hx hb dX3_with_23 rfl hl (by decide) rfl (fun ls hl => ?_)
    refine lv_iconst (v := nI 0) hx hb dX3_with_24 (by decide) ?_
    refine lv_istore (lv' := [(4, .int (nI 0)), (3, .ref q4), (0, .ref a0), (1, .int (nI b)), (2, .int (nI vv))]) hx hb dX3_with_25 hl (by decide) rfl (fun ls hl => ?_)
    have hl : lv_has ls 9 [(4, .int (nI ((wi_ (R.take 0) b (vv == 1)).length))), (3, .ref q4), (0, .ref a0), (1, .int (nI b)), (2, .int (nI vv))] := hl
    refine lv_aload_n hx hb dX3_with_27 rfl (lv_at hl 2 rfl) ?_
    refine lv_astore (lv' := [(5, .ref a0), (4, .int (nI ((wi_ (R.take 0) b (vv == 1)).length))), (3, .ref q4), (0, .ref a0), (1, .int (nI b)), (2, .int (nI vv))]) hx hb dX3_with_28 hl (by decide) rfl (fun ls hl => ?_)
    refine lv_aload hx hb dX3_with_30 (lv_at hl 0 rfl) ?_
    refine h_aln (w := []) (xs := [(a0, h_row D R)]) (i := 0) (R := R) hx hb hE (h_rk hR hap hS) (rfl) dX3_with_32 ?_
    refine lv_istore (lv' := [(6, .int (nI R.length)), (5, .ref a0), (4, .int (nI ((wi_ (R.take 0) b (vv == 1)).length))), (3, .ref q4), (0, .ref a0), (1, .int (nI b)), (2, .int (nI vv))]) hx hb dX3_with_33 hl (by decide) rfl (fun ls hl => ?_)
    refine lv_iconst (v := nI 0) hx hb dX3_with_35 (by decide) ?_
    refine lv_istore (lv' := [(7, .int (nI 0)), (6, .int (nI R.length)), (5, .ref a0), (4, .int (nI ((wi_ (R.take 0) b (vv == 1)).length))), (3, .ref q4), (0, .ref a0), (1, .int (nI b)), (2, .int (nI vv))]) hx hb dX3_with_36 hl (by decide) rfl (fun ls hl => ?_)
    have K38 : ∀ (fuel38 : Nat) (i : Nat), (R.length - i) < fuel38 → (i ≤ R.length) → ∀ (H : Heap) (locs : List Loc), va_P D vwCl [(q4, h_row D (pad_ (wi_ (R.take i) b (vv == 1)) (wi_ R b (vv == 1)).length))] H → va_D (va_A ([]) s.heap.size) [(q4, h_row D (pad_ (wi_ (R.take i) b (vv == 1)) (wi_ R b (vv == 1)).length))] → va_S (va_A ([]) s.heap.size) s.heap H locs → ∀ ls : Array Slot, lv_has ls 9 [(0, .ref a0), (1, .int (nI b)), (2, .int (nI vv)), (3, .ref q4), (4, .int (nI ((wi_ (R.take i) b (vv == 1)).length))), (5, .ref a0), (6, .int (nI R.length)), (7, .int (nI i))] → W p l e m_X3_with_rm s m args below meth c H locs 1 24 Q (F0 m 38 ls []) := by
      intro fuel38
      induction fuel38 with
      | zero => intro i hf; exact absurd hf (Nat.not_lt_zero _)
      | succ fuel38 ih38 =>
        intro i hf38 hi H locs hP hD hS ls hl
        have hple := wi_tk R i b (vv == 1)
        refine lv_iload hx hb dX3_with_38 (lv_at hl 7 rfl) ?_
        refine lv_iload hx hb dX3_with_40 (lv_at hl 6 rfl) ?_
        refine lv_icmp_ge (tgt := 80) hx hb dX3_with_42 (by decide) (fun h42 => ?_) (fun h42 => ?_)
        · have hb42 := g_le (a := R.length) (b := i) h42 (by omega) (by omega)
          refine lv_aload_n hx hb dX3_with_80 rfl (lv_at hl 3 rfl) ?_
          rw [tk_all (by omega), pad_all rfl] at hP hD
          refine W.widen (k := 1) (n := 24) (by omega) (by omega) ?_
          rw [← hQ]
          exact W.aret (v := .ref q4) hx hb hr (Or.inr ⟨_, rfl⟩) (Or.inr ⟨_, rfl⟩) (fun te9 hte9 _ => h_fin (⟨_, rfl, rfl⟩) hP hD hS hte9) hS.2.2 dX3_with_81 hlocks
        · have hb42 := g_nle (a := R.length) (b := i) h42 (by omega) (by omega)
          refine lv_aload hx hb dX3_with_45 (lv_at hl 5 rfl) ?_
          refine lv_iload hx hb dX3_with_47 (lv_at hl 7 rfl) ?_
          refine h_ild (w := []) (xs := [(a0, h_row D R)]) (i := 0) (R := R) (j := i) hx hb hE (h_rk hR hap hS) (rfl) (by omega) (by omega) (v := R.getD i 0) (rfl) dX3_with_49 ?_
          refine lv_istore (lv' := [(8, .int (R.getD i 0)), (0, .ref a0), (1, .int (nI b)), (2, .int (nI vv)), (3, .ref q4), (4, .int (nI ((wi_ (R.take i) b (vv == 1)).length))), (5, .ref a0), (6, .int (nI R.length)), (7, .int (nI i))]) hx hb dX3_with_50 hl (by decide) rfl (fun ls hl => ?_)
          refine lv_iload hx hb dX3_with_52 (lv_at hl 0 rfl) ?_
          refine lv_iload_n hx hb dX3_with_54 rfl (lv_at hl 2 rfl) ?_
          refine lv_ishr hx hb dX3_with_55 ?_
          refine lv_iconst (v := nI 2) hx hb dX3_with_56 (by decide) ?_
          refine lv_irem hx hb dX3_with_57 (by decide) ?_
          have hi01 : (if hb_ (R.getD i 0) (nI b) then 1 else 0 : Nat) ≤ 1 := by split <;> omega
          refine g_top (y := nI ((if hb_ (R.getD i 0) (nI b) then 1 else 0))) (sh2_ (hrn _ (gD_mem (by omega))) (by omega)) ?_
          refine lv_iload_n hx hb dX3_with_58 rfl (lv_at hl 3 rfl) ?_
          refine lv_icmp_eq (tgt := 65) hx hb dX3_with_59 (by decide) (fun h59 => ?_) (fun h59 => ?_)
          · have hb59 := g_eq (a := (if hb_ (R.getD i 0) (nI b) then 1 else 0)) (b := vv) h59 (by omega) (by omega)
            have hm9 : hb_ (R.getD i 0) (nI b) = (vv == 1) := wm_t hv hb59
            have hplt : (wi_ (R.take i) b (vv == 1)).length < (wi_ R b (vv == 1)).length := by have z := wi_tk R (i + 1) b (vv == 1); rw [wi_s (by omega), if_pos hm9, List.length_append, List.length_singleton] at z; omega
            refine lv_aload_n hx hb dX3_with_65 rfl (lv_at hl 4 rfl) ?_
            refine lv_iload hx hb dX3_with_66 (lv_at hl 5 rfl) ?_
            refine lv_iload hx hb dX3_with_68 (lv_at hl 0 rfl) ?_
            refine h_ist (w := []) (xs := [(q4, h_row D (pad_ (wi_ (R.take i) b (vv == 1)) (wi_ R b (vv == 1)).length))]) (i := 0) (R := pad_ (wi_ (R.take i) b (vv == 1)) (wi_ R b (vv == 1)).length) (j := (wi_ (R.take i) b (vv == 1)).length) (x := R.getD i 0) hx hb hE hP hD hS (rfl) (by rw [pad_len hple]; exact hplt) (by rw [pad_len hple]; omega) dX3_with_70 (fun H locs hP hD hS => ?_)
            rw [show (pad_ (wi_ (R.take i) b (vv == 1)) (wi_ R b (vv == 1)).length).set ((wi_ (R.take i) b (vv == 1)).length) (R.getD i 0) = pad_ (wi_ (R.take (i + 1)) b (vv == 1)) (wi_ R b (vv == 1)).length from by rw [pad_set hplt, wi_s (by omega), if_pos hm9]] at hP hD
            have hP : va_P D vwCl [(q4, h_row D (pad_ (wi_ (R.take (i + 1)) b (vv == 1)) (wi_ R b (vv == 1)).length))] H := hP
            have hD : va_D (va_A ([]) s.heap.size) [(q4, h_row D (pad_ (wi_ (R.take (i + 1)) b (vv == 1)) (wi_ R b (vv == 1)).length))] := hD
            refine lv_iinc (v := nI (wi_ (R.take (i + 1)) b (vv == 1)).length) (lv' := [(4, .int (nI ((wi_ (R.take (i + 1)) b (vv == 1)).length))), (8, .int (R.getD i 0)), (0, .ref a0), (1, .int (nI b)), (2, .int (nI vv)), (3, .ref q4), (5, .ref a0), (6, .int (nI R.length)), (7, .int (nI i))]) hx hb dX3_with_71 hl (k := 5) rfl (by rw [g_inc, wi_s (by omega), if_pos hm9, List.length_append, List.length_singleton]) (by decide) rfl (fun ls hl => ?_)
            refine lv_iinc (v := nI (i + 1)) (lv' := [(7, .int (nI (i + 1))), (4, .int (nI ((wi_ (R.take (i + 1)) b (vv == 1)).length))), (8, .int (R.getD i 0)), (0, .ref a0), (1, .int (nI b)), (2, .int (nI vv)), (3, .ref q4), (5, .ref a0), (6, .int (nI R.length))]) hx hb dX3_with_74 hl (k := 8) rfl (g_inc i) (by decide) rfl (fun ls hl => ?_)
            refine lv_goto (tgt := 38) hx hb dX3_with_77 (by decide) ?_
            exact ih38 (i + 1) (by omega) (by omega) _ _ hP hD hS ls (lv_sub hl [3, 4, 5, 6, 1, 7, 8, 0] rfl)
          · have hb59 := g_ne (a := (if hb_ (R.getD i 0) (nI b) then 1 else 0)) (b := vv) h59 (by omega) (by omega)
            have hm9 : ¬ hb_ (R.getD i 0) (nI b) = (vv == 1) := wm_f hv hb59
            refine lv_goto (tgt := 74) hx hb dX3_with_62 (by decide) ?_
            refine lv_iinc (v := nI (i + 1)) (lv' := [(7, .int (nI (i + 1))), (8, .int (R.getD i 0)), (0, .ref a0), (1, .int (nI b)), (2, .int (nI vv)), (3, .ref q4), (4, .int (nI ((wi_ (R.take i) b (vv == 1)).length))), (5, .ref a0), (6, .int (nI R.length))]) hx hb dX3_with_74 hl (k := 8) rfl (g_inc i) (by decide) rfl (fun ls hl => ?_)
            refine lv_goto (tgt := 38) hx hb dX3_with_77 (by decide) ?_
            have he9 : wi_ (R.take (i + 1)) b (vv == 1) = wi_ (R.take i) b (vv == 1) := by rw [wi_s (by omega), if_neg hm9, List.append_nil]
            rw [← he9] at hP hD hl
            exact ih38 (i + 1) (by omega) (by omega) _ _ hP hD hS ls (lv_sub hl [2, 3, 4, 5, 6, 7, 8, 0] rfl)
    exact K38 ((R.length - 0) + 1) 0 (Nat.lt_succ_self _) (Nat.zero_le _) _ _ hP hD hS ls (lv_sub hl [5, 6, 7, 4, 3, 2, 1, 0] rfl)
