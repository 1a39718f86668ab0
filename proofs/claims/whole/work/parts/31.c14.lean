abbrev m_X3_longest_rm : Room := { frames := 8, cells := 0, slots := 0, locals := 200 }
set_option maxHeartbeats 4000000 in
set_option maxRecDepth 100000 in
theorem m_X3_longest (l : Launch) (D : va_G) (hAD : g_AD D) (σ : Nat → va_E) (th : Int32) (S N Z R : Nat → Int32) (T : Nat → Nat → Int32) (L : g_L) (hM : g_Mf D σ th (nI L.length) (nI (zs_ L.length)) S N Z R T)  (hv : vL_ L) (h48 : L.length ≤ 48) (hRl : ∀ j, j < L.length → R j = fn_ L j) (hTl : mB_ (fn_ L) L.length T) : g_M l D yX3_longest cX3_longest 3 (some .int) m_X3_longest_rm [.ref (ad_ D 20)] σ (fun v1 σ1 => v1 = some (.int (lg_ (tb_ L 7) (zs_ L.length))) ∧ σ = σ1) := by
  refine g_ofW [(0, .ref (ad_ D 20))] (by decide +kernel) (Nat.le_of_ble_eq_true rfl) rfl ?_
  intro p e s m args below meth c hx hb hr hml hown hlocks hts hE hZ hP hS hnm ls hl
  have hown : s.vm.findClass RX3 = some m.cls := hown
  generalize hQ : MQ _ _ _ _ _ _ _ = Q
  obtain ⟨k20, k21, k22, k23, k24, k25, k26, k27, k28, k29, k30⟩ := id hM
  have hz95 := zs_le h48
  refine lv_iconst (v := nI 0) hx hb dX3_longest_0 (by decide) ?_
  refine lv_istore_n (lv' := [(1, .int (nI 0)), (0, .ref (ad_ D 20))]) hx hb dX3_longest_1 rfl hl (by decide) rfl (fun ls hl => ?_)
  refine lv_iconst (v := nI 0) hx hb dX3_longest_2 (by decide) ?_
  refine lv_istore_n (lv' := [(2, .int (nI 0)), (1, .int (nI 0)), (0, .ref (ad_ D 20))]) hx hb dX3_longest_3 rfl hl (by decide) rfl (fun ls hl => ?_)
  have K4 : ∀ (fuel4 : Nat) (i : Nat), (zs_ L.length - i) < fuel4 → (i ≤ zs_ L.length) → ∀ (H : Heap) (locs : List Loc), va_P D vwCl (g_W D σ) H → va_S (g_A D s.heap.size) s.heap H locs → ∀ ls : Array Slot, lv_has ls 3 [(2, .int (nI i)), (1, .int (lg_ (tb_ L 7) i)), (0, .ref (ad_ D 20))] → W p l e m_X3_longest_rm s m args below meth c H locs 0 0 Q (F0 m 4 ls []) := by
    intro fuel4
    induction fuel4 with
    | zero => intro i hf; exact absurd hf (Nat.not_lt_zero _)
    | succ fuel4 ih4 =>
      intro i hf4 hi H locs hP hS ls hl
      refine lv_iload_n hx hb dX3_longest_4 rfl (lv_at hl 0 rfl) ?_
      refine lv_aload_n hx hb dX3_longest_5 rfl (lv_at hl 2 rfl) ?_
      refine g_get hx hb hts hE hown hP g_inX3 rfl (by decide) k20 6 (by decide) rfl wf_X3_69 (v := .int (nI (zs_ L.length))) rfl dX3_longest_6 ?_
      refine lv_icmp_ge (tgt := 29) hx hb dX3_longest_9 (by decide) (fun h9 => ?_) (fun h9 => ?_)
      · have hb9 := g_le (a := zs_ L.length) (b := i) h9 (by omega) (by omega)
        have hi2 : i = zs_ L.length := by omega
        refine lv_iload_n hx hb dX3_longest_29 rfl (lv_at hl 1 rfl) ?_
        rw [← hQ]
        exact W.iret (v := lg_ (tb_ L 7) i) hx hb hr (fun te9 hte9 _ => g_fin (⟨by rw [← hi2], rfl⟩) hP hS hte9) hS.2.2 dX3_longest_30 hlocks
      · have hb9 := g_nle (a := zs_ L.length) (b := i) h9 (by omega) (by omega)
        refine lv_iload_n hx hb dX3_longest_12 rfl (lv_at hl 1 rfl) ?_
        refine lv_aload_n hx hb dX3_longest_13 rfl (lv_at hl 2 rfl) ?_
        refine g_get hx hb hts hE hown hP g_inX3 rfl (by decide) k20 12 (by decide) rfl wf_X3_37 (v := .ref (ad_ D 30)) rfl dX3_longest_14 ?_
        refine lv_iload_n hx hb dX3_longest_17 rfl (lv_at hl 0 rfl) ?_
        refine g_ialdN (j := i) hx hb hE hP (by decide) k30 (by omega) (by decide) (v := tb_ L 7 i) (mB_5 hv hTl (by omega)) dX3_longest_18 ?_
        refine g_mmax hx hb (hml.trans hl.1.symm) hown hts k_X3_91 k_max ⟨Nat.le_of_ble_eq_true rfl, Nat.le_of_ble_eq_true rfl, by omega, by omega⟩ dX3_longest_19 ?_
        refine lv_istore_n (lv' := [(1, .int (if lg_ (tb_ L 7) i < tb_ L 7 i then tb_ L 7 i else lg_ (tb_ L 7) i)), (2, .int (nI i)), (0, .ref (ad_ D 20))]) hx hb dX3_longest_22 rfl hl (by decide) rfl (fun ls hl => ?_)
        refine lv_iinc (v := nI (i + 1)) (lv' := [(2, .int (nI (i + 1))), (1, .int (if lg_ (tb_ L 7) i < tb_ L 7 i then tb_ L 7 i else lg_ (tb_ L 7) i)), (0, .ref (ad_ D 20))]) hx hb dX3_longest_23 hl (k := 1) rfl (g_inc i) (by decide) rfl (fun ls hl => ?_)
        refine lv_goto (tgt := 4) hx hb dX3_longest_26 (by decide) ?_
        exact ih4 (i + 1) (by omega) (by omega) _ _ hP hS ls (lv_sub hl [0, 1, 2] rfl)
  exact K4 ((zs_ L.length - 0) + 1) 0 (Nat.lt_succ_self _) (Nat.zero_le _) _ _ hP hS ls (lv_sub hl [0, 1, 2] rfl)

abbrev m_X3_allPaths_rm : Room := { frames := 8, cells := 0, slots := 0, locals := 200 }
set_option maxHeartbeats 4000000 in
set_option maxRecDepth 100000 in
theorem m_X3_allPaths (l : Launch) (D : va_G) (hAD : g_AD D) (σ : Nat → va_E) (th : Int32) (S N Z R : Nat → Int32) (T : Nat → Nat → Int32) (L : g_L) (hM : g_Mf D σ th (nI L.length) (nI (zs_ L.length)) S N Z R T)  (hv : vL_ L) (h48 : L.length ≤ 48) (hRl : ∀ j, j < L.length → R j = fn_ L j) (hTl : mB_ (fn_ L) L.length T) : g_M l D yX3_allPaths cX3_allPaths 3 (some .int) m_X3_allPaths_rm [.ref (ad_ D 20)] σ (fun v1 σ1 => v1 = some (.int (ap_ (tb_ L 0) (tb_ L 7) (zs_ L.length))) ∧ σ = σ1) := by
  refine g_ofW [(0, .ref (ad_ D 20))] (by decide +kernel) (Nat.le_of_ble_eq_true rfl) rfl ?_
  intro p e s m args below meth c hx hb hr hml hown hlocks hts hE hZ hP hS hnm ls hl
  have hown : s.vm.findClass RX3 = some m.cls := hown
  generalize hQ : MQ _ _ _ _ _ _ _ = Q
  obtain ⟨k20, k21, k22, k23, k24, k25, k26, k27, k28, k29, k30⟩ := id hM
  have hz95 := zs_le h48
  refine lv_iconst (v := nI 0) hx hb dX3_allPaths_0 (by decide) ?_
  refine lv_istore_n (lv' := [(1, .int (nI 0)), (0, .ref (ad_ D 20))]) hx hb dX3_allPaths_1 rfl hl (by decide) rfl (fun ls hl => ?_)
  refine lv_iconst (v := nI 0) hx hb dX3_allPaths_2 (by decide) ?_
  refine lv_istore_n (lv' := [(2, .int (nI 0)), (1, .int (nI 0)), (0, .ref (ad_ D 20))]) hx hb dX3_allPaths_3 rfl hl (by decide) rfl (fun ls hl => ?_)
  have K4 : ∀ (fuel4 : Nat) (i : Nat), (zs_ L.length - i) < fuel4 → (i ≤ zs_ L.length) → ∀ (H : Heap) (locs : List Loc), va_P D vwCl (g_W D σ) H → va_S (g_A D s.heap.size) s.heap H locs → ∀ ls : Array Slot, lv_has ls 3 [(2, .int (nI i)), (1, .int (ap_ (tb_ L 0) (tb_ L 7) i)), (0, .ref (ad_ D 20))] → W p l e m_X3_allPaths_rm s m args below meth c H locs 0 0 Q (F0 m 4 ls []) := by
    intro fuel4
    induction fuel4 with
    | zero => intro i hf; exact absurd hf (Nat.not_lt_zero _)
    | succ fuel4 ih4 =>
      intro i hf4 hi H locs hP hS ls hl
      refine lv_iload_n hx hb dX3_allPaths_4 rfl (lv_at hl 0 rfl) ?_
      refine lv_aload_n hx hb dX3_allPaths_5 rfl (lv_at hl 2 rfl) ?_
      refine g_get hx hb hts hE hown hP g_inX3 rfl (by decide) k20 6 (by decide) rfl wf_X3_69 (v := .int (nI (zs_ L.length))) rfl dX3_allPaths_6 ?_
      refine lv_icmp_ge (tgt := 41) hx hb dX3_allPaths_9 (by decide) (fun h9 => ?_) (fun h9 => ?_)
      · have hb9 := g_le (a := zs_ L.length) (b := i) h9 (by omega) (by omega)
        have hi2 : i = zs_ L.length := by omega
        refine lv_iload_n hx hb dX3_allPaths_41 rfl (lv_at hl 1 rfl) ?_
        rw [← hQ]
        exact W.iret (v := ap_ (tb_ L 0) (tb_ L 7) i) hx hb hr (fun te9 hte9 _ => g_fin (⟨by rw [← hi2], rfl⟩) hP hS hte9) hS.2.2 dX3_allPaths_42 hlocks
      · have hb9 := g_nle (a := zs_ L.length) (b := i) h9 (by omega) (by omega)
        refine lv_iload_n hx hb dX3_allPaths_12 rfl (lv_at hl 1 rfl) ?_
        refine lv_aload_n hx hb dX3_allPaths_13 rfl (lv_at hl 2 rfl) ?_
        refine g_get hx hb hts hE hown hP g_inX3 rfl (by decide) k20 7 (by decide) rfl wf_X3_22 (v := .ref (ad_ D 25)) rfl dX3_allPaths_14 ?_
        refine lv_iload_n hx hb dX3_allPaths_17 rfl (lv_at hl 0 rfl) ?_
        refine g_ialdN (j := i) hx hb hE hP (by decide) k25 (by omega) (by decide) (v := tb_ L 0 i) (mB_0 hv hTl (by omega)) dX3_allPaths_18 ?_
        refine lv_iconst (v := (-1)) hx hb dX3_allPaths_19 (by decide) ?_
        refine lv_icmp_ne (tgt := 32) hx hb dX3_allPaths_20 (by decide) (fun h20 => ?_) (fun h20 => ?_)
        · refine lv_iconst (v := nI 0) hx hb dX3_allPaths_32 (by decide) ?_
          refine lv_iadd hx hb dX3_allPaths_33 ?_
          refine lv_istore_n (lv' := [(1, .int ((ap_ (tb_ L 0) (tb_ L 7) i) + (nI 0))), (2, .int (nI i)), (0, .ref (ad_ D 20))]) hx hb dX3_allPaths_34 rfl hl (by decide) rfl (fun ls hl => ?_)
          have hfx1 : (ap_ (tb_ L 0) (tb_ L 7) i) + (nI 0) = ap_ (tb_ L 0) (tb_ L 7) (i + 1) := by rw [ap_, if_neg h20]; exact Int32.add_zero _
          rw [hfx1] at hl
          refine lv_iinc (v := nI (i + 1)) (lv' := [(2, .int (nI (i + 1))), (1, .int (ap_ (tb_ L 0) (tb_ L 7) (i + 1))), (0, .ref (ad_ D 20))]) hx hb dX3_allPaths_35 hl (k := 1) rfl (g_inc i) (by decide) rfl (fun ls hl => ?_)
          refine lv_goto (tgt := 4) hx hb dX3_allPaths_38 (by decide) ?_
          exact ih4 (i + 1) (by omega) (by omega) _ _ hP hS ls (lv_sub hl [0, 1, 2] rfl)
        · refine lv_aload_n hx hb dX3_allPaths_23 rfl (lv_at hl 2 rfl) ?_
          refine g_get hx hb hts hE hown hP g_inX3 rfl (by decide) k20 12 (by decide) rfl wf_X3_37 (v := .ref (ad_ D 30)) rfl dX3_allPaths_24 ?_
          refine lv_iload_n hx hb dX3_allPaths_27 rfl (lv_at hl 0 rfl) ?_
          refine g_ialdN (j := i) hx hb hE hP (by decide) k30 (by omega) (by decide) (v := tb_ L 7 i) (mB_5 hv hTl (by omega)) dX3_allPaths_28 ?_
          refine lv_goto (tgt := 33) hx hb dX3_allPaths_29 (by decide) ?_
          refine lv_iadd hx hb dX3_allPaths_33 ?_
          refine lv_istore_n (lv' := [(1, .int ((ap_ (tb_ L 0) (tb_ L 7) i) + (tb_ L 7 i))), (2, .int (nI i)), (0, .ref (ad_ D 20))]) hx hb dX3_allPaths_34 rfl hl (by decide) rfl (fun ls hl => ?_)
          have hfx2 : (ap_ (tb_ L 0) (tb_ L 7) i) + (tb_ L 7 i) = ap_ (tb_ L 0) (tb_ L 7) (i + 1) := by rw [ap_, if_pos h20]
          rw [hfx2] at hl
          refine lv_iinc (v := nI (i + 1)) (lv' := [(2, .int (nI (i + 1))), (1, .int (ap_ (tb_ L 0) (tb_ L 7) (i + 1))), (0, .ref (ad_ D 20))]) hx hb dX3_allPaths_35 hl (k := 1) rfl (g_inc i) (by decide) rfl (fun ls hl => ?_)
          refine lv_goto (tgt := 4) hx hb dX3_allPaths_38 (by decide) ?_
          exact ih4 (i + 1) (by omega) (by omega) _ _ hP hS ls (lv_sub hl [0, 1, 2] rfl)
  exact K4 ((zs_ L.length - 0) + 1) 0 (Nat.lt_succ_self _) (Nat.zero_le _) _ _ hP hS ls (lv_sub hl [0, 1, 2] rfl)

abbrev m_X3_bitsOfPosts_rm : Room := { frames := 8, cells := 0, slots := 0, locals := 200 }
set_option maxHeartbeats 4000000 in
set_option maxRecDepth 100000 in
theorem m_X3_bitsOfPosts (l : Launch) (D : va_G) (hAD : g_AD D) (σ : Nat → va_E) (th : Int32) (S N Z R : Nat → Int32) (T : Nat → Nat → Int32) (L : g_L) (hM : g_Mf D σ th (nI L.length) (nI (zs_ L.length)) S N Z R T)  (hv : vL_ L) (h48 : L.length ≤ 48) (hRl : ∀ j, j < L.length → R j = fn_ L j) (hTl : mB_ (fn_ L) L.length T) : g_M l D yX3_bitsOfPosts cX3_bitsOfPosts 3 (some .int) m_X3_bitsOfPosts_rm [.ref (ad_ D 20)] σ (fun v1 σ1 => v1 = some (.int (pb_ (tb_ L 0) (zs_ L.length))) ∧ σ = σ1) := by
  refine g_ofW [(0, .ref (ad_ D 20))] (by decide +kernel) (Nat.le_of_ble_eq_true rfl) rfl ?_
  intro p e s m args below meth c hx hb hr hml hown hlocks hts hE hZ hP hS hnm ls hl
  have hown : s.vm.findClass RX3 = some m.cls := hown
  generalize hQ : MQ _ _ _ _ _ _ _ = Q
  obtain ⟨k20, k21, k22, k23, k24, k25, k26, k27, k28, k29, k30⟩ := id hM
  have hz95 := zs_le h48
  refine lv_iconst (v := nI 0) hx hb dX3_bitsOfPosts_0 (by decide) ?_
  refine lv_istore_n (lv' := [(1, .int (nI 0)), (0, .ref (ad_ D 20))]) hx hb dX3_bitsOfPosts_1 rfl hl (by decide) rfl (fun ls hl => ?_)
  refine lv_iconst (v := nI 0) hx hb dX3_bitsOfPosts_2 (by decide) ?_
  refine lv_istore_n (lv' := [(2, .int (nI 0)), (1, .int (nI 0)), (0, .ref (ad_ D 20))]) hx hb dX3_bitsOfPosts_3 rfl hl (by decide) rfl (fun ls hl => ?_)
  have K4 : ∀ (fuel4 : Nat) (i : Nat), (zs_ L.length - i) < fuel4 → (i ≤ zs_ L.length) → ∀ (H : Heap) (locs : List Loc), va_P D vwCl (g_W D σ) H → va_S (g_A D s.heap.size) s.heap H locs → ∀ ls : Array Slot, lv_has ls 3 [(2, .int (nI i)), (1, .int (pb_ (tb_ L 0) i)), (0, .ref (ad_ D 20))] → W p l e m_X3_bitsOfPosts_rm s m args below meth c H locs 0 0 Q (F0 m 4 ls []) := by
    intro fuel4
    induction fuel4 with
    | zero => intro i hf; exact absurd hf (Nat.not_lt_zero _)
    | succ fuel4 ih4 =>
      intro i hf4 hi H locs hP hS ls hl
      refine lv_iload_n hx hb dX3_bitsOfPosts_4 rfl (lv_at hl 0 rfl) ?_
      refine lv_aload_n hx hb dX3_bitsOfPosts_5 rfl (lv_at hl 2 rfl) ?_
      refine g_get hx hb hts hE hown hP g_inX3 rfl (by decide) k20 6 (by decide) rfl wf_X3_69 (v := .int (nI (zs_ L.length))) rfl dX3_bitsOfPosts_6 ?_
      refine lv_icmp_ge (tgt := 43) hx hb dX3_bitsOfPosts_9 (by decide) (fun h9 => ?_) (fun h9 => ?_)
      · have hb9 := g_le (a := zs_ L.length) (b := i) h9 (by omega) (by omega)
        have hi2 : i = zs_ L.length := by omega
        refine lv_iload_n hx hb dX3_bitsOfPosts_43 rfl (lv_at hl 1 rfl) ?_
        rw [← hQ]
        exact W.iret (v := pb_ (tb_ L 0) i) hx hb hr (fun te9 hte9 _ => g_fin (⟨by rw [← hi2], rfl⟩) hP hS hte9) hS.2.2 dX3_bitsOfPosts_44 hlocks
      · have hb9 := g_nle (a := zs_ L.length) (b := i) h9 (by omega) (by omega)
        refine lv_iload_n hx hb dX3_bitsOfPosts_12 rfl (lv_at hl 1 rfl) ?_
        refine lv_aload_n hx hb dX3_bitsOfPosts_13 rfl (lv_at hl 2 rfl) ?_
        refine g_get hx hb hts hE hown hP g_inX3 rfl (by decide) k20 7 (by decide) rfl wf_X3_22 (v := .ref (ad_ D 25)) rfl dX3_bitsOfPosts_14 ?_
        refine lv_iload_n hx hb dX3_bitsOfPosts_17 rfl (lv_at hl 0 rfl) ?_
        refine g_ialdN (j := i) hx hb hE hP (by decide) k25 (by omega) (by decide) (v := tb_ L 0 i) (mB_0 hv hTl (by omega)) dX3_bitsOfPosts_18 ?_
        refine lv_iconst (v := (-1)) hx hb dX3_bitsOfPosts_19 (by decide) ?_
        refine lv_icmp_ne (tgt := 27) hx hb dX3_bitsOfPosts_20 (by decide) (fun h20 => ?_) (fun h20 => ?_)
        · refine lv_iconst (v := nI 1) hx hb dX3_bitsOfPosts_27 (by decide) ?_
          refine lv_aload_n hx hb dX3_bitsOfPosts_28 rfl (lv_at hl 2 rfl) ?_
          refine g_get hx hb hts hE hown hP g_inX3 rfl (by decide) k20 7 (by decide) rfl wf_X3_22 (v := .ref (ad_ D 25)) rfl dX3_bitsOfPosts_29 ?_
          refine lv_iload_n hx hb dX3_bitsOfPosts_32 rfl (lv_at hl 0 rfl) ?_
          refine g_ialdN (j := i) hx hb hE hP (by decide) k25 (by omega) (by decide) (v := tb_ L 0 i) (mB_0 hv hTl (by omega)) dX3_bitsOfPosts_33 ?_
          refine lv_ishl hx hb dX3_bitsOfPosts_34 ?_
          refine lv_ior hx hb dX3_bitsOfPosts_35 ?_
          refine lv_istore_n (lv' := [(1, .int ((pb_ (tb_ L 0) i) ||| ((nI 1) <<< ((tb_ L 0 i) &&& 31)))), (2, .int (nI i)), (0, .ref (ad_ D 20))]) hx hb dX3_bitsOfPosts_36 rfl hl (by decide) rfl (fun ls hl => ?_)
          have hfx1 : (pb_ (tb_ L 0) i) ||| ((nI 1) <<< ((tb_ L 0 i) &&& 31)) = pb_ (tb_ L 0) (i + 1) := by rw [pb_, if_neg h20]; rfl
          rw [hfx1] at hl
          refine lv_iinc (v := nI (i + 1)) (lv' := [(2, .int (nI (i + 1))), (1, .int (pb_ (tb_ L 0) (i + 1))), (0, .ref (ad_ D 20))]) hx hb dX3_bitsOfPosts_37 hl (k := 1) rfl (g_inc i) (by decide) rfl (fun ls hl => ?_)
          refine lv_goto (tgt := 4) hx hb dX3_bitsOfPosts_40 (by decide) ?_
          exact ih4 (i + 1) (by omega) (by omega) _ _ hP hS ls (lv_sub hl [0, 1, 2] rfl)
        · refine lv_iconst (v := nI 0) hx hb dX3_bitsOfPosts_23 (by decide) ?_
          refine lv_goto (tgt := 35) hx hb dX3_bitsOfPosts_24 (by decide) ?_
          refine lv_ior hx hb dX3_bitsOfPosts_35 ?_
          refine lv_istore_n (lv' := [(1, .int ((pb_ (tb_ L 0) i) ||| (nI 0))), (2, .int (nI i)), (0, .ref (ad_ D 20))]) hx hb dX3_bitsOfPosts_36 rfl hl (by decide) rfl (fun ls hl => ?_)
          have hfx2 : (pb_ (tb_ L 0) i) ||| (nI 0) = pb_ (tb_ L 0) (i + 1) := by rw [pb_, if_pos h20]; exact Int32.or_zero
          rw [hfx2] at hl
          refine lv_iinc (v := nI (i + 1)) (lv' := [(2, .int (nI (i + 1))), (1, .int (pb_ (tb_ L 0) (i + 1))), (0, .ref (ad_ D 20))]) hx hb dX3_bitsOfPosts_37 hl (k := 1) rfl (g_inc i) (by decide) rfl (fun ls hl => ?_)
          refine lv_goto (tgt := 4) hx hb dX3_bitsOfPosts_40 (by decide) ?_
          exact ih4 (i + 1) (by omega) (by omega) _ _ hP hS ls (lv_sub hl [0, 1, 2] rfl)
  exact K4 ((zs_ L.length - 0) + 1) 0 (Nat.lt_succ_self _) (Nat.zero_le _) _ _ hP hS ls (lv_sub hl [0, 1, 2] rfl)

abbrev m_X3_walkTo_rm : Room := { frames := 8, cells := 0, slots := 0, locals := 200 }
set_option maxHeartbeats 4000000 in
set_option maxRecDepth 100000 in
theorem m_X3_walkTo (l : Launch) (D : va_G) (hAD : g_AD D) (σ : Nat → va_E) (th : Int32) (S N Z R : Nat → Int32) (T : Nat → Nat → Int32) (L : g_L) (hM : g_Mf D σ th (nI L.length) (nI (zs_ L.length)) S N Z R T) (x9 : Int32) (hv : vL_ L) (h48 : L.length ≤ 48) (hRl : ∀ j, j < L.length → R j = fn_ L j) (hTl : mB_ (fn_ L) L.length T) (hL0 : 0 < L.length) : g_M l D yX3_walkTo cX3_walkTo 3 (some .int) m_X3_walkTo_rm [.ref (ad_ D 20), .int x9] σ (fun v1 σ1 => v1 = some (.int (nI (wk_ (tb_ L) x9 16 0))) ∧ σ = σ1) := by
  refine g_ofW [(0, .ref (ad_ D 20)), (1, .int x9)] (by decide +kernel) (Nat.le_of_ble_eq_true rfl) rfl ?_
  intro p e s m args below meth c hx hb hr hml hown hlocks hts hE hZ hP hS hnm ls hl
  have hown : s.vm.findClass RX3 = some m.cls := hown
  generalize hQ : MQ _ _ _ _ _ _ _ = Q
  obtain ⟨k20, k21, k22, k23, k24, k25, k26, k27, k28, k29, k30⟩ := id hM
  have hz95 := zs_le h48
  have h0z := zs_pos hL0
  refine lv_iconst (v := nI 0) hx hb dX3_walkTo_0 (by decide) ?_
  refine lv_istore_n (lv' := [(2, .int (nI 0)), (0, .ref (ad_ D 20)), (1, .int x9)]) hx hb dX3_walkTo_1 rfl hl (by decide) rfl (fun ls hl => ?_)
  have K2 : ∀ (fuel2 : Nat) (k9 p9 : Nat), (16 - k9) < fuel2 → (k9 ≤ 16) → (p9 < zs_ L.length) → (wk_ (tb_ L) x9 (16 - k9) p9 = wk_ (tb_ L) x9 16 0) → (¬ tb_ L 0 p9 = -1 → ∃ z, z + k9 < 16 ∧ tb_ L 0 p9 = nI z) → ∀ (H : Heap) (locs : List Loc), va_P D vwCl (g_W D σ) H → va_S (g_A D s.heap.size) s.heap H locs → ∀ ls : Array Slot, lv_has ls 3 [(2, .int (nI p9)), (0, .ref (ad_ D 20)), (1, .int x9)] → W p l e m_X3_walkTo_rm s m args below meth c H locs 0 0 Q (F0 m 2 ls []) := by
    intro fuel2
    induction fuel2 with
    | zero => intro k9 p9 hf; exact absurd hf (Nat.not_lt_zero _)
    | succ fuel2 ih2 =>
      intro k9 p9 hf2 hk hp hI hd H locs hP hS ls hl
      refine lv_aload_n hx hb dX3_walkTo_2 rfl (lv_at hl 1 rfl) ?_
      refine g_get hx hb hts hE hown hP g_inX3 rfl (by decide) k20 7 (by decide) rfl wf_X3_22 (v := .ref (ad_ D 25)) rfl dX3_walkTo_3 ?_
      refine lv_iload_n hx hb dX3_walkTo_6 rfl (lv_at hl 0 rfl) ?_
      refine g_ialdN (j := p9) hx hb hE hP (by decide) k25 (by omega) (by decide) (v := tb_ L 0 p9) (mB_0 hv hTl (by omega)) dX3_walkTo_7 ?_
      refine lv_iconst (v := (-1)) hx hb dX3_walkTo_8 (by decide) ?_
      refine lv_icmp_eq (tgt := 44) hx hb dX3_walkTo_9 (by decide) (fun h9 => ?_) (fun h9 => ?_)
      · refine lv_iload_n hx hb dX3_walkTo_44 rfl (lv_at hl 0 rfl) ?_
        rw [← hQ]
        exact W.iret (v := nI p9) hx hb hr (fun te9 hte9 _ => g_fin (⟨by rw [← hI, wk_leaf h9], rfl⟩) hP hS hte9) hS.2.2 dX3_walkTo_45 hlocks
      · obtain ⟨l9, r9, b9, e5, e6, l5, l6, hb9, e0, d5, d6⟩ := tb_post hv hp h9
        have hk9 : k9 < 16 := by obtain ⟨z, hz, ez⟩ := hd h9; omega
        refine lv_iload_n hx hb dX3_walkTo_12 rfl (lv_at hl 2 rfl) ?_
        refine lv_aload_n hx hb dX3_walkTo_13 rfl (lv_at hl 1 rfl) ?_
        refine g_get hx hb hts hE hown hP g_inX3 rfl (by decide) k20 7 (by decide) rfl wf_X3_22 (v := .ref (ad_ D 25)) rfl dX3_walkTo_14 ?_
        refine lv_iload_n hx hb dX3_walkTo_17 rfl (lv_at hl 0 rfl) ?_
        refine g_ialdN (j := p9) hx hb hE hP (by decide) k25 (by omega) (by decide) (v := tb_ L 0 p9) (mB_0 hv hTl (by omega)) dX3_walkTo_18 ?_
        refine lv_ishr hx hb dX3_walkTo_19 ?_
        refine lv_iconst (v := nI 1) hx hb dX3_walkTo_20 (by decide) ?_
        refine lv_iand hx hb dX3_walkTo_21 ?_
        refine lv_if_ne (tgt := 34) hx hb dX3_walkTo_22 (by decide) (fun h22 => ?_) (fun h22 => ?_)
        · refine lv_aload_n hx hb dX3_walkTo_34 rfl (lv_at hl 1 rfl) ?_
          refine g_get hx hb hts hE hown hP g_inX3 rfl (by decide) k20 11 (by decide) rfl wf_X3_34 (v := .ref (ad_ D 29)) rfl dX3_walkTo_35 ?_
          refine lv_iload_n hx hb dX3_walkTo_38 rfl (lv_at hl 0 rfl) ?_
          refine g_ialdN (j := p9) hx hb hE hP (by decide) k29 (by omega) (by decide) (v := nI r9) ((mB_4 hv hTl (by omega)).trans e6) dX3_walkTo_39 ?_
          refine lv_istore_n (lv' := [(2, .int (nI r9)), (0, .ref (ad_ D 20)), (1, .int x9)]) hx hb dX3_walkTo_40 rfl hl (by decide) rfl (fun ls hl => ?_)
          refine lv_goto (tgt := 2) hx hb dX3_walkTo_41 (by decide) ?_
          exact ih2 (k9 + 1) r9 (by omega) (by omega) (by omega) (by rw [← hI, show 16 - k9 = (16 - (k9 + 1)) + 1 by omega, wk_, if_neg h9, hb_t h22, if_pos rfl, e6, nI_clamp (by omega)]) (fun hn9 => by obtain ⟨z, hz, ez⟩ := d6 hn9; obtain ⟨z2, hz2, ez2⟩ := hd h9; have e3 := g_eq (e0.symm.trans ez2) (by omega) (by omega); exact ⟨z, by omega, ez⟩) _ _ hP hS ls (lv_sub hl [0, 1, 2] rfl)
        · refine lv_aload_n hx hb dX3_walkTo_25 rfl (lv_at hl 1 rfl) ?_
          refine g_get hx hb hts hE hown hP g_inX3 rfl (by decide) k20 10 (by decide) rfl wf_X3_31 (v := .ref (ad_ D 28)) rfl dX3_walkTo_26 ?_
          refine lv_iload_n hx hb dX3_walkTo_29 rfl (lv_at hl 0 rfl) ?_
          refine g_ialdN (j := p9) hx hb hE hP (by decide) k28 (by omega) (by decide) (v := nI l9) ((mB_3 hv hTl (by omega)).trans e5) dX3_walkTo_30 ?_
          refine lv_goto (tgt := 40) hx hb dX3_walkTo_31 (by decide) ?_
          refine lv_istore_n (lv' := [(2, .int (nI l9)), (0, .ref (ad_ D 20)), (1, .int x9)]) hx hb dX3_walkTo_40 rfl hl (by decide) rfl (fun ls hl => ?_)
          refine lv_goto (tgt := 2) hx hb dX3_walkTo_41 (by decide) ?_
          exact ih2 (k9 + 1) l9 (by omega) (by omega) (by omega) (by rw [← hI, show 16 - k9 = (16 - (k9 + 1)) + 1 by omega, wk_, if_neg h9, hb_f h22, if_neg (by decide), e5, nI_clamp (by omega)]) (fun hn9 => by obtain ⟨z, hz, ez⟩ := d5 hn9; obtain ⟨z2, hz2, ez2⟩ := hd h9; have e3 := g_eq (e0.symm.trans ez2) (by omega) (by omega); exact ⟨z, by omega, ez⟩) _ _ hP hS ls (lv_sub hl [0, 1, 2] rfl)
  exact K2 ((16 - 0) + 1) 0 0 (Nat.lt_succ_self _) (Nat.zero_le _) h0z rfl (fun hn9 => by obtain ⟨l9, r9, b9, e5, e6, l5, l6, hb9, e0, d5, d6⟩ := tb_post hv h0z hn9; exact ⟨b9, by omega, e0⟩) _ _ hP hS ls (lv_sub hl [0, 1, 2] rfl)

abbrev m_X3_shared_rm : Room := { frames := 10, cells := 0, slots := 0, locals := 241 }
set_option maxHeartbeats 4000000 in
set_option maxRecDepth 100000 in
theorem m_X3_shared (l : Launch) (D : va_G) (hAD : g_AD D) (σ : Nat → va_E) (x9 y9 : Int32) (hx9 : 0 ≤ x9 ∧ x9 ≤ 65535) (hy9 : 0 ≤ y9 ∧ y9 ≤ 65535) : g_M l D yX3_shared cX3_shared 2 (some .int) m_X3_shared_rm [.int x9, .int y9] σ (fun v1 σ1 => v1 = some (.int (nI 15 - fub_ x9 y9)) ∧ σ = σ1) := by
  refine g_ofW [(0, .int x9), (1, .int y9)] (by decide +kernel) (Nat.le_of_ble_eq_true rfl) rfl ?_
  intro p e s m args below meth c hx hb hr hml hown hlocks hts hE hZ hP hS hnm ls hl
  have hown : s.vm.findClass RX3 = some m.cls := hown
  generalize hQ : MQ _ _ _ _ _ _ _ = Q
  refine lv_iload_n hx hb dX3_shared_0 rfl (lv_at hl 0 rfl) ?_
  refine lv_iload_n hx hb dX3_shared_1 rfl (lv_at hl 1 rfl) ?_
  refine lv_icmp_ne (tgt := 10) hx hb dX3_shared_2 (by decide) (fun h2 => ?_) (fun h2 => ?_)
  · refine lv_bipush (v := nI 15) hx hb dX3_shared_10 (by decide) ?_
    refine lv_iload_n hx hb dX3_shared_12 rfl (lv_at hl 0 rfl) ?_
    refine lv_iload_n hx hb dX3_shared_13 rfl (lv_at hl 1 rfl) ?_
    refine lv_ixor hx hb dX3_shared_14 ?_
    obtain ⟨u1, hu1, eu1⟩ := xor_nat hx9 hy9
    rw [eu1]
    refine g_callS0 (y := yX3_topBit) (n := 1) (As := [.int (nI u1)]) (rest := [.int (nI 15)]) hx hb hml hown hts hE hZ hP hS hl.1 (m_X3_topBit l D hAD σ u1 hu1) k_X3_72 rfl rfl ⟨rfl, rfl⟩ ⟨Nat.le_of_ble_eq_true rfl, Nat.le_of_ble_eq_true rfl⟩ (Nat.le_of_ble_eq_true rfl) ⟨Nat.le_of_ble_eq_true rfl, Nat.le_of_ble_eq_true rfl⟩ dX3_shared_15 (fun v2 σ_3 H locs hq hP hS => ?_)
    obtain ⟨rfl, rfl⟩ := hq
    refine W.eq (g2 := F0 m 18 ls [.int (tp_ (nI u1)), .int (nI 15)]) rfl ?_
    refine g_top (y := tp_ (x9 ^^^ y9)) (by rw [eu1]) ?_
    refine lv_isub hx hb dX3_shared_18 ?_
    rw [← hQ]
    exact W.iret (v := (nI 15) - (tp_ (x9 ^^^ y9))) hx hb hr (fun te9 hte9 _ => g_fin (⟨rfl, rfl⟩) hP hS hte9) hS.2.2 dX3_shared_19 hlocks
  · refine lv_bipush (v := nI 16) hx hb dX3_shared_5 (by decide) ?_
    refine lv_goto (tgt := 19) hx hb dX3_shared_7 (by decide) ?_
    rw [← hQ]
    exact W.iret (v := nI 16) hx hb hr (fun te9 hte9 _ => g_fin (⟨by rw [h2, fub_, if_pos (by simp)]; rfl, rfl⟩) hP hS hte9) hS.2.2 dX3_shared_19 hlocks

abbrev m_X3_joined_rm : Room := { frames := 8, cells := 0, slots := 0, locals := 200 }
set_option maxHeartbeats 4000000 in
set_option maxRecDepth 100000 in
theorem m_X3_joined (l : Launch) (D : va_G) (hAD : g_AD D) (σ : Nat → va_E) (r9 : Nat) (a9 b9 : Int32) (hr9 : r9 ≤ 3) (hb1 : b9 ≠ -1) : g_M l D yX3_joined cX3_joined 3 (some .int) m_X3_joined_rm [.int (nI r9), .int a9, .int b9] σ (fun v1 σ1 => v1 = some (.int (mgm_ r9 a9 b9)) ∧ σ = σ1) := by
  refine g_ofW [(0, .int (nI r9)), (1, .int a9), (2, .int b9)] (by decide +kernel) (Nat.le_of_ble_eq_true rfl) rfl ?_
  intro p e s m args below meth c hx hb hr hml hown hlocks hts hE hZ hP hS hnm ls hl
  have hown : s.vm.findClass RX3 = some m.cls := hown
  generalize hQ : MQ _ _ _ _ _ _ _ = Q
  refine lv_iload_n hx hb dX3_joined_0 rfl (lv_at hl 0 rfl) ?_
  rcases (show r9 = 0 ∨ r9 = 1 ∨ r9 = 2 ∨ r9 = 3 by omega) with rfl | rfl | rfl | rfl
  · refine lv_tableIn (x := nI 0) (off := 27) (tgt := 28) hx hb dX3_joined_1 (by decide) (by decide) rfl (by decide) ?_
    refine lv_iload_n hx hb dX3_joined_28 rfl (lv_at hl 1 rfl) ?_
    rw [← hQ]
    exact W.iret (v := a9) hx hb hr (fun te9 hte9 _ => g_fin (⟨by rw [← mgm0 hb1], rfl⟩) hP hS hte9) hS.2.2 dX3_joined_29 hlocks
  · refine lv_tableIn (x := nI 1) (off := 29) (tgt := 30) hx hb dX3_joined_1 (by decide) (by decide) rfl (by decide) ?_
    refine lv_iload_n hx hb dX3_joined_30 rfl (lv_at hl 2 rfl) ?_
    rw [← hQ]
    exact W.iret (v := b9) hx hb hr (fun te9 hte9 _ => g_fin (⟨by rw [← mgm1 hb1], rfl⟩) hP hS hte9) hS.2.2 dX3_joined_31 hlocks
  · refine lv_tableIn (x := nI 2) (off := 31) (tgt := 32) hx hb dX3_joined_1 (by decide) (by decide) rfl (by decide) ?_
    refine lv_sipush (v := nI 999) hx hb dX3_joined_32 (by decide) ?_
    refine lv_iload_n hx hb dX3_joined_35 rfl (lv_at hl 1 rfl) ?_
    refine lv_iload_n hx hb dX3_joined_36 rfl (lv_at hl 2 rfl) ?_
    refine lv_iadd hx hb dX3_joined_37 ?_
    refine g_mmin hx hb (hml.trans hl.1.symm) hown hts k_X3_86 k_min ⟨Nat.le_of_ble_eq_true rfl, Nat.le_of_ble_eq_true rfl, by omega, by omega⟩ dX3_joined_38 ?_
    rw [← hQ]
    exact W.iret (v := if (a9) + (b9) < nI 999 then (a9) + (b9) else nI 999) hx hb hr (fun te9 hte9 _ => g_fin (⟨by rw [← mgm2 hb1], rfl⟩) hP hS hte9) hS.2.2 dX3_joined_41 hlocks
  · refine lv_tableOut (x := nI 3) (tgt := 42) hx hb dX3_joined_1 (by decide) (by decide) ?_
    refine lv_iload_n hx hb dX3_joined_42 rfl (lv_at hl 1 rfl) ?_
    refine lv_iload_n hx hb dX3_joined_43 rfl (lv_at hl 2 rfl) ?_
    refine g_mmin hx hb (hml.trans hl.1.symm) hown hts k_X3_86 k_min ⟨Nat.le_of_ble_eq_true rfl, Nat.le_of_ble_eq_true rfl, by omega, by omega⟩ dX3_joined_44 ?_
    rw [← hQ]
    exact W.iret (v := if b9 < a9 then b9 else a9) hx hb hr (fun te9 hte9 _ => g_fin (⟨by rw [← mgm3 hb1], rfl⟩) hP hS hte9) hS.2.2 dX3_joined_47 hlocks
