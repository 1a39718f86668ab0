theorem mx_pred {n : Nat} (hn : n < 2 ^ 31) : (if nI 0 < nI n - nI 1 then nI n - nI 1 else nI 0) = nI (n - 1) := by
  cases n with
  | zero => decide
  | succ k =>
    rw [show nI (k + 1) - nI 1 = nI k from nI_pred k, Nat.add_sub_cancel]
    by_cases h : 0 < k
    · rw [if_pos (nI_lt h (by omega))]
    · rw [if_neg (nI_nlt (by omega) (by omega)), show k = 0 by omega]
theorem h_apW {D : va_G} {σ σ' : Nat → va_E} {rs : va_W} (h : h_ap rs (g_W D σ)) : h_ap rs (g_W D σ') := fun i j p q hi hj => by
  obtain ⟨hk, rfl⟩ := g_of hj
  exact h i j p (ad_ D j, σ j) hi (g_at hk rfl)
theorem h_ap1 {rs ws : va_W} {i : Nat} {q : Nat × va_E} (h : h_ap rs ws) (hi : rs[i]? = some q) : h_ap [q] ws := fun a b x y hx hy => by
  have hz : a < 1 := (List.getElem?_eq_some_iff.mp hx).1
  rw [show a = 0 by omega] at hx
  cases hx
  exact h i b q y hi hy
abbrev m_X3_isSame_rm  : Room := { frames := 60, cells := 4200, slots := 30000, locals := 8000 }
set_option maxHeartbeats 4000000 in
set_option maxRecDepth 100000 in
theorem m_X3_isSame (l : Launch) (hst : l.stackTraces = false) (D : va_G) (hAD : g_AD D) (σ : Nat → va_E) (Ls : Nat → g_L) (q : Nat → Nat) (N M : Nat → List Int32) (hC : g_C D σ Ls) (hvC : vC_ Ls) (hSR : SR_ Ls N M) (hap : h_ap (h_SW D q N M) (g_W D σ)) : h_M l D yX3_isSame cX3_isSame 10 (some .boolean) m_X3_isSame_rm [.ref (q 0), .ref (ad_ D 0)] none ((h_SW D q N M)) ((g_W D σ)) (fun v1 w1 => v1 = some (.int (nI 1)) ∧ ∃ σ1, w1 = g_W D σ1 ∧ g_C D σ1 Ls) := by
  have hD0 : va_D (fun _ => True) (g_W D σ) := g_D hAD (fun _ _ => trivial)
  refine h_ofW [(0, .ref (q 0)), (1, .ref (ad_ D 0))] (by decide +kernel) (Nat.le_of_ble_eq_true rfl) rfl ?_
  intro p e s m args below meth c hx hb hr hml hown hlocks hts hE hZ hR hP hS hX ls hl
  have hown : s.vm.findClass RX3 = some m.cls := hown
  generalize hQ : MQ _ _ _ _ _ _ _ = Q
  have hD : va_D (va_A ((g_W D σ)) s.heap.size) ((g_W D σ)) := va_D.self hD0
  have hP : va_P D vwCl (g_W D σ ++ []) s.heap := by rw [List.append_nil]; exact hP
  have hD : va_D (va_A (g_W D σ) s.heap.size) (g_W D σ ++ []) := by rw [List.append_nil]; exact hD
  refine lv_iconst (v := nI 0) hx hb dX3_isSame_0 (by decide) ?_
  refine lv_istore_n (lv' := [(2, .int (nI 0)), (0, .ref (q 0)), (1, .ref (ad_ D 0))]) hx hb dX3_isSame_1 rfl hl (by decide) rfl (fun ls hl => ?_)
  have K2 : ∀ (fuel2 : Nat) (w : Nat) (σ1 : Nat → va_E), (2 - w) < fuel2 → (w ≤ 2) → (g_C D σ1 Ls) → ∀ (H : Heap) (locs : List Loc), va_P D vwCl ((g_W D σ1) ++ []) H → va_D (va_A ((g_W D σ)) s.heap.size) ((g_W D σ1) ++ []) → va_S (va_A ((g_W D σ)) s.heap.size) s.heap H locs → ∀ ls : Array Slot, lv_has ls 10 [(0, .ref (q 0)), (1, .ref (ad_ D 0)), (2, .int (nI w))] → W p l e m_X3_isSame_rm s m args below meth c H locs (2100 * w) (15000 * w) Q (F0 m 2 ls []) := by
    intro fuel2
    induction fuel2 with
    | zero => intro w σ1 hf; exact absurd hf (Nat.not_lt_zero _)
    | succ fuel2 ih2 =>
      intro w σ1 hf2 hw2 hC1 H locs hP hD hS ls hl
      refine lv_iload_n hx hb dX3_isSame_2 rfl (lv_at hl 2 rfl) ?_
      refine lv_iconst (v := nI 2) hx hb dX3_isSame_3 (by decide) ?_
      refine lv_icmp_ge (tgt := 253) hx hb dX3_isSame_4 (by decide) (fun h4 => ?_) (fun h4 => ?_)
      · have hb4 := g_le (a := 2) (b := w) h4 (by omega) (by omega)
        refine lv_iconst (v := nI 1) hx hb dX3_isSame_253 (by decide) ?_
        have hP := h_prf hP
        have hD := h_Dprf hD
        refine W.widen (k := 4200) (n := 30000) (by omega) (by omega) ?_
        rw [← hQ]
        exact W.zret (v := nI 1) hx hb hr (by first | rfl | decide | (split <;> rfl)) (fun te9 hte9 _ => h_fin (⟨rfl, σ1, rfl, hC1⟩) hP hD hS hte9) hS.2.2 dX3_isSame_254 hlocks
      · have hb4 := g_nle (a := 2) (b := w) h4 (by omega) (by omega)
        have hn9 : (N w).length ≤ 24 := by rw [SR_len hSR (by omega)]; exact (hvC w (by omega)).2
        have hm9 : (M w).length = (N w).length := (hSR w (by omega)).1
        have hrn9 := SR_rn hvC hSR (show w ≤ 1 by omega)
        obtain ⟨c0, c1, c2, c3, c4, c5⟩ := cn_row (hvC w (by omega)).1 (by have := (hvC w (by omega)).2; omega) (SR_N hSR (by omega)) (k := 25) (by omega) (by decide)
        have c6 := cn_6 (SR_M hSR (show w ≤ 1 by omega))
        have hpl := pth_le 25 (N w)
        refine lv_aload_n hx hb dX3_isSame_7 rfl (lv_at hl 0 rfl) ?_
        refine h_get (w := []) (xs := (h_SW D q N M)) (i := 0) hx hb hts hE hown (h_rk hR hap hS) rfl 0 (by decide) rfl wf_X3_9 (v := .ref (q 1)) rfl dX3_isSame_8 ?_
        refine lv_iload_n hx hb dX3_isSame_11 rfl (lv_at hl 2 rfl) ?_
        refine h_ald (w := []) (xs := (h_SW D q N M)) (i := 1) (q := q) (o := 3) (j := w) hx hb hE (h_rk hR hap hS) rfl (by omega) dX3_isSame_12 ?_
        refine lv_astore_n (lv' := [(3, .ref (q (3 + w))), (0, .ref (q 0)), (1, .ref (ad_ D 0)), (2, .int (nI w))]) hx hb dX3_isSame_13 rfl hl (by decide) rfl (fun ls hl => ?_)
        refine lv_aload_n hx hb dX3_isSame_14 rfl (lv_at hl 0 rfl) ?_
        refine h_callS (y := yX3_paths) (n := 1) (As := [.ref (q (3 + w))]) (rest := []) hx hb hml hown hts hE hZ hS hl.1 (m_X3_paths l D 25 (q (3 + w)) (N w) hn9 hrn9 (by omega) (by omega)) (h_pick (w := []) (xs := (h_SW D q N M)) (i := (3 + w)) (h_rk hR hap hS) (h_SWn (by omega))) h_P0 (h_Anil hS h_Asz) (fun _ _ _ => trivial) (h_jR hP hD (h_Anil hS h_Asz)) k_X3_72 rfl rfl ⟨Nat.le_of_ble_eq_true rfl, Nat.le_of_ble_eq_true rfl⟩ (Nat.le_of_ble_eq_true rfl) ⟨by show (2100 * w) + (6 * (N w).length - 3 + (1 - (N w).length)) ≤ 4200; omega, by show (15000 * w) + (60 * (N w).length - 57 + 3 * (1 - (N w).length)) ≤ 30000; omega⟩ dX3_isSame_15 (fun v2 w1 H locs hq hP hD hS => ?_)
        obtain ⟨pp1, rfl, rfl⟩ := hq
        have hP : va_P D vwCl ((g_W D σ1) ++ [(pp1, h_row D ([nI (pth_ 25 (N w)).1, nI (pth_ 25 (N w)).2.1, (pth_ 25 (N w)).2.2]))]) H := hP
        have hD : va_D (va_A ((g_W D σ)) s.heap.size) ((g_W D σ1) ++ [(pp1, h_row D ([nI (pth_ 25 (N w)).1, nI (pth_ 25 (N w)).2.1, (pth_ 25 (N w)).2.2]))]) := hD
        refine W.widen (k := ((2100 * w) + (6 * (N w).length - 3 + (1 - (N w).length)))) (n := ((15000 * w) + (60 * (N w).length - 57 + 3 * (1 - (N w).length)))) (Nat.le_refl _) (Nat.le_refl _) ?_
        refine W.eq (g2 := F0 m 18 ls [.ref pp1]) rfl ?_
        refine lv_astore (lv' := [(4, .ref pp1), (3, .ref (q (3 + w))), (0, .ref (q 0)), (1, .ref (ad_ D 0)), (2, .int (nI w))]) hx hb dX3_isSame_18 hl (by decide) rfl (fun ls hl => ?_)
        refine lv_iconst (v := nI 0) hx hb dX3_isSame_20 (by decide) ?_
        refine lv_istore (lv' := [(5, .int (nI 0)), (4, .ref pp1), (3, .ref (q (3 + w))), (0, .ref (q 0)), (1, .ref (ad_ D 0)), (2, .int (nI w))]) hx hb dX3_isSame_21 hl (by decide) rfl (fun ls hl => ?_)
        refine lv_aload_n hx hb dX3_isSame_23 rfl (lv_at hl 3 rfl) ?_
        refine h_get (w := []) (xs := (h_SW D q N M)) (i := 0) hx hb hts hE hown (h_rk hR hap hS) rfl 1 (by decide) rfl wf_X3_15 (v := .ref (q 2)) rfl dX3_isSame_24 ?_
        refine lv_iload_n hx hb dX3_isSame_27 rfl (lv_at hl 5 rfl) ?_
        refine h_ald (w := []) (xs := (h_SW D q N M)) (i := 2) (q := q) (o := 5) (j := w) hx hb hE (h_rk hR hap hS) rfl (by omega) dX3_isSame_28 ?_
        refine lv_astore (lv' := [(6, .ref (q (5 + w))), (5, .int (nI 0)), (4, .ref pp1), (3, .ref (q (3 + w))), (0, .ref (q 0)), (1, .ref (ad_ D 0)), (2, .int (nI w))]) hx hb dX3_isSame_29 hl (by decide) rfl (fun ls hl => ?_)
        refine lv_aload hx hb dX3_isSame_31 (lv_at hl 0 rfl) ?_
        refine h_aln (w := []) (xs := (h_SW D q N M)) (i := (5 + w)) (R := M w) hx hb hE (h_rk hR hap hS) (h_SWm (by omega)) dX3_isSame_33 ?_
        refine lv_istore (lv' := [(7, .int (nI ((M w).length))), (6, .ref (q (5 + w))), (5, .int (nI 0)), (4, .ref pp1), (3, .ref (q (3 + w))), (0, .ref (q 0)), (1, .ref (ad_ D 0)), (2, .int (nI w))]) hx hb dX3_isSame_34 hl (by decide) rfl (fun ls hl => ?_)
        refine lv_iconst (v := nI 0) hx hb dX3_isSame_36 (by decide) ?_
        refine lv_istore (lv' := [(8, .int (nI 0)), (7, .int (nI ((M w).length))), (6, .ref (q (5 + w))), (5, .int (nI 0)), (4, .ref pp1), (3, .ref (q (3 + w))), (0, .ref (q 0)), (1, .ref (ad_ D 0)), (2, .int (nI w))]) hx hb dX3_isSame_37 hl (by decide) rfl (fun ls hl => ?_)
        have K39 : ∀ (fuel39 : Nat) (i : Nat), ((M w).length - i) < fuel39 → (i ≤ (M w).length) → ∀ (H : Heap) (locs : List Loc), va_P D vwCl ((g_W D σ1) ++ [(pp1, h_row D ([nI (pth_ 25 (N w)).1, nI (pth_ 25 (N w)).2.1, (pth_ 25 (N w)).2.2]))]) H → va_D (va_A ((g_W D σ)) s.heap.size) ((g_W D σ1) ++ [(pp1, h_row D ([nI (pth_ 25 (N w)).1, nI (pth_ 25 (N w)).2.1, (pth_ 25 (N w)).2.2]))]) → va_S (va_A ((g_W D σ)) s.heap.size) s.heap H locs → ∀ ls : Array Slot, lv_has ls 10 [(8, .int (nI i)), (7, .int (nI ((M w).length))), (6, .ref (q (5 + w))), (5, .int (mi_ ((M w).take i))), (4, .ref pp1), (3, .ref (q (3 + w))), (0, .ref (q 0)), (1, .ref (ad_ D 0)), (2, .int (nI w))] → W p l e m_X3_isSame_rm s m args below meth c H locs ((2100 * w) + (6 * (N w).length - 3 + (1 - (N w).length))) ((15000 * w) + (60 * (N w).length - 57 + 3 * (1 - (N w).length))) Q (F0 m 39 ls []) := by
          intro fuel39
          induction fuel39 with
          | zero => intro i hf; exact absurd hf (Nat.not_lt_zero _)
          | succ fuel39 ih39 =>
            intro i hf39 hi H locs hP hD hS ls hl
            refine lv_iload hx hb dX3_isSame_39 (lv_at hl 0 rfl) ?_
            refine lv_iload hx hb dX3_isSame_41 (lv_at hl 1 rfl) ?_
            refine lv_icmp_ge (tgt := 66) hx hb dX3_isSame_43 (by decide) (fun h43 => ?_) (fun h43 => ?_)
            · have hb43 := g_le (a := (M w).length) (b := i) h43 (by omega) (by omega)
              rw [tk_all (show (M w).length ≤ i by omega)] at hl
              refine lv_bipush (v := nI 7) hx hb dX3_isSame_66 (by decide) ?_
              refine h_new (w := (g_W D σ1)) (xs := [(pp1, h_row D ([nI (pth_ 25 (N w)).1, nI (pth_ 25 (N w)).2.1, (pth_ 25 (N w)).2.2]))]) (n := 7) hx hb hts hE hP hD hS h_Asz (by omega) (by show ((2100 * w) + (6 * (N w).length - 3 + (1 - (N w).length))) + 1 ≤ 4200; omega) (by show ((15000 * w) + (60 * (N w).length - 57 + 3 * (1 - (N w).length))) + 7 ≤ 30000; omega) dX3_isSame_68 (fun q3 H hP hD hS => ?_)
              refine W.widen (k := ((2100 * w) + (6 * (N w).length - 3 + (1 - (N w).length))) + 1) (n := ((15000 * w) + (60 * (N w).length - 57 + 3 * (1 - (N w).length))) + 7) (by omega) (by omega) ?_
              have hP : va_P D vwCl ((g_W D σ1) ++ [(pp1, h_row D ([nI (pth_ 25 (N w)).1, nI (pth_ 25 (N w)).2.1, (pth_ 25 (N w)).2.2])), (q3, h_row D (List.replicate 7 0))]) H := hP
              have hD : va_D (va_A ((g_W D σ)) s.heap.size) ((g_W D σ1) ++ [(pp1, h_row D ([nI (pth_ 25 (N w)).1, nI (pth_ 25 (N w)).2.1, (pth_ 25 (N w)).2.2])), (q3, h_row D (List.replicate 7 0))]) := hD
              have hP : va_P D vwCl ((g_W D σ1) ++ [(pp1, h_row D ([nI (pth_ 25 (N w)).1, nI (pth_ 25 (N w)).2.1, (pth_ 25 (N w)).2.2])), (q3, h_row D ([0, 0, 0, 0, 0, 0, 0]))]) H := hP
              have hD : va_D (va_A ((g_W D σ)) s.heap.size) ((g_W D σ1) ++ [(pp1, h_row D ([nI (pth_ 25 (N w)).1, nI (pth_ 25 (N w)).2.1, (pth_ 25 (N w)).2.2])), (q3, h_row D ([0, 0, 0, 0, 0, 0, 0]))]) := hD
              refine lv_dup hx hb dX3_isSame_70 rfl ?_
              refine lv_iconst (v := nI 0) hx hb dX3_isSame_71 (by decide) ?_
              refine lv_aload_n hx hb dX3_isSame_72 rfl (lv_at hl 5 rfl) ?_
              refine h_aln (w := []) (xs := (h_SW D q N M)) (i := (3 + w)) (R := N w) hx hb hE (h_rk hR hap hS) (h_SWn (by omega)) dX3_isSame_73 ?_
              refine h_ist (w := (g_W D σ1)) (xs := [(pp1, h_row D ([nI (pth_ 25 (N w)).1, nI (pth_ 25 (N w)).2.1, (pth_ 25 (N w)).2.2])), (q3, h_row D ([0, 0, 0, 0, 0, 0, 0]))]) (i := 1) (R := [0, 0, 0, 0, 0, 0, 0]) (j := 0) (x := nI ((N w).length)) hx hb hE hP hD hS (rfl) (show 0 < 7 by decide) (show 7 < 2 ^ 31 by decide) dX3_isSame_74 (fun H locs hP hD hS => ?_)
              rw [show ([0, 0, 0, 0, 0, 0, 0] : List Int32).set 0 (nI ((N w).length)) = [nI ((N w).length), 0, 0, 0, 0, 0, 0] from rfl] at hP hD
              have hP : va_P D vwCl ((g_W D σ1) ++ [(pp1, h_row D ([nI (pth_ 25 (N w)).1, nI (pth_ 25 (N w)).2.1, (pth_ 25 (N w)).2.2])), (q3, h_row D ([nI ((N w).length), 0, 0, 0, 0, 0, 0]))]) H := hP
              have hD : va_D (va_A ((g_W D σ)) s.heap.size) ((g_W D σ1) ++ [(pp1, h_row D ([nI (pth_ 25 (N w)).1, nI (pth_ 25 (N w)).2.1, (pth_ 25 (N w)).2.2])), (q3, h_row D ([nI ((N w).length), 0, 0, 0, 0, 0, 0]))]) := hD
              refine lv_dup hx hb dX3_isSame_75 rfl ?_
              refine lv_iconst (v := nI 1) hx hb dX3_isSame_76 (by decide) ?_
              refine lv_iconst (v := nI 0) hx hb dX3_isSame_77 (by decide) ?_
              refine lv_aload_n hx hb dX3_isSame_78 rfl (lv_at hl 5 rfl) ?_
              refine h_aln (w := []) (xs := (h_SW D q N M)) (i := (3 + w)) (R := N w) hx hb hE (h_rk hR hap hS) (h_SWn (by omega)) dX3_isSame_79 ?_
              refine lv_iconst (v := nI 1) hx hb dX3_isSame_80 (by decide) ?_
              refine lv_isub hx hb dX3_isSame_81 ?_
              refine g_mmax hx hb (hml.trans hl.1.symm) hown hts k_X3_45 k_max ⟨Nat.le_of_ble_eq_true rfl, Nat.le_of_ble_eq_true rfl, by show (((2100 * w) + (6 * (N w).length - 3 + (1 - (N w).length))) + 1) ≤ 4200; omega, by show (((15000 * w) + (60 * (N w).length - 57 + 3 * (1 - (N w).length))) + 7) ≤ 30000; omega⟩ dX3_isSame_82 ?_
              refine g_top (y := nI ((N w).length - 1)) (mx_pred (by omega)) ?_
              refine h_ist (w := (g_W D σ1)) (xs := [(pp1, h_row D ([nI (pth_ 25 (N w)).1, nI (pth_ 25 (N w)).2.1, (pth_ 25 (N w)).2.2])), (q3, h_row D ([nI ((N w).length), 0, 0, 0, 0, 0, 0]))]) (i := 1) (R := [nI ((N w).length), 0, 0, 0, 0, 0, 0]) (j := 1) (x := nI ((N w).length - 1)) hx hb hE hP hD hS (rfl) (show 1 < 7 by decide) (show 7 < 2 ^ 31 by decide) dX3_isSame_85 (fun H locs hP hD hS => ?_)
              rw [show ([nI ((N w).length), 0, 0, 0, 0, 0, 0] : List Int32).set 1 (nI ((N w).length - 1)) = [nI ((N w).length), nI ((N w).length - 1), 0, 0, 0, 0, 0] from rfl] at hP hD
              have hP : va_P D vwCl ((g_W D σ1) ++ [(pp1, h_row D ([nI (pth_ 25 (N w)).1, nI (pth_ 25 (N w)).2.1, (pth_ 25 (N w)).2.2])), (q3, h_row D ([nI ((N w).length), nI ((N w).length - 1), 0, 0, 0, 0, 0]))]) H := hP
              have hD : va_D (va_A ((g_W D σ)) s.heap.size) ((g_W D σ1) ++ [(pp1, h_row D ([nI (pth_ 25 (N w)).1, nI (pth_ 25 (N w)).2.1, (pth_ 25 (N w)).2.2])), (q3, h_row D ([nI ((N w).length), nI ((N w).length - 1), 0, 0, 0, 0, 0]))]) := hD
              refine lv_dup hx hb dX3_isSame_86 rfl ?_
              refine lv_iconst (v := nI 2) hx hb dX3_isSame_87 (by decide) ?_
              refine lv_aload hx hb dX3_isSame_88 (lv_at hl 4 rfl) ?_
              refine lv_iconst (v := nI 0) hx hb dX3_isSame_90 (by decide) ?_
              refine h_ild (w := (g_W D σ1)) (xs := [(pp1, h_row D ([nI (pth_ 25 (N w)).1, nI (pth_ 25 (N w)).2.1, (pth_ 25 (N w)).2.2])), (q3, h_row D ([nI ((N w).length), nI ((N w).length - 1), 0, 0, 0, 0, 0]))]) (i := 0) (R := [nI (pth_ 25 (N w)).1, nI (pth_ 25 (N w)).2.1, (pth_ 25 (N w)).2.2]) (j := 0) hx hb hE hP (rfl) (show 0 < 3 by decide) (show 3 < 2 ^ 31 by decide) (v := nI ((pth_ 25 (N w)).1)) (rfl) dX3_isSame_91 ?_
              refine h_ist (w := (g_W D σ1)) (xs := [(pp1, h_row D ([nI (pth_ 25 (N w)).1, nI (pth_ 25 (N w)).2.1, (pth_ 25 (N w)).2.2])), (q3, h_row D ([nI ((N w).length), nI ((N w).length - 1), 0, 0, 0, 0, 0]))]) (i := 1) (R := [nI ((N w).length), nI ((N w).length - 1), 0, 0, 0, 0, 0]) (j := 2) (x := nI ((pth_ 25 (N w)).1)) hx hb hE hP hD hS (rfl) (show 2 < 7 by decide) (show 7 < 2 ^ 31 by decide) dX3_isSame_92 (fun H locs hP hD hS => ?_)
              rw [show ([nI ((N w).length), nI ((N w).length - 1), 0, 0, 0, 0, 0] : List Int32).set 2 (nI ((pth_ 25 (N w)).1)) = [nI ((N w).length), nI ((N w).length - 1), nI ((pth_ 25 (N w)).1), 0, 0, 0, 0] from rfl] at hP hD
              have hP : va_P D vwCl ((g_W D σ1) ++ [(pp1, h_row D ([nI (pth_ 25 (N w)).1, nI (pth_ 25 (N w)).2.1, (pth_ 25 (N w)).2.2])), (q3, h_row D ([nI ((N w).length), nI ((N w).length - 1), nI ((pth_ 25 (N w)).1), 0, 0, 0, 0]))]) H := hP
              have hD : va_D (va_A ((g_W D σ)) s.heap.size) ((g_W D σ1) ++ [(pp1, h_row D ([nI (pth_ 25 (N w)).1, nI (pth_ 25 (N w)).2.1, (pth_ 25 (N w)).2.2])), (q3, h_row D ([nI ((N w).length), nI ((N w).length - 1), nI ((pth_ 25 (N w)).1), 0, 0, 0, 0]))]) := hD
              refine lv_dup hx hb dX3_isSame_93 rfl ?_
              refine lv_iconst (v := nI 3) hx hb dX3_isSame_94 (by decide) ?_
              refine lv_aload hx hb dX3_isSame_95 (lv_at hl 4 rfl) ?_
              refine lv_iconst (v := nI 1) hx hb dX3_isSame_97 (by decide) ?_
              refine h_ild (w := (g_W D σ1)) (xs := [(pp1, h_row D ([nI (pth_ 25 (N w)).1, nI (pth_ 25 (N w)).2.1, (pth_ 25 (N w)).2.2])), (q3, h_row D ([nI ((N w).length), nI ((N w).length - 1), nI ((pth_ 25 (N w)).1), 0, 0, 0, 0]))]) (i := 0) (R := [nI (pth_ 25 (N w)).1, nI (pth_ 25 (N w)).2.1, (pth_ 25 (N w)).2.2]) (j := 1) hx hb hE hP (rfl) (show 1 < 3 by decide) (show 3 < 2 ^ 31 by decide) (v := nI ((pth_ 25 (N w)).2.1)) (rfl) dX3_isSame_98 ?_
              refine h_ist (w := (g_W D σ1)) (xs := [(pp1, h_row D ([nI (pth_ 25 (N w)).1, nI (pth_ 25 (N w)).2.1, (pth_ 25 (N w)).2.2])), (q3, h_row D ([nI ((N w).length), nI ((N w).length - 1), nI ((pth_ 25 (N w)).1), 0, 0, 0, 0]))]) (i := 1) (R := [nI ((N w).length), nI ((N w).length - 1), nI ((pth_ 25 (N w)).1), 0, 0, 0, 0]) (j := 3) (x := nI ((pth_ 25 (N w)).2.1)) hx hb hE hP hD hS (rfl) (show 3 < 7 by decide) (show 7 < 2 ^ 31 by decide) dX3_isSame_99 (fun H locs hP hD hS => ?_)
              rw [show ([nI ((N w).length), nI ((N w).length - 1), nI ((pth_ 25 (N w)).1), 0, 0, 0, 0] : List Int32).set 3 (nI ((pth_ 25 (N w)).2.1)) = [nI ((N w).length), nI ((N w).length - 1), nI ((pth_ 25 (N w)).1), nI ((pth_ 25 (N w)).2.1), 0, 0, 0] from rfl] at hP hD
              have hP : va_P D vwCl ((g_W D σ1) ++ [(pp1, h_row D ([nI (pth_ 25 (N w)).1, nI (pth_ 25 (N w)).2.1, (pth_ 25 (N w)).2.2])), (q3, h_row D ([nI ((N w).length), nI ((N w).length - 1), nI ((pth_ 25 (N w)).1), nI ((pth_ 25 (N w)).2.1), 0, 0, 0]))]) H := hP
              have hD : va_D (va_A ((g_W D σ)) s.heap.size) ((g_W D σ1) ++ [(pp1, h_row D ([nI (pth_ 25 (N w)).1, nI (pth_ 25 (N w)).2.1, (pth_ 25 (N w)).2.2])), (q3, h_row D ([nI ((N w).length), nI ((N w).length - 1), nI ((pth_ 25 (N w)).1), nI ((pth_ 25 (N w)).2.1), 0, 0, 0]))]) := hD
              refine lv_dup hx hb dX3_isSame_100 rfl ?_
              refine lv_iconst (v := nI 4) hx hb dX3_isSame_101 (by decide) ?_
              refine lv_aload_n hx hb dX3_isSame_102 rfl (lv_at hl 5 rfl) ?_
              refine h_callS (y := yX3_shared) (n := 1) (As := [.ref (q (3 + w))]) (rest := [.int (nI 4), .ref q3, .ref q3]) hx hb hml hown hts hE hZ hS hl.1 (m_X3_shared l D (q (3 + w)) (N w) hn9 hrn9) (h_pick (w := []) (xs := (h_SW D q N M)) (i := (3 + w)) (h_rk hR hap hS) (h_SWn (by omega))) h_P0 (h_Anil hS h_Asz) (fun _ _ _ => trivial) (h_jR hP hD (h_Anil hS h_Asz)) k_X3_76 rfl rfl ⟨Nat.le_of_ble_eq_true rfl, Nat.le_of_ble_eq_true rfl⟩ (Nat.le_of_ble_eq_true rfl) ⟨by show (((2100 * w) + (6 * (N w).length - 3 + (1 - (N w).length))) + 1) + 0 ≤ 4200; omega, by show (((15000 * w) + (60 * (N w).length - 57 + 3 * (1 - (N w).length))) + 7) + 0 ≤ 30000; omega⟩ dX3_isSame_103 (fun v4 w1 H locs hq hP hD hS => ?_)
              obtain ⟨rfl, rfl⟩ := hq
              rw [List.append_nil] at hP hD
              have hP : va_P D vwCl ((g_W D σ1) ++ [(pp1, h_row D ([nI (pth_ 25 (N w)).1, nI (pth_ 25 (N w)).2.1, (pth_ 25 (N w)).2.2])), (q3, h_row D ([nI ((N w).length), nI ((N w).length - 1), nI ((pth_ 25 (N w)).1), nI ((pth_ 25 (N w)).2.1), 0, 0, 0]))]) H := hP
              have hD : va_D (va_A ((g_W D σ)) s.heap.size) ((g_W D σ1) ++ [(pp1, h_row D ([nI (pth_ 25 (N w)).1, nI (pth_ 25 (N w)).2.1, (pth_ 25 (N w)).2.2])), (q3, h_row D ([nI ((N w).length), nI ((N w).length - 1), nI ((pth_ 25 (N w)).1), nI ((pth_ 25 (N w)).2.1), 0, 0, 0]))]) := hD
              refine W.widen (k := ((((2100 * w) + (6 * (N w).length - 3 + (1 - (N w).length))) + 1) + 0)) (n := ((((15000 * w) + (60 * (N w).length - 57 + 3 * (1 - (N w).length))) + 7) + 0)) (Nat.le_refl _) (Nat.le_refl _) ?_
              refine W.eq (g2 := F0 m 106 ls [.int (if (N w).length = 0 then 0 else nI 15 - bt_ (N w)), .int (nI 4), .ref q3, .ref q3]) rfl ?_
              refine h_ist (w := (g_W D σ1)) (xs := [(pp1, h_row D ([nI (pth_ 25 (N w)).1, nI (pth_ 25 (N w)).2.1, (pth_ 25 (N w)).2.2])), (q3, h_row D ([nI ((N w).length), nI ((N w).length - 1), nI ((pth_ 25 (N w)).1), nI ((pth_ 25 (N w)).2.1), 0, 0, 0]))]) (i := 1) (R := [nI ((N w).length), nI ((N w).length - 1), nI ((pth_ 25 (N w)).1), nI ((pth_ 25 (N w)).2.1), 0, 0, 0]) (j := 4) (x := if (N w).length = 0 then 0 else nI 15 - bt_ (N w)) hx hb hE hP hD hS (rfl) (show 4 < 7 by decide) (show 7 < 2 ^ 31 by decide) dX3_isSame_106 (fun H locs hP hD hS => ?_)
              rw [show ([nI ((N w).length), nI ((N w).length - 1), nI ((pth_ 25 (N w)).1), nI ((pth_ 25 (N w)).2.1), 0, 0, 0] : List Int32).set 4 (if (N w).length = 0 then 0 else nI 15 - bt_ (N w)) = [nI ((N w).length), nI ((N w).length - 1), nI ((pth_ 25 (N w)).1), nI ((pth_ 25 (N w)).2.1), if (N w).length = 0 then 0 else nI 15 - bt_ (N w), 0, 0] from rfl] at hP hD
              have hP : va_P D vwCl ((g_W D σ1) ++ [(pp1, h_row D ([nI (pth_ 25 (N w)).1, nI (pth_ 25 (N w)).2.1, (pth_ 25 (N w)).2.2])), (q3, h_row D ([nI ((N w).length), nI ((N w).length - 1), nI ((pth_ 25 (N w)).1), nI ((pth_ 25 (N w)).2.1), if (N w).length = 0 then 0 else nI 15 - bt_ (N w), 0, 0]))]) H := hP
              have hD : va_D (va_A ((g_W D σ)) s.heap.size) ((g_W D σ1) ++ [(pp1, h_row D ([nI (pth_ 25 (N w)).1, nI (pth_ 25 (N w)).2.1, (pth_ 25 (N w)).2.2])), (q3, h_row D ([nI ((N w).length), nI ((N w).length - 1), nI ((pth_ 25 (N w)).1), nI ((pth_ 25 (N w)).2.1), if (N w).length = 0 then 0 else nI 15 - bt_ (N w), 0, 0]))]) := hD
              refine lv_dup hx hb dX3_isSame_107 rfl ?_
              refine lv_iconst (v := nI 5) hx hb dX3_isSame_108 (by decide) ?_
              refine lv_aload hx hb dX3_isSame_109 (lv_at hl 4 rfl) ?_
              refine lv_iconst (v := nI 2) hx hb dX3_isSame_111 (by decide) ?_
              refine h_ild (w := (g_W D σ1)) (xs := [(pp1, h_row D ([nI (pth_ 25 (N w)).1, nI (pth_ 25 (N w)).2.1, (pth_ 25 (N w)).2.2])), (q3, h_row D ([nI ((N w).length), nI ((N w).length - 1), nI ((pth_ 25 (N w)).1), nI ((pth_ 25 (N w)).2.1), if (N w).length = 0 then 0 else nI 15 - bt_ (N w), 0, 0]))]) (i := 0) (R := [nI (pth_ 25 (N w)).1, nI (pth_ 25 (N w)).2.1, (pth_ 25 (N w)).2.2]) (j := 2) hx hb hE hP (rfl) (show 2 < 3 by decide) (show 3 < 2 ^ 31 by decide) (v := (pth_ 25 (N w)).2.2) (rfl) dX3_isSame_112 ?_
              refine h_ist (w := (g_W D σ1)) (xs := [(pp1, h_row D ([nI (pth_ 25 (N w)).1, nI (pth_ 25 (N w)).2.1, (pth_ 25 (N w)).2.2])), (q3, h_row D ([nI ((N w).length), nI ((N w).length - 1), nI ((pth_ 25 (N w)).1), nI ((pth_ 25 (N w)).2.1), if (N w).length = 0 then 0 else nI 15 - bt_ (N w), 0, 0]))]) (i := 1) (R := [nI ((N w).length), nI ((N w).length - 1), nI ((pth_ 25 (N w)).1), nI ((pth_ 25 (N w)).2.1), if (N w).length = 0 then 0 else nI 15 - bt_ (N w), 0, 0]) (j := 5) (x := (pth_ 25 (N w)).2.2) hx hb hE hP hD hS (rfl) (show 5 < 7 by decide) (show 7 < 2 ^ 31 by decide) dX3_isSame_113 (fun H locs hP hD hS => ?_)
              rw [show ([nI ((N w).length), nI ((N w).length - 1), nI ((pth_ 25 (N w)).1), nI ((pth_ 25 (N w)).2.1), if (N w).length = 0 then 0 else nI 15 - bt_ (N w), 0, 0] : List Int32).set 5 ((pth_ 25 (N w)).2.2) = [nI ((N w).length), nI ((N w).length - 1), nI ((pth_ 25 (N w)).1), nI ((pth_ 25 (N w)).2.1), if (N w).length = 0 then 0 else nI 15 - bt_ (N w), (pth_ 25 (N w)).2.2, 0] from rfl] at hP hD
              have hP : va_P D vwCl ((g_W D σ1) ++ [(pp1, h_row D ([nI (pth_ 25 (N w)).1, nI (pth_ 25 (N w)).2.1, (pth_ 25 (N w)).2.2])), (q3, h_row D ([nI ((N w).length), nI ((N w).length - 1), nI ((pth_ 25 (N w)).1), nI ((pth_ 25 (N w)).2.1), if (N w).length = 0 then 0 else nI 15 - bt_ (N w), (pth_ 25 (N w)).2.2, 0]))]) H := hP
              have hD : va_D (va_A ((g_W D σ)) s.heap.size) ((g_W D σ1) ++ [(pp1, h_row D ([nI (pth_ 25 (N w)).1, nI (pth_ 25 (N w)).2.1, (pth_ 25 (N w)).2.2])), (q3, h_row D ([nI ((N w).length), nI ((N w).length - 1), nI ((pth_ 25 (N w)).1), nI ((pth_ 25 (N w)).2.1), if (N w).length = 0 then 0 else nI 15 - bt_ (N w), (pth_ 25 (N w)).2.2, 0]))]) := hD
              refine lv_dup hx hb dX3_isSame_114 rfl ?_
              refine lv_bipush (v := nI 6) hx hb dX3_isSame_115 (by decide) ?_
              refine lv_iload hx hb dX3_isSame_117 (lv_at hl 3 rfl) ?_
              refine h_ist (w := (g_W D σ1)) (xs := [(pp1, h_row D ([nI (pth_ 25 (N w)).1, nI (pth_ 25 (N w)).2.1, (pth_ 25 (N w)).2.2])), (q3, h_row D ([nI ((N w).length), nI ((N w).length - 1), nI ((pth_ 25 (N w)).1), nI ((pth_ 25 (N w)).2.1), if (N w).length = 0 then 0 else nI 15 - bt_ (N w), (pth_ 25 (N w)).2.2, 0]))]) (i := 1) (R := [nI ((N w).length), nI ((N w).length - 1), nI ((pth_ 25 (N w)).1), nI ((pth_ 25 (N w)).2.1), if (N w).length = 0 then 0 else nI 15 - bt_ (N w), (pth_ 25 (N w)).2.2, 0]) (j := 6) (x := mi_ (M w)) hx hb hE hP hD hS (rfl) (show 6 < 7 by decide) (show 7 < 2 ^ 31 by decide) dX3_isSame_119 (fun H locs hP hD hS => ?_)
              rw [show ([nI ((N w).length), nI ((N w).length - 1), nI ((pth_ 25 (N w)).1), nI ((pth_ 25 (N w)).2.1), if (N w).length = 0 then 0 else nI 15 - bt_ (N w), (pth_ 25 (N w)).2.2, 0] : List Int32).set 6 (mi_ (M w)) = [nI ((N w).length), nI ((N w).length - 1), nI ((pth_ 25 (N w)).1), nI ((pth_ 25 (N w)).2.1), if (N w).length = 0 then 0 else nI 15 - bt_ (N w), (pth_ 25 (N w)).2.2, mi_ (M w)] from rfl] at hP hD
              have hP : va_P D vwCl ((g_W D σ1) ++ [(pp1, h_row D ([nI (pth_ 25 (N w)).1, nI (pth_ 25 (N w)).2.1, (pth_ 25 (N w)).2.2])), (q3, h_row D ([nI ((N w).length), nI ((N w).length - 1), nI ((pth_ 25 (N w)).1), nI ((pth_ 25 (N w)).2.1), if (N w).length = 0 then 0 else nI 15 - bt_ (N w), (pth_ 25 (N w)).2.2, mi_ (M w)]))]) H := hP
              have hD : va_D (va_A ((g_W D σ)) s.heap.size) ((g_W D σ1) ++ [(pp1, h_row D ([nI (pth_ 25 (N w)).1, nI (pth_ 25 (N w)).2.1, (pth_ 25 (N w)).2.2])), (q3, h_row D ([nI ((N w).length), nI ((N w).length - 1), nI ((pth_ 25 (N w)).1), nI ((pth_ 25 (N w)).2.1), if (N w).length = 0 then 0 else nI 15 - bt_ (N w), (pth_ 25 (N w)).2.2, mi_ (M w)]))]) := hD
              refine lv_astore (lv' := [(6, .ref q3), (8, .int (nI i)), (7, .int (nI ((M w).length))), (5, .int (mi_ (M w))), (4, .ref pp1), (3, .ref (q (3 + w))), (0, .ref (q 0)), (1, .ref (ad_ D 0)), (2, .int (nI w))]) hx hb dX3_isSame_120 hl (by decide) rfl (fun ls hl => ?_)
              have hdue : ∀ i, i < 7 → cn_ (Ls w) i = ([nI (N w).length, nI ((N w).length - 1), nI (pth_ 25 (N w)).1, nI (pth_ 25 (N w)).2.1, if (N w).length = 0 then 0 else nI 15 - bt_ (N w), (pth_ 25 (N w)).2.2, mi_ (M w)] : List Int32).getD i 0 := by
                intro i hi
                rcases (show i = 0 ∨ i = 1 ∨ i = 2 ∨ i = 3 ∨ i = 4 ∨ i = 5 ∨ i = 6 by omega) with rfl | rfl | rfl | rfl | rfl | rfl | rfl
                · exact c0
                · exact c1
                · exact c2
                · exact c3
                · exact c4
                · exact c5
                · exact c6
              refine lv_iconst (v := nI 0) hx hb dX3_isSame_122 (by decide) ?_
              refine lv_istore (lv' := [(7, .int (nI 0)), (6, .ref q3), (8, .int (nI i)), (5, .int (mi_ (M w))), (4, .ref pp1), (3, .ref (q (3 + w))), (0, .ref (q 0)), (1, .ref (ad_ D 0)), (2, .int (nI w))]) hx hb dX3_isSame_123 hl (by decide) rfl (fun ls hl => ?_)
              have K125 : ∀ (fuel125 : Nat) (i : Nat) (σ2 : Nat → va_E), (7 - i) < fuel125 → (i ≤ 7) → (g_C D σ2 Ls) → ∀ (H : Heap) (locs : List Loc), va_P D vwCl ((g_W D σ2) ++ [(pp1, h_row D ([nI (pth_ 25 (N w)).1, nI (pth_ 25 (N w)).2.1, (pth_ 25 (N w)).2.2])), (q3, h_row D ([nI ((N w).length), nI ((N w).length - 1), nI ((pth_ 25 (N w)).1), nI ((pth_ 25 (N w)).2.1), if (N w).length = 0 then 0 else nI 15 - bt_ (N w), (pth_ 25 (N w)).2.2, mi_ (M w)]))]) H → va_D (va_A ((g_W D σ)) s.heap.size) ((g_W D σ2) ++ [(pp1, h_row D ([nI (pth_ 25 (N w)).1, nI (pth_ 25 (N w)).2.1, (pth_ 25 (N w)).2.2])), (q3, h_row D ([nI ((N w).length), nI ((N w).length - 1), nI ((pth_ 25 (N w)).1), nI ((pth_ 25 (N w)).2.1), if (N w).length = 0 then 0 else nI 15 - bt_ (N w), (pth_ 25 (N w)).2.2, mi_ (M w)]))]) → va_S (va_A ((g_W D σ)) s.heap.size) s.heap H locs → ∀ ls : Array Slot, lv_has ls 10 [(7, .int (nI i)), (6, .ref q3), (4, .ref pp1), (3, .ref (q (3 + w))), (0, .ref (q 0)), (1, .ref (ad_ D 0)), (2, .int (nI w))] → W p l e m_X3_isSame_rm s m args below meth c H locs (((((2100 * w) + (6 * (N w).length - 3 + (1 - (N w).length))) + 1) + 0) + 5 * i) (((((15000 * w) + (60 * (N w).length - 57 + 3 * (1 - (N w).length))) + 7) + 0) + 30 * i) Q (F0 m 125 ls []) := by
                intro fuel125
                induction fuel125 with
                | zero => intro i σ2 hf; exact absurd hf (Nat.not_lt_zero _)
                | succ fuel125 ih125 =>
                  intro i σ2 hf125 hi hC2 H locs hP hD hS ls hl
                  refine lv_iload hx hb dX3_isSame_125 (lv_at hl 0 rfl) ?_
                  refine lv_bipush (v := nI 7) hx hb dX3_isSame_127 (by decide) ?_
                  refine lv_icmp_ge (tgt := 155) hx hb dX3_isSame_129 (by decide) (fun h129 => ?_) (fun h129 => ?_)
                  · have hb129 := g_le (a := 7) (b := i) h129 (by omega) (by omega)
                    refine lv_iconst (v := nI 0) hx hb dX3_isSame_155 (by decide) ?_
                    refine lv_istore (lv' := [(7, .int (nI 0)), (6, .ref q3), (4, .ref pp1), (3, .ref (q (3 + w))), (0, .ref (q 0)), (1, .ref (ad_ D 0)), (2, .int (nI w))]) hx hb dX3_isSame_156 hl (by decide) rfl (fun ls hl => ?_)
                    have K158 : ∀ (fuel158 : Nat) (k : Nat) (σ3 : Nat → va_E), ((N w).length - k) < fuel158 → (k ≤ (N w).length) → (g_C D σ3 Ls) → ∀ (H : Heap) (locs : List Loc), va_P D vwCl ((g_W D σ3) ++ [(pp1, h_row D ([nI (pth_ 25 (N w)).1, nI (pth_ 25 (N w)).2.1, (pth_ 25 (N w)).2.2])), (q3, h_row D ([nI ((N w).length), nI ((N w).length - 1), nI ((pth_ 25 (N w)).1), nI ((pth_ 25 (N w)).2.1), if (N w).length = 0 then 0 else nI 15 - bt_ (N w), (pth_ 25 (N w)).2.2, mi_ (M w)]))]) H → va_D (va_A ((g_W D σ)) s.heap.size) ((g_W D σ3) ++ [(pp1, h_row D ([nI (pth_ 25 (N w)).1, nI (pth_ 25 (N w)).2.1, (pth_ 25 (N w)).2.2])), (q3, h_row D ([nI ((N w).length), nI ((N w).length - 1), nI ((pth_ 25 (N w)).1), nI ((pth_ 25 (N w)).2.1), if (N w).length = 0 then 0 else nI 15 - bt_ (N w), (pth_ 25 (N w)).2.2, mi_ (M w)]))]) → va_S (va_A ((g_W D σ)) s.heap.size) s.heap H locs → ∀ ls : Array Slot, lv_has ls 10 [(7, .int (nI k)), (4, .ref pp1), (3, .ref (q (3 + w))), (0, .ref (q 0)), (1, .ref (ad_ D 0)), (2, .int (nI w))] → W p l e m_X3_isSame_rm s m args below meth c H locs ((((((2100 * w) + (6 * (N w).length - 3 + (1 - (N w).length))) + 1) + 0) + 5 * i) + 5 * k) ((((((15000 * w) + (60 * (N w).length - 57 + 3 * (1 - (N w).length))) + 7) + 0) + 30 * i) + 30 * k) Q (F0 m 158 ls []) := by
                      intro fuel158
                      induction fuel158 with
                      | zero => intro k σ3 hf; exact absurd hf (Nat.not_lt_zero _)
                      | succ fuel158 ih158 =>
                        intro k σ3 hf158 hk hC3 H locs hP hD hS ls hl
                        refine lv_iload hx hb dX3_isSame_158 (lv_at hl 0 rfl) ?_
                        refine lv_aload_n hx hb dX3_isSame_160 rfl (lv_at hl 2 rfl) ?_
                        refine h_aln (w := []) (xs := (h_SW D q N M)) (i := (3 + w)) (R := N w) hx hb hE (h_rk hR hap hS) (h_SWn (by omega)) dX3_isSame_161 ?_
                        refine lv_icmp_ge (tgt := 194) hx hb dX3_isSame_162 (by decide) (fun h162 => ?_) (fun h162 => ?_)
                        · have hb162 := g_le (a := (N w).length) (b := k) h162 (by omega) (by omega)
                          refine lv_aload_n hx hb dX3_isSame_194 rfl (lv_at hl 2 rfl) ?_
                          refine h_aln (w := []) (xs := (h_SW D q N M)) (i := (3 + w)) (R := N w) hx hb hE (h_rk hR hap hS) (h_SWn (by omega)) dX3_isSame_195 ?_
                          refine lv_if_le (tgt := 218) hx hb dX3_isSame_196 (by decide) (fun h196 => ?_) (fun h196 => ?_)
                          · have hb196 := g_le (a := (N w).length) (b := 0) h196 (by omega) (by omega)
                            refine lv_aload_n hx hb dX3_isSame_218 rfl (lv_at hl 4 rfl) ?_
                            refine lv_iload_n hx hb dX3_isSame_219 rfl (lv_at hl 5 rfl) ?_
                            refine h_callV (y := yX2_mean) (n := 1) (As := [.int (nI w)]) (rest := []) hx hb hml hown hts hE hZ hS hl.1 ((n_mean l hst D hAD σ3 Ls hC3 hvC w (by omega)).h hAD) h_P0 (h_prf hP) (h_AP hD hS h_Asz) (fun _ _ _ => trivial) (h_jP hP hD (h_AP hD hS h_Asz)) k_X3_84 (wr := (g_W D σ3)) (q0 := 0) (ci := 2) (h_prf hP) (g_at (by decide) hC3.1) rfl rfl rfl rfl ⟨Nat.le_of_ble_eq_true rfl, Nat.le_of_ble_eq_true rfl⟩ (Nat.le_of_ble_eq_true rfl) ⟨by show ((((((2100 * w) + (6 * (N w).length - 3 + (1 - (N w).length))) + 1) + 0) + 5 * i) + 5 * k) + 5 ≤ 4200; omega, by show ((((((15000 * w) + (60 * (N w).length - 57 + 3 * (1 - (N w).length))) + 7) + 0) + 30 * i) + 30 * k) + 30 ≤ 30000; omega⟩ dX3_isSame_220 (fun v7 w1 H locs hq hP hD hS => ?_)
                            obtain ⟨σ_5, ⟨rfl, hC_6⟩, rfl⟩ := hq
                            have hP : va_P D vwCl ((g_W D σ_5) ++ [(pp1, h_row D ([nI (pth_ 25 (N w)).1, nI (pth_ 25 (N w)).2.1, (pth_ 25 (N w)).2.2])), (q3, h_row D ([nI ((N w).length), nI ((N w).length - 1), nI ((pth_ 25 (N w)).1), nI ((pth_ 25 (N w)).2.1), if (N w).length = 0 then 0 else nI 15 - bt_ (N w), (pth_ 25 (N w)).2.2, mi_ (M w)]))]) H := hP
                            have hD : va_D (va_A ((g_W D σ)) s.heap.size) ((g_W D σ_5) ++ [(pp1, h_row D ([nI (pth_ 25 (N w)).1, nI (pth_ 25 (N w)).2.1, (pth_ 25 (N w)).2.2])), (q3, h_row D ([nI ((N w).length), nI ((N w).length - 1), nI ((pth_ 25 (N w)).1), nI ((pth_ 25 (N w)).2.1), if (N w).length = 0 then 0 else nI 15 - bt_ (N w), (pth_ 25 (N w)).2.2, mi_ (M w)]))]) := hD
                            refine W.widen (k := (((((((2100 * w) + (6 * (N w).length - 3 + (1 - (N w).length))) + 1) + 0) + 5 * i) + 5 * k) + 5)) (n := (((((((15000 * w) + (60 * (N w).length - 57 + 3 * (1 - (N w).length))) + 7) + 0) + 30 * i) + 30 * k) + 30)) (Nat.le_refl _) (Nat.le_refl _) ?_
                            refine W.eq (g2 := F0 m 223 ls [.double (me_ (Ls w))]) rfl ?_
                            refine lv_aload_n hx hb dX3_isSame_223 rfl (lv_at hl 2 rfl) ?_
                            refine h_aln (w := []) (xs := (h_SW D q N M)) (i := (3 + w)) (R := N w) hx hb hE (h_rk hR hap hS) (h_SWn (by omega)) dX3_isSame_224 ?_
                            refine lv_if_ne (tgt := 232) hx hb dX3_isSame_225 (by decide) (fun h225 => ?_) (fun h225 => ?_)
                            · have hb225 := g_ne (a := (N w).length) (b := 0) h225 (by omega) (by omega)
                              have hle9 := SR_len hSR (show w ≤ 1 by omega)
                              refine lv_aload hx hb dX3_isSame_232 (lv_at hl 1 rfl) ?_
                              refine lv_iconst (v := nI 1) hx hb dX3_isSame_234 (by decide) ?_
                              refine h_ild (w := (g_W D σ_5)) (xs := [(pp1, h_row D ([nI (pth_ 25 (N w)).1, nI (pth_ 25 (N w)).2.1, (pth_ 25 (N w)).2.2])), (q3, h_row D ([nI ((N w).length), nI ((N w).length - 1), nI ((pth_ 25 (N w)).1), nI ((pth_ 25 (N w)).2.1), if (N w).length = 0 then 0 else nI 15 - bt_ (N w), (pth_ 25 (N w)).2.2, mi_ (M w)]))]) (i := 0) (R := [nI (pth_ 25 (N w)).1, nI (pth_ 25 (N w)).2.1, (pth_ 25 (N w)).2.2]) (j := 1) hx hb hE hP (rfl) (show 1 < 3 by decide) (show 3 < 2 ^ 31 by decide) (v := nI ((pth_ 25 (N w)).2.1)) (rfl) dX3_isSame_235 ?_
                              refine lv_i2d hx hb dX3_isSame_236 ?_
                              refine lv_aload_n hx hb dX3_isSame_237 rfl (lv_at hl 2 rfl) ?_
                              refine h_aln (w := []) (xs := (h_SW D q N M)) (i := (3 + w)) (R := N w) hx hb hE (h_rk hR hap hS) (h_SWn (by omega)) dX3_isSame_238 ?_
                              refine lv_i2d hx hb dX3_isSame_239 ?_
                              have hme : FP.ddiv (FP.i2d (nI (pth_ 25 (N w)).2.1)) (FP.i2d (nI (N w).length)) = me_ (Ls w) := by rw [me_, if_neg (by omega), ← c3, hle9]; rfl
                              refine lv_ddiv hx hb dX3_isSame_240 ((by rw [hme]; exact me_ok (hvC w (by omega)).1 (hvC w (by omega)).2 (by omega))) ?_
                              refine lv_dcmp hx hb dX3_isSame_241 ?_
                              refine g_top (y := nI 0) (by rw [hme]; exact dc_self (me_ok (hvC w (by omega)).1 (hvC w (by omega)).2 (by omega))) ?_
                              refine lv_if_eq (tgt := 247) hx hb dX3_isSame_242 (by decide) (fun h242 => ?_) (fun h242 => ?_)
                              · obtain ⟨hP, hD⟩ := h_sub (ys := []) hP hD [] rfl rfl
                                have hP : va_P D vwCl ((g_W D σ_5) ++ []) H := hP
                                have hD : va_D (va_A ((g_W D σ)) s.heap.size) ((g_W D σ_5) ++ []) := hD
                                refine lv_iinc (v := nI (w + 1)) (lv' := [(2, .int (nI (w + 1))), (7, .int (nI k)), (4, .ref pp1), (3, .ref (q (3 + w))), (0, .ref (q 0)), (1, .ref (ad_ D 0))]) hx hb dX3_isSame_247 hl (k := 5) rfl (g_inc w) (by decide) rfl (fun ls hl => ?_)
                                refine lv_goto (tgt := 2) hx hb dX3_isSame_250 (by decide) ?_
                                refine W.widen (k := (2100 * (w + 1))) (n := (15000 * (w + 1))) (by omega) (by omega) ?_
                                exact ih2 (w + 1) σ_5 (by omega) (by omega) hC_6 _ _ hP hD hS ls (lv_sub hl [4, 5, 0] rfl)
                              · exact absurd rfl h242
                            · have hb225 := g_eq (a := (N w).length) (b := 0) h225 (by omega) (by omega)
                              have hle9 := SR_len hSR (show w ≤ 1 by omega)
                              refine lv_dconst0 hx hb dX3_isSame_228 ?_
                              refine lv_goto (tgt := 241) hx hb dX3_isSame_229 (by decide) ?_
                              refine lv_dcmp hx hb dX3_isSame_241 ?_
                              refine g_top (y := nI 0) (by rw [me_, if_pos (by omega)]; exact dc_self (by unfold vf_n64; decide)) ?_
                              refine lv_if_eq (tgt := 247) hx hb dX3_isSame_242 (by decide) (fun h242 => ?_) (fun h242 => ?_)
                              · obtain ⟨hP, hD⟩ := h_sub (ys := []) hP hD [] rfl rfl
                                have hP : va_P D vwCl ((g_W D σ_5) ++ []) H := hP
                                have hD : va_D (va_A ((g_W D σ)) s.heap.size) ((g_W D σ_5) ++ []) := hD
                                refine lv_iinc (v := nI (w + 1)) (lv' := [(2, .int (nI (w + 1))), (7, .int (nI k)), (4, .ref pp1), (3, .ref (q (3 + w))), (0, .ref (q 0)), (1, .ref (ad_ D 0))]) hx hb dX3_isSame_247 hl (k := 5) rfl (g_inc w) (by decide) rfl (fun ls hl => ?_)
                                refine lv_goto (tgt := 2) hx hb dX3_isSame_250 (by decide) ?_
                                refine W.widen (k := (2100 * (w + 1))) (n := (15000 * (w + 1))) (by omega) (by omega) ?_
                                exact ih2 (w + 1) σ_5 (by omega) (by omega) hC_6 _ _ hP hD hS ls (lv_sub hl [4, 5, 0] rfl)
                              · exact absurd rfl h242
                          · have hb196 := g_nle (a := (N w).length) (b := 0) h196 (by omega) (by omega)
                            refine lv_aload_n hx hb dX3_isSame_199 rfl (lv_at hl 4 rfl) ?_
                            refine lv_iload_n hx hb dX3_isSame_200 rfl (lv_at hl 5 rfl) ?_
                            refine lv_iconst (v := nI 0) hx hb dX3_isSame_201 (by decide) ?_
                            refine lv_aload_n hx hb dX3_isSame_202 rfl (lv_at hl 2 rfl) ?_
                            refine lv_iconst (v := nI 0) hx hb dX3_isSame_203 (by decide) ?_
                            refine h_callS (y := yX3_signs) (n := 5) (As := [.ref (ad_ D 0), .int (nI w), .int (nI 0), .ref (q (3 + w)), .int (nI 0)]) (rest := []) hx hb hml hown hts hE hZ hS hl.1 (m_X3_signs l hst D hAD Ls hvC 25 σ3 w 0 (q (3 + w)) (N w) 0 (by omega) hC3 (SG_0 (hvC w (by omega)).1 (SR_N hSR (by omega)) (by omega)) hn9 hrn9 (h_apW (h_ap1 hap (h_SWn (by omega)))) (by omega) (by omega)) (h_pick (w := []) (xs := (h_SW D q N M)) (i := (3 + w)) (h_rk hR hap hS) (h_SWn (by omega))) (h_prf hP) (h_AP hD hS h_Asz) (fun _ _ _ => trivial) (h_jP hP hD (h_AP hD hS h_Asz)) k_X3_68 rfl rfl ⟨Nat.le_of_ble_eq_true rfl, Nat.le_of_ble_eq_true rfl⟩ (Nat.le_of_ble_eq_true rfl) ⟨by show ((((((2100 * w) + (6 * (N w).length - 3 + (1 - (N w).length))) + 1) + 0) + 5 * i) + 5 * k) + (76 * (N w).length - 38) ≤ 4200; omega, by show ((((((15000 * w) + (60 * (N w).length - 57 + 3 * (1 - (N w).length))) + 7) + 0) + 30 * i) + 30 * k) + (524 * (N w).length - 262) ≤ 30000; omega⟩ dX3_isSame_204 (fun v12 w1 H locs hq hP hD hS => ?_)
                            obtain ⟨rfl, σ_10, rfl, hC_11⟩ := hq
                            have hP : va_P D vwCl ((g_W D σ_10) ++ [(pp1, h_row D ([nI (pth_ 25 (N w)).1, nI (pth_ 25 (N w)).2.1, (pth_ 25 (N w)).2.2])), (q3, h_row D ([nI ((N w).length), nI ((N w).length - 1), nI ((pth_ 25 (N w)).1), nI ((pth_ 25 (N w)).2.1), if (N w).length = 0 then 0 else nI 15 - bt_ (N w), (pth_ 25 (N w)).2.2, mi_ (M w)]))]) H := hP
                            have hD : va_D (va_A ((g_W D σ)) s.heap.size) ((g_W D σ_10) ++ [(pp1, h_row D ([nI (pth_ 25 (N w)).1, nI (pth_ 25 (N w)).2.1, (pth_ 25 (N w)).2.2])), (q3, h_row D ([nI ((N w).length), nI ((N w).length - 1), nI ((pth_ 25 (N w)).1), nI ((pth_ 25 (N w)).2.1), if (N w).length = 0 then 0 else nI 15 - bt_ (N w), (pth_ 25 (N w)).2.2, mi_ (M w)]))]) := hD
                            refine W.widen (k := (((((((2100 * w) + (6 * (N w).length - 3 + (1 - (N w).length))) + 1) + 0) + 5 * i) + 5 * k) + (76 * (N w).length - 38))) (n := (((((((15000 * w) + (60 * (N w).length - 57 + 3 * (1 - (N w).length))) + 7) + 0) + 30 * i) + 30 * k) + (524 * (N w).length - 262))) (Nat.le_refl _) (Nat.le_refl _) ?_
                            refine W.eq (g2 := F0 m 207 ls [.int (nI (0 + 2 * (N w).length - 1))]) rfl ?_
                            refine g_top (y := nI (2 * (N w).length - 1)) (by rw [Nat.zero_add]) ?_
                            refine lv_iconst (v := nI 2) hx hb dX3_isSame_207 (by decide) ?_
                            refine lv_aload_n hx hb dX3_isSame_208 rfl (lv_at hl 2 rfl) ?_
                            refine h_aln (w := []) (xs := (h_SW D q N M)) (i := (3 + w)) (R := N w) hx hb hE (h_rk hR hap hS) (h_SWn (by omega)) dX3_isSame_209 ?_
                            refine lv_imul hx hb dX3_isSame_210 ?_
                            refine g_top (y := nI (2 * ((N w).length))) (pk_mul 2 ((N w).length)) ?_
                            refine lv_iconst (v := nI 1) hx hb dX3_isSame_211 (by decide) ?_
                            refine lv_isub hx hb dX3_isSame_212 ?_
                            refine g_top (y := nI ((2 * ((N w).length)) - 1)) (pk_sub (by omega)) ?_
                            refine lv_icmp_eq (tgt := 218) hx hb dX3_isSame_213 (by decide) (fun h213 => ?_) (fun h213 => ?_)
                            · refine lv_aload_n hx hb dX3_isSame_218 rfl (lv_at hl 4 rfl) ?_
                              refine lv_iload_n hx hb dX3_isSame_219 rfl (lv_at hl 5 rfl) ?_
                              refine h_callV (y := yX2_mean) (n := 1) (As := [.int (nI w)]) (rest := []) hx hb hml hown hts hE hZ hS hl.1 ((n_mean l hst D hAD σ_10 Ls hC_11 hvC w (by omega)).h hAD) h_P0 (h_prf hP) (h_AP hD hS h_Asz) (fun _ _ _ => trivial) (h_jP hP hD (h_AP hD hS h_Asz)) k_X3_84 (wr := (g_W D σ_10)) (q0 := 0) (ci := 2) (h_prf hP) (g_at (by decide) hC_11.1) rfl rfl rfl rfl ⟨Nat.le_of_ble_eq_true rfl, Nat.le_of_ble_eq_true rfl⟩ (Nat.le_of_ble_eq_true rfl) ⟨by show (((((((2100 * w) + (6 * (N w).length - 3 + (1 - (N w).length))) + 1) + 0) + 5 * i) + 5 * k) + (76 * (N w).length - 38)) + 5 ≤ 4200; omega, by show (((((((15000 * w) + (60 * (N w).length - 57 + 3 * (1 - (N w).length))) + 7) + 0) + 30 * i) + 30 * k) + (524 * (N w).length - 262)) + 30 ≤ 30000; omega⟩ dX3_isSame_220 (fun v15 w1 H locs hq hP hD hS => ?_)
                              obtain ⟨σ_13, ⟨rfl, hC_14⟩, rfl⟩ := hq
                              have hP : va_P D vwCl ((g_W D σ_13) ++ [(pp1, h_row D ([nI (pth_ 25 (N w)).1, nI (pth_ 25 (N w)).2.1, (pth_ 25 (N w)).2.2])), (q3, h_row D ([nI ((N w).length), nI ((N w).length - 1), nI ((pth_ 25 (N w)).1), nI ((pth_ 25 (N w)).2.1), if (N w).length = 0 then 0 else nI 15 - bt_ (N w), (pth_ 25 (N w)).2.2, mi_ (M w)]))]) H := hP
                              have hD : va_D (va_A ((g_W D σ)) s.heap.size) ((g_W D σ_13) ++ [(pp1, h_row D ([nI (pth_ 25 (N w)).1, nI (pth_ 25 (N w)).2.1, (pth_ 25 (N w)).2.2])), (q3, h_row D ([nI ((N w).length), nI ((N w).length - 1), nI ((pth_ 25 (N w)).1), nI ((pth_ 25 (N w)).2.1), if (N w).length = 0 then 0 else nI 15 - bt_ (N w), (pth_ 25 (N w)).2.2, mi_ (M w)]))]) := hD
                              refine W.widen (k := ((((((((2100 * w) + (6 * (N w).length - 3 + (1 - (N w).length))) + 1) + 0) + 5 * i) + 5 * k) + (76 * (N w).length - 38)) + 5)) (n := ((((((((15000 * w) + (60 * (N w).length - 57 + 3 * (1 - (N w).length))) + 7) + 0) + 30 * i) + 30 * k) + (524 * (N w).length - 262)) + 30)) (Nat.le_refl _) (Nat.le_refl _) ?_
                              refine W.eq (g2 := F0 m 223 ls [.double (me_ (Ls w))]) rfl ?_
                              refine lv_aload_n hx hb dX3_isSame_223 rfl (lv_at hl 2 rfl) ?_
                              refine h_aln (w := []) (xs := (h_SW D q N M)) (i := (3 + w)) (R := N w) hx hb hE (h_rk hR hap hS) (h_SWn (by omega)) dX3_isSame_224 ?_
                              refine lv_if_ne (tgt := 232) hx hb dX3_isSame_225 (by decide) (fun h225 => ?_) (fun h225 => ?_)
                              · have hb225 := g_ne (a := (N w).length) (b := 0) h225 (by omega) (by omega)
                                have hle9 := SR_len hSR (show w ≤ 1 by omega)
                                refine lv_aload hx hb dX3_isSame_232 (lv_at hl 1 rfl) ?_
                                refine lv_iconst (v := nI 1) hx hb dX3_isSame_234 (by decide) ?_
                                refine h_ild (w := (g_W D σ_13)) (xs := [(pp1, h_row D ([nI (pth_ 25 (N w)).1, nI (pth_ 25 (N w)).2.1, (pth_ 25 (N w)).2.2])), (q3, h_row D ([nI ((N w).length), nI ((N w).length - 1), nI ((pth_ 25 (N w)).1), nI ((pth_ 25 (N w)).2.1), if (N w).length = 0 then 0 else nI 15 - bt_ (N w), (pth_ 25 (N w)).2.2, mi_ (M w)]))]) (i := 0) (R := [nI (pth_ 25 (N w)).1, nI (pth_ 25 (N w)).2.1, (pth_ 25 (N w)).2.2]) (j := 1) hx hb hE hP (rfl) (show 1 < 3 by decide) (show 3 < 2 ^ 31 by decide) (v := nI ((pth_ 25 (N w)).2.1)) (rfl) dX3_isSame_235 ?_
                                refine lv_i2d hx hb dX3_isSame_236 ?_
                                refine lv_aload_n hx hb dX3_isSame_237 rfl (lv_at hl 2 rfl) ?_
                                refine h_aln (w := []) (xs := (h_SW D q N M)) (i := (3 + w)) (R := N w) hx hb hE (h_rk hR hap hS) (h_SWn (by omega)) dX3_isSame_238 ?_
                                refine lv_i2d hx hb dX3_isSame_239 ?_
                                have hme : FP.ddiv (FP.i2d (nI (pth_ 25 (N w)).2.1)) (FP.i2d (nI (N w).length)) = me_ (Ls w) := by rw [me_, if_neg (by omega), ← c3, hle9]; rfl
                                refine lv_ddiv hx hb dX3_isSame_240 ((by rw [hme]; exact me_ok (hvC w (by omega)).1 (hvC w (by omega)).2 (by omega))) ?_
                                refine lv_dcmp hx hb dX3_isSame_241 ?_
                                refine g_top (y := nI 0) (by rw [hme]; exact dc_self (me_ok (hvC w (by omega)).1 (hvC w (by omega)).2 (by omega))) ?_
                                refine lv_if_eq (tgt := 247) hx hb dX3_isSame_242 (by decide) (fun h242 => ?_) (fun h242 => ?_)
                                · obtain ⟨hP, hD⟩ := h_sub (ys := []) hP hD [] rfl rfl
                                  have hP : va_P D vwCl ((g_W D σ_13) ++ []) H := hP
                                  have hD : va_D (va_A ((g_W D σ)) s.heap.size) ((g_W D σ_13) ++ []) := hD
                                  refine lv_iinc (v := nI (w + 1)) (lv' := [(2, .int (nI (w + 1))), (7, .int (nI k)), (4, .ref pp1), (3, .ref (q (3 + w))), (0, .ref (q 0)), (1, .ref (ad_ D 0))]) hx hb dX3_isSame_247 hl (k := 5) rfl (g_inc w) (by decide) rfl (fun ls hl => ?_)
                                  refine lv_goto (tgt := 2) hx hb dX3_isSame_250 (by decide) ?_
                                  refine W.widen (k := (2100 * (w + 1))) (n := (15000 * (w + 1))) (by omega) (by omega) ?_
                                  exact ih2 (w + 1) σ_13 (by omega) (by omega) hC_14 _ _ hP hD hS ls (lv_sub hl [4, 5, 0] rfl)
                                · exact absurd rfl h242
                              · have hb225 := g_eq (a := (N w).length) (b := 0) h225 (by omega) (by omega)
                                have hle9 := SR_len hSR (show w ≤ 1 by omega)
                                refine lv_dconst0 hx hb dX3_isSame_228 ?_
                                refine lv_goto (tgt := 241) hx hb dX3_isSame_229 (by decide) ?_
                                refine lv_dcmp hx hb dX3_isSame_241 ?_
                                refine g_top (y := nI 0) (by rw [me_, if_pos (by omega)]; exact dc_self (by unfold vf_n64; decide)) ?_
                                refine lv_if_eq (tgt := 247) hx hb dX3_isSame_242 (by decide) (fun h242 => ?_) (fun h242 => ?_)
                                · obtain ⟨hP, hD⟩ := h_sub (ys := []) hP hD [] rfl rfl
                                  have hP : va_P D vwCl ((g_W D σ_13) ++ []) H := hP
                                  have hD : va_D (va_A ((g_W D σ)) s.heap.size) ((g_W D σ_13) ++ []) := hD
                                  refine lv_iinc (v := nI (w + 1)) (lv' := [(2, .int (nI (w + 1))), (7, .int (nI k)), (4, .ref pp1), (3, .ref (q (3 + w))), (0, .ref (q 0)), (1, .ref (ad_ D 0))]) hx hb dX3_isSame_247 hl (k := 5) rfl (g_inc w) (by decide) rfl (fun ls hl => ?_)
                                  refine lv_goto (tgt := 2) hx hb dX3_isSame_250 (by decide) ?_
                                  refine W.widen (k := (2100 * (w + 1))) (n := (15000 * (w + 1))) (by omega) (by omega) ?_
                                  exact ih2 (w + 1) σ_13 (by omega) (by omega) hC_14 _ _ hP hD hS ls (lv_sub hl [4, 5, 0] rfl)
                                · exact absurd rfl h242
                            · exact absurd rfl h213
                        · have hb162 := g_nle (a := (N w).length) (b := k) h162 (by omega) (by omega)
                          refine lv_aload_n hx hb dX3_isSame_165 rfl (lv_at hl 4 rfl) ?_
                          refine lv_iload_n hx hb dX3_isSame_166 rfl (lv_at hl 5 rfl) ?_
                          refine lv_aload_n hx hb dX3_isSame_167 rfl (lv_at hl 2 rfl) ?_
                          refine lv_iload hx hb dX3_isSame_168 (lv_at hl 0 rfl) ?_
                          refine h_ild (w := []) (xs := (h_SW D q N M)) (i := (3 + w)) (R := N w) (j := k) hx hb hE (h_rk hR hap hS) (h_SWn (by omega)) (by omega) (by omega) (v := (N w).getD k 0) (rfl) dX3_isSame_170 ?_
                          refine h_callV (y := yX2_miles) (n := 2) (As := [.int (nI w), .int ((N w).getD k 0)]) (rest := []) hx hb hml hown hts hE hZ hS hl.1 ((n_miles l hst D hAD σ3 Ls hC3 hvC w ((N w).getD k 0) (by omega) (hrn9 _ (gD_mem (by omega)))).h hAD) h_P0 (h_prf hP) (h_AP hD hS h_Asz) (fun _ _ _ => trivial) (h_jP hP hD (h_AP hD hS h_Asz)) k_X3_82 (wr := (g_W D σ3)) (q0 := 0) (ci := 2) (h_prf hP) (g_at (by decide) hC3.1) rfl rfl rfl rfl ⟨Nat.le_of_ble_eq_true rfl, Nat.le_of_ble_eq_true rfl⟩ (Nat.le_of_ble_eq_true rfl) ⟨by show ((((((2100 * w) + (6 * (N w).length - 3 + (1 - (N w).length))) + 1) + 0) + 5 * i) + 5 * k) + 5 ≤ 4200; omega, by show ((((((15000 * w) + (60 * (N w).length - 57 + 3 * (1 - (N w).length))) + 7) + 0) + 30 * i) + 30 * k) + 30 ≤ 30000; omega⟩ dX3_isSame_171 (fun v18 w1 H locs hq hP hD hS => ?_)
                          obtain ⟨σ_16, ⟨rfl, hC_17⟩, rfl⟩ := hq
                          have hP : va_P D vwCl ((g_W D σ_16) ++ [(pp1, h_row D ([nI (pth_ 25 (N w)).1, nI (pth_ 25 (N w)).2.1, (pth_ 25 (N w)).2.2])), (q3, h_row D ([nI ((N w).length), nI ((N w).length - 1), nI ((pth_ 25 (N w)).1), nI ((pth_ 25 (N w)).2.1), if (N w).length = 0 then 0 else nI 15 - bt_ (N w), (pth_ 25 (N w)).2.2, mi_ (M w)]))]) H := hP
                          have hD : va_D (va_A ((g_W D σ)) s.heap.size) ((g_W D σ_16) ++ [(pp1, h_row D ([nI (pth_ 25 (N w)).1, nI (pth_ 25 (N w)).2.1, (pth_ 25 (N w)).2.2])), (q3, h_row D ([nI ((N w).length), nI ((N w).length - 1), nI ((pth_ 25 (N w)).1), nI ((pth_ 25 (N w)).2.1), if (N w).length = 0 then 0 else nI 15 - bt_ (N w), (pth_ 25 (N w)).2.2, mi_ (M w)]))]) := hD
                          refine W.widen (k := (((((((2100 * w) + (6 * (N w).length - 3 + (1 - (N w).length))) + 1) + 0) + 5 * i) + 5 * k) + 5)) (n := (((((((15000 * w) + (60 * (N w).length - 57 + 3 * (1 - (N w).length))) + 7) + 0) + 30 * i) + 30 * k) + 30)) (Nat.le_refl _) (Nat.le_refl _) ?_
                          refine W.eq (g2 := F0 m 174 ls [.int (mo_ (Ls w) ((N w).getD k 0))]) rfl ?_
                          refine lv_aload_n hx hb dX3_isSame_174 rfl (lv_at hl 3 rfl) ?_
                          refine h_get (w := []) (xs := (h_SW D q N M)) (i := 0) hx hb hts hE hown (h_rk hR hap hS) rfl 1 (by decide) rfl wf_X3_15 (v := .ref (q 2)) rfl dX3_isSame_175 ?_
                          refine lv_iload_n hx hb dX3_isSame_178 rfl (lv_at hl 5 rfl) ?_
                          refine h_ald (w := []) (xs := (h_SW D q N M)) (i := 2) (q := q) (o := 5) (j := w) hx hb hE (h_rk hR hap hS) rfl (by omega) dX3_isSame_179 ?_
                          refine lv_iload hx hb dX3_isSame_180 (lv_at hl 0 rfl) ?_
                          refine h_ild (w := []) (xs := (h_SW D q N M)) (i := (5 + w)) (R := M w) (j := k) hx hb hE (h_rk hR hap hS) (h_SWm (by omega)) (by omega) (by omega) (v := (M w).getD k 0) (rfl) dX3_isSame_182 ?_
                          refine lv_icmp_eq (tgt := 188) hx hb dX3_isSame_183 (by decide) (fun h183 => ?_) (fun h183 => ?_)
                          · refine lv_iinc (v := nI (k + 1)) (lv' := [(7, .int (nI (k + 1))), (4, .ref pp1), (3, .ref (q (3 + w))), (0, .ref (q 0)), (1, .ref (ad_ D 0)), (2, .int (nI w))]) hx hb dX3_isSame_188 hl (k := 0) rfl (g_inc k) (by decide) rfl (fun ls hl => ?_)
                            refine lv_goto (tgt := 158) hx hb dX3_isSame_191 (by decide) ?_
                            refine W.widen (k := ((((((2100 * w) + (6 * (N w).length - 3 + (1 - (N w).length))) + 1) + 0) + 5 * i) + 5 * (k + 1))) (n := ((((((15000 * w) + (60 * (N w).length - 57 + 3 * (1 - (N w).length))) + 7) + 0) + 30 * i) + 30 * (k + 1))) (by omega) (by omega) ?_
                            exact ih158 (k + 1) σ_16 (by omega) (by omega) hC_17 _ _ hP hD hS ls (lv_sub hl [0, 1, 2, 3, 4, 5] rfl)
                          · exact absurd (SR_mo hvC hSR (by omega) (by omega)) h183
                    refine W.widen (k := ((((((2100 * w) + (6 * (N w).length - 3 + (1 - (N w).length))) + 1) + 0) + 5 * i) + 5 * 0)) (n := ((((((15000 * w) + (60 * (N w).length - 57 + 3 * (1 - (N w).length))) + 7) + 0) + 30 * i) + 30 * 0)) (by omega) (by omega) ?_
                    exact K158 (((N w).length - 0) + 1) 0 σ2 (Nat.lt_succ_self _) (Nat.zero_le _) hC2 _ _ hP hD hS ls (lv_sub hl [0, 2, 3, 4, 5, 6] rfl)
                  · have hb129 := g_nle (a := 7) (b := i) h129 (by omega) (by omega)
                    refine lv_aload_n hx hb dX3_isSame_132 rfl (lv_at hl 5 rfl) ?_
                    refine lv_iload_n hx hb dX3_isSame_133 rfl (lv_at hl 6 rfl) ?_
                    refine lv_iload hx hb dX3_isSame_134 (lv_at hl 0 rfl) ?_
                    refine h_callV (y := yX2_count) (n := 2) (As := [.int (nI w), .int (nI i)]) (rest := []) hx hb hml hown hts hE hZ hS hl.1 ((n_count l hst D hAD σ2 Ls hC2 hvC w i (by omega) (by omega)).h hAD) h_P0 (h_prf hP) (h_AP hD hS h_Asz) (fun _ _ _ => trivial) (h_jP hP hD (h_AP hD hS h_Asz)) k_X3_79 (wr := (g_W D σ2)) (q0 := 0) (ci := 2) (h_prf hP) (g_at (by decide) hC2.1) rfl rfl rfl rfl ⟨Nat.le_of_ble_eq_true rfl, Nat.le_of_ble_eq_true rfl⟩ (Nat.le_of_ble_eq_true rfl) ⟨by show (((((2100 * w) + (6 * (N w).length - 3 + (1 - (N w).length))) + 1) + 0) + 5 * i) + 5 ≤ 4200; omega, by show (((((15000 * w) + (60 * (N w).length - 57 + 3 * (1 - (N w).length))) + 7) + 0) + 30 * i) + 30 ≤ 30000; omega⟩ dX3_isSame_136 (fun v21 w1 H locs hq hP hD hS => ?_)
                    obtain ⟨σ_19, ⟨rfl, hC_20⟩, rfl⟩ := hq
                    have hP : va_P D vwCl ((g_W D σ_19) ++ [(pp1, h_row D ([nI (pth_ 25 (N w)).1, nI (pth_ 25 (N w)).2.1, (pth_ 25 (N w)).2.2])), (q3, h_row D ([nI ((N w).length), nI ((N w).length - 1), nI ((pth_ 25 (N w)).1), nI ((pth_ 25 (N w)).2.1), if (N w).length = 0 then 0 else nI 15 - bt_ (N w), (pth_ 25 (N w)).2.2, mi_ (M w)]))]) H := hP
                    have hD : va_D (va_A ((g_W D σ)) s.heap.size) ((g_W D σ_19) ++ [(pp1, h_row D ([nI (pth_ 25 (N w)).1, nI (pth_ 25 (N w)).2.1, (pth_ 25 (N w)).2.2])), (q3, h_row D ([nI ((N w).length), nI ((N w).length - 1), nI ((pth_ 25 (N w)).1), nI ((pth_ 25 (N w)).2.1), if (N w).length = 0 then 0 else nI 15 - bt_ (N w), (pth_ 25 (N w)).2.2, mi_ (M w)]))]) := hD
                    refine W.widen (k := ((((((2100 * w) + (6 * (N w).length - 3 + (1 - (N w).length))) + 1) + 0) + 5 * i) + 5)) (n := ((((((15000 * w) + (60 * (N w).length - 57 + 3 * (1 - (N w).length))) + 7) + 0) + 30 * i) + 30)) (Nat.le_refl _) (Nat.le_refl _) ?_
                    refine W.eq (g2 := F0 m 139 ls [.int (cn_ (Ls w) i)]) rfl ?_
                    refine lv_aload hx hb dX3_isSame_139 (lv_at hl 1 rfl) ?_
                    refine lv_iload hx hb dX3_isSame_141 (lv_at hl 0 rfl) ?_
                    refine h_ild (w := (g_W D σ_19)) (xs := [(pp1, h_row D ([nI (pth_ 25 (N w)).1, nI (pth_ 25 (N w)).2.1, (pth_ 25 (N w)).2.2])), (q3, h_row D ([nI ((N w).length), nI ((N w).length - 1), nI ((pth_ 25 (N w)).1), nI ((pth_ 25 (N w)).2.1), if (N w).length = 0 then 0 else nI 15 - bt_ (N w), (pth_ 25 (N w)).2.2, mi_ (M w)]))]) (i := 1) (R := [nI ((N w).length), nI ((N w).length - 1), nI ((pth_ 25 (N w)).1), nI ((pth_ 25 (N w)).2.1), if (N w).length = 0 then 0 else nI 15 - bt_ (N w), (pth_ 25 (N w)).2.2, mi_ (M w)]) (j := i) hx hb hE hP (rfl) (show i < 7 by omega) (show 7 < 2 ^ 31 by decide) (v := ([nI (N w).length, nI ((N w).length - 1), nI (pth_ 25 (N w)).1, nI (pth_ 25 (N w)).2.1, if (N w).length = 0 then 0 else nI 15 - bt_ (N w), (pth_ 25 (N w)).2.2, mi_ (M w)] : List Int32).getD i 0) (rfl) dX3_isSame_143 ?_
                    refine lv_icmp_eq (tgt := 149) hx hb dX3_isSame_144 (by decide) (fun h144 => ?_) (fun h144 => ?_)
                    · refine lv_iinc (v := nI (i + 1)) (lv' := [(7, .int (nI (i + 1))), (6, .ref q3), (4, .ref pp1), (3, .ref (q (3 + w))), (0, .ref (q 0)), (1, .ref (ad_ D 0)), (2, .int (nI w))]) hx hb dX3_isSame_149 hl (k := 0) rfl (g_inc i) (by decide) rfl (fun ls hl => ?_)
                      refine lv_goto (tgt := 125) hx hb dX3_isSame_152 (by decide) ?_
                      refine W.widen (k := (((((2100 * w) + (6 * (N w).length - 3 + (1 - (N w).length))) + 1) + 0) + 5 * (i + 1))) (n := (((((15000 * w) + (60 * (N w).length - 57 + 3 * (1 - (N w).length))) + 7) + 0) + 30 * (i + 1))) (by omega) (by omega) ?_
                      exact ih125 (i + 1) σ_19 (by omega) (by omega) hC_20 _ _ hP hD hS ls (lv_sub hl [0, 1, 2, 3, 4, 5, 6] rfl)
                    · exact absurd (hdue i (by omega)) h144
              refine W.widen (k := (((((2100 * w) + (6 * (N w).length - 3 + (1 - (N w).length))) + 1) + 0) + 5 * 0)) (n := (((((15000 * w) + (60 * (N w).length - 57 + 3 * (1 - (N w).length))) + 7) + 0) + 30 * 0)) (by omega) (by omega) ?_
              exact K125 ((7 - 0) + 1) 0 σ1 (Nat.lt_succ_self _) (Nat.zero_le _) hC1 _ _ hP hD hS ls (lv_sub hl [0, 1, 4, 5, 6, 7, 8] rfl)
            · have hb43 := g_nle (a := (M w).length) (b := i) h43 (by omega) (by omega)
              refine lv_aload hx hb dX3_isSame_46 (lv_at hl 2 rfl) ?_
              refine lv_iload hx hb dX3_isSame_48 (lv_at hl 0 rfl) ?_
              refine h_ild (w := []) (xs := (h_SW D q N M)) (i := (5 + w)) (R := M w) (j := i) hx hb hE (h_rk hR hap hS) (h_SWm (by omega)) (by omega) (by omega) (v := (M w).getD i 0) (rfl) dX3_isSame_50 ?_
              refine lv_istore (lv' := [(9, .int ((M w).getD i 0)), (8, .int (nI i)), (7, .int (nI ((M w).length))), (6, .ref (q (5 + w))), (5, .int (mi_ ((M w).take i))), (4, .ref pp1), (3, .ref (q (3 + w))), (0, .ref (q 0)), (1, .ref (ad_ D 0)), (2, .int (nI w))]) hx hb dX3_isSame_51 hl (by decide) rfl (fun ls hl => ?_)
              refine lv_iload hx hb dX3_isSame_53 (lv_at hl 4 rfl) ?_
              refine lv_iload hx hb dX3_isSame_55 (lv_at hl 0 rfl) ?_
              refine lv_iadd hx hb dX3_isSame_57 ?_
              refine g_top (y := mi_ ((M w).take (i + 1))) (by rw [mi_s (by omega)]) ?_
              refine lv_istore (lv' := [(5, .int (mi_ ((M w).take (i + 1)))), (9, .int ((M w).getD i 0)), (8, .int (nI i)), (7, .int (nI ((M w).length))), (6, .ref (q (5 + w))), (4, .ref pp1), (3, .ref (q (3 + w))), (0, .ref (q 0)), (1, .ref (ad_ D 0)), (2, .int (nI w))]) hx hb dX3_isSame_58 hl (by decide) rfl (fun ls hl => ?_)
              refine lv_iinc (v := nI (i + 1)) (lv' := [(8, .int (nI (i + 1))), (5, .int (mi_ ((M w).take (i + 1)))), (9, .int ((M w).getD i 0)), (7, .int (nI ((M w).length))), (6, .ref (q (5 + w))), (4, .ref pp1), (3, .ref (q (3 + w))), (0, .ref (q 0)), (1, .ref (ad_ D 0)), (2, .int (nI w))]) hx hb dX3_isSame_60 hl (k := 2) rfl (g_inc i) (by decide) rfl (fun ls hl => ?_)
              refine lv_goto (tgt := 39) hx hb dX3_isSame_63 (by decide) ?_
              exact ih39 (i + 1) (by omega) (by omega) _ _ hP hD hS ls (lv_sub hl [0, 3, 4, 1, 5, 6, 7, 8, 9] rfl)
        exact K39 (((M w).length - 0) + 1) 0 (Nat.lt_succ_self _) (Nat.zero_le _) _ _ hP hD hS ls (lv_sub hl [0, 1, 2, 3, 4, 5, 6, 7, 8] rfl)
  refine W.widen (k := (2100 * 0)) (n := (15000 * 0)) (by omega) (by omega) ?_
  exact K2 ((2 - 0) + 1) 0 σ (Nat.lt_succ_self _) (Nat.zero_le _) hC _ _ hP hD hS ls (lv_sub hl [1, 2, 0] rfl)
