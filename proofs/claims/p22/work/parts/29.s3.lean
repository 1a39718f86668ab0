abbrev m_X3_find_rm  : Room := { frames := 8, cells := 0, slots := 0, locals := 200 }
set_option maxHeartbeats 4000000 in
set_option maxRecDepth 100000 in
theorem m_X3_find (l : Launch) (D : va_G) (q : Nat → Nat) (N M : Nat → List Int32) (w : Nat) (x : Int32) (hw : w ≤ 1) (hn : (N w).length ≤ 48) : h_M l D yX3_find cX3_find 4 (some .int) m_X3_find_rm [.ref (q 0), .int (nI w), .int x] none ((h_SW D q N M)) ([]) (fun v1 w1 => v1 = some (.int (fdx_ (N w) x)) ∧ w1 = []) := by
  refine h_ofW [(0, .ref (q 0)), (1, .int (nI w)), (2, .int x)] (by decide +kernel) (Nat.le_of_ble_eq_true rfl) rfl ?_
  intro p e s m args below meth c hx hb hr hml hown hlocks hts hE hZ hR hP hS hX ls hl
  have hown : s.vm.findClass RX3 = some m.cls := hown
  generalize hQ : MQ _ _ _ _ _ _ _ = Q
  have hap : h_ap ((h_SW D q N M)) [] := h_ap.nil
  have hD : va_D (va_A ([]) s.heap.size) [] := h_D0
  refine lv_iconst (v := nI 0) hx hb dX3_find_0 (by decide) ?_
  refine lv_istore_n (lv' := [(3, .int (nI 0)), (0, .ref (q 0)), (1, .int (nI w)), (2, .int x)]) hx hb dX3_find_1 rfl hl (by decide) rfl (fun ls hl => ?_)
  have K2 : ∀ (fuel2 : Nat) (k : Nat), ((N w).length - k) < fuel2 → (k ≤ (N w).length) → (∀ j, j < k → (N w).getD j 0 ≠ x) → ∀ (H : Heap) (locs : List Loc), va_P D vwCl [] H → va_D (va_A ([]) s.heap.size) [] → va_S (va_A ([]) s.heap.size) s.heap H locs → ∀ ls : Array Slot, lv_has ls 4 [(0, .ref (q 0)), (1, .int (nI w)), (2, .int x), (3, .int (nI k))] → W p l e m_X3_find_rm s m args below meth c H locs 0 0 Q (F0 m 2 ls []) := by
    intro fuel2
    induction fuel2 with
    | zero => intro k hf; exact absurd hf (Nat.not_lt_zero _)
    | succ fuel2 ih2 =>
      intro k hf2 hk hkx H locs hP hD hS ls hl
      refine lv_iload_n hx hb dX3_find_2 rfl (lv_at hl 3 rfl) ?_
      refine lv_aload_n hx hb dX3_find_3 rfl (lv_at hl 0 rfl) ?_
      refine h_get (w := []) (xs := (h_SW D q N M)) (i := 0) hx hb hts hE hown (h_rk hR hap hS) rfl 0 (by decide) rfl wf_X3_9 (v := .ref (q 1)) rfl dX3_find_4 ?_
      refine lv_iload_n hx hb dX3_find_7 rfl (lv_at hl 1 rfl) ?_
      refine h_ald (w := []) (xs := (h_SW D q N M)) (i := 1) (q := q) (o := 3) (j := w) hx hb hE (h_rk hR hap hS) rfl (by omega) dX3_find_8 ?_
      refine h_aln (w := []) (xs := (h_SW D q N M)) (i := (3 + w)) (R := N w) hx hb hE (h_rk hR hap hS) (h_SWn (by omega)) dX3_find_9 ?_
      refine lv_icmp_ge (tgt := 33) hx hb dX3_find_10 (by decide) (fun h10 => ?_) (fun h10 => ?_)
      · have hb10 := g_le (a := (N w).length) (b := k) h10 (by omega) (by omega)
        refine lv_iconst (v := (-1)) hx hb dX3_find_33 (by decide) ?_
        refine W.widen (k := 0) (n := 0) (by omega) (by omega) ?_
        rw [← hQ]
        exact W.iret (v := (-1)) hx hb hr (fun te9 hte9 _ => h_fin (⟨by rw [fdx_, ix9_eq _ _ k hk hkx (fun z => by omega), if_neg (by omega)], rfl⟩) hP hD hS hte9) hS.2.2 dX3_find_34 hlocks
      · have hb10 := g_nle (a := (N w).length) (b := k) h10 (by omega) (by omega)
        refine lv_aload_n hx hb dX3_find_13 rfl (lv_at hl 0 rfl) ?_
        refine h_get (w := []) (xs := (h_SW D q N M)) (i := 0) hx hb hts hE hown (h_rk hR hap hS) rfl 0 (by decide) rfl wf_X3_9 (v := .ref (q 1)) rfl dX3_find_14 ?_
        refine lv_iload_n hx hb dX3_find_17 rfl (lv_at hl 1 rfl) ?_
        refine h_ald (w := []) (xs := (h_SW D q N M)) (i := 1) (q := q) (o := 3) (j := w) hx hb hE (h_rk hR hap hS) rfl (by omega) dX3_find_18 ?_
        refine lv_iload_n hx hb dX3_find_19 rfl (lv_at hl 3 rfl) ?_
        refine h_ild (w := []) (xs := (h_SW D q N M)) (i := (3 + w)) (R := N w) (j := k) hx hb hE (h_rk hR hap hS) (h_SWn (by omega)) (by omega) (by omega) (v := (N w).getD k 0) (rfl) dX3_find_20 ?_
        refine lv_iload_n hx hb dX3_find_21 rfl (lv_at hl 2 rfl) ?_
        refine lv_icmp_ne (tgt := 27) hx hb dX3_find_22 (by decide) (fun h22 => ?_) (fun h22 => ?_)
        · refine lv_iinc (v := nI (k + 1)) (lv' := [(3, .int (nI (k + 1))), (0, .ref (q 0)), (1, .int (nI w)), (2, .int x)]) hx hb dX3_find_27 hl (k := 3) rfl (g_inc k) (by decide) rfl (fun ls hl => ?_)
          refine lv_goto (tgt := 2) hx hb dX3_find_30 (by decide) ?_
          exact ih2 (k + 1) (by omega) (by omega) (fun j hj => by rcases Nat.lt_succ_iff_lt_or_eq.mp hj with z | z; exact hkx j z; rw [z]; exact h22) _ _ hP hD hS ls (lv_sub hl [1, 2, 3, 0] rfl)
        · refine lv_iload_n hx hb dX3_find_25 rfl (lv_at hl 3 rfl) ?_
          refine W.widen (k := 0) (n := 0) (by omega) (by omega) ?_
          rw [← hQ]
          exact W.iret (v := nI k) hx hb hr (fun te9 hte9 _ => h_fin (⟨by rw [fdx_, ix9_eq _ _ k hk hkx (fun _ => by first | exact h22 | exact Decidable.not_not.mp h22), if_pos (by omega)], rfl⟩) hP hD hS hte9) hS.2.2 dX3_find_26 hlocks
  exact K2 (((N w).length - 0) + 1) 0 (Nat.lt_succ_self _) (Nat.zero_le _) (fun j hj => absurd hj (Nat.not_lt_zero _)) _ _ hP hD hS ls (lv_sub hl [1, 2, 3, 0] rfl)

abbrev m_X3_more_rm  : Room := { frames := 8, cells := 1, slots := 25, locals := 200 }
set_option maxHeartbeats 4000000 in
set_option maxRecDepth 100000 in
theorem m_X3_more (l : Launch) (D : va_G) (a0 : Nat) (R : List Int32) (x : Int32) (hn : R.length ≤ 24) : h_M l D yX3_more cX3_more 3 (some (.array .int)) m_X3_more_rm [.ref a0, .int x] none ([(a0, h_row D R)]) ([]) (fun v1 w1 => ∃ a1, v1 = some (.ref a1) ∧ w1 = [(a1, h_row D (R ++ [x]))]) := by
  refine h_ofW [(0, .ref a0), (1, .int x)] (by decide +kernel) (Nat.le_of_ble_eq_true rfl) rfl ?_
  intro p e s m args below meth c hx hb hr hml hown hlocks hts hE hZ hR hP hS hX ls hl
  have hown : s.vm.findClass RX3 = some m.cls := hown
  generalize hQ : MQ _ _ _ _ _ _ _ = Q
  have hap : h_ap ([(a0, h_row D R)]) [] := h_ap.nil
  have hD : va_D (va_A ([]) s.heap.size) [] := h_D0
  refine lv_aload_n hx hb dX3_more_0 rfl (lv_at hl 0 rfl) ?_
  refine h_aln (w := []) (xs := [(a0, h_row D R)]) (i := 0) (R := R) hx hb hE (h_rk hR hap hS) (rfl) dX3_more_1 ?_
  refine lv_iconst (v := nI 1) hx hb dX3_more_2 (by decide) ?_
  refine lv_iadd hx hb dX3_more_3 ?_
  refine g_top (y := nI (R.length + 1)) (nI_add R.length 1) ?_
  refine h_new (w := []) (xs := []) (n := R.length + 1) hx hb hts hE hP hD hS h_Asz (by omega) (by show 0 + 1 ≤ 1; omega) (by show 0 + (R.length + 1) ≤ 25; omega) dX3_more_4 (fun q1 H hP hD hS => ?_)
  refine W.widen (k := 0 + 1) (n := 0 + 25) (by omega) (by omega) ?_
  refine W.widen (k := 1) (n := 25) (by omega) (by omega) ?_
  have hP : va_P D vwCl [(q1, h_row D (List.replicate (R.length + 1) 0))] H := hP
  have hD : va_D (va_A ([]) s.heap.size) [(q1, h_row D (List.replicate (R.length + 1) 0))] := hD
  refine lv_astore_n (lv' := [(2, .ref q1), (0, .ref a0), (1, .int x)]) hx hb dX3_more_6 rfl hl (by decide) rfl (fun ls hl => ?_)
  refine lv_aload_n hx hb dX3_more_7 rfl (lv_at hl 1 rfl) ?_
  refine lv_iconst (v := nI 0) hx hb dX3_more_8 (by decide) ?_
  refine lv_aload_n hx hb dX3_more_9 rfl (lv_at hl 0 rfl) ?_
  refine lv_iconst (v := nI 0) hx hb dX3_more_10 (by decide) ?_
  refine lv_aload_n hx hb dX3_more_11 rfl (lv_at hl 1 rfl) ?_
  refine h_aln (w := []) (xs := [(a0, h_row D R)]) (i := 0) (R := R) hx hb hE (h_rk hR hap hS) (rfl) dX3_more_12 ?_
  refine h_cpy (w := []) (xs := [(q1, h_row D (List.replicate (R.length + 1) 0))]) (rs := [(a0, h_row D R)]) (i0 := 0) (i1 := 0) (sp := 0) (dp := 0) (n := R.length) hx hb (hml.trans hl.1.symm) hown hts k_X3_18 k_copy hE hP hD hS hR rfl (fun z => by rcases z with ⟨k, e, z⟩ | z; simp at z; have := (hR 0 _ rfl).lt; omega) rfl ⟨by omega, by omega, by omega⟩ (by omega) (by simp) ⟨Nat.le_of_ble_eq_true rfl, Nat.le_of_ble_eq_true rfl⟩ dX3_more_13 (fun H locs hP hD hS => ?_)
  rw [show ([(q1, h_row D (List.replicate (R.length + 1) 0))] : va_W).set 0 (q1, .inl (g_cI D, (List.replicate (R.length + 1) (0 : Int32)).length, .inl (va_cpy (fun j => R.getD j 0) (fun j => (List.replicate (R.length + 1) (0 : Int32)).getD j 0) 0 0 R.length))) = [(q1, h_row D (R ++ [0]))] from congrArg (fun z => [(q1, z)]) h_cpyR] at hP hD
  have hP : va_P D vwCl [(q1, h_row D (R ++ [0]))] H := hP
  have hD : va_D (va_A ([]) s.heap.size) [(q1, h_row D (R ++ [0]))] := hD
  refine lv_aload_n hx hb dX3_more_16 rfl (lv_at hl 0 rfl) ?_
  refine lv_aload_n hx hb dX3_more_17 rfl (lv_at hl 1 rfl) ?_
  refine h_aln (w := []) (xs := [(a0, h_row D R)]) (i := 0) (R := R) hx hb hE (h_rk hR hap hS) (rfl) dX3_more_18 ?_
  refine lv_iload_n hx hb dX3_more_19 rfl (lv_at hl 2 rfl) ?_
  refine h_ist (w := []) (xs := [(q1, h_row D (R ++ [0]))]) (i := 0) (R := R ++ [0]) (j := R.length) (x := x) hx hb hE hP hD hS (rfl) (by simp) (by simp; omega) dX3_more_20 (fun H locs hP hD hS => ?_)
  rw [show (R ++ [0] : List Int32).set R.length x = R ++ [x] from set_last] at hP hD
  have hP : va_P D vwCl [(q1, h_row D (R ++ [x]))] H := hP
  have hD : va_D (va_A ([]) s.heap.size) [(q1, h_row D (R ++ [x]))] := hD
  refine lv_aload_n hx hb dX3_more_21 rfl (lv_at hl 0 rfl) ?_
  refine W.widen (k := 1) (n := 25) (by omega) (by omega) ?_
  rw [← hQ]
  exact W.aret (v := .ref q1) hx hb hr (Or.inr ⟨_, rfl⟩) (Or.inr ⟨_, rfl⟩) (fun te9 hte9 _ => h_fin (⟨_, rfl, rfl⟩) hP hD hS hte9) hS.2.2 dX3_more_22 hlocks

abbrev m_X3_without_rm  : Room := { frames := 8, cells := 1, slots := 24, locals := 200 }
set_option maxHeartbeats 4000000 in
set_option maxRecDepth 100000 in
theorem m_X3_without (l : Launch) (D : va_G) (a0 : Nat) (R : List Int32) (k : Nat) (hn : R.length ≤ 24) (hk : k < R.length) : h_M l D yX3_without cX3_without 4 (some (.array .int)) m_X3_without_rm [.ref a0, .int (nI k)] none ([(a0, h_row D R)]) ([]) (fun v1 w1 => ∃ a1, v1 = some (.ref a1) ∧ w1 = [(a1, h_row D (R.eraseIdx k))]) := by
  refine h_ofW [(0, .ref a0), (1, .int (nI k))] (by decide +kernel) (Nat.le_of_ble_eq_true rfl) rfl ?_
  intro p e s m args below meth c hx hb hr hml hown hlocks hts hE hZ hR hP hS hX ls hl
  have hown : s.vm.findClass RX3 = some m.cls := hown
  generalize hQ : MQ _ _ _ _ _ _ _ = Q
  have hap : h_ap ([(a0, h_row D R)]) [] := h_ap.nil
  have hD : va_D (va_A ([]) s.heap.size) [] := h_D0
  have hle : (R.eraseIdx k).length = R.length - 1 := List.length_eraseIdx_of_lt hk
  refine lv_aload_n hx hb dX3_without_0 rfl (lv_at hl 0 rfl) ?_
  refine h_aln (w := []) (xs := [(a0, h_row D R)]) (i := 0) (R := R) hx hb hE (h_rk hR hap hS) (rfl) dX3_without_1 ?_
  refine lv_iconst (v := nI 1) hx hb dX3_without_2 (by decide) ?_
  refine lv_isub hx hb dX3_without_3 ?_
  refine g_top (y := nI (R.length - 1)) (pk_sub (by omega)) ?_
  refine h_new (w := []) (xs := []) (n := R.length - 1) hx hb hts hE hP hD hS h_Asz (by omega) (by show 0 + 1 ≤ 1; omega) (by show 0 + (R.length - 1) ≤ 24; omega) dX3_without_4 (fun q1 H hP hD hS => ?_)
  refine W.widen (k := 0 + 1) (n := 0 + 24) (by omega) (by omega) ?_
  refine W.widen (k := 1) (n := 24) (by omega) (by omega) ?_
  have hP : va_P D vwCl [(q1, h_row D (List.replicate (R.length - 1) 0))] H := hP
  have hD : va_D (va_A ([]) s.heap.size) [(q1, h_row D (List.replicate (R.length - 1) 0))] := hD
  rw [show List.replicate (R.length - 1) 0 = pad_ ((R.eraseIdx k).take 0) (R.length - 1) from by rw [List.take_zero]; exact pad_0] at hP hD
  have hP : va_P D vwCl [(q1, h_row D (pad_ ((R.eraseIdx k).take 0) (R.length - 1)))] H := hP
  have hD : va_D (va_A ([]) s.heap.size) [(q1, h_row D (pad_ ((R.eraseIdx k).take 0) (R.length - 1)))] := hD
  refine lv_astore_n (lv' := [(2, .ref q1), (0, .ref a0), (1, .int (nI k))]) hx hb dX3_without_6 rfl hl (by decide) rfl (fun ls hl => ?_)
  refine lv_iconst (v := nI 0) hx hb dX3_without_7 (by decide) ?_
  refine lv_istore_n (lv' := [(3, .int (nI 0)), (2, .ref q1), (0, .ref a0), (1, .int (nI k))]) hx hb dX3_without_8 rfl hl (by decide) rfl (fun ls hl => ?_)
  have K9 : ∀ (fuel9 : Nat) (i : Nat), (R.length - 1 - i) < fuel9 → (i ≤ R.length - 1) → ∀ (H : Heap) (locs : List Loc), va_P D vwCl [(q1, h_row D (pad_ ((R.eraseIdx k).take i) (R.length - 1)))] H → va_D (va_A ([]) s.heap.size) [(q1, h_row D (pad_ ((R.eraseIdx k).take i) (R.length - 1)))] → va_S (va_A ([]) s.heap.size) s.heap H locs → ∀ ls : Array Slot, lv_has ls 4 [(0, .ref a0), (1, .int (nI k)), (2, .ref q1), (3, .int (nI i))] → W p l e m_X3_without_rm s m args below meth c H locs 1 24 Q (F0 m 9 ls []) := by
    intro fuel9
    induction fuel9 with
    | zero => intro i hf; exact absurd hf (Nat.not_lt_zero _)
    | succ fuel9 ih9 =>
      intro i hf9 hi H locs hP hD hS ls hl
      have hpl : (pad_ ((R.eraseIdx k).take i) (R.length - 1)).length = R.length - 1 := pad_len (by rw [List.length_take]; omega)
      refine lv_iload_n hx hb dX3_without_9 rfl (lv_at hl 3 rfl) ?_
      refine lv_aload_n hx hb dX3_without_10 rfl (lv_at hl 2 rfl) ?_
      refine h_aln (w := []) (xs := [(q1, h_row D (pad_ ((R.eraseIdx k).take i) (R.length - 1)))]) (i := 0) (R := pad_ ((R.eraseIdx k).take i) (R.length - 1)) hx hb hE hP (rfl) dX3_without_11 ?_
      refine lv_icmp_ge (tgt := 38) hx hb dX3_without_12 (by decide) (fun h12 => ?_) (fun h12 => ?_)
      · have hb12 := g_le (a := (pad_ ((R.eraseIdx k).take i) (R.length - 1)).length) (b := i) h12 (by omega) (by omega)
        refine lv_aload_n hx hb dX3_without_38 rfl (lv_at hl 2 rfl) ?_
        rw [tk_all (by omega), pad_all hle] at hP hD
        refine W.widen (k := 1) (n := 24) (by omega) (by omega) ?_
        rw [← hQ]
        exact W.aret (v := .ref q1) hx hb hr (Or.inr ⟨_, rfl⟩) (Or.inr ⟨_, rfl⟩) (fun te9 hte9 _ => h_fin (⟨_, rfl, rfl⟩) hP hD hS hte9) hS.2.2 dX3_without_39 hlocks
      · have hb12 := g_nle (a := (pad_ ((R.eraseIdx k).take i) (R.length - 1)).length) (b := i) h12 (by omega) (by omega)
        refine lv_aload_n hx hb dX3_without_15 rfl (lv_at hl 2 rfl) ?_
        refine lv_iload_n hx hb dX3_without_16 rfl (lv_at hl 3 rfl) ?_
        refine lv_aload_n hx hb dX3_without_17 rfl (lv_at hl 0 rfl) ?_
        refine lv_iload_n hx hb dX3_without_18 rfl (lv_at hl 3 rfl) ?_
        refine lv_iload_n hx hb dX3_without_19 rfl (lv_at hl 1 rfl) ?_
        refine lv_icmp_ge (tgt := 27) hx hb dX3_without_20 (by decide) (fun h20 => ?_) (fun h20 => ?_)
        · have hb20 := g_le (a := k) (b := i) h20 (by omega) (by omega)
          refine lv_iload_n hx hb dX3_without_27 rfl (lv_at hl 3 rfl) ?_
          refine lv_iconst (v := nI 1) hx hb dX3_without_28 (by decide) ?_
          refine lv_iadd hx hb dX3_without_29 ?_
          refine g_top (y := nI (i + 1)) (nI_add i 1) ?_
          refine h_ild (w := []) (xs := [(a0, h_row D R)]) (i := 0) (R := R) (j := i + 1) hx hb hE (h_rk hR hap hS) (rfl) (by omega) (by omega) (v := R.getD (i + 1) 0) (rfl) dX3_without_30 ?_
          refine h_ist (w := []) (xs := [(q1, h_row D (pad_ ((R.eraseIdx k).take i) (R.length - 1)))]) (i := 0) (R := pad_ ((R.eraseIdx k).take i) (R.length - 1)) (j := i) (x := R.getD (i + 1) 0) hx hb hE hP hD hS (rfl) (by rw [pad_len (by rw [List.length_take]; omega)]; omega) (by rw [pad_len (by rw [List.length_take]; omega)]; omega) dX3_without_31 (fun H locs hP hD hS => ?_)
          rw [show (pad_ ((R.eraseIdx k).take i) (R.length - 1) : List Int32).set i (R.getD (i + 1) 0) = pad_ ((R.eraseIdx k).take (i + 1)) (R.length - 1) from by rw [tk_s (by omega), er_getD, if_neg (by omega), ← pad_set (by rw [List.length_take]; omega)]; congr 1; rw [List.length_take]; omega] at hP hD
          have hP : va_P D vwCl [(q1, h_row D (pad_ ((R.eraseIdx k).take (i + 1)) (R.length - 1)))] H := hP
          have hD : va_D (va_A ([]) s.heap.size) [(q1, h_row D (pad_ ((R.eraseIdx k).take (i + 1)) (R.length - 1)))] := hD
          refine lv_iinc (v := nI (i + 1)) (lv' := [(3, .int (nI (i + 1))), (0, .ref a0), (1, .int (nI k)), (2, .ref q1)]) hx hb dX3_without_32 hl (k := 3) rfl (g_inc i) (by decide) rfl (fun ls hl => ?_)
          refine lv_goto (tgt := 9) hx hb dX3_without_35 (by decide) ?_
          exact ih9 (i + 1) (by omega) (by omega) _ _ hP hD hS ls (lv_sub hl [1, 2, 3, 0] rfl)
        · have hb20 := g_nle (a := k) (b := i) h20 (by omega) (by omega)
          refine lv_iload_n hx hb dX3_without_23 rfl (lv_at hl 3 rfl) ?_
          refine lv_goto (tgt := 30) hx hb dX3_without_24 (by decide) ?_
          refine h_ild (w := []) (xs := [(a0, h_row D R)]) (i := 0) (R := R) (j := i) hx hb hE (h_rk hR hap hS) (rfl) (by omega) (by omega) (v := R.getD i 0) (rfl) dX3_without_30 ?_
          refine h_ist (w := []) (xs := [(q1, h_row D (pad_ ((R.eraseIdx k).take i) (R.length - 1)))]) (i := 0) (R := pad_ ((R.eraseIdx k).take i) (R.length - 1)) (j := i) (x := R.getD i 0) hx hb hE hP hD hS (rfl) (by rw [pad_len (by rw [List.length_take]; omega)]; omega) (by rw [pad_len (by rw [List.length_take]; omega)]; omega) dX3_without_31 (fun H locs hP hD hS => ?_)
          rw [show (pad_ ((R.eraseIdx k).take i) (R.length - 1) : List Int32).set i (R.getD i 0) = pad_ ((R.eraseIdx k).take (i + 1)) (R.length - 1) from by rw [tk_s (by omega), er_getD, if_pos (by omega), ← pad_set (by rw [List.length_take]; omega)]; congr 1; rw [List.length_take]; omega] at hP hD
          have hP : va_P D vwCl [(q1, h_row D (pad_ ((R.eraseIdx k).take (i + 1)) (R.length - 1)))] H := hP
          have hD : va_D (va_A ([]) s.heap.size) [(q1, h_row D (pad_ ((R.eraseIdx k).take (i + 1)) (R.length - 1)))] := hD
          refine lv_iinc (v := nI (i + 1)) (lv' := [(3, .int (nI (i + 1))), (0, .ref a0), (1, .int (nI k)), (2, .ref q1)]) hx hb dX3_without_32 hl (k := 3) rfl (g_inc i) (by decide) rfl (fun ls hl => ?_)
          refine lv_goto (tgt := 9) hx hb dX3_without_35 (by decide) ?_
          exact ih9 (i + 1) (by omega) (by omega) _ _ hP hD hS ls (lv_sub hl [1, 2, 3, 0] rfl)
  exact K9 ((R.length - 1 - 0) + 1) 0 (Nat.lt_succ_self _) (Nat.zero_le _) _ _ hP hD hS ls (lv_sub hl [2, 3, 1, 0] rfl)

abbrev m_X3_put_rm  : Room := { frames := 9, cells := 2, slots := 50, locals := 223 }
set_option maxHeartbeats 4000000 in
set_option maxRecDepth 100000 in
theorem m_X3_put (l : Launch) (D : va_G) (q : Nat → Nat) (N M : Nat → List Int32) (w : Nat) (x y : Int32) (hw : w ≤ 1) (hn : (N w).length ≤ 24) (hm : (M w).length = (N w).length) (hD0 : va_D (fun _ => True) (h_SW D q N M)) : h_M l D yX3_put cX3_put 5 none m_X3_put_rm [.ref (q 0), .int (nI w), .int x, .int y] none ([]) ((h_SW D q N M)) (fun v1 w1 => v1 = none ∧ ∃ q1 : Nat → Nat, q1 0 = q 0 ∧ w1 = h_SW D q1 (pN_ N w x) (pM_ N M w x y)) := by
  refine h_ofW [(0, .ref (q 0)), (1, .int (nI w)), (2, .int x), (3, .int y)] (by decide +kernel) (Nat.le_of_ble_eq_true rfl) rfl ?_
  intro p e s m args below meth c hx hb hr hml hown hlocks hts hE hZ hR hP hS hX ls hl
  have hown : s.vm.findClass RX3 = some m.cls := hown
  generalize hQ : MQ _ _ _ _ _ _ _ = Q
  have hD : va_D (va_A ((h_SW D q N M)) s.heap.size) ((h_SW D q N M)) := va_D.self hD0
  refine lv_aload_n hx hb dX3_put_0 rfl (lv_at hl 0 rfl) ?_
  refine lv_iload_n hx hb dX3_put_1 rfl (lv_at hl 1 rfl) ?_
  refine lv_iload_n hx hb dX3_put_2 rfl (lv_at hl 2 rfl) ?_
  refine h_callV (y := yX3_find) (n := 2) (As := [.int (nI w), .int x]) (rest := []) hx hb hml hown hts hE hZ hS hl.1 (m_X3_find l D q N M w (x) (by omega) (by omega)) (h_suf (w := []) hP) h_P0 (h_Anil hS h_Asz) (fun _ _ _ => trivial) (h_jR hP hD (h_Anil hS h_Asz)) k_X3_24 (wr := h_SW D q N M) (q0 := 0) (ci := 3) (h_suf (w := []) hP) (rfl) rfl rfl rfl rfl ⟨Nat.le_of_ble_eq_true rfl, Nat.le_of_ble_eq_true rfl⟩ (Nat.le_of_ble_eq_true rfl) ⟨Nat.le_of_ble_eq_true rfl, Nat.le_of_ble_eq_true rfl⟩ dX3_put_3 (fun v1 w1 H locs hq hP hD hS => ?_)
  obtain ⟨rfl, rfl⟩ := hq
  rw [List.append_nil] at hP hD
  have hP : va_P D vwCl (h_SW D q N M) H := hP
  have hD : va_D (va_A ((h_SW D q N M)) s.heap.size) (h_SW D q N M) := hD
  refine W.widen (k := 0) (n := 0) (Nat.le_of_ble_eq_true rfl) (Nat.le_of_ble_eq_true rfl) ?_
  refine W.eq (g2 := F0 m 6 ls [.int (fdx_ (N w) (x))]) rfl ?_
  refine lv_istore (lv' := [(4, .int (fdx_ (N w) (x))), (0, .ref (q 0)), (1, .int (nI w)), (2, .int x), (3, .int y)]) hx hb dX3_put_6 hl (by decide) rfl (fun ls hl => ?_)
  refine lv_iload hx hb dX3_put_8 (lv_at hl 0 rfl) ?_
  refine lv_if_lt (tgt := 24) hx hb dX3_put_10 (by decide) (fun h10 => ?_) (fun h10 => ?_)
  · have hk9 := fdx_neg (by omega) h10
    refine lv_aload_n hx hb dX3_put_24 rfl (lv_at hl 1 rfl) ?_
    refine h_get (w := []) (xs := (h_SW D q N M)) (i := 0) hx hb hts hE hown hP rfl 0 (by decide) rfl wf_X3_9 (v := .ref (q 1)) rfl dX3_put_25 ?_
    refine lv_iload_n hx hb dX3_put_28 rfl (lv_at hl 2 rfl) ?_
    refine lv_aload_n hx hb dX3_put_29 rfl (lv_at hl 1 rfl) ?_
    refine h_get (w := []) (xs := (h_SW D q N M)) (i := 0) hx hb hts hE hown hP rfl 0 (by decide) rfl wf_X3_9 (v := .ref (q 1)) rfl dX3_put_30 ?_
    refine lv_iload_n hx hb dX3_put_33 rfl (lv_at hl 2 rfl) ?_
    refine h_ald (w := []) (xs := (h_SW D q N M)) (i := 1) (q := q) (o := 3) (j := w) hx hb hE hP rfl (by omega) dX3_put_34 ?_
    refine lv_iload_n hx hb dX3_put_35 rfl (lv_at hl 3 rfl) ?_
    refine h_callS (y := yX3_more) (n := 2) (As := [.ref (q (3 + w)), .int x]) (rest := [.int (nI w), .ref (q 1)]) hx hb hml hown hts hE hZ hS hl.1 (m_X3_more l D (q (3 + w)) (N w) (x) (by omega)) (h_pick (w := []) (xs := (h_SW D q N M)) (i := (3 + w)) hP (h_SWn (by omega))) h_P0 (h_Anil hS h_Asz) (fun _ _ _ => trivial) (h_jR hP hD (h_Anil hS h_Asz)) k_X3_28 rfl rfl ⟨Nat.le_of_ble_eq_true rfl, Nat.le_of_ble_eq_true rfl⟩ (Nat.le_of_ble_eq_true rfl) ⟨Nat.le_of_ble_eq_true rfl, Nat.le_of_ble_eq_true rfl⟩ dX3_put_36 (fun v3 w1 H locs hq hP hD hS => ?_)
    obtain ⟨am2, rfl, rfl⟩ := hq
    have hP : va_P D vwCl (h_SW D q N M ++ [(am2, h_row D ((N w) ++ [x]))]) H := hP
    have hD : va_D (va_A ((h_SW D q N M)) s.heap.size) (h_SW D q N M ++ [(am2, h_row D ((N w) ++ [x]))]) := hD
    refine W.widen (k := 1) (n := 25) (Nat.le_of_ble_eq_true rfl) (Nat.le_of_ble_eq_true rfl) ?_
    refine W.eq (g2 := F0 m 39 ls [.ref am2, .int (nI w), .ref (q 1)]) rfl ?_
    refine h_ast (w := []) (xs := (h_SW D q N M ++ [(am2, h_row D ((N w) ++ [x]))])) (i := 1) (i2 := 7) (j := w) (v := am2) (q := q) (o := 3) (R := (N w) ++ [x]) hx hb hE hP hD hS rfl (by omega) rfl dX3_put_39 (fun H locs hP hD hS => ?_)
    obtain ⟨hP, hD⟩ := h_SWun (w0 := []) (by omega) hP hD
    have hqs6 : (va_up q (3 + w) am2) 0 = q 0 := va_up_ne _ _ (by omega)
    generalize hzqs4 : va_up q (3 + w) am2 = qs4 at hP hD hqs6
    have Xs51 : qs4 1 = q 1 := by rw [← hzqs4]; exact va_up_ne _ _ (by omega)
    have Xs52 : qs4 2 = q 2 := by rw [← hzqs4]; exact va_up_ne _ _ (by omega)
    have hP : va_P D vwCl (h_SW D qs4 (va_up N w ((N w) ++ [x])) M) H := hP
    have hD : va_D (va_A ((h_SW D q N M)) s.heap.size) (h_SW D qs4 (va_up N w ((N w) ++ [x])) M) := hD
    rw [← hqs6] at hl
    refine lv_aload_n hx hb dX3_put_40 rfl (lv_at hl 1 rfl) ?_
    refine h_get (w := []) (xs := (h_SW D qs4 (va_up N w ((N w) ++ [x])) M)) (i := 0) hx hb hts hE hown hP rfl 1 (by decide) rfl wf_X3_15 (v := .ref (qs4 2)) rfl dX3_put_41 ?_
    refine lv_iload_n hx hb dX3_put_44 rfl (lv_at hl 2 rfl) ?_
    refine lv_aload_n hx hb dX3_put_45 rfl (lv_at hl 1 rfl) ?_
    refine h_get (w := []) (xs := (h_SW D qs4 (va_up N w ((N w) ++ [x])) M)) (i := 0) hx hb hts hE hown hP rfl 1 (by decide) rfl wf_X3_15 (v := .ref (qs4 2)) rfl dX3_put_46 ?_
    refine lv_iload_n hx hb dX3_put_49 rfl (lv_at hl 2 rfl) ?_
    refine h_ald (w := []) (xs := (h_SW D qs4 (va_up N w ((N w) ++ [x])) M)) (i := 2) (q := qs4) (o := 5) (j := w) hx hb hE hP rfl (by omega) dX3_put_50 ?_
    refine lv_iload_n hx hb dX3_put_51 rfl (lv_at hl 4 rfl) ?_
    refine h_callS (y := yX3_more) (n := 2) (As := [.ref (qs4 (5 + w)), .int y]) (rest := [.int (nI w), .ref (qs4 2)]) hx hb hml hown hts hE hZ hS hl.1 (m_X3_more l D (qs4 (5 + w)) (M w) (y) (by omega)) (h_pick (w := []) (xs := (h_SW D qs4 (va_up N w ((N w) ++ [x])) M)) (i := (5 + w)) hP (h_SWm (by omega))) h_P0 (h_Anil hS h_Asz) (fun _ _ _ => trivial) (h_jR hP hD (h_Anil hS h_Asz)) k_X3_28 rfl rfl ⟨Nat.le_of_ble_eq_true rfl, Nat.le_of_ble_eq_true rfl⟩ (Nat.le_of_ble_eq_true rfl) ⟨Nat.le_of_ble_eq_true rfl, Nat.le_of_ble_eq_true rfl⟩ dX3_put_52 (fun v8 w1 H locs hq hP hD hS => ?_)
    obtain ⟨am7, rfl, rfl⟩ := hq
    have hP : va_P D vwCl (h_SW D qs4 (va_up N w ((N w) ++ [x])) M ++ [(am7, h_row D ((M w) ++ [y]))]) H := hP
    have hD : va_D (va_A ((h_SW D q N M)) s.heap.size) (h_SW D qs4 (va_up N w ((N w) ++ [x])) M ++ [(am7, h_row D ((M w) ++ [y]))]) := hD
    refine W.widen (k := 2) (n := 50) (Nat.le_of_ble_eq_true rfl) (Nat.le_of_ble_eq_true rfl) ?_
    refine W.eq (g2 := F0 m 55 ls [.ref am7, .int (nI w), .ref (qs4 2)]) rfl ?_
    refine h_ast (w := []) (xs := (h_SW D qs4 (va_up N w ((N w) ++ [x])) M ++ [(am7, h_row D ((M w) ++ [y]))])) (i := 2) (i2 := 7) (j := w) (v := am7) (q := qs4) (o := 5) (R := (M w) ++ [y]) hx hb hE hP hD hS rfl (by omega) rfl dX3_put_55 (fun H locs hP hD hS => ?_)
    obtain ⟨hP, hD⟩ := h_SWum (w0 := []) (by omega) hP hD
    have hqs11 : (va_up qs4 (5 + w) am7) 0 = qs4 0 := va_up_ne _ _ (by omega)
    generalize hzqs9 : va_up qs4 (5 + w) am7 = qs9 at hP hD hqs11
    have Xs101 : qs9 1 = qs4 1 := by rw [← hzqs9]; exact va_up_ne _ _ (by omega)
    have Xs102 : qs9 2 = qs4 2 := by rw [← hzqs9]; exact va_up_ne _ _ (by omega)
    have hP : va_P D vwCl (h_SW D qs9 (va_up N w ((N w) ++ [x])) (va_up M w ((M w) ++ [y]))) H := hP
    have hD : va_D (va_A ((h_SW D q N M)) s.heap.size) (h_SW D qs9 (va_up N w ((N w) ++ [x])) (va_up M w ((M w) ++ [y]))) := hD
    rw [← hqs11] at hl
    refine W.widen (k := 2) (n := 50) (by omega) (by omega) ?_
    rw [← hQ]
    exact W.vret hx hb hr (fun te9 hte9 _ => h_fin (⟨rfl, qs9, hqs11.trans hqs6, by rw [pN_, pM_, if_neg hk9, if_neg hk9]⟩) hP hD hS hte9) hS.2.2 dX3_put_56 hlocks
  · obtain ⟨hk9, hke⟩ := fdx_pos h10
    rw [hke] at hl
    refine lv_aload_n hx hb dX3_put_13 rfl (lv_at hl 1 rfl) ?_
    refine h_get (w := []) (xs := (h_SW D q N M)) (i := 0) hx hb hts hE hown hP rfl 1 (by decide) rfl wf_X3_15 (v := .ref (q 2)) rfl dX3_put_14 ?_
    refine lv_iload_n hx hb dX3_put_17 rfl (lv_at hl 2 rfl) ?_
    refine h_ald (w := []) (xs := (h_SW D q N M)) (i := 2) (q := q) (o := 5) (j := w) hx hb hE hP rfl (by omega) dX3_put_18 ?_
    refine lv_iload hx hb dX3_put_19 (lv_at hl 0 rfl) ?_
    refine lv_iload_n hx hb dX3_put_21 rfl (lv_at hl 4 rfl) ?_
    refine h_ist (w := []) (xs := h_SW D q N M) (i := 5 + w) (R := M w) (j := ix9 (N w) x) (x := y) hx hb hE hP hD hS (h_SWm hw) (by omega) (by omega) dX3_put_22 (fun H locs hP hD hS => ?_)
    rw [h_SWsm hw] at hP hD
    have hP : va_P D vwCl (h_SW D q N (va_up M w ((M w).set (ix9 (N w) x) y))) H := hP
    have hD : va_D (va_A ((h_SW D q N M)) s.heap.size) (h_SW D q N (va_up M w ((M w).set (ix9 (N w) x) y))) := hD
    refine W.widen (k := 2) (n := 50) (by omega) (by omega) ?_
    rw [← hQ]
    exact W.vret hx hb hr (fun te9 hte9 _ => h_fin (⟨rfl, q, rfl, by rw [pN_, pM_, if_pos hk9, if_pos hk9]⟩) hP hD hS hte9) hS.2.2 dX3_put_23 hlocks

abbrev m_X3_take_rm  : Room := { frames := 9, cells := 2, slots := 48, locals := 223 }
set_option maxHeartbeats 4000000 in
set_option maxRecDepth 100000 in
theorem m_X3_take (l : Launch) (D : va_G) (q : Nat → Nat) (N M : Nat → List Int32) (w : Nat) (x : Int32) (hw : w ≤ 1) (hn : (N w).length ≤ 24) (hm : (M w).length = (N w).length) (hk9 : ix9 (N w) x < (N w).length) (hD0 : va_D (fun _ => True) (h_SW D q N M)) : h_M l D yX3_take cX3_take 4 none m_X3_take_rm [.ref (q 0), .int (nI w), .int x] none ([]) ((h_SW D q N M)) (fun v1 w1 => v1 = none ∧ ∃ q1 : Nat → Nat, q1 0 = q 0 ∧ w1 = h_SW D q1 (va_up N w ((N w).eraseIdx (ix9 (N w) x))) (va_up M w ((M w).eraseIdx (ix9 (N w) x)))) := by
  refine h_ofW [(0, .ref (q 0)), (1, .int (nI w)), (2, .int x)] (by decide +kernel) (Nat.le_of_ble_eq_true rfl) rfl ?_
  intro p e s m args below meth c hx hb hr hml hown hlocks hts hE hZ hR hP hS hX ls hl
  have hown : s.vm.findClass RX3 = some m.cls := hown
  generalize hQ : MQ _ _ _ _ _ _ _ = Q
  have hD : va_D (va_A ((h_SW D q N M)) s.heap.size) ((h_SW D q N M)) := va_D.self hD0
  refine lv_aload_n hx hb dX3_take_0 rfl (lv_at hl 0 rfl) ?_
  refine lv_iload_n hx hb dX3_take_1 rfl (lv_at hl 1 rfl) ?_
  refine lv_iload_n hx hb dX3_take_2 rfl (lv_at hl 2 rfl) ?_
  refine h_callV (y := yX3_find) (n := 2) (As := [.int (nI w), .int x]) (rest := []) hx hb hml hown hts hE hZ hS hl.1 (m_X3_find l D q N M w (x) (by omega) (by omega)) (h_suf (w := []) hP) h_P0 (h_Anil hS h_Asz) (fun _ _ _ => trivial) (h_jR hP hD (h_Anil hS h_Asz)) k_X3_24 (wr := h_SW D q N M) (q0 := 0) (ci := 3) (h_suf (w := []) hP) (rfl) rfl rfl rfl rfl ⟨Nat.le_of_ble_eq_true rfl, Nat.le_of_ble_eq_true rfl⟩ (Nat.le_of_ble_eq_true rfl) ⟨Nat.le_of_ble_eq_true rfl, Nat.le_of_ble_eq_true rfl⟩ dX3_take_3 (fun v1 w1 H locs hq hP hD hS => ?_)
  obtain ⟨rfl, rfl⟩ := hq
  rw [List.append_nil] at hP hD
  have hP : va_P D vwCl (h_SW D q N M) H := hP
  have hD : va_D (va_A ((h_SW D q N M)) s.heap.size) (h_SW D q N M) := hD
  refine W.widen (k := 0) (n := 0) (Nat.le_of_ble_eq_true rfl) (Nat.le_of_ble_eq_true rfl) ?_
  refine W.eq (g2 := F0 m 6 ls [.int (fdx_ (N w) (x))]) rfl ?_
  refine g_top (y := nI (ix9 (N w) x)) (by rw [fdx_, if_pos hk9]) ?_
  refine lv_istore_n (lv' := [(3, .int (nI (ix9 (N w) x))), (0, .ref (q 0)), (1, .int (nI w)), (2, .int x)]) hx hb dX3_take_6 rfl hl (by decide) rfl (fun ls hl => ?_)
  refine lv_aload_n hx hb dX3_take_7 rfl (lv_at hl 1 rfl) ?_
  refine h_get (w := []) (xs := (h_SW D q N M)) (i := 0) hx hb hts hE hown hP rfl 1 (by decide) rfl wf_X3_15 (v := .ref (q 2)) rfl dX3_take_8 ?_
  refine lv_iload_n hx hb dX3_take_11 rfl (lv_at hl 2 rfl) ?_
  refine lv_aload_n hx hb dX3_take_12 rfl (lv_at hl 1 rfl) ?_
  refine h_get (w := []) (xs := (h_SW D q N M)) (i := 0) hx hb hts hE hown hP rfl 1 (by decide) rfl wf_X3_15 (v := .ref (q 2)) rfl dX3_take_13 ?_
  refine lv_iload_n hx hb dX3_take_16 rfl (lv_at hl 2 rfl) ?_
  refine h_ald (w := []) (xs := (h_SW D q N M)) (i := 2) (q := q) (o := 5) (j := w) hx hb hE hP rfl (by omega) dX3_take_17 ?_
  refine lv_iload_n hx hb dX3_take_18 rfl (lv_at hl 0 rfl) ?_
  refine h_callS (y := yX3_without) (n := 2) (As := [.ref (q (5 + w)), .int (nI (ix9 (N w) x))]) (rest := [.int (nI w), .ref (q 2)]) hx hb hml hown hts hE hZ hS hl.1 (m_X3_without l D (q (5 + w)) (M w) (ix9 (N w) x) (by omega) (by omega)) (h_pick (w := []) (xs := (h_SW D q N M)) (i := (5 + w)) hP (h_SWm (by omega))) h_P0 (h_Anil hS h_Asz) (fun _ _ _ => trivial) (h_jR hP hD (h_Anil hS h_Asz)) k_X3_32 rfl rfl ⟨Nat.le_of_ble_eq_true rfl, Nat.le_of_ble_eq_true rfl⟩ (Nat.le_of_ble_eq_true rfl) ⟨Nat.le_of_ble_eq_true rfl, Nat.le_of_ble_eq_true rfl⟩ dX3_take_19 (fun v3 w1 H locs hq hP hD hS => ?_)
  obtain ⟨ao2, rfl, rfl⟩ := hq
  have hP : va_P D vwCl (h_SW D q N M ++ [(ao2, h_row D ((M w).eraseIdx (ix9 (N w) x)))]) H := hP
  have hD : va_D (va_A ((h_SW D q N M)) s.heap.size) (h_SW D q N M ++ [(ao2, h_row D ((M w).eraseIdx (ix9 (N w) x)))]) := hD
  refine W.widen (k := 1) (n := 24) (Nat.le_of_ble_eq_true rfl) (Nat.le_of_ble_eq_true rfl) ?_
  refine W.eq (g2 := F0 m 22 ls [.ref ao2, .int (nI w), .ref (q 2)]) rfl ?_
  refine h_ast (w := []) (xs := (h_SW D q N M ++ [(ao2, h_row D ((M w).eraseIdx (ix9 (N w) x)))])) (i := 2) (i2 := 7) (j := w) (v := ao2) (q := q) (o := 5) (R := (M w).eraseIdx (ix9 (N w) x)) hx hb hE hP hD hS rfl (by omega) rfl dX3_take_22 (fun H locs hP hD hS => ?_)
  obtain ⟨hP, hD⟩ := h_SWum (w0 := []) (by omega) hP hD
  have hqs6 : (va_up q (5 + w) ao2) 0 = q 0 := va_up_ne _ _ (by omega)
  generalize hzqs4 : va_up q (5 + w) ao2 = qs4 at hP hD hqs6
  have Xs51 : qs4 1 = q 1 := by rw [← hzqs4]; exact va_up_ne _ _ (by omega)
  have Xs52 : qs4 2 = q 2 := by rw [← hzqs4]; exact va_up_ne _ _ (by omega)
  have hP : va_P D vwCl (h_SW D qs4 N (va_up M w ((M w).eraseIdx (ix9 (N w) x)))) H := hP
  have hD : va_D (va_A ((h_SW D q N M)) s.heap.size) (h_SW D qs4 N (va_up M w ((M w).eraseIdx (ix9 (N w) x)))) := hD
  rw [← hqs6] at hl
  refine lv_aload_n hx hb dX3_take_23 rfl (lv_at hl 1 rfl) ?_
  refine h_get (w := []) (xs := (h_SW D qs4 N (va_up M w ((M w).eraseIdx (ix9 (N w) x))))) (i := 0) hx hb hts hE hown hP rfl 0 (by decide) rfl wf_X3_9 (v := .ref (qs4 1)) rfl dX3_take_24 ?_
  refine lv_iload_n hx hb dX3_take_27 rfl (lv_at hl 2 rfl) ?_
  refine lv_aload_n hx hb dX3_take_28 rfl (lv_at hl 1 rfl) ?_
  refine h_get (w := []) (xs := (h_SW D qs4 N (va_up M w ((M w).eraseIdx (ix9 (N w) x))))) (i := 0) hx hb hts hE hown hP rfl 0 (by decide) rfl wf_X3_9 (v := .ref (qs4 1)) rfl dX3_take_29 ?_
  refine lv_iload_n hx hb dX3_take_32 rfl (lv_at hl 2 rfl) ?_
  refine h_ald (w := []) (xs := (h_SW D qs4 N (va_up M w ((M w).eraseIdx (ix9 (N w) x))))) (i := 1) (q := qs4) (o := 3) (j := w) hx hb hE hP rfl (by omega) dX3_take_33 ?_
  refine lv_iload_n hx hb dX3_take_34 rfl (lv_at hl 0 rfl) ?_
  refine h_callS (y := yX3_without) (n := 2) (As := [.ref (qs4 (3 + w)), .int (nI (ix9 (N w) x))]) (rest := [.int (nI w), .ref (qs4 1)]) hx hb hml hown hts hE hZ hS hl.1 (m_X3_without l D (qs4 (3 + w)) (N w) (ix9 (N w) x) (by omega) (by omega)) (h_pick (w := []) (xs := (h_SW D qs4 N (va_up M w ((M w).eraseIdx (ix9 (N w) x))))) (i := (3 + w)) hP (h_SWn (by omega))) h_P0 (h_Anil hS h_Asz) (fun _ _ _ => trivial) (h_jR hP hD (h_Anil hS h_Asz)) k_X3_32 rfl rfl ⟨Nat.le_of_ble_eq_true rfl, Nat.le_of_ble_eq_true rfl⟩ (Nat.le_of_ble_eq_true rfl) ⟨Nat.le_of_ble_eq_true rfl, Nat.le_of_ble_eq_true rfl⟩ dX3_take_35 (fun v8 w1 H locs hq hP hD hS => ?_)
  obtain ⟨ao7, rfl, rfl⟩ := hq
  have hP : va_P D vwCl (h_SW D qs4 N (va_up M w ((M w).eraseIdx (ix9 (N w) x))) ++ [(ao7, h_row D ((N w).eraseIdx (ix9 (N w) x)))]) H := hP
  have hD : va_D (va_A ((h_SW D q N M)) s.heap.size) (h_SW D qs4 N (va_up M w ((M w).eraseIdx (ix9 (N w) x))) ++ [(ao7, h_row D ((N w).eraseIdx (ix9 (N w) x)))]) := hD
  refine W.widen (k := 2) (n := 48) (Nat.le_of_ble_eq_true rfl) (Nat.le_of_ble_eq_true rfl) ?_
  refine W.eq (g2 := F0 m 38 ls [.ref ao7, .int (nI w), .ref (qs4 1)]) rfl ?_
  refine h_ast (w := []) (xs := (h_SW D qs4 N (va_up M w ((M w).eraseIdx (ix9 (N w) x))) ++ [(ao7, h_row D ((N w).eraseIdx (ix9 (N w) x)))])) (i := 1) (i2 := 7) (j := w) (v := ao7) (q := qs4) (o := 3) (R := (N w).eraseIdx (ix9 (N w) x)) hx hb hE hP hD hS rfl (by omega) rfl dX3_take_38 (fun H locs hP hD hS => ?_)
  obtain ⟨hP, hD⟩ := h_SWun (w0 := []) (by omega) hP hD
  have hqs11 : (va_up qs4 (3 + w) ao7) 0 = qs4 0 := va_up_ne _ _ (by omega)
  generalize hzqs9 : va_up qs4 (3 + w) ao7 = qs9 at hP hD hqs11
  have Xs101 : qs9 1 = qs4 1 := by rw [← hzqs9]; exact va_up_ne _ _ (by omega)
  have Xs102 : qs9 2 = qs4 2 := by rw [← hzqs9]; exact va_up_ne _ _ (by omega)
  have hP : va_P D vwCl (h_SW D qs9 (va_up N w ((N w).eraseIdx (ix9 (N w) x))) (va_up M w ((M w).eraseIdx (ix9 (N w) x)))) H := hP
  have hD : va_D (va_A ((h_SW D q N M)) s.heap.size) (h_SW D qs9 (va_up N w ((N w).eraseIdx (ix9 (N w) x))) (va_up M w ((M w).eraseIdx (ix9 (N w) x)))) := hD
  rw [← hqs11] at hl
  refine W.widen (k := 2) (n := 48) (by omega) (by omega) ?_
  rw [← hQ]
  exact W.vret hx hb hr (fun te9 hte9 _ => h_fin (⟨rfl, qs9, hqs11.trans hqs6, rfl⟩) hP hD hS hte9) hS.2.2 dX3_take_39 hlocks
