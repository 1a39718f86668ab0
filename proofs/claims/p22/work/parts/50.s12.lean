abbrev m_X3_init_rm  : Room := { frames := 8, cells := 6, slots := 4, locals := 200 }
set_option maxHeartbeats 4000000 in
set_option maxRecDepth 100000 in
theorem m_X3_init (l : Launch) (D : va_G) (h0 : Nat)  : h_O l D yX3_init cX3_init 1 none m_X3_init_rm [.ref h0] none ([]) ([(h0, .inr (3, [.null, .null]))]) (fun v1 w1 => v1 = none ∧ ∃ q : Nat → Nat, q 0 = h0 ∧ w1 = h_SW D q (fun _ => []) (fun _ => [])) := by
  have hD0 : va_D (fun _ => True) [(h0, .inr (3, [.null, .null]))] := ⟨fun i j p q hi hj e => by have h1 : i < 1 := (List.getElem?_eq_some_iff.mp hi).1; have h2 : j < 1 := (List.getElem?_eq_some_iff.mp hj).1; omega, fun _ _ _ => trivial⟩
  refine h_ofO [(0, .ref h0)] (by decide +kernel) (Nat.le_of_ble_eq_true rfl) rfl ?_
  intro p e s m args below meth c hx hb hr hml hown hlocks hts hE hZ hR hP hS hX hO ls hl
  have hown : s.vm.findClass RX3 = some m.cls := hown
  generalize hQ : MQ _ _ _ _ _ _ _ = Q
  have hD : va_D (va_A ([(h0, .inr (3, [.null, .null]))]) s.heap.size) ([(h0, .inr (3, [.null, .null]))]) := va_D.self hD0
  refine lv_aload_n hx hb dX3_init_0 rfl (lv_at hl 0 rfl) ?_
  refine h_obj hx hb hml hown hts hl.1 (g_mem 554 (by decide +kernel)) dX3_init_1 ⟨Nat.le_of_ble_eq_true rfl, Nat.le_of_ble_eq_true rfl⟩ ?_
  refine lv_aload_n hx hb dX3_init_4 rfl (lv_at hl 0 rfl) ?_
  refine lv_iconst (v := nI 2) hx hb dX3_init_5 (by decide) ?_
  refine h_nwO (w := []) (xs := [(h0, .inr (3, [.null, .null]))]) hx hb hts hE hown wl_X3_7 (over_moved (a := #[]) (Vm.Alike.refl _) hO) hP hD hS h_Asz (by show 0 + 1 ≤ 6; omega) (by show 0 + 2 ≤ 4; omega) dX3_init_6 (fun q1 H hP hD hS => ?_)
  refine W.widen (k := 1) (n := 2) (Nat.le_of_ble_eq_true rfl) (Nat.le_of_ble_eq_true rfl) ?_
  have hP : va_P D vwCl [(h0, .inr (3, [.null, .null])), (q1, .inl (g_cA D, 2, .inr (.inr (.inr (.inr (fun _ => none))))))] H := hP
  have hD : va_D (va_A ([(h0, .inr (3, [.null, .null]))]) s.heap.size) [(h0, .inr (3, [.null, .null])), (q1, .inl (g_cA D, 2, .inr (.inr (.inr (.inr (fun _ => none))))))] := hD
  refine lv_dup hx hb dX3_init_9 rfl ?_
  refine lv_iconst (v := nI 0) hx hb dX3_init_10 (by decide) ?_
  refine lv_iconst (v := nI 0) hx hb dX3_init_11 (by decide) ?_
  refine h_new (w := []) (xs := [(h0, .inr (3, [.null, .null])), (q1, .inl (g_cA D, 2, .inr (.inr (.inr (.inr (fun _ => none))))))]) (n := 0) hx hb hts hE hP hD hS h_Asz (by omega) (by show 1 + 1 ≤ 6; omega) (by show 2 + 0 ≤ 4; omega) dX3_init_12 (fun q2 H hP hD hS => ?_)
  refine W.widen (k := 1 + 1) (n := 2 + 0) (by omega) (by omega) ?_
  refine W.widen (k := 2) (n := 2) (by omega) (by omega) ?_
  have hP : va_P D vwCl [(h0, .inr (3, [.null, .null])), (q1, .inl (g_cA D, 2, .inr (.inr (.inr (.inr (fun _ => none)))))), (q2, h_row D ([]))] H := hP
  have hD : va_D (va_A ([(h0, .inr (3, [.null, .null]))]) s.heap.size) [(h0, .inr (3, [.null, .null])), (q1, .inl (g_cA D, 2, .inr (.inr (.inr (.inr (fun _ => none)))))), (q2, h_row D ([]))] := hD
  refine h_astF (w := []) (xs := [(h0, .inr (3, [.null, .null])), (q1, .inl (g_cA D, 2, .inr (.inr (.inr (.inr (fun _ => none)))))), (q2, h_row D ([]))]) hx hb hE hP hD hS (i := 1) (i2 := 2) (j := 0) (a := q1) (v := q2) (f := fun _ => none) (R := []) rfl (by decide) rfl dX3_init_14 (fun H locs hP hD hS => ?_)
  have hP : va_P D vwCl [(h0, .inr (3, [.null, .null])), (q1, .inl (g_cA D, 2, .inr (.inr (.inr (.inr (va_up (fun _ => none) 0 (some q2))))))), (q2, h_row D ([]))] H := hP
  have hD : va_D (va_A ([(h0, .inr (3, [.null, .null]))]) s.heap.size) [(h0, .inr (3, [.null, .null])), (q1, .inl (g_cA D, 2, .inr (.inr (.inr (.inr (va_up (fun _ => none) 0 (some q2))))))), (q2, h_row D ([]))] := hD
  refine lv_dup hx hb dX3_init_15 rfl ?_
  refine lv_iconst (v := nI 1) hx hb dX3_init_16 (by decide) ?_
  refine lv_iconst (v := nI 0) hx hb dX3_init_17 (by decide) ?_
  refine h_new (w := []) (xs := [(h0, .inr (3, [.null, .null])), (q1, .inl (g_cA D, 2, .inr (.inr (.inr (.inr (va_up (fun _ => none) 0 (some q2))))))), (q2, h_row D ([]))]) (n := 0) hx hb hts hE hP hD hS h_Asz (by omega) (by show 2 + 1 ≤ 6; omega) (by show 2 + 0 ≤ 4; omega) dX3_init_18 (fun q3 H hP hD hS => ?_)
  refine W.widen (k := 2 + 1) (n := 2 + 0) (by omega) (by omega) ?_
  refine W.widen (k := 3) (n := 2) (by omega) (by omega) ?_
  have hP : va_P D vwCl [(h0, .inr (3, [.null, .null])), (q1, .inl (g_cA D, 2, .inr (.inr (.inr (.inr (va_up (fun _ => none) 0 (some q2))))))), (q2, h_row D ([])), (q3, h_row D ([]))] H := hP
  have hD : va_D (va_A ([(h0, .inr (3, [.null, .null]))]) s.heap.size) [(h0, .inr (3, [.null, .null])), (q1, .inl (g_cA D, 2, .inr (.inr (.inr (.inr (va_up (fun _ => none) 0 (some q2))))))), (q2, h_row D ([])), (q3, h_row D ([]))] := hD
  refine h_astF (w := []) (xs := [(h0, .inr (3, [.null, .null])), (q1, .inl (g_cA D, 2, .inr (.inr (.inr (.inr (va_up (fun _ => none) 0 (some q2))))))), (q2, h_row D ([])), (q3, h_row D ([]))]) hx hb hE hP hD hS (i := 1) (i2 := 3) (j := 1) (a := q1) (v := q3) (f := va_up (fun _ => none) 0 (some q2)) (R := []) rfl (by decide) rfl dX3_init_20 (fun H locs hP hD hS => ?_)
  have hP : va_P D vwCl [(h0, .inr (3, [.null, .null])), (q1, .inl (g_cA D, 2, .inr (.inr (.inr (.inr (va_up (va_up (fun _ => none) 0 (some q2)) 1 (some q3))))))), (q2, h_row D ([])), (q3, h_row D ([]))] H := hP
  have hD : va_D (va_A ([(h0, .inr (3, [.null, .null]))]) s.heap.size) [(h0, .inr (3, [.null, .null])), (q1, .inl (g_cA D, 2, .inr (.inr (.inr (.inr (va_up (va_up (fun _ => none) 0 (some q2)) 1 (some q3))))))), (q2, h_row D ([])), (q3, h_row D ([]))] := hD
  refine h_putS (xs := [(h0, .inr (3, [.null, .null])), (q1, .inl (g_cA D, 2, .inr (.inr (.inr (.inr (va_up (va_up (fun _ => none) 0 (some q2)) 1 (some q3))))))), (q2, h_row D ([])), (q3, h_row D ([]))]) (i := 0) (q := q1) hx hb hts hE hown hP hD hS rfl 0 (by decide) rfl rfl rfl rfl wf_X3_9 (Nat.le_of_ble_eq_true rfl) dX3_init_21 (fun H locs hP hD hS => ?_)
  have hP : va_P D vwCl [(h0, .inr (3, [.ref q1, .null])), (q1, .inl (g_cA D, 2, .inr (.inr (.inr (.inr (va_up (va_up (fun _ => none) 0 (some q2)) 1 (some q3))))))), (q2, h_row D ([])), (q3, h_row D ([]))] H := hP
  have hD : va_D (va_A ([(h0, .inr (3, [.null, .null]))]) s.heap.size) [(h0, .inr (3, [.ref q1, .null])), (q1, .inl (g_cA D, 2, .inr (.inr (.inr (.inr (va_up (va_up (fun _ => none) 0 (some q2)) 1 (some q3))))))), (q2, h_row D ([])), (q3, h_row D ([]))] := hD
  refine lv_aload_n hx hb dX3_init_24 rfl (lv_at hl 0 rfl) ?_
  refine lv_iconst (v := nI 2) hx hb dX3_init_25 (by decide) ?_
  refine h_nwO (w := []) (xs := [(h0, .inr (3, [.ref q1, .null])), (q1, .inl (g_cA D, 2, .inr (.inr (.inr (.inr (va_up (va_up (fun _ => none) 0 (some q2)) 1 (some q3))))))), (q2, h_row D ([])), (q3, h_row D ([]))]) hx hb hts hE hown wl_X3_7 (over_moved (a := #[]) (Vm.Alike.refl _) hO) hP hD hS h_Asz (by show 3 + 1 ≤ 6; omega) (by show 2 + 2 ≤ 4; omega) dX3_init_26 (fun q4 H hP hD hS => ?_)
  refine W.widen (k := 4) (n := 4) (Nat.le_of_ble_eq_true rfl) (Nat.le_of_ble_eq_true rfl) ?_
  have hP : va_P D vwCl [(h0, .inr (3, [.ref q1, .null])), (q1, .inl (g_cA D, 2, .inr (.inr (.inr (.inr (va_up (va_up (fun _ => none) 0 (some q2)) 1 (some q3))))))), (q2, h_row D ([])), (q3, h_row D ([])), (q4, .inl (g_cA D, 2, .inr (.inr (.inr (.inr (fun _ => none))))))] H := hP
  have hD : va_D (va_A ([(h0, .inr (3, [.null, .null]))]) s.heap.size) [(h0, .inr (3, [.ref q1, .null])), (q1, .inl (g_cA D, 2, .inr (.inr (.inr (.inr (va_up (va_up (fun _ => none) 0 (some q2)) 1 (some q3))))))), (q2, h_row D ([])), (q3, h_row D ([])), (q4, .inl (g_cA D, 2, .inr (.inr (.inr (.inr (fun _ => none))))))] := hD
  refine lv_dup hx hb dX3_init_29 rfl ?_
  refine lv_iconst (v := nI 0) hx hb dX3_init_30 (by decide) ?_
  refine lv_iconst (v := nI 0) hx hb dX3_init_31 (by decide) ?_
  refine h_new (w := []) (xs := [(h0, .inr (3, [.ref q1, .null])), (q1, .inl (g_cA D, 2, .inr (.inr (.inr (.inr (va_up (va_up (fun _ => none) 0 (some q2)) 1 (some q3))))))), (q2, h_row D ([])), (q3, h_row D ([])), (q4, .inl (g_cA D, 2, .inr (.inr (.inr (.inr (fun _ => none))))))]) (n := 0) hx hb hts hE hP hD hS h_Asz (by omega) (by show 4 + 1 ≤ 6; omega) (by show 4 + 0 ≤ 4; omega) dX3_init_32 (fun q5 H hP hD hS => ?_)
  refine W.widen (k := 4 + 1) (n := 4 + 0) (by omega) (by omega) ?_
  refine W.widen (k := 5) (n := 4) (by omega) (by omega) ?_
  have hP : va_P D vwCl [(h0, .inr (3, [.ref q1, .null])), (q1, .inl (g_cA D, 2, .inr (.inr (.inr (.inr (va_up (va_up (fun _ => none) 0 (some q2)) 1 (some q3))))))), (q2, h_row D ([])), (q3, h_row D ([])), (q4, .inl (g_cA D, 2, .inr (.inr (.inr (.inr (fun _ => none)))))), (q5, h_row D ([]))] H := hP
  have hD : va_D (va_A ([(h0, .inr (3, [.null, .null]))]) s.heap.size) [(h0, .inr (3, [.ref q1, .null])), (q1, .inl (g_cA D, 2, .inr (.inr (.inr (.inr (va_up (va_up (fun _ => none) 0 (some q2)) 1 (some q3))))))), (q2, h_row D ([])), (q3, h_row D ([])), (q4, .inl (g_cA D, 2, .inr (.inr (.inr (.inr (fun _ => none)))))), (q5, h_row D ([]))] := hD
  refine h_astF (w := []) (xs := [(h0, .inr (3, [.ref q1, .null])), (q1, .inl (g_cA D, 2, .inr (.inr (.inr (.inr (va_up (va_up (fun _ => none) 0 (some q2)) 1 (some q3))))))), (q2, h_row D ([])), (q3, h_row D ([])), (q4, .inl (g_cA D, 2, .inr (.inr (.inr (.inr (fun _ => none)))))), (q5, h_row D ([]))]) hx hb hE hP hD hS (i := 4) (i2 := 5) (j := 0) (a := q4) (v := q5) (f := fun _ => none) (R := []) rfl (by decide) rfl dX3_init_34 (fun H locs hP hD hS => ?_)
  have hP : va_P D vwCl [(h0, .inr (3, [.ref q1, .null])), (q1, .inl (g_cA D, 2, .inr (.inr (.inr (.inr (va_up (va_up (fun _ => none) 0 (some q2)) 1 (some q3))))))), (q2, h_row D ([])), (q3, h_row D ([])), (q4, .inl (g_cA D, 2, .inr (.inr (.inr (.inr (va_up (fun _ => none) 0 (some q5))))))), (q5, h_row D ([]))] H := hP
  have hD : va_D (va_A ([(h0, .inr (3, [.null, .null]))]) s.heap.size) [(h0, .inr (3, [.ref q1, .null])), (q1, .inl (g_cA D, 2, .inr (.inr (.inr (.inr (va_up (va_up (fun _ => none) 0 (some q2)) 1 (some q3))))))), (q2, h_row D ([])), (q3, h_row D ([])), (q4, .inl (g_cA D, 2, .inr (.inr (.inr (.inr (va_up (fun _ => none) 0 (some q5))))))), (q5, h_row D ([]))] := hD
  refine lv_dup hx hb dX3_init_35 rfl ?_
  refine lv_iconst (v := nI 1) hx hb dX3_init_36 (by decide) ?_
  refine lv_iconst (v := nI 0) hx hb dX3_init_37 (by decide) ?_
  refine h_new (w := []) (xs := [(h0, .inr (3, [.ref q1, .null])), (q1, .inl (g_cA D, 2, .inr (.inr (.inr (.inr (va_up (va_up (fun _ => none) 0 (some q2)) 1 (some q3))))))), (q2, h_row D ([])), (q3, h_row D ([])), (q4, .inl (g_cA D, 2, .inr (.inr (.inr (.inr (va_up (fun _ => none) 0 (some q5))))))), (q5, h_row D ([]))]) (n := 0) hx hb hts hE hP hD hS h_Asz (by omega) (by show 5 + 1 ≤ 6; omega) (by show 4 + 0 ≤ 4; omega) dX3_init_38 (fun q6 H hP hD hS => ?_)
  refine W.widen (k := 5 + 1) (n := 4 + 0) (by omega) (by omega) ?_
  refine W.widen (k := 6) (n := 4) (by omega) (by omega) ?_
  have hP : va_P D vwCl [(h0, .inr (3, [.ref q1, .null])), (q1, .inl (g_cA D, 2, .inr (.inr (.inr (.inr (va_up (va_up (fun _ => none) 0 (some q2)) 1 (some q3))))))), (q2, h_row D ([])), (q3, h_row D ([])), (q4, .inl (g_cA D, 2, .inr (.inr (.inr (.inr (va_up (fun _ => none) 0 (some q5))))))), (q5, h_row D ([])), (q6, h_row D ([]))] H := hP
  have hD : va_D (va_A ([(h0, .inr (3, [.null, .null]))]) s.heap.size) [(h0, .inr (3, [.ref q1, .null])), (q1, .inl (g_cA D, 2, .inr (.inr (.inr (.inr (va_up (va_up (fun _ => none) 0 (some q2)) 1 (some q3))))))), (q2, h_row D ([])), (q3, h_row D ([])), (q4, .inl (g_cA D, 2, .inr (.inr (.inr (.inr (va_up (fun _ => none) 0 (some q5))))))), (q5, h_row D ([])), (q6, h_row D ([]))] := hD
  refine h_astF (w := []) (xs := [(h0, .inr (3, [.ref q1, .null])), (q1, .inl (g_cA D, 2, .inr (.inr (.inr (.inr (va_up (va_up (fun _ => none) 0 (some q2)) 1 (some q3))))))), (q2, h_row D ([])), (q3, h_row D ([])), (q4, .inl (g_cA D, 2, .inr (.inr (.inr (.inr (va_up (fun _ => none) 0 (some q5))))))), (q5, h_row D ([])), (q6, h_row D ([]))]) hx hb hE hP hD hS (i := 4) (i2 := 6) (j := 1) (a := q4) (v := q6) (f := va_up (fun _ => none) 0 (some q5)) (R := []) rfl (by decide) rfl dX3_init_40 (fun H locs hP hD hS => ?_)
  have hP : va_P D vwCl [(h0, .inr (3, [.ref q1, .null])), (q1, .inl (g_cA D, 2, .inr (.inr (.inr (.inr (va_up (va_up (fun _ => none) 0 (some q2)) 1 (some q3))))))), (q2, h_row D ([])), (q3, h_row D ([])), (q4, .inl (g_cA D, 2, .inr (.inr (.inr (.inr (va_up (va_up (fun _ => none) 0 (some q5)) 1 (some q6))))))), (q5, h_row D ([])), (q6, h_row D ([]))] H := hP
  have hD : va_D (va_A ([(h0, .inr (3, [.null, .null]))]) s.heap.size) [(h0, .inr (3, [.ref q1, .null])), (q1, .inl (g_cA D, 2, .inr (.inr (.inr (.inr (va_up (va_up (fun _ => none) 0 (some q2)) 1 (some q3))))))), (q2, h_row D ([])), (q3, h_row D ([])), (q4, .inl (g_cA D, 2, .inr (.inr (.inr (.inr (va_up (va_up (fun _ => none) 0 (some q5)) 1 (some q6))))))), (q5, h_row D ([])), (q6, h_row D ([]))] := hD
  refine h_putS (xs := [(h0, .inr (3, [.ref q1, .null])), (q1, .inl (g_cA D, 2, .inr (.inr (.inr (.inr (va_up (va_up (fun _ => none) 0 (some q2)) 1 (some q3))))))), (q2, h_row D ([])), (q3, h_row D ([])), (q4, .inl (g_cA D, 2, .inr (.inr (.inr (.inr (va_up (va_up (fun _ => none) 0 (some q5)) 1 (some q6))))))), (q5, h_row D ([])), (q6, h_row D ([]))]) (i := 0) (q := q4) hx hb hts hE hown hP hD hS rfl 1 (by decide) rfl rfl rfl rfl wf_X3_15 (Nat.le_of_ble_eq_true rfl) dX3_init_41 (fun H locs hP hD hS => ?_)
  have hP : va_P D vwCl [(h0, .inr (3, [.ref q1, .ref q4])), (q1, .inl (g_cA D, 2, .inr (.inr (.inr (.inr (va_up (va_up (fun _ => none) 0 (some q2)) 1 (some q3))))))), (q2, h_row D ([])), (q3, h_row D ([])), (q4, .inl (g_cA D, 2, .inr (.inr (.inr (.inr (va_up (va_up (fun _ => none) 0 (some q5)) 1 (some q6))))))), (q5, h_row D ([])), (q6, h_row D ([]))] H := hP
  have hD : va_D (va_A ([(h0, .inr (3, [.null, .null]))]) s.heap.size) [(h0, .inr (3, [.ref q1, .ref q4])), (q1, .inl (g_cA D, 2, .inr (.inr (.inr (.inr (va_up (va_up (fun _ => none) 0 (some q2)) 1 (some q3))))))), (q2, h_row D ([])), (q3, h_row D ([])), (q4, .inl (g_cA D, 2, .inr (.inr (.inr (.inr (va_up (va_up (fun _ => none) 0 (some q5)) 1 (some q6))))))), (q5, h_row D ([])), (q6, h_row D ([]))] := hD
  have hP : va_P D vwCl [(h0, .inr (3, [.ref q1, .ref q4])), (q1, .inl (g_cA D, 2, .inr (.inr (.inr (.inr (va_up (va_up (fun _ => none) 0 (some q2)) 1 (some q3))))))), (q4, .inl (g_cA D, 2, .inr (.inr (.inr (.inr (va_up (va_up (fun _ => none) 0 (some q5)) 1 (some q6))))))), (q2, h_row D ([])), (q3, h_row D ([])), (q5, h_row D ([])), (q6, h_row D ([]))] H := hP.sub [0, 1, 4, 2, 3, 5, 6] rfl
  have hD : va_D (va_A ([(h0, .inr (3, [.null, .null]))]) s.heap.size) [(h0, .inr (3, [.ref q1, .ref q4])), (q1, .inl (g_cA D, 2, .inr (.inr (.inr (.inr (va_up (va_up (fun _ => none) 0 (some q2)) 1 (some q3))))))), (q4, .inl (g_cA D, 2, .inr (.inr (.inr (.inr (va_up (va_up (fun _ => none) 0 (some q5)) 1 (some q6))))))), (q2, h_row D ([])), (q3, h_row D ([])), (q5, h_row D ([])), (q6, h_row D ([]))] := hD.sub [0, 1, 4, 2, 3, 5, 6] rfl rfl
  obtain ⟨q9, hq9, e9⟩ := h_mkSW (D := D) (a := h0) (b := q1) (c := q4) (d := q2) (e := q3) (f := q5) (g := q6)
  have hP : va_P D vwCl (h_SW D q9 (fun _ => []) (fun _ => [])) H := by rw [← e9]; exact hP
  have hD : va_D (va_A ([(h0, .inr (3, [.null, .null]))]) s.heap.size) (h_SW D q9 (fun _ => []) (fun _ => [])) := by rw [← e9]; exact hD
  refine W.widen (k := 6) (n := 4) (by omega) (by omega) ?_
  rw [← hQ]
  exact W.vret hx hb hr (fun te9 hte9 _ => h_fin (⟨rfl, q9, hq9, rfl⟩) hP hD hS hte9) hS.2.2 dX3_init_44 hlocks
