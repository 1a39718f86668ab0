set_option maxHeartbeats 4000000 in
set_option maxRecDepth 100000 in
theorem m_X3_part (l : Launch) (D : va_G) (hAD : g_AD D) (f : Nat → Int32) (n : Nat) (hg : gs_ f n) (hn24 : n ≤ 48) (hnm : ∀ j, j < n → 0 ≤ f j ∧ f j ≤ 65535) : ∀ (d : Nat) (σ : Nat → va_E) (th rs : Int32) (s9 : Nat) (S N Z R : Nat → Int32) (T : Nat → Nat → Int32) (a c q : Nat), g_Mf D σ th rs (nI s9) S N Z R T → (∀ j, j < n → R j = f j) → 1 ≤ c → c ≤ d → a + c ≤ n → s9 + (2 * c - 1) ≤ 96 → q + c ≤ 1000 → g_M l D yX3_part cX3_part 6 (some .int) (rp_ d) [.ref (ad_ D 20), .int (nI a), .int (nI (a + c)), .int (nI q)] σ (fun v1 σ1 => v1 = some (.int (nI s9)) ∧ (∃ T1, g_Mf D σ1 th rs (nI (s9 + (2 * c - 1))) S N Z R T1 ∧ (∀ b, pM_ f T1 s9 (tr_ f d a c q b)) ∧ ∀ j, j < 6 → ∀ p, p < s9 → T1 j p = T j p) ∧ g_off 20 30 σ σ1) := by
  intro d
  induction d with
  | zero => intro σ th rs s9 S N Z R T a c q _ _ h1 h2; omega
  | succ d ih =>
  intro σ th rs s9 S N Z R T a c q hM hR h1c hcd hac hs9 hq9
  refine g_ofW [(0, .ref (ad_ D 20)), (1, .int (nI a)), (2, .int (nI (a + c))), (3, .int (nI q))] (by decide +kernel) (Nat.le_of_ble_eq_true rfl) rfl ?_
  intro p e s m args below meth c0 hx hb hr hml hown hlocks hts hE hZ hP hS hnm0 ls hl
  have hown : s.vm.findClass RX3 = some m.cls := hown
  generalize hQ : MQ _ _ _ _ _ _ _ = Q
  obtain ⟨k20, k21, k22, k23, k24, k25, k26, k27, k28, k29, k30⟩ := id hM
  refine lv_aload_n hx hb dX3_part_0 rfl (lv_at hl 0 rfl) ?_
  refine g_get hx hb hts hE hown hP g_inX3 rfl (by decide) k20 6 (by decide) rfl wf_X3_69 (v := .int (nI s9)) rfl dX3_part_1 ?_
  refine lv_istore (lv' := [(4, .int (nI s9)), (0, .ref (ad_ D 20)), (1, .int (nI a)), (2, .int (nI (a + c))), (3, .int (nI q))]) hx hb dX3_part_4 hl (by decide) rfl (fun ls hl => ?_)
  refine lv_aload_n hx hb dX3_part_6 rfl (lv_at hl 1 rfl) ?_
  refine lv_dup hx hb dX3_part_7 rfl ?_
  refine g_get hx hb hts hE hown hP g_inX3 rfl (by decide) k20 6 (by decide) rfl wf_X3_69 (v := .int (nI s9)) rfl dX3_part_8 ?_
  refine lv_iconst (v := nI 1) hx hb dX3_part_11 (by decide) ?_
  refine lv_iadd hx hb dX3_part_12 ?_
  refine g_top (y := nI (s9 + 1)) (nI_add s9 1) ?_
  refine g_put hx hb hts hE hown hAD hP hS g_inX3 tyX3 tyX3_ok nmX3 rfl (by decide) k20 6 (by decide) rfl rfl (by decide +kernel) wf_X3_69 (v := nI (s9 + 1)) (Nat.le_of_ble_eq_true rfl) dX3_part_13 (fun H locs hP hS => ?_)
  obtain ⟨σ_1, hσ2⟩ : ∃ z : Nat → va_E, z = va_up σ 20 (.inr (3, [.int th, .ref (ad_ D 21), .ref (ad_ D 22), .ref (ad_ D 23), .ref (ad_ D 24), .int rs, .int (nI (s9 + 1)), .ref (ad_ D 25), .ref (ad_ D 26), .ref (ad_ D 27), .ref (ad_ D 28), .ref (ad_ D 29), .ref (ad_ D 30)])) := ⟨_, rfl⟩
  have hP : va_P D vwCl (g_W D σ_1) H := by rw [hσ2]; exact hP
  have hc3 : σ_1 20 = .inr (3, [.int th, .ref (ad_ D 21), .ref (ad_ D 22), .ref (ad_ D 23), .ref (ad_ D 24), .int rs, .int (nI (s9 + 1)), .ref (ad_ D 25), .ref (ad_ D 26), .ref (ad_ D 27), .ref (ad_ D 28), .ref (ad_ D 29), .ref (ad_ D 30)]) := by rw [hσ2]; exact g_ups
  have hc4 := (by rw [hσ2]; exact g_upn k21 (by decide) : σ_1 21 = .inl (g_cI D, 2, .inl (S)))
  have hc5 := (by rw [hσ2]; exact g_upn k22 (by decide) : σ_1 22 = .inl (g_cI D, 48, .inl (N)))
  have hc6 := (by rw [hσ2]; exact g_upn k23 (by decide) : σ_1 23 = .inl (g_cI D, 48, .inl (Z)))
  have hc7 := (by rw [hσ2]; exact g_upn k24 (by decide) : σ_1 24 = .inl (g_cI D, 48, .inl (R)))
  have hc8 := (by rw [hσ2]; exact g_upn k25 (by decide) : σ_1 25 = .inl (g_cI D, 96, .inl (T 0)))
  have hc9 := (by rw [hσ2]; exact g_upn k26 (by decide) : σ_1 26 = .inl (g_cI D, 96, .inl (T 1)))
  have hc10 := (by rw [hσ2]; exact g_upn k27 (by decide) : σ_1 27 = .inl (g_cI D, 96, .inl (T 2)))
  have hc11 := (by rw [hσ2]; exact g_upn k28 (by decide) : σ_1 28 = .inl (g_cI D, 96, .inl (T 3)))
  have hc12 := (by rw [hσ2]; exact g_upn k29 (by decide) : σ_1 29 = .inl (g_cI D, 96, .inl (T 4)))
  have hc13 := (by rw [hσ2]; exact g_upn k30 (by decide) : σ_1 30 = .inl (g_cI D, 96, .inl (T 5)))
  have ho14 : g_off 20 30 σ σ_1 := by rw [hσ2]; exact g_off.up (g_off.rf (lo := 20) (hi := 30) (σ := σ)) (by decide) (by decide)
  refine lv_aload_n hx hb dX3_part_16 rfl (lv_at hl 1 rfl) ?_
  refine g_get hx hb hts hE hown hP g_inX3 rfl (by decide) hc3 8 (by decide) rfl wf_X3_25 (v := .ref (ad_ D 26)) rfl dX3_part_17 ?_
  refine lv_iload hx hb dX3_part_20 (lv_at hl 0 rfl) ?_
  refine lv_iload_n hx hb dX3_part_22 rfl (lv_at hl 2 rfl) ?_
  refine g_iastN (j := s9) (x := nI a) hx hb hE hAD hP hS (by decide) hc9 (by omega) (by decide) dX3_part_23 (fun H locs hP hS => ?_)
  obtain ⟨σ_15, hσ16⟩ : ∃ z : Nat → va_E, z = va_up σ_1 26 (.inl (g_cI D, 96, .inl (upd (T 1) s9 (nI a)))) := ⟨_, rfl⟩
  have hP : va_P D vwCl (g_W D σ_15) H := by rw [hσ16]; exact hP
  have hc17 := (by rw [hσ16]; exact g_upn hc3 (by decide) : σ_15 20 = .inr (3, [.int th, .ref (ad_ D 21), .ref (ad_ D 22), .ref (ad_ D 23), .ref (ad_ D 24), .int rs, .int (nI (s9 + 1)), .ref (ad_ D 25), .ref (ad_ D 26), .ref (ad_ D 27), .ref (ad_ D 28), .ref (ad_ D 29), .ref (ad_ D 30)]))
  have hc18 := (by rw [hσ16]; exact g_upn hc4 (by decide) : σ_15 21 = .inl (g_cI D, 2, .inl (S)))
  have hc19 := (by rw [hσ16]; exact g_upn hc5 (by decide) : σ_15 22 = .inl (g_cI D, 48, .inl (N)))
  have hc20 := (by rw [hσ16]; exact g_upn hc6 (by decide) : σ_15 23 = .inl (g_cI D, 48, .inl (Z)))
  have hc21 := (by rw [hσ16]; exact g_upn hc7 (by decide) : σ_15 24 = .inl (g_cI D, 48, .inl (R)))
  have hc22 := (by rw [hσ16]; exact g_upn hc8 (by decide) : σ_15 25 = .inl (g_cI D, 96, .inl (T 0)))
  have hc23 : σ_15 26 = .inl (g_cI D, 96, .inl (upd (T 1) s9 (nI a))) := by rw [hσ16]; exact g_ups
  have hc24 := (by rw [hσ16]; exact g_upn hc10 (by decide) : σ_15 27 = .inl (g_cI D, 96, .inl (T 2)))
  have hc25 := (by rw [hσ16]; exact g_upn hc11 (by decide) : σ_15 28 = .inl (g_cI D, 96, .inl (T 3)))
  have hc26 := (by rw [hσ16]; exact g_upn hc12 (by decide) : σ_15 29 = .inl (g_cI D, 96, .inl (T 4)))
  have hc27 := (by rw [hσ16]; exact g_upn hc13 (by decide) : σ_15 30 = .inl (g_cI D, 96, .inl (T 5)))
  have ho28 : g_off 20 30 σ σ_15 := by rw [hσ16]; exact g_off.up ho14 (by decide) (by decide)
  refine lv_aload_n hx hb dX3_part_24 rfl (lv_at hl 1 rfl) ?_
  refine g_get hx hb hts hE hown hP g_inX3 rfl (by decide) hc17 9 (by decide) rfl wf_X3_28 (v := .ref (ad_ D 27)) rfl dX3_part_25 ?_
  refine lv_iload hx hb dX3_part_28 (lv_at hl 0 rfl) ?_
  refine lv_iload_n hx hb dX3_part_30 rfl (lv_at hl 3 rfl) ?_
  refine g_iastN (j := s9) (x := nI (a + c)) hx hb hE hAD hP hS (by decide) hc24 (by omega) (by decide) dX3_part_31 (fun H locs hP hS => ?_)
  obtain ⟨σ_29, hσ30⟩ : ∃ z : Nat → va_E, z = va_up σ_15 27 (.inl (g_cI D, 96, .inl (upd (T 2) s9 (nI (a + c))))) := ⟨_, rfl⟩
  have hP : va_P D vwCl (g_W D σ_29) H := by rw [hσ30]; exact hP
  have hc31 := (by rw [hσ30]; exact g_upn hc17 (by decide) : σ_29 20 = .inr (3, [.int th, .ref (ad_ D 21), .ref (ad_ D 22), .ref (ad_ D 23), .ref (ad_ D 24), .int rs, .int (nI (s9 + 1)), .ref (ad_ D 25), .ref (ad_ D 26), .ref (ad_ D 27), .ref (ad_ D 28), .ref (ad_ D 29), .ref (ad_ D 30)]))
  have hc32 := (by rw [hσ30]; exact g_upn hc18 (by decide) : σ_29 21 = .inl (g_cI D, 2, .inl (S)))
  have hc33 := (by rw [hσ30]; exact g_upn hc19 (by decide) : σ_29 22 = .inl (g_cI D, 48, .inl (N)))
  have hc34 := (by rw [hσ30]; exact g_upn hc20 (by decide) : σ_29 23 = .inl (g_cI D, 48, .inl (Z)))
  have hc35 := (by rw [hσ30]; exact g_upn hc21 (by decide) : σ_29 24 = .inl (g_cI D, 48, .inl (R)))
  have hc36 := (by rw [hσ30]; exact g_upn hc22 (by decide) : σ_29 25 = .inl (g_cI D, 96, .inl (T 0)))
  have hc37 := (by rw [hσ30]; exact g_upn hc23 (by decide) : σ_29 26 = .inl (g_cI D, 96, .inl (upd (T 1) s9 (nI a))))
  have hc38 : σ_29 27 = .inl (g_cI D, 96, .inl (upd (T 2) s9 (nI (a + c)))) := by rw [hσ30]; exact g_ups
  have hc39 := (by rw [hσ30]; exact g_upn hc25 (by decide) : σ_29 28 = .inl (g_cI D, 96, .inl (T 3)))
  have hc40 := (by rw [hσ30]; exact g_upn hc26 (by decide) : σ_29 29 = .inl (g_cI D, 96, .inl (T 4)))
  have hc41 := (by rw [hσ30]; exact g_upn hc27 (by decide) : σ_29 30 = .inl (g_cI D, 96, .inl (T 5)))
  have ho42 : g_off 20 30 σ σ_29 := by rw [hσ30]; exact g_off.up ho28 (by decide) (by decide)
  refine lv_aload_n hx hb dX3_part_32 rfl (lv_at hl 1 rfl) ?_
  refine g_get hx hb hts hE hown hP g_inX3 rfl (by decide) hc31 12 (by decide) rfl wf_X3_37 (v := .ref (ad_ D 30)) rfl dX3_part_33 ?_
  refine lv_iload hx hb dX3_part_36 (lv_at hl 0 rfl) ?_
  refine lv_iload_n hx hb dX3_part_38 rfl (lv_at hl 4 rfl) ?_
  refine g_iastN (j := s9) (x := nI q) hx hb hE hAD hP hS (by decide) hc41 (by omega) (by decide) dX3_part_39 (fun H locs hP hS => ?_)
  obtain ⟨σ_43, hσ44⟩ : ∃ z : Nat → va_E, z = va_up σ_29 30 (.inl (g_cI D, 96, .inl (upd (T 5) s9 (nI q)))) := ⟨_, rfl⟩
  have hP : va_P D vwCl (g_W D σ_43) H := by rw [hσ44]; exact hP
  have hc45 := (by rw [hσ44]; exact g_upn hc31 (by decide) : σ_43 20 = .inr (3, [.int th, .ref (ad_ D 21), .ref (ad_ D 22), .ref (ad_ D 23), .ref (ad_ D 24), .int rs, .int (nI (s9 + 1)), .ref (ad_ D 25), .ref (ad_ D 26), .ref (ad_ D 27), .ref (ad_ D 28), .ref (ad_ D 29), .ref (ad_ D 30)]))
  have hc46 := (by rw [hσ44]; exact g_upn hc32 (by decide) : σ_43 21 = .inl (g_cI D, 2, .inl (S)))
  have hc47 := (by rw [hσ44]; exact g_upn hc33 (by decide) : σ_43 22 = .inl (g_cI D, 48, .inl (N)))
  have hc48 := (by rw [hσ44]; exact g_upn hc34 (by decide) : σ_43 23 = .inl (g_cI D, 48, .inl (Z)))
  have hc49 := (by rw [hσ44]; exact g_upn hc35 (by decide) : σ_43 24 = .inl (g_cI D, 48, .inl (R)))
  have hc50 := (by rw [hσ44]; exact g_upn hc36 (by decide) : σ_43 25 = .inl (g_cI D, 96, .inl (T 0)))
  have hc51 := (by rw [hσ44]; exact g_upn hc37 (by decide) : σ_43 26 = .inl (g_cI D, 96, .inl (upd (T 1) s9 (nI a))))
  have hc52 := (by rw [hσ44]; exact g_upn hc38 (by decide) : σ_43 27 = .inl (g_cI D, 96, .inl (upd (T 2) s9 (nI (a + c)))))
  have hc53 := (by rw [hσ44]; exact g_upn hc39 (by decide) : σ_43 28 = .inl (g_cI D, 96, .inl (T 3)))
  have hc54 := (by rw [hσ44]; exact g_upn hc40 (by decide) : σ_43 29 = .inl (g_cI D, 96, .inl (T 4)))
  have hc55 : σ_43 30 = .inl (g_cI D, 96, .inl (upd (T 5) s9 (nI q))) := by rw [hσ44]; exact g_ups
  have ho56 : g_off 20 30 σ σ_43 := by rw [hσ44]; exact g_off.up ho42 (by decide) (by decide)
  refine lv_aload_n hx hb dX3_part_40 rfl (lv_at hl 1 rfl) ?_
  refine g_get hx hb hts hE hown hP g_inX3 rfl (by decide) hc45 7 (by decide) rfl wf_X3_22 (v := .ref (ad_ D 25)) rfl dX3_part_41 ?_
  refine lv_iload hx hb dX3_part_44 (lv_at hl 0 rfl) ?_
  refine lv_iconst (v := (-1)) hx hb dX3_part_46 (by decide) ?_
  refine g_iastN (j := s9) (x := (-1)) hx hb hE hAD hP hS (by decide) hc50 (by omega) (by decide) dX3_part_47 (fun H locs hP hS => ?_)
  obtain ⟨σ_57, hσ58⟩ : ∃ z : Nat → va_E, z = va_up σ_43 25 (.inl (g_cI D, 96, .inl (upd (T 0) s9 ((-1))))) := ⟨_, rfl⟩
  have hP : va_P D vwCl (g_W D σ_57) H := by rw [hσ58]; exact hP
  have hc59 := (by rw [hσ58]; exact g_upn hc45 (by decide) : σ_57 20 = .inr (3, [.int th, .ref (ad_ D 21), .ref (ad_ D 22), .ref (ad_ D 23), .ref (ad_ D 24), .int rs, .int (nI (s9 + 1)), .ref (ad_ D 25), .ref (ad_ D 26), .ref (ad_ D 27), .ref (ad_ D 28), .ref (ad_ D 29), .ref (ad_ D 30)]))
  have hc60 := (by rw [hσ58]; exact g_upn hc46 (by decide) : σ_57 21 = .inl (g_cI D, 2, .inl (S)))
  have hc61 := (by rw [hσ58]; exact g_upn hc47 (by decide) : σ_57 22 = .inl (g_cI D, 48, .inl (N)))
  have hc62 := (by rw [hσ58]; exact g_upn hc48 (by decide) : σ_57 23 = .inl (g_cI D, 48, .inl (Z)))
  have hc63 := (by rw [hσ58]; exact g_upn hc49 (by decide) : σ_57 24 = .inl (g_cI D, 48, .inl (R)))
  have hc64 : σ_57 25 = .inl (g_cI D, 96, .inl (upd (T 0) s9 ((-1)))) := by rw [hσ58]; exact g_ups
  have hc65 := (by rw [hσ58]; exact g_upn hc51 (by decide) : σ_57 26 = .inl (g_cI D, 96, .inl (upd (T 1) s9 (nI a))))
  have hc66 := (by rw [hσ58]; exact g_upn hc52 (by decide) : σ_57 27 = .inl (g_cI D, 96, .inl (upd (T 2) s9 (nI (a + c)))))
  have hc67 := (by rw [hσ58]; exact g_upn hc53 (by decide) : σ_57 28 = .inl (g_cI D, 96, .inl (T 3)))
  have hc68 := (by rw [hσ58]; exact g_upn hc54 (by decide) : σ_57 29 = .inl (g_cI D, 96, .inl (T 4)))
  have hc69 := (by rw [hσ58]; exact g_upn hc55 (by decide) : σ_57 30 = .inl (g_cI D, 96, .inl (upd (T 5) s9 (nI q))))
  have ho70 : g_off 20 30 σ σ_57 := by rw [hσ58]; exact g_off.up ho56 (by decide) (by decide)
  refine lv_aload_n hx hb dX3_part_48 rfl (lv_at hl 1 rfl) ?_
  refine g_get hx hb hts hE hown hP g_inX3 rfl (by decide) hc59 10 (by decide) rfl wf_X3_31 (v := .ref (ad_ D 28)) rfl dX3_part_49 ?_
  refine lv_iload hx hb dX3_part_52 (lv_at hl 0 rfl) ?_
  refine lv_iconst (v := (-1)) hx hb dX3_part_54 (by decide) ?_
  refine g_iastN (j := s9) (x := (-1)) hx hb hE hAD hP hS (by decide) hc67 (by omega) (by decide) dX3_part_55 (fun H locs hP hS => ?_)
  obtain ⟨σ_71, hσ72⟩ : ∃ z : Nat → va_E, z = va_up σ_57 28 (.inl (g_cI D, 96, .inl (upd (T 3) s9 ((-1))))) := ⟨_, rfl⟩
  have hP : va_P D vwCl (g_W D σ_71) H := by rw [hσ72]; exact hP
  have hc73 := (by rw [hσ72]; exact g_upn hc59 (by decide) : σ_71 20 = .inr (3, [.int th, .ref (ad_ D 21), .ref (ad_ D 22), .ref (ad_ D 23), .ref (ad_ D 24), .int rs, .int (nI (s9 + 1)), .ref (ad_ D 25), .ref (ad_ D 26), .ref (ad_ D 27), .ref (ad_ D 28), .ref (ad_ D 29), .ref (ad_ D 30)]))
  have hc74 := (by rw [hσ72]; exact g_upn hc60 (by decide) : σ_71 21 = .inl (g_cI D, 2, .inl (S)))
  have hc75 := (by rw [hσ72]; exact g_upn hc61 (by decide) : σ_71 22 = .inl (g_cI D, 48, .inl (N)))
  have hc76 := (by rw [hσ72]; exact g_upn hc62 (by decide) : σ_71 23 = .inl (g_cI D, 48, .inl (Z)))
  have hc77 := (by rw [hσ72]; exact g_upn hc63 (by decide) : σ_71 24 = .inl (g_cI D, 48, .inl (R)))
  have hc78 := (by rw [hσ72]; exact g_upn hc64 (by decide) : σ_71 25 = .inl (g_cI D, 96, .inl (upd (T 0) s9 ((-1)))))
  have hc79 := (by rw [hσ72]; exact g_upn hc65 (by decide) : σ_71 26 = .inl (g_cI D, 96, .inl (upd (T 1) s9 (nI a))))
  have hc80 := (by rw [hσ72]; exact g_upn hc66 (by decide) : σ_71 27 = .inl (g_cI D, 96, .inl (upd (T 2) s9 (nI (a + c)))))
  have hc81 : σ_71 28 = .inl (g_cI D, 96, .inl (upd (T 3) s9 ((-1)))) := by rw [hσ72]; exact g_ups
  have hc82 := (by rw [hσ72]; exact g_upn hc68 (by decide) : σ_71 29 = .inl (g_cI D, 96, .inl (T 4)))
  have hc83 := (by rw [hσ72]; exact g_upn hc69 (by decide) : σ_71 30 = .inl (g_cI D, 96, .inl (upd (T 5) s9 (nI q))))
  have ho84 : g_off 20 30 σ σ_71 := by rw [hσ72]; exact g_off.up ho70 (by decide) (by decide)
  refine lv_aload_n hx hb dX3_part_56 rfl (lv_at hl 1 rfl) ?_
  refine g_get hx hb hts hE hown hP g_inX3 rfl (by decide) hc73 11 (by decide) rfl wf_X3_34 (v := .ref (ad_ D 29)) rfl dX3_part_57 ?_
  refine lv_iload hx hb dX3_part_60 (lv_at hl 0 rfl) ?_
  refine lv_iconst (v := (-1)) hx hb dX3_part_62 (by decide) ?_
  refine g_iastN (j := s9) (x := (-1)) hx hb hE hAD hP hS (by decide) hc82 (by omega) (by decide) dX3_part_63 (fun H locs hP hS => ?_)
  obtain ⟨σ_85, hσ86⟩ : ∃ z : Nat → va_E, z = va_up σ_71 29 (.inl (g_cI D, 96, .inl (upd (T 4) s9 ((-1))))) := ⟨_, rfl⟩
  have hP : va_P D vwCl (g_W D σ_85) H := by rw [hσ86]; exact hP
  have hc87 := (by rw [hσ86]; exact g_upn hc73 (by decide) : σ_85 20 = .inr (3, [.int th, .ref (ad_ D 21), .ref (ad_ D 22), .ref (ad_ D 23), .ref (ad_ D 24), .int rs, .int (nI (s9 + 1)), .ref (ad_ D 25), .ref (ad_ D 26), .ref (ad_ D 27), .ref (ad_ D 28), .ref (ad_ D 29), .ref (ad_ D 30)]))
  have hc88 := (by rw [hσ86]; exact g_upn hc74 (by decide) : σ_85 21 = .inl (g_cI D, 2, .inl (S)))
  have hc89 := (by rw [hσ86]; exact g_upn hc75 (by decide) : σ_85 22 = .inl (g_cI D, 48, .inl (N)))
  have hc90 := (by rw [hσ86]; exact g_upn hc76 (by decide) : σ_85 23 = .inl (g_cI D, 48, .inl (Z)))
  have hc91 := (by rw [hσ86]; exact g_upn hc77 (by decide) : σ_85 24 = .inl (g_cI D, 48, .inl (R)))
  have hc92 := (by rw [hσ86]; exact g_upn hc78 (by decide) : σ_85 25 = .inl (g_cI D, 96, .inl (upd (T 0) s9 ((-1)))))
  have hc93 := (by rw [hσ86]; exact g_upn hc79 (by decide) : σ_85 26 = .inl (g_cI D, 96, .inl (upd (T 1) s9 (nI a))))
  have hc94 := (by rw [hσ86]; exact g_upn hc80 (by decide) : σ_85 27 = .inl (g_cI D, 96, .inl (upd (T 2) s9 (nI (a + c)))))
  have hc95 := (by rw [hσ86]; exact g_upn hc81 (by decide) : σ_85 28 = .inl (g_cI D, 96, .inl (upd (T 3) s9 ((-1)))))
  have hc96 : σ_85 29 = .inl (g_cI D, 96, .inl (upd (T 4) s9 ((-1)))) := by rw [hσ86]; exact g_ups
  have hc97 := (by rw [hσ86]; exact g_upn hc83 (by decide) : σ_85 30 = .inl (g_cI D, 96, .inl (upd (T 5) s9 (nI q))))
  have ho98 : g_off 20 30 σ σ_85 := by rw [hσ86]; exact g_off.up ho84 (by decide) (by decide)
  refine lv_iload_n hx hb dX3_part_64 rfl (lv_at hl 3 rfl) ?_
  refine lv_iload_n hx hb dX3_part_65 rfl (lv_at hl 2 rfl) ?_
  refine lv_isub hx hb dX3_part_66 ?_
  refine g_top (y := nI c) ((pk_sub (by omega)).trans (congrArg nI (by omega))) ?_
  refine lv_iconst (v := nI 2) hx hb dX3_part_67 (by decide) ?_
  refine lv_icmp_ge (tgt := 74) hx hb dX3_part_68 (by decide) (fun h68 => ?_) (fun h68 => ?_)
  · have hb68 := g_le (a := 2) (b := c) h68 (by omega) (by omega)
    obtain ⟨hm1, hm2⟩ := hg a c hb68 hac
    have hz0 : ∀ j, j < ms_ f a c → hb_ (f (a + j)) (fub_ (f a) (f (a + c - 1))) = false := fun j hj => sp_no f _ c a j hj
    have hz1 : hb_ (f (a + ms_ f a c)) (fub_ (f a) (f (a + c - 1))) = true := sp_yes f _ c a hm2
    obtain ⟨m9, hm9⟩ : ∃ z, z = ms_ f a c := ⟨_, rfl⟩
    rw [← hm9] at hm1 hm2 hz0 hz1
    refine lv_aload_n hx hb dX3_part_74 rfl (lv_at hl 1 rfl) ?_
    refine g_get hx hb hts hE hown hP g_inX3 rfl (by decide) hc87 7 (by decide) rfl wf_X3_22 (v := .ref (ad_ D 25)) rfl dX3_part_75 ?_
    refine lv_iload hx hb dX3_part_78 (lv_at hl 0 rfl) ?_
    refine lv_aload_n hx hb dX3_part_80 rfl (lv_at hl 1 rfl) ?_
    refine g_get hx hb hts hE hown hP g_inX3 rfl (by decide) hc87 4 (by decide) rfl wf_X3_19 (v := .ref (ad_ D 24)) rfl dX3_part_81 ?_
    refine lv_iload_n hx hb dX3_part_84 rfl (lv_at hl 2 rfl) ?_
    refine g_ialdN (j := a) hx hb hE hP (by decide) hc91 (by omega) (by decide) (v := f a) (hR _ (by omega)) dX3_part_85 ?_
    refine lv_aload_n hx hb dX3_part_86 rfl (lv_at hl 1 rfl) ?_
    refine g_get hx hb hts hE hown hP g_inX3 rfl (by decide) hc87 4 (by decide) rfl wf_X3_19 (v := .ref (ad_ D 24)) rfl dX3_part_87 ?_
    refine lv_iload_n hx hb dX3_part_90 rfl (lv_at hl 3 rfl) ?_
    refine lv_iconst (v := nI 1) hx hb dX3_part_91 (by decide) ?_
    refine lv_isub hx hb dX3_part_92 ?_
    refine g_top (y := nI ((a + c) - 1)) (pk_sub (by omega)) ?_
    refine g_ialdN (j := (a + c) - 1) hx hb hE hP (by decide) hc91 (by omega) (by decide) (v := f (a + c - 1)) (hR _ (by omega)) dX3_part_93 ?_
    refine lv_ixor hx hb dX3_part_94 ?_
    obtain ⟨u99, hu99, eu99⟩ := xor_nat (hnm a (by omega)) (hnm (a + c - 1) (by omega))
    rw [eu99]
    refine g_callS0 (y := yX3_topBit) (n := 1) (As := [.int (nI u99)]) (rest := [.int (nI s9), .ref (ad_ D 25)]) hx hb hml hown hts hE hZ hP hS hl.1 (m_X3_topBit l D hAD σ_85 u99 hu99) k_X3_72 rfl rfl ⟨rfl, rfl⟩ ⟨by show _ ≤ d + 1 + 12; exact Nat.le_trans (Nat.le_of_ble_eq_true rfl : _ ≤ 12) (Nat.le_add_left _ _), by show _ ≤ 300 + 25 * (d + 1); exact Nat.le_trans (Nat.le_of_ble_eq_true rfl : _ ≤ 300) (Nat.le_add_right _ _)⟩ (Nat.le_of_ble_eq_true rfl) ⟨Nat.zero_le _, Nat.zero_le _⟩ dX3_part_95 (fun v100 σ_101 H locs hq hP hS => ?_)
    obtain ⟨rfl, rfl⟩ := hq
    refine W.eq (g2 := F0 m 98 ls [.int (tp_ (nI u99)), .int (nI s9), .ref (ad_ D 25)]) rfl ?_
    refine g_top (y := tp_ ((f a) ^^^ (f (a + c - 1)))) (by rw [eu99]) ?_
    refine g_top (y := fub_ (f a) (f (a + c - 1))) (rfl) ?_
    refine g_iastN (j := s9) (x := fub_ (f a) (f (a + c - 1))) hx hb hE hAD hP hS (by decide) hc92 (by omega) (by decide) dX3_part_98 (fun H locs hP hS => ?_)
    obtain ⟨σ_102, hσ103⟩ : ∃ z : Nat → va_E, z = va_up σ_85 25 (.inl (g_cI D, 96, .inl (upd (upd (T 0) s9 ((-1))) s9 (fub_ (f a) (f (a + c - 1)))))) := ⟨_, rfl⟩
    have hP : va_P D vwCl (g_W D σ_102) H := by rw [hσ103]; exact hP
    have hc104 := (by rw [hσ103]; exact g_upn hc87 (by decide) : σ_102 20 = .inr (3, [.int th, .ref (ad_ D 21), .ref (ad_ D 22), .ref (ad_ D 23), .ref (ad_ D 24), .int rs, .int (nI (s9 + 1)), .ref (ad_ D 25), .ref (ad_ D 26), .ref (ad_ D 27), .ref (ad_ D 28), .ref (ad_ D 29), .ref (ad_ D 30)]))
    have hc105 := (by rw [hσ103]; exact g_upn hc88 (by decide) : σ_102 21 = .inl (g_cI D, 2, .inl (S)))
    have hc106 := (by rw [hσ103]; exact g_upn hc89 (by decide) : σ_102 22 = .inl (g_cI D, 48, .inl (N)))
    have hc107 := (by rw [hσ103]; exact g_upn hc90 (by decide) : σ_102 23 = .inl (g_cI D, 48, .inl (Z)))
    have hc108 := (by rw [hσ103]; exact g_upn hc91 (by decide) : σ_102 24 = .inl (g_cI D, 48, .inl (R)))
    have hc109 : σ_102 25 = .inl (g_cI D, 96, .inl (upd (upd (T 0) s9 ((-1))) s9 (fub_ (f a) (f (a + c - 1))))) := by rw [hσ103]; exact g_ups
    have hc110 := (by rw [hσ103]; exact g_upn hc93 (by decide) : σ_102 26 = .inl (g_cI D, 96, .inl (upd (T 1) s9 (nI a))))
    have hc111 := (by rw [hσ103]; exact g_upn hc94 (by decide) : σ_102 27 = .inl (g_cI D, 96, .inl (upd (T 2) s9 (nI (a + c)))))
    have hc112 := (by rw [hσ103]; exact g_upn hc95 (by decide) : σ_102 28 = .inl (g_cI D, 96, .inl (upd (T 3) s9 ((-1)))))
    have hc113 := (by rw [hσ103]; exact g_upn hc96 (by decide) : σ_102 29 = .inl (g_cI D, 96, .inl (upd (T 4) s9 ((-1)))))
    have hc114 := (by rw [hσ103]; exact g_upn hc97 (by decide) : σ_102 30 = .inl (g_cI D, 96, .inl (upd (T 5) s9 (nI q))))
    have ho115 : g_off 20 30 σ σ_102 := by rw [hσ103]; exact g_off.up ho98 (by decide) (by decide)
    refine lv_iload_n hx hb dX3_part_99 rfl (lv_at hl 2 rfl) ?_
    refine lv_istore (lv' := [(5, .int (nI a)), (4, .int (nI s9)), (0, .ref (ad_ D 20)), (1, .int (nI a)), (2, .int (nI (a + c))), (3, .int (nI q))]) hx hb dX3_part_100 hl (by decide) rfl (fun ls hl => ?_)
    have K102 : ∀ (fuel102 : Nat) (i : Nat), (m9 - i) < fuel102 → (i ≤ m9) → ∀ (H : Heap) (locs : List Loc), va_P D vwCl (g_W D σ_102) H → va_S (g_A D s.heap.size) s.heap H locs → ∀ ls : Array Slot, lv_has ls 6 [(5, .int (nI (a + i))), (4, .int (nI s9)), (0, .ref (ad_ D 20)), (1, .int (nI a)), (2, .int (nI (a + c))), (3, .int (nI q))] → W p l e (rp_ (d + 1)) s m args below meth c0 H locs 0 0 Q (F0 m 102 ls []) := by
      intro fuel102
      induction fuel102 with
      | zero => intro i hf; exact absurd hf (Nat.not_lt_zero _)
      | succ fuel102 ih102 =>
        intro i hf102 hi H locs hP hS ls hl
        refine lv_aload_n hx hb dX3_part_102 rfl (lv_at hl 2 rfl) ?_
        refine g_get hx hb hts hE hown hP g_inX3 rfl (by decide) hc104 4 (by decide) rfl wf_X3_19 (v := .ref (ad_ D 24)) rfl dX3_part_103 ?_
        refine lv_iload hx hb dX3_part_106 (lv_at hl 0 rfl) ?_
        refine g_ialdN (j := a + i) hx hb hE hP (by decide) hc108 (by omega) (by decide) (v := f (a + i)) (hR _ (by omega)) dX3_part_108 ?_
        refine lv_aload_n hx hb dX3_part_109 rfl (lv_at hl 2 rfl) ?_
        refine g_get hx hb hts hE hown hP g_inX3 rfl (by decide) hc104 7 (by decide) rfl wf_X3_22 (v := .ref (ad_ D 25)) rfl dX3_part_110 ?_
        refine lv_iload hx hb dX3_part_113 (lv_at hl 1 rfl) ?_
        refine g_ialdN (j := s9) hx hb hE hP (by decide) hc109 (by omega) (by decide) (v := fub_ (f a) (f (a + c - 1))) (upd_at) dX3_part_115 ?_
        refine lv_ishr hx hb dX3_part_116 ?_
        refine lv_iconst (v := nI 1) hx hb dX3_part_117 (by decide) ?_
        refine lv_iand hx hb dX3_part_118 ?_
        refine lv_if_ne (tgt := 128) hx hb dX3_part_119 (by decide) (fun h119 => ?_) (fun h119 => ?_)
        · have hi2 : m9 = i := by
            rcases Nat.lt_or_eq_of_le hi with w | w
            · have := hz0 i w; rw [hb_t h119] at this; cases this
            · exact w.symm
          subst hi2
          refine lv_aload_n hx hb dX3_part_128 rfl (lv_at hl 2 rfl) ?_
          refine g_get hx hb hts hE hown hP g_inX3 rfl (by decide) hc104 10 (by decide) rfl wf_X3_31 (v := .ref (ad_ D 28)) rfl dX3_part_129 ?_
          refine lv_iload hx hb dX3_part_132 (lv_at hl 1 rfl) ?_
          refine lv_aload_n hx hb dX3_part_134 rfl (lv_at hl 2 rfl) ?_
          refine lv_iload_n hx hb dX3_part_135 rfl (lv_at hl 3 rfl) ?_
          refine lv_iload hx hb dX3_part_136 (lv_at hl 0 rfl) ?_
          refine lv_iload_n hx hb dX3_part_138 rfl (lv_at hl 5 rfl) ?_
          refine lv_iconst (v := nI 1) hx hb dX3_part_139 (by decide) ?_
          refine lv_iadd hx hb dX3_part_140 ?_
          refine g_top (y := nI (q + 1)) (nI_add q 1) ?_
          have hMp116 : g_Mf D σ_102 th rs (nI (s9 + 1)) S N Z R (cu_ (cu_ (cu_ (cu_ (cu_ (cu_ (cu_ T 1 s9 (nI a)) 2 s9 (nI (a + c))) 5 s9 (nI q)) 0 s9 ((-1))) 3 s9 ((-1))) 4 s9 ((-1))) 0 s9 (fub_ (f a) (f (a + c - 1)))) := ⟨hc104, hc105, hc106, hc107, hc108, hc109, hc110, hc111, hc112, hc113, hc114⟩
          refine g_callV0 (y := yX3_part) (n := 3) (As := [.int (nI a), .int (nI (a + m9)), .int (nI (q + 1))]) (rest := [.int (nI s9), .ref (ad_ D 28)]) hx hb hml hown hts hE hZ hP hS hl.1 (ih σ_102 th rs (s9 + 1) S N Z R (cu_ (cu_ (cu_ (cu_ (cu_ (cu_ (cu_ T 1 s9 (nI a)) 2 s9 (nI (a + c))) 5 s9 (nI q)) 0 s9 ((-1))) 3 s9 ((-1))) 4 s9 ((-1))) 0 s9 (fub_ (f a) (f (a + c - 1)))) a m9 (q + 1) hMp116 hR hm1 (by omega) (by omega) (by omega) (by omega)) k_X3_75 (ci := 3) (by decide) hc104 rfl rfl rfl rfl rfl ⟨rfl, rfl⟩ ⟨by show d + 12 + 1 ≤ d + 1 + 12; omega, by show 8 + (6 + 11) + (300 + 25 * d) ≤ 300 + 25 * (d + 1); omega⟩ (Nat.le_of_ble_eq_true rfl) ⟨Nat.zero_le _, Nat.zero_le _⟩ dX3_part_141 (fun v117 σ_118 H locs hq hP hS => ?_)
          obtain ⟨rfl, hq2⟩ := hq
          refine W.eq (g2 := F0 m 144 ls [.int (nI (s9 + 1)), .int (nI s9), .ref (ad_ D 28)]) rfl ?_
          obtain ⟨⟨T2, hM2, hp2, hk2⟩, ho2⟩ := hq2
          rw [show s9 + 1 + (2 * m9 - 1) = s9 + 2 * m9 by omega] at hM2
          obtain ⟨k119_20, k119_21, k119_22, k119_23, k119_24, k119_25, k119_26, k119_27, k119_28, k119_29, k119_30⟩ := id hM2
          have ho120 := g_off.tr ho115 (g_off.wd ho2 (by decide) (by decide))
          refine g_iastN (j := s9) (x := nI (s9 + 1)) hx hb hE hAD hP hS (by decide) k119_28 (by omega) (by decide) dX3_part_144 (fun H locs hP hS => ?_)
          obtain ⟨σ_121, hσ122⟩ : ∃ z : Nat → va_E, z = va_up σ_118 28 (.inl (g_cI D, 96, .inl (upd (T2 3) s9 (nI (s9 + 1))))) := ⟨_, rfl⟩
          have hP : va_P D vwCl (g_W D σ_121) H := by rw [hσ122]; exact hP
          have hc123 := (by rw [hσ122]; exact g_upn k119_20 (by decide) : σ_121 20 = .inr (3, [.int th, .ref (ad_ D 21), .ref (ad_ D 22), .ref (ad_ D 23), .ref (ad_ D 24), .int rs, .int (nI (s9 + 2 * m9)), .ref (ad_ D 25), .ref (ad_ D 26), .ref (ad_ D 27), .ref (ad_ D 28), .ref (ad_ D 29), .ref (ad_ D 30)]))
          have hc124 := (by rw [hσ122]; exact g_upn k119_21 (by decide) : σ_121 21 = .inl (g_cI D, 2, .inl (S)))
          have hc125 := (by rw [hσ122]; exact g_upn k119_22 (by decide) : σ_121 22 = .inl (g_cI D, 48, .inl (N)))
          have hc126 := (by rw [hσ122]; exact g_upn k119_23 (by decide) : σ_121 23 = .inl (g_cI D, 48, .inl (Z)))
          have hc127 := (by rw [hσ122]; exact g_upn k119_24 (by decide) : σ_121 24 = .inl (g_cI D, 48, .inl (R)))
          have hc128 := (by rw [hσ122]; exact g_upn k119_25 (by decide) : σ_121 25 = .inl (g_cI D, 96, .inl (T2 0)))
          have hc129 := (by rw [hσ122]; exact g_upn k119_26 (by decide) : σ_121 26 = .inl (g_cI D, 96, .inl (T2 1)))
          have hc130 := (by rw [hσ122]; exact g_upn k119_27 (by decide) : σ_121 27 = .inl (g_cI D, 96, .inl (T2 2)))
          have hc131 : σ_121 28 = .inl (g_cI D, 96, .inl (upd (T2 3) s9 (nI (s9 + 1)))) := by rw [hσ122]; exact g_ups
          have hc132 := (by rw [hσ122]; exact g_upn k119_29 (by decide) : σ_121 29 = .inl (g_cI D, 96, .inl (T2 4)))
          have hc133 := (by rw [hσ122]; exact g_upn k119_30 (by decide) : σ_121 30 = .inl (g_cI D, 96, .inl (T2 5)))
          have ho134 : g_off 20 30 σ σ_121 := by rw [hσ122]; exact g_off.up ho120 (by decide) (by decide)
          refine lv_aload_n hx hb dX3_part_145 rfl (lv_at hl 2 rfl) ?_
          refine g_get hx hb hts hE hown hP g_inX3 rfl (by decide) hc123 11 (by decide) rfl wf_X3_34 (v := .ref (ad_ D 29)) rfl dX3_part_146 ?_
          refine lv_iload hx hb dX3_part_149 (lv_at hl 1 rfl) ?_
          refine lv_aload_n hx hb dX3_part_151 rfl (lv_at hl 2 rfl) ?_
          refine lv_iload hx hb dX3_part_152 (lv_at hl 0 rfl) ?_
          refine lv_iload_n hx hb dX3_part_154 rfl (lv_at hl 4 rfl) ?_
          refine g_top (y := nI (a + m9 + (c - m9))) (congrArg nI (by omega)) ?_
          refine lv_iload_n hx hb dX3_part_155 rfl (lv_at hl 5 rfl) ?_
          refine lv_iconst (v := nI 1) hx hb dX3_part_156 (by decide) ?_
          refine lv_iadd hx hb dX3_part_157 ?_
          refine g_top (y := nI (q + 1)) (nI_add q 1) ?_
          have hMp135 : g_Mf D σ_121 th rs (nI (s9 + 2 * m9)) S N Z R (cu_ T2 3 s9 (nI (s9 + 1))) := ⟨hc123, hc124, hc125, hc126, hc127, hc128, hc129, hc130, hc131, hc132, hc133⟩
          refine g_callV0 (y := yX3_part) (n := 3) (As := [.int (nI (a + m9)), .int (nI (a + m9 + (c - m9))), .int (nI (q + 1))]) (rest := [.int (nI s9), .ref (ad_ D 29)]) hx hb hml hown hts hE hZ hP hS hl.1 (ih σ_121 th rs (s9 + 2 * m9) S N Z R (cu_ T2 3 s9 (nI (s9 + 1))) (a + m9) (c - m9) (q + 1) hMp135 hR (by omega) (by omega) (by omega) (by omega) (by omega)) k_X3_75 (ci := 3) (by decide) hc123 rfl rfl rfl rfl rfl ⟨rfl, rfl⟩ ⟨by show d + 12 + 1 ≤ d + 1 + 12; omega, by show 8 + (6 + 11) + (300 + 25 * d) ≤ 300 + 25 * (d + 1); omega⟩ (Nat.le_of_ble_eq_true rfl) ⟨Nat.zero_le _, Nat.zero_le _⟩ dX3_part_158 (fun v136 σ_137 H locs hq hP hS => ?_)
          obtain ⟨rfl, hq2⟩ := hq
          refine W.eq (g2 := F0 m 161 ls [.int (nI (s9 + 2 * m9)), .int (nI s9), .ref (ad_ D 29)]) rfl ?_
          obtain ⟨⟨T3, hM3, hp3, hk3⟩, ho3⟩ := hq2
          rw [show s9 + 2 * m9 + (2 * (c - m9) - 1) = s9 + (2 * c - 1) by omega] at hM3
          obtain ⟨k138_20, k138_21, k138_22, k138_23, k138_24, k138_25, k138_26, k138_27, k138_28, k138_29, k138_30⟩ := id hM3
          have ho139 := g_off.tr ho134 (g_off.wd ho3 (by decide) (by decide))
          refine g_iastN (j := s9) (x := nI (s9 + 2 * m9)) hx hb hE hAD hP hS (by decide) k138_29 (by omega) (by decide) dX3_part_161 (fun H locs hP hS => ?_)
          obtain ⟨σ_140, hσ141⟩ : ∃ z : Nat → va_E, z = va_up σ_137 29 (.inl (g_cI D, 96, .inl (upd (T3 4) s9 (nI (s9 + 2 * m9))))) := ⟨_, rfl⟩
          have hP : va_P D vwCl (g_W D σ_140) H := by rw [hσ141]; exact hP
          have hc142 := (by rw [hσ141]; exact g_upn k138_20 (by decide) : σ_140 20 = .inr (3, [.int th, .ref (ad_ D 21), .ref (ad_ D 22), .ref (ad_ D 23), .ref (ad_ D 24), .int rs, .int (nI (s9 + (2 * c - 1))), .ref (ad_ D 25), .ref (ad_ D 26), .ref (ad_ D 27), .ref (ad_ D 28), .ref (ad_ D 29), .ref (ad_ D 30)]))
          have hc143 := (by rw [hσ141]; exact g_upn k138_21 (by decide) : σ_140 21 = .inl (g_cI D, 2, .inl (S)))
          have hc144 := (by rw [hσ141]; exact g_upn k138_22 (by decide) : σ_140 22 = .inl (g_cI D, 48, .inl (N)))
          have hc145 := (by rw [hσ141]; exact g_upn k138_23 (by decide) : σ_140 23 = .inl (g_cI D, 48, .inl (Z)))
          have hc146 := (by rw [hσ141]; exact g_upn k138_24 (by decide) : σ_140 24 = .inl (g_cI D, 48, .inl (R)))
          have hc147 := (by rw [hσ141]; exact g_upn k138_25 (by decide) : σ_140 25 = .inl (g_cI D, 96, .inl (T3 0)))
          have hc148 := (by rw [hσ141]; exact g_upn k138_26 (by decide) : σ_140 26 = .inl (g_cI D, 96, .inl (T3 1)))
          have hc149 := (by rw [hσ141]; exact g_upn k138_27 (by decide) : σ_140 27 = .inl (g_cI D, 96, .inl (T3 2)))
          have hc150 := (by rw [hσ141]; exact g_upn k138_28 (by decide) : σ_140 28 = .inl (g_cI D, 96, .inl (T3 3)))
          have hc151 : σ_140 29 = .inl (g_cI D, 96, .inl (upd (T3 4) s9 (nI (s9 + 2 * m9)))) := by rw [hσ141]; exact g_ups
          have hc152 := (by rw [hσ141]; exact g_upn k138_30 (by decide) : σ_140 30 = .inl (g_cI D, 96, .inl (T3 5)))
          have ho153 : g_off 20 30 σ σ_140 := by rw [hσ141]; exact g_off.up ho139 (by decide) (by decide)
          refine lv_iload hx hb dX3_part_162 (lv_at hl 1 rfl) ?_
          have hMp154 : g_Mf D σ_140 th rs (nI (s9 + (2 * c - 1))) S N Z R (cu_ T3 4 s9 (nI (s9 + 2 * m9))) := ⟨hc142, hc143, hc144, hc145, hc146, hc147, hc148, hc149, hc150, hc151, hc152⟩
          have hfin := fun b => pt_node (b := b) (q := q) (T := T) hb68 hm9.symm hm1 (tr_len hg d a m9 (q + 1) (c - m9) hm1 (by omega) (by omega)) (hp2 (c - m9)) hk2 (hp3 m9) hk3
          rw [← hQ]
          exact W.iret (v := nI s9) hx hb hr (fun te9 hte9 _ => g_fin (⟨rfl, ⟨_, hMp154, fun b => by rw [tr_, if_pos hb68, ← hm9]; exact (hfin b).1, (hfin 0).2⟩, ho153⟩) hP hS hte9) hS.2.2 dX3_part_164 hlocks
        · have hi2 : i < m9 := by
            rcases Nat.lt_or_eq_of_le hi with w | w
            · exact w
            · rw [w] at h119; rw [hb_f h119] at hz1; cases hz1
          refine lv_iinc (v := nI (a + i + 1)) (lv' := [(5, .int (nI (a + i + 1))), (4, .int (nI s9)), (0, .ref (ad_ D 20)), (1, .int (nI a)), (2, .int (nI (a + c))), (3, .int (nI q))]) hx hb dX3_part_122 hl (k := 0) rfl (g_inc (a + i)) (by decide) rfl (fun ls hl => ?_)
          refine lv_goto (tgt := 102) hx hb dX3_part_125 (by decide) ?_
          exact ih102 (i + 1) (by omega) (by omega) _ _ hP hS ls (lv_sub hl [0, 1, 2, 3, 4, 5] rfl)
    exact K102 ((m9 - 0) + 1) 0 (Nat.lt_succ_self _) (Nat.zero_le _) _ _ hP hS ls (lv_sub hl [0, 1, 2, 3, 4, 5] rfl)
  · have hb68 := g_nle (a := 2) (b := c) h68 (by omega) (by omega)
    have hc1 : c = 1 := by omega
    refine lv_iload hx hb dX3_part_71 (lv_at hl 0 rfl) ?_
    have hMp155 : g_Mf D σ_85 th rs (nI (s9 + 1)) S N Z R (cu_ (cu_ (cu_ (cu_ (cu_ (cu_ T 1 s9 (nI a)) 2 s9 (nI (a + c))) 5 s9 (nI q)) 0 s9 ((-1))) 3 s9 ((-1))) 4 s9 ((-1))) := ⟨hc87, hc88, hc89, hc90, hc91, hc92, hc93, hc94, hc95, hc96, hc97⟩
    have hT9 : (cu_ (cu_ (cu_ (cu_ (cu_ (cu_ T 1 s9 (nI a)) 2 s9 (nI (a + c))) 5 s9 (nI q)) 0 s9 ((-1))) 3 s9 ((-1))) 4 s9 ((-1))) = p6_ T s9 a (a + c) q := rfl
    rw [hT9, show s9 + 1 = s9 + (2 * c - 1) by omega] at hMp155
    rw [← hQ]
    exact W.iret (v := nI s9) hx hb hr (fun te9 hte9 _ => g_fin (⟨rfl, ⟨_, hMp155, fun b => pt_leaf2 hc1, fun j hj p hp => p6_pt (by omega)⟩, ho98⟩) hP hS hte9) hS.2.2 dX3_part_73 hlocks
