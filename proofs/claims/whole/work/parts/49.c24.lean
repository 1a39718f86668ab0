abbrev m_L_put_rm : Room := { frames := 12, cells := 10, slots := 60, locals := 292 }
set_option maxHeartbeats 4000000 in
set_option maxRecDepth 100000 in
theorem m_L_put (l : Launch) (hst : l.stackTraces = false) (D : va_G) (hAD : g_AD D) (σ : Nat → va_E) (Ls : Nat → g_L) (wood name mi : Int32) (hC : g_C D σ Ls) (hvC : vC_ Ls) (f8 : Nat → Int64) (hO : σ 31 = .inl (g_cL D, 1, .inr (.inl f8))) : g_H l D yL_put cL_put 6 (some .int) [(0, 12, 15, 13), (0, 12, 19, 15), (0, 12, 23, 17)] m_L_put_rm [.ref (ad_ D 0), .int wood, .int name, .int mi, .ref (ad_ D 31)] σ (fun v1 σ1 => v1 = some (.int (nI (er_put Ls wood name mi))) ∧ ((er_put Ls wood name mi = 0 ∧ ∃ (r9 : Int32) (σ2 : Nat → va_E), (∃ w, w ≤ 1 ∧ wood = nI w ∧ (some (Value.int r9) : Option Value) = some (.int (mo_ (Ls w) name)) ∧ g_C D σ2 (ul_ Ls w (st_ (Ls w) name mi))) ∧ g_off 0 19 σ σ2 ∧ σ1 = va_up σ2 31 (.inl (g_cL D, 1, .inr (.inl (vp_updL f8 0 r9.toInt64))))) ∨ (er_put Ls wood name mi ≠ 0 ∧ g_C D σ1 Ls ∧ g_off 0 19 σ σ1))) := by
  refine g_ofH [(0, .ref (ad_ D 0)), (1, .int wood), (2, .int name), (3, .int mi), (4, .ref (ad_ D 31))] (by decide +kernel) (Nat.le_of_ble_eq_true rfl) rfl ?_
  intro p e s m args below meth c hx hb hr hml hown hlocks hts hE hZ hP hS htab ls hl
  have hown : s.vm.findClass RL = some m.cls := hown
  generalize hQ : MQ _ _ _ _ _ _ _ = Q
  refine lv_aload hx hb dL_put_0 (lv_at hl 4 rfl) ?_
  refine lv_iconst (v := nI 0) hx hb dL_put_2 (by decide) ?_
  refine lv_aload_n hx hb dL_put_3 rfl (lv_at hl 0 rfl) ?_
  refine lv_iload_n hx hb dL_put_4 rfl (lv_at hl 1 rfl) ?_
  refine lv_iload_n hx hb dL_put_5 rfl (lv_at hl 2 rfl) ?_
  refine lv_iload_n hx hb dL_put_6 rfl (lv_at hl 3 rfl) ?_
  refine g_callVY (y := yX2_put) (n := 3) (As := [.int wood, .int name, .int mi]) (rest := [.int (nI 0), .ref (ad_ D 31)]) hx hb hml hown hts hE hZ hP hS hl.1 ((m_X2_put l hst D hAD σ Ls wood name mi hC hvC).Y) k_L_7 (ci := 2) (by decide) hC.1 rfl rfl rfl rfl rfl ⟨Nat.le_of_ble_eq_true rfl, Nat.le_of_ble_eq_true rfl⟩ (Nat.le_of_ble_eq_true rfl) ⟨Nat.le_of_ble_eq_true rfl, Nat.le_of_ble_eq_true rfl⟩ dL_put_7 (fun E ce q9 σ3 H locs hq hP hS hc9 hv9 hk9 => ?_) (fun v σ2 H locs hq hP hS => ?_)
  · obtain ⟨hq, rfl⟩ := hq
    rcases hq with ⟨he, rfl⟩ | ⟨he, rfl⟩ | ⟨he, rfl⟩
    · refine vx_catch (name := g_E0) hown (tableOf []) ⟨0, 12, 15, 13⟩ (tableOf [(0, 12, 19, 15), (0, 12, 23, 17)]) (htab.trans rfl) (fun z hz => absurd hz (by simp [tableOf])) (by decide) (by decide) (hts _ wl_L_13) (va_tabs rfl rfl (hE.2.2.1 (Cond.castable g_E0 g_E0) (by simp [g_NL]))) hc9 hv9 hk9 ?_
      refine W.eq (g2 := F0 m 15 ls [.ref q9]) rfl ?_
      refine W.widen (k := 10) (n := 60) (Nat.le_of_ble_eq_true rfl) (Nat.le_of_ble_eq_true rfl) ?_
      refine lv_astore (lv' := [(5, .ref q9), (0, .ref (ad_ D 0)), (1, .int wood), (2, .int name), (3, .int mi), (4, .ref (ad_ D 31))]) hx hb dL_put_15 hl (by decide) rfl (fun ls hl => ?_)
      refine lv_iconst (v := nI 1) hx hb dL_put_17 (by decide) ?_
      refine W.widen (k := 10) (n := 60) (by omega) (by omega) ?_
      rw [← hQ]
      exact W.iret (v := nI 1) hx hb hr (fun te9 hte9 _ => g_fin (⟨by rw [he], Or.inr ⟨by rw [he]; decide, hC, g_off.rf⟩⟩) hP hS hte9) hS.2.2 dL_put_18 hlocks
    · refine vx_catch (name := g_E1) hown (tableOf [(0, 12, 15, 13)]) ⟨0, 12, 19, 15⟩ (tableOf [(0, 12, 23, 17)]) (htab.trans rfl) (fun z hz => by simp only [tableOf, List.map_cons, List.map_nil, List.mem_cons, List.not_mem_nil, or_false] at hz; subst hz; exact Or.inr ⟨by decide, _, hts _ wl_L_13, hE.2.2.2.2 (g_E1, g_E0) (by simp [g_CL])⟩) (by decide) (by decide) (hts _ wl_L_15) (va_tabs rfl rfl (hE.2.2.1 (Cond.castable g_E1 g_E1) (by simp [g_NL]))) hc9 hv9 hk9 ?_
      refine W.eq (g2 := F0 m 19 ls [.ref q9]) rfl ?_
      refine W.widen (k := 10) (n := 60) (Nat.le_of_ble_eq_true rfl) (Nat.le_of_ble_eq_true rfl) ?_
      refine lv_astore (lv' := [(5, .ref q9), (0, .ref (ad_ D 0)), (1, .int wood), (2, .int name), (3, .int mi), (4, .ref (ad_ D 31))]) hx hb dL_put_19 hl (by decide) rfl (fun ls hl => ?_)
      refine lv_iconst (v := nI 2) hx hb dL_put_21 (by decide) ?_
      refine W.widen (k := 10) (n := 60) (by omega) (by omega) ?_
      rw [← hQ]
      exact W.iret (v := nI 2) hx hb hr (fun te9 hte9 _ => g_fin (⟨by rw [he], Or.inr ⟨by rw [he]; decide, hC, g_off.rf⟩⟩) hP hS hte9) hS.2.2 dL_put_22 hlocks
    · refine vx_catch (name := g_E2) hown (tableOf [(0, 12, 15, 13), (0, 12, 19, 15)]) ⟨0, 12, 23, 17⟩ (tableOf []) (htab.trans rfl) (fun z hz => by simp only [tableOf, List.map_cons, List.map_nil, List.mem_cons, List.not_mem_nil, or_false] at hz; rcases hz with rfl | rfl; exact Or.inr ⟨by decide, _, hts _ wl_L_13, hE.2.2.2.2 (g_E2, g_E0) (by simp [g_CL])⟩; exact Or.inr ⟨by decide, _, hts _ wl_L_15, hE.2.2.2.2 (g_E2, g_E1) (by simp [g_CL])⟩) (by decide) (by decide) (hts _ wl_L_17) (va_tabs rfl rfl (hE.2.2.1 (Cond.castable g_E2 g_E2) (by simp [g_NL]))) hc9 hv9 hk9 ?_
      refine W.eq (g2 := F0 m 23 ls [.ref q9]) rfl ?_
      refine W.widen (k := 10) (n := 60) (Nat.le_of_ble_eq_true rfl) (Nat.le_of_ble_eq_true rfl) ?_
      refine lv_astore (lv' := [(5, .ref q9), (0, .ref (ad_ D 0)), (1, .int wood), (2, .int name), (3, .int mi), (4, .ref (ad_ D 31))]) hx hb dL_put_23 hl (by decide) rfl (fun ls hl => ?_)
      refine lv_iconst (v := nI 3) hx hb dL_put_25 (by decide) ?_
      refine W.widen (k := 10) (n := 60) (by omega) (by omega) ?_
      rw [← hQ]
      exact W.iret (v := nI 3) hx hb hr (fun te9 hte9 _ => g_fin (⟨by rw [he], Or.inr ⟨by rw [he]; decide, hC, g_off.rf⟩⟩) hP hS hte9) hS.2.2 dL_put_26 hlocks
  · obtain ⟨he0, hok, hoff⟩ := hq
    obtain ⟨r9, rfl⟩ : ∃ r9 : Int32, v = some (.int r9) := by obtain ⟨_, _, _, hv9, _⟩ := hok; exact ⟨_, hv9⟩
    refine W.eq (g2 := F0 m 10 ls (.int r9 :: [.int (nI 0), .ref (ad_ D 31)])) rfl ?_
    refine W.widen (k := 10) (n := 60) (Nat.le_of_ble_eq_true rfl) (Nat.le_of_ble_eq_true rfl) ?_
    have hO2 := hoff.at0 hO (by decide)
    refine lv_i2l (v := (r9).toInt64) hx hb dL_put_10 rfl ?_
    refine g_lastO hx hb hE hAD hP hS hO2 dL_put_11 (fun H locs hP hS => ?_)
    refine lv_goto (tgt := 27) hx hb dL_put_12 (by decide) ?_
    refine lv_iconst (v := nI 0) hx hb dL_put_27 (by decide) ?_
    refine W.widen (k := 10) (n := 60) (by omega) (by omega) ?_
    rw [← hQ]
    exact W.iret (v := nI 0) hx hb hr (fun te9 hte9 _ => g_fin (⟨by rw [he0], Or.inl ⟨he0, r9, σ2, hok, hoff, rfl⟩⟩) hP hS hte9) hS.2.2 dL_put_28 hlocks

abbrev m_L_take_rm : Room := { frames := 12, cells := 10, slots := 60, locals := 289 }
set_option maxHeartbeats 4000000 in
set_option maxRecDepth 100000 in
theorem m_L_take (l : Launch) (hst : l.stackTraces = false) (D : va_G) (hAD : g_AD D) (σ : Nat → va_E) (Ls : Nat → g_L) (wood name : Int32) (hC : g_C D σ Ls) (hvC : vC_ Ls) (f8 : Nat → Int64) (hO : σ 31 = .inl (g_cL D, 1, .inr (.inl f8))) : g_H l D yL_take cL_take 5 (some .int) [(0, 10, 13, 13), (0, 10, 17, 15), (0, 10, 21, 17)] m_L_take_rm [.ref (ad_ D 0), .int wood, .int name, .ref (ad_ D 31)] σ (fun v1 σ1 => v1 = some (.int (nI (er_take Ls wood name))) ∧ ((er_take Ls wood name = 0 ∧ ∃ (r9 : Int32) (σ2 : Nat → va_E), (∃ w, w ≤ 1 ∧ wood = nI w ∧ (some (Value.int r9) : Option Value) = some (.int (mo_ (Ls w) name)) ∧ rk_ (Ls w) name < (Ls w).length ∧ fn_ (Ls w) (rk_ (Ls w) name) = name ∧ g_C D σ2 (ul_ Ls w ((Ls w).eraseIdx (rk_ (Ls w) name)))) ∧ g_off 0 19 σ σ2 ∧ σ1 = va_up σ2 31 (.inl (g_cL D, 1, .inr (.inl (vp_updL f8 0 r9.toInt64))))) ∨ (er_take Ls wood name ≠ 0 ∧ g_C D σ1 Ls ∧ g_off 0 19 σ σ1))) := by
  refine g_ofH [(0, .ref (ad_ D 0)), (1, .int wood), (2, .int name), (3, .ref (ad_ D 31))] (by decide +kernel) (Nat.le_of_ble_eq_true rfl) rfl ?_
  intro p e s m args below meth c hx hb hr hml hown hlocks hts hE hZ hP hS htab ls hl
  have hown : s.vm.findClass RL = some m.cls := hown
  generalize hQ : MQ _ _ _ _ _ _ _ = Q
  refine lv_aload_n hx hb dL_take_0 rfl (lv_at hl 3 rfl) ?_
  refine lv_iconst (v := nI 0) hx hb dL_take_1 (by decide) ?_
  refine lv_aload_n hx hb dL_take_2 rfl (lv_at hl 0 rfl) ?_
  refine lv_iload_n hx hb dL_take_3 rfl (lv_at hl 1 rfl) ?_
  refine lv_iload_n hx hb dL_take_4 rfl (lv_at hl 2 rfl) ?_
  refine g_callVY (y := yX2_take) (n := 2) (As := [.int wood, .int name]) (rest := [.int (nI 0), .ref (ad_ D 31)]) hx hb hml hown hts hE hZ hP hS hl.1 ((m_X2_take l hst D hAD σ Ls wood name hC hvC).Y) k_L_19 (ci := 2) (by decide) hC.1 rfl rfl rfl rfl rfl ⟨Nat.le_of_ble_eq_true rfl, Nat.le_of_ble_eq_true rfl⟩ (Nat.le_of_ble_eq_true rfl) ⟨Nat.le_of_ble_eq_true rfl, Nat.le_of_ble_eq_true rfl⟩ dL_take_5 (fun E ce q9 σ3 H locs hq hP hS hc9 hv9 hk9 => ?_) (fun v σ2 H locs hq hP hS => ?_)
  · obtain ⟨hq, rfl⟩ := hq
    rcases hq with ⟨he, rfl⟩ | ⟨he, rfl⟩ | ⟨he, rfl⟩
    · refine vx_catch (name := g_E0) hown (tableOf []) ⟨0, 10, 13, 13⟩ (tableOf [(0, 10, 17, 15), (0, 10, 21, 17)]) (htab.trans rfl) (fun z hz => absurd hz (by simp [tableOf])) (by decide) (by decide) (hts _ wl_L_13) (va_tabs rfl rfl (hE.2.2.1 (Cond.castable g_E0 g_E0) (by simp [g_NL]))) hc9 hv9 hk9 ?_
      refine W.eq (g2 := F0 m 13 ls [.ref q9]) rfl ?_
      refine W.widen (k := 10) (n := 60) (Nat.le_of_ble_eq_true rfl) (Nat.le_of_ble_eq_true rfl) ?_
      refine lv_astore (lv' := [(4, .ref q9), (0, .ref (ad_ D 0)), (1, .int wood), (2, .int name), (3, .ref (ad_ D 31))]) hx hb dL_take_13 hl (by decide) rfl (fun ls hl => ?_)
      refine lv_iconst (v := nI 1) hx hb dL_take_15 (by decide) ?_
      refine W.widen (k := 10) (n := 60) (by omega) (by omega) ?_
      rw [← hQ]
      exact W.iret (v := nI 1) hx hb hr (fun te9 hte9 _ => g_fin (⟨by rw [he], Or.inr ⟨by rw [he]; decide, hC, g_off.rf⟩⟩) hP hS hte9) hS.2.2 dL_take_16 hlocks
    · refine vx_catch (name := g_E1) hown (tableOf [(0, 10, 13, 13)]) ⟨0, 10, 17, 15⟩ (tableOf [(0, 10, 21, 17)]) (htab.trans rfl) (fun z hz => by simp only [tableOf, List.map_cons, List.map_nil, List.mem_cons, List.not_mem_nil, or_false] at hz; subst hz; exact Or.inr ⟨by decide, _, hts _ wl_L_13, hE.2.2.2.2 (g_E1, g_E0) (by simp [g_CL])⟩) (by decide) (by decide) (hts _ wl_L_15) (va_tabs rfl rfl (hE.2.2.1 (Cond.castable g_E1 g_E1) (by simp [g_NL]))) hc9 hv9 hk9 ?_
      refine W.eq (g2 := F0 m 17 ls [.ref q9]) rfl ?_
      refine W.widen (k := 10) (n := 60) (Nat.le_of_ble_eq_true rfl) (Nat.le_of_ble_eq_true rfl) ?_
      refine lv_astore (lv' := [(4, .ref q9), (0, .ref (ad_ D 0)), (1, .int wood), (2, .int name), (3, .ref (ad_ D 31))]) hx hb dL_take_17 hl (by decide) rfl (fun ls hl => ?_)
      refine lv_iconst (v := nI 2) hx hb dL_take_19 (by decide) ?_
      refine W.widen (k := 10) (n := 60) (by omega) (by omega) ?_
      rw [← hQ]
      exact W.iret (v := nI 2) hx hb hr (fun te9 hte9 _ => g_fin (⟨by rw [he], Or.inr ⟨by rw [he]; decide, hC, g_off.rf⟩⟩) hP hS hte9) hS.2.2 dL_take_20 hlocks
    · refine vx_catch (name := g_E2) hown (tableOf [(0, 10, 13, 13), (0, 10, 17, 15)]) ⟨0, 10, 21, 17⟩ (tableOf []) (htab.trans rfl) (fun z hz => by simp only [tableOf, List.map_cons, List.map_nil, List.mem_cons, List.not_mem_nil, or_false] at hz; rcases hz with rfl | rfl; exact Or.inr ⟨by decide, _, hts _ wl_L_13, hE.2.2.2.2 (g_E2, g_E0) (by simp [g_CL])⟩; exact Or.inr ⟨by decide, _, hts _ wl_L_15, hE.2.2.2.2 (g_E2, g_E1) (by simp [g_CL])⟩) (by decide) (by decide) (hts _ wl_L_17) (va_tabs rfl rfl (hE.2.2.1 (Cond.castable g_E2 g_E2) (by simp [g_NL]))) hc9 hv9 hk9 ?_
      refine W.eq (g2 := F0 m 21 ls [.ref q9]) rfl ?_
      refine W.widen (k := 10) (n := 60) (Nat.le_of_ble_eq_true rfl) (Nat.le_of_ble_eq_true rfl) ?_
      refine lv_astore (lv' := [(4, .ref q9), (0, .ref (ad_ D 0)), (1, .int wood), (2, .int name), (3, .ref (ad_ D 31))]) hx hb dL_take_21 hl (by decide) rfl (fun ls hl => ?_)
      refine lv_iconst (v := nI 3) hx hb dL_take_23 (by decide) ?_
      refine W.widen (k := 10) (n := 60) (by omega) (by omega) ?_
      rw [← hQ]
      exact W.iret (v := nI 3) hx hb hr (fun te9 hte9 _ => g_fin (⟨by rw [he], Or.inr ⟨by rw [he]; decide, hC, g_off.rf⟩⟩) hP hS hte9) hS.2.2 dL_take_24 hlocks
  · obtain ⟨he0, hok, hoff⟩ := hq
    obtain ⟨r9, rfl⟩ : ∃ r9 : Int32, v = some (.int r9) := by obtain ⟨_, _, _, hv9, _⟩ := hok; exact ⟨_, hv9⟩
    refine W.eq (g2 := F0 m 8 ls (.int r9 :: [.int (nI 0), .ref (ad_ D 31)])) rfl ?_
    refine W.widen (k := 10) (n := 60) (Nat.le_of_ble_eq_true rfl) (Nat.le_of_ble_eq_true rfl) ?_
    have hO2 := hoff.at0 hO (by decide)
    refine lv_i2l (v := (r9).toInt64) hx hb dL_take_8 rfl ?_
    refine g_lastO hx hb hE hAD hP hS hO2 dL_take_9 (fun H locs hP hS => ?_)
    refine lv_goto (tgt := 25) hx hb dL_take_10 (by decide) ?_
    refine lv_iconst (v := nI 0) hx hb dL_take_25 (by decide) ?_
    refine W.widen (k := 10) (n := 60) (by omega) (by omega) ?_
    rw [← hQ]
    exact W.iret (v := nI 0) hx hb hr (fun te9 hte9 _ => g_fin (⟨by rw [he0], Or.inl ⟨he0, r9, σ2, hok, hoff, rfl⟩⟩) hP hS hte9) hS.2.2 dL_take_26 hlocks

abbrev m_L_merge_rm : Room := { frames := 13, cells := 10, slots := 60, locals := 315 }
set_option maxHeartbeats 4000000 in
set_option maxRecDepth 100000 in
theorem m_L_merge (l : Launch) (hst : l.stackTraces = false) (D : va_G) (hAD : g_AD D) (σ : Nat → va_E) (Ls : Nat → g_L) (wood rule : Int32) (hC : g_C D σ Ls) (hvC : vC_ Ls) (f8 : Nat → Int64) (hO : σ 31 = .inl (g_cL D, 1, .inr (.inl f8))) : g_H l D yL_merge cL_merge 5 (some .int) [(0, 10, 13, 13), (0, 10, 17, 17)] m_L_merge_rm [.ref (ad_ D 0), .int wood, .int rule, .ref (ad_ D 31)] σ (fun v1 σ1 => v1 = some (.int (nI (er_merge Ls wood rule))) ∧ ((er_merge Ls wood rule = 0 ∧ ∃ (r9 : Int32) (σ2 : Nat → va_E), (∃ w r, w ≤ 1 ∧ wood = nI w ∧ r ≤ 3 ∧ rule = nI r ∧ (some (Value.int r9) : Option Value) = some (.int (nI (cm_ (Ls w) (Ls (1 - w)) (Ls w).length))) ∧ g_C D σ2 (ul_ (ul_ Ls w []) (1 - w) (mg_ r (Ls w) (Ls (1 - w)) (Ls w).length))) ∧ g_off 0 19 σ σ2 ∧ σ1 = va_up σ2 31 (.inl (g_cL D, 1, .inr (.inl (vp_updL f8 0 r9.toInt64))))) ∨ (er_merge Ls wood rule ≠ 0 ∧ g_C D σ1 Ls ∧ g_off 0 19 σ σ1))) := by
  refine g_ofH [(0, .ref (ad_ D 0)), (1, .int wood), (2, .int rule), (3, .ref (ad_ D 31))] (by decide +kernel) (Nat.le_of_ble_eq_true rfl) rfl ?_
  intro p e s m args below meth c hx hb hr hml hown hlocks hts hE hZ hP hS htab ls hl
  have hown : s.vm.findClass RL = some m.cls := hown
  generalize hQ : MQ _ _ _ _ _ _ _ = Q
  refine lv_aload_n hx hb dL_merge_0 rfl (lv_at hl 3 rfl) ?_
  refine lv_iconst (v := nI 0) hx hb dL_merge_1 (by decide) ?_
  refine lv_aload_n hx hb dL_merge_2 rfl (lv_at hl 0 rfl) ?_
  refine lv_iload_n hx hb dL_merge_3 rfl (lv_at hl 1 rfl) ?_
  refine lv_iload_n hx hb dL_merge_4 rfl (lv_at hl 2 rfl) ?_
  refine g_callVY (y := yX2_merge) (n := 2) (As := [.int wood, .int rule]) (rest := [.int (nI 0), .ref (ad_ D 31)]) hx hb hml hown hts hE hZ hP hS hl.1 ((m_X2_merge l hst D hAD σ Ls wood rule hC hvC).Y) k_L_23 (ci := 2) (by decide) hC.1 rfl rfl rfl rfl rfl ⟨Nat.le_of_ble_eq_true rfl, Nat.le_of_ble_eq_true rfl⟩ (Nat.le_of_ble_eq_true rfl) ⟨Nat.le_of_ble_eq_true rfl, Nat.le_of_ble_eq_true rfl⟩ dL_merge_5 (fun E ce q9 σ3 H locs hq hP hS hc9 hv9 hk9 => ?_) (fun v σ2 H locs hq hP hS => ?_)
  · obtain ⟨hq, rfl⟩ := hq
    rcases hq with ⟨he, rfl⟩ | ⟨he, rfl⟩
    · refine vx_catch (name := g_E0) hown (tableOf []) ⟨0, 10, 13, 13⟩ (tableOf [(0, 10, 17, 17)]) (htab.trans rfl) (fun z hz => absurd hz (by simp [tableOf])) (by decide) (by decide) (hts _ wl_L_13) (va_tabs rfl rfl (hE.2.2.1 (Cond.castable g_E0 g_E0) (by simp [g_NL]))) hc9 hv9 hk9 ?_
      refine W.eq (g2 := F0 m 13 ls [.ref q9]) rfl ?_
      refine W.widen (k := 10) (n := 60) (Nat.le_of_ble_eq_true rfl) (Nat.le_of_ble_eq_true rfl) ?_
      refine lv_astore (lv' := [(4, .ref q9), (0, .ref (ad_ D 0)), (1, .int wood), (2, .int rule), (3, .ref (ad_ D 31))]) hx hb dL_merge_13 hl (by decide) rfl (fun ls hl => ?_)
      refine lv_iconst (v := nI 1) hx hb dL_merge_15 (by decide) ?_
      refine W.widen (k := 10) (n := 60) (by omega) (by omega) ?_
      rw [← hQ]
      exact W.iret (v := nI 1) hx hb hr (fun te9 hte9 _ => g_fin (⟨by rw [he], Or.inr ⟨by rw [he]; decide, hC, g_off.rf⟩⟩) hP hS hte9) hS.2.2 dL_merge_16 hlocks
    · refine vx_catch (name := g_E2) hown (tableOf [(0, 10, 13, 13)]) ⟨0, 10, 17, 17⟩ (tableOf []) (htab.trans rfl) (fun z hz => by simp only [tableOf, List.map_cons, List.map_nil, List.mem_cons, List.not_mem_nil, or_false] at hz; subst hz; exact Or.inr ⟨by decide, _, hts _ wl_L_13, hE.2.2.2.2 (g_E2, g_E0) (by simp [g_CL])⟩) (by decide) (by decide) (hts _ wl_L_17) (va_tabs rfl rfl (hE.2.2.1 (Cond.castable g_E2 g_E2) (by simp [g_NL]))) hc9 hv9 hk9 ?_
      refine W.eq (g2 := F0 m 17 ls [.ref q9]) rfl ?_
      refine W.widen (k := 10) (n := 60) (Nat.le_of_ble_eq_true rfl) (Nat.le_of_ble_eq_true rfl) ?_
      refine lv_astore (lv' := [(4, .ref q9), (0, .ref (ad_ D 0)), (1, .int wood), (2, .int rule), (3, .ref (ad_ D 31))]) hx hb dL_merge_17 hl (by decide) rfl (fun ls hl => ?_)
      refine lv_iconst (v := nI 2) hx hb dL_merge_19 (by decide) ?_
      refine W.widen (k := 10) (n := 60) (by omega) (by omega) ?_
      rw [← hQ]
      exact W.iret (v := nI 2) hx hb hr (fun te9 hte9 _ => g_fin (⟨by rw [he], Or.inr ⟨by rw [he]; decide, hC, g_off.rf⟩⟩) hP hS hte9) hS.2.2 dL_merge_20 hlocks
  · obtain ⟨he0, hok, hoff⟩ := hq
    obtain ⟨r9, rfl⟩ : ∃ r9 : Int32, v = some (.int r9) := by obtain ⟨_, _, _, _, _, _, hv9, _⟩ := hok; exact ⟨_, hv9⟩
    refine W.eq (g2 := F0 m 8 ls (.int r9 :: [.int (nI 0), .ref (ad_ D 31)])) rfl ?_
    refine W.widen (k := 10) (n := 60) (Nat.le_of_ble_eq_true rfl) (Nat.le_of_ble_eq_true rfl) ?_
    have hO2 := hoff.at0 hO (by decide)
    refine lv_i2l (v := (r9).toInt64) hx hb dL_merge_8 rfl ?_
    refine g_lastO hx hb hE hAD hP hS hO2 dL_merge_9 (fun H locs hP hS => ?_)
    refine lv_goto (tgt := 21) hx hb dL_merge_10 (by decide) ?_
    refine lv_iconst (v := nI 0) hx hb dL_merge_21 (by decide) ?_
    refine W.widen (k := 10) (n := 60) (by omega) (by omega) ?_
    rw [← hQ]
    exact W.iret (v := nI 0) hx hb hr (fun te9 hte9 _ => g_fin (⟨by rw [he0], Or.inl ⟨he0, r9, σ2, hok, hoff, rfl⟩⟩) hP hS hte9) hS.2.2 dL_merge_22 hlocks

abbrev m_L_cut_rm : Room := { frames := 12, cells := 10, slots := 60, locals := 293 }
set_option maxHeartbeats 4000000 in
set_option maxRecDepth 100000 in
theorem m_L_cut (l : Launch) (hst : l.stackTraces = false) (D : va_G) (hAD : g_AD D) (σ : Nat → va_E) (Ls : Nat → g_L) (wood name : Int32) (hC : g_C D σ Ls) (hvC : vC_ Ls) (f8 : Nat → Int64) (hO : σ 31 = .inl (g_cL D, 1, .inr (.inl f8))) : g_H l D yL_cut cL_cut 5 (some .int) [(0, 10, 13, 13), (0, 10, 17, 15), (0, 10, 21, 17)] m_L_cut_rm [.ref (ad_ D 0), .int wood, .int name, .ref (ad_ D 31)] σ (fun v1 σ1 => v1 = some (.int (nI (er_cut Ls wood name))) ∧ ((er_cut Ls wood name = 0 ∧ ∃ (r9 : Int32) (σ2 : Nat → va_E), (∃ w, w ≤ 1 ∧ wood = nI w ∧ nm1_ name ∧ (Ls (1 - w)).length = 0 ∧ (some (Value.int r9) : Option Value) = some (.int (nI (ct_ (Ls w) (Ls (1 - w)) (rk_ (Ls w) name) ((Ls w).length - rk_ (Ls w) name)).length)) ∧ g_C D σ2 (ul_ (ul_ Ls w ((Ls w).take (rk_ (Ls w) name))) (1 - w) (ct_ (Ls w) (Ls (1 - w)) (rk_ (Ls w) name) ((Ls w).length - rk_ (Ls w) name)))) ∧ g_off 0 19 σ σ2 ∧ σ1 = va_up σ2 31 (.inl (g_cL D, 1, .inr (.inl (vp_updL f8 0 r9.toInt64))))) ∨ (er_cut Ls wood name ≠ 0 ∧ g_C D σ1 Ls ∧ g_off 0 19 σ σ1))) := by
  refine g_ofH [(0, .ref (ad_ D 0)), (1, .int wood), (2, .int name), (3, .ref (ad_ D 31))] (by decide +kernel) (Nat.le_of_ble_eq_true rfl) rfl ?_
  intro p e s m args below meth c hx hb hr hml hown hlocks hts hE hZ hP hS htab ls hl
  have hown : s.vm.findClass RL = some m.cls := hown
  generalize hQ : MQ _ _ _ _ _ _ _ = Q
  refine lv_aload_n hx hb dL_cut_0 rfl (lv_at hl 3 rfl) ?_
  refine lv_iconst (v := nI 0) hx hb dL_cut_1 (by decide) ?_
  refine lv_aload_n hx hb dL_cut_2 rfl (lv_at hl 0 rfl) ?_
  refine lv_iload_n hx hb dL_cut_3 rfl (lv_at hl 1 rfl) ?_
  refine lv_iload_n hx hb dL_cut_4 rfl (lv_at hl 2 rfl) ?_
  refine g_callVY (y := yX2_cut) (n := 2) (As := [.int wood, .int name]) (rest := [.int (nI 0), .ref (ad_ D 31)]) hx hb hml hown hts hE hZ hP hS hl.1 ((m_X2_cut l hst D hAD σ Ls wood name hC hvC).Y) k_L_26 (ci := 2) (by decide) hC.1 rfl rfl rfl rfl rfl ⟨Nat.le_of_ble_eq_true rfl, Nat.le_of_ble_eq_true rfl⟩ (Nat.le_of_ble_eq_true rfl) ⟨Nat.le_of_ble_eq_true rfl, Nat.le_of_ble_eq_true rfl⟩ dL_cut_5 (fun E ce q9 σ3 H locs hq hP hS hc9 hv9 hk9 => ?_) (fun v σ2 H locs hq hP hS => ?_)
  · obtain ⟨hq, rfl⟩ := hq
    rcases hq with ⟨he, rfl⟩ | ⟨he, rfl⟩ | ⟨he, rfl⟩
    · refine vx_catch (name := g_E0) hown (tableOf []) ⟨0, 10, 13, 13⟩ (tableOf [(0, 10, 17, 15), (0, 10, 21, 17)]) (htab.trans rfl) (fun z hz => absurd hz (by simp [tableOf])) (by decide) (by decide) (hts _ wl_L_13) (va_tabs rfl rfl (hE.2.2.1 (Cond.castable g_E0 g_E0) (by simp [g_NL]))) hc9 hv9 hk9 ?_
      refine W.eq (g2 := F0 m 13 ls [.ref q9]) rfl ?_
      refine W.widen (k := 10) (n := 60) (Nat.le_of_ble_eq_true rfl) (Nat.le_of_ble_eq_true rfl) ?_
      refine lv_astore (lv' := [(4, .ref q9), (0, .ref (ad_ D 0)), (1, .int wood), (2, .int name), (3, .ref (ad_ D 31))]) hx hb dL_cut_13 hl (by decide) rfl (fun ls hl => ?_)
      refine lv_iconst (v := nI 1) hx hb dL_cut_15 (by decide) ?_
      refine W.widen (k := 10) (n := 60) (by omega) (by omega) ?_
      rw [← hQ]
      exact W.iret (v := nI 1) hx hb hr (fun te9 hte9 _ => g_fin (⟨by rw [he], Or.inr ⟨by rw [he]; decide, hC, g_off.rf⟩⟩) hP hS hte9) hS.2.2 dL_cut_16 hlocks
    · refine vx_catch (name := g_E1) hown (tableOf [(0, 10, 13, 13)]) ⟨0, 10, 17, 15⟩ (tableOf [(0, 10, 21, 17)]) (htab.trans rfl) (fun z hz => by simp only [tableOf, List.map_cons, List.map_nil, List.mem_cons, List.not_mem_nil, or_false] at hz; subst hz; exact Or.inr ⟨by decide, _, hts _ wl_L_13, hE.2.2.2.2 (g_E1, g_E0) (by simp [g_CL])⟩) (by decide) (by decide) (hts _ wl_L_15) (va_tabs rfl rfl (hE.2.2.1 (Cond.castable g_E1 g_E1) (by simp [g_NL]))) hc9 hv9 hk9 ?_
      refine W.eq (g2 := F0 m 17 ls [.ref q9]) rfl ?_
      refine W.widen (k := 10) (n := 60) (Nat.le_of_ble_eq_true rfl) (Nat.le_of_ble_eq_true rfl) ?_
      refine lv_astore (lv' := [(4, .ref q9), (0, .ref (ad_ D 0)), (1, .int wood), (2, .int name), (3, .ref (ad_ D 31))]) hx hb dL_cut_17 hl (by decide) rfl (fun ls hl => ?_)
      refine lv_iconst (v := nI 2) hx hb dL_cut_19 (by decide) ?_
      refine W.widen (k := 10) (n := 60) (by omega) (by omega) ?_
      rw [← hQ]
      exact W.iret (v := nI 2) hx hb hr (fun te9 hte9 _ => g_fin (⟨by rw [he], Or.inr ⟨by rw [he]; decide, hC, g_off.rf⟩⟩) hP hS hte9) hS.2.2 dL_cut_20 hlocks
    · refine vx_catch (name := g_E2) hown (tableOf [(0, 10, 13, 13), (0, 10, 17, 15)]) ⟨0, 10, 21, 17⟩ (tableOf []) (htab.trans rfl) (fun z hz => by simp only [tableOf, List.map_cons, List.map_nil, List.mem_cons, List.not_mem_nil, or_false] at hz; rcases hz with rfl | rfl; exact Or.inr ⟨by decide, _, hts _ wl_L_13, hE.2.2.2.2 (g_E2, g_E0) (by simp [g_CL])⟩; exact Or.inr ⟨by decide, _, hts _ wl_L_15, hE.2.2.2.2 (g_E2, g_E1) (by simp [g_CL])⟩) (by decide) (by decide) (hts _ wl_L_17) (va_tabs rfl rfl (hE.2.2.1 (Cond.castable g_E2 g_E2) (by simp [g_NL]))) hc9 hv9 hk9 ?_
      refine W.eq (g2 := F0 m 21 ls [.ref q9]) rfl ?_
      refine W.widen (k := 10) (n := 60) (Nat.le_of_ble_eq_true rfl) (Nat.le_of_ble_eq_true rfl) ?_
      refine lv_astore (lv' := [(4, .ref q9), (0, .ref (ad_ D 0)), (1, .int wood), (2, .int name), (3, .ref (ad_ D 31))]) hx hb dL_cut_21 hl (by decide) rfl (fun ls hl => ?_)
      refine lv_iconst (v := nI 3) hx hb dL_cut_23 (by decide) ?_
      refine W.widen (k := 10) (n := 60) (by omega) (by omega) ?_
      rw [← hQ]
      exact W.iret (v := nI 3) hx hb hr (fun te9 hte9 _ => g_fin (⟨by rw [he], Or.inr ⟨by rw [he]; decide, hC, g_off.rf⟩⟩) hP hS hte9) hS.2.2 dL_cut_24 hlocks
  · obtain ⟨he0, hok, hoff⟩ := hq
    obtain ⟨r9, rfl⟩ : ∃ r9 : Int32, v = some (.int r9) := by obtain ⟨_, _, _, _, _, hv9, _⟩ := hok; exact ⟨_, hv9⟩
    refine W.eq (g2 := F0 m 8 ls (.int r9 :: [.int (nI 0), .ref (ad_ D 31)])) rfl ?_
    refine W.widen (k := 10) (n := 60) (Nat.le_of_ble_eq_true rfl) (Nat.le_of_ble_eq_true rfl) ?_
    have hO2 := hoff.at0 hO (by decide)
    refine lv_i2l (v := (r9).toInt64) hx hb dL_cut_8 rfl ?_
    refine g_lastO hx hb hE hAD hP hS hO2 dL_cut_9 (fun H locs hP hS => ?_)
    refine lv_goto (tgt := 25) hx hb dL_cut_10 (by decide) ?_
    refine lv_iconst (v := nI 0) hx hb dL_cut_25 (by decide) ?_
    refine W.widen (k := 10) (n := 60) (by omega) (by omega) ?_
    rw [← hQ]
    exact W.iret (v := nI 0) hx hb hr (fun te9 hte9 _ => g_fin (⟨by rw [he0], Or.inl ⟨he0, r9, σ2, hok, hoff, rfl⟩⟩) hP hS hte9) hS.2.2 dL_cut_26 hlocks

abbrev m_L_turn_rm : Room := { frames := 13, cells := 10, slots := 60, locals := 313 }
set_option maxHeartbeats 4000000 in
set_option maxRecDepth 100000 in
theorem m_L_turn (l : Launch) (hst : l.stackTraces = false) (D : va_G) (hAD : g_AD D) (σ : Nat → va_E) (Ls : Nat → g_L) (wood bits : Int32) (hC : g_C D σ Ls) (hvC : vC_ Ls) (f8 : Nat → Int64) (hO : σ 31 = .inl (g_cL D, 1, .inr (.inl f8))) : g_H l D yL_turn cL_turn 5 (some .int) [(0, 10, 13, 13), (0, 10, 17, 15), (0, 10, 21, 17)] m_L_turn_rm [.ref (ad_ D 0), .int wood, .int bits, .ref (ad_ D 31)] σ (fun v1 σ1 => v1 = some (.int (nI (er_turn Ls wood bits))) ∧ ((er_turn Ls wood bits = 0 ∧ ∃ (r9 : Int32) (σ2 : Nat → va_E), (∃ w, w ≤ 1 ∧ wood = nI w ∧ nm1_ bits ∧ (Ls w).length ≠ 0 ∧ (some (Value.int r9) : Option Value) = some (.int (fn_ (cb_ (Ls w) bits (Ls w).length) 0)) ∧ g_C D σ2 (ul_ Ls w (cb_ (Ls w) bits (Ls w).length))) ∧ g_off 0 19 σ σ2 ∧ σ1 = va_up σ2 31 (.inl (g_cL D, 1, .inr (.inl (vp_updL f8 0 r9.toInt64))))) ∨ (er_turn Ls wood bits ≠ 0 ∧ g_C D σ1 Ls ∧ g_off 0 19 σ σ1))) := by
  refine g_ofH [(0, .ref (ad_ D 0)), (1, .int wood), (2, .int bits), (3, .ref (ad_ D 31))] (by decide +kernel) (Nat.le_of_ble_eq_true rfl) rfl ?_
  intro p e s m args below meth c hx hb hr hml hown hlocks hts hE hZ hP hS htab ls hl
  have hown : s.vm.findClass RL = some m.cls := hown
  generalize hQ : MQ _ _ _ _ _ _ _ = Q
  refine lv_aload_n hx hb dL_turn_0 rfl (lv_at hl 3 rfl) ?_
  refine lv_iconst (v := nI 0) hx hb dL_turn_1 (by decide) ?_
  refine lv_aload_n hx hb dL_turn_2 rfl (lv_at hl 0 rfl) ?_
  refine lv_iload_n hx hb dL_turn_3 rfl (lv_at hl 1 rfl) ?_
  refine lv_iload_n hx hb dL_turn_4 rfl (lv_at hl 2 rfl) ?_
  refine g_callVY (y := yX2_turn) (n := 2) (As := [.int wood, .int bits]) (rest := [.int (nI 0), .ref (ad_ D 31)]) hx hb hml hown hts hE hZ hP hS hl.1 ((m_X2_turn l hst D hAD σ Ls wood bits hC hvC).Y) k_L_29 (ci := 2) (by decide) hC.1 rfl rfl rfl rfl rfl ⟨Nat.le_of_ble_eq_true rfl, Nat.le_of_ble_eq_true rfl⟩ (Nat.le_of_ble_eq_true rfl) ⟨Nat.le_of_ble_eq_true rfl, Nat.le_of_ble_eq_true rfl⟩ dL_turn_5 (fun E ce q9 σ3 H locs hq hP hS hc9 hv9 hk9 => ?_) (fun v σ2 H locs hq hP hS => ?_)
  · obtain ⟨hq, rfl⟩ := hq
    rcases hq with ⟨he, rfl⟩ | ⟨he, rfl⟩ | ⟨he, rfl⟩
    · refine vx_catch (name := g_E0) hown (tableOf []) ⟨0, 10, 13, 13⟩ (tableOf [(0, 10, 17, 15), (0, 10, 21, 17)]) (htab.trans rfl) (fun z hz => absurd hz (by simp [tableOf])) (by decide) (by decide) (hts _ wl_L_13) (va_tabs rfl rfl (hE.2.2.1 (Cond.castable g_E0 g_E0) (by simp [g_NL]))) hc9 hv9 hk9 ?_
      refine W.eq (g2 := F0 m 13 ls [.ref q9]) rfl ?_
      refine W.widen (k := 10) (n := 60) (Nat.le_of_ble_eq_true rfl) (Nat.le_of_ble_eq_true rfl) ?_
      refine lv_astore (lv' := [(4, .ref q9), (0, .ref (ad_ D 0)), (1, .int wood), (2, .int bits), (3, .ref (ad_ D 31))]) hx hb dL_turn_13 hl (by decide) rfl (fun ls hl => ?_)
      refine lv_iconst (v := nI 1) hx hb dL_turn_15 (by decide) ?_
      refine W.widen (k := 10) (n := 60) (by omega) (by omega) ?_
      rw [← hQ]
      exact W.iret (v := nI 1) hx hb hr (fun te9 hte9 _ => g_fin (⟨by rw [he], Or.inr ⟨by rw [he]; decide, hC, g_off.rf⟩⟩) hP hS hte9) hS.2.2 dL_turn_16 hlocks
    · refine vx_catch (name := g_E1) hown (tableOf [(0, 10, 13, 13)]) ⟨0, 10, 17, 15⟩ (tableOf [(0, 10, 21, 17)]) (htab.trans rfl) (fun z hz => by simp only [tableOf, List.map_cons, List.map_nil, List.mem_cons, List.not_mem_nil, or_false] at hz; subst hz; exact Or.inr ⟨by decide, _, hts _ wl_L_13, hE.2.2.2.2 (g_E1, g_E0) (by simp [g_CL])⟩) (by decide) (by decide) (hts _ wl_L_15) (va_tabs rfl rfl (hE.2.2.1 (Cond.castable g_E1 g_E1) (by simp [g_NL]))) hc9 hv9 hk9 ?_
      refine W.eq (g2 := F0 m 17 ls [.ref q9]) rfl ?_
      refine W.widen (k := 10) (n := 60) (Nat.le_of_ble_eq_true rfl) (Nat.le_of_ble_eq_true rfl) ?_
      refine lv_astore (lv' := [(4, .ref q9), (0, .ref (ad_ D 0)), (1, .int wood), (2, .int bits), (3, .ref (ad_ D 31))]) hx hb dL_turn_17 hl (by decide) rfl (fun ls hl => ?_)
      refine lv_iconst (v := nI 2) hx hb dL_turn_19 (by decide) ?_
      refine W.widen (k := 10) (n := 60) (by omega) (by omega) ?_
      rw [← hQ]
      exact W.iret (v := nI 2) hx hb hr (fun te9 hte9 _ => g_fin (⟨by rw [he], Or.inr ⟨by rw [he]; decide, hC, g_off.rf⟩⟩) hP hS hte9) hS.2.2 dL_turn_20 hlocks
    · refine vx_catch (name := g_E2) hown (tableOf [(0, 10, 13, 13), (0, 10, 17, 15)]) ⟨0, 10, 21, 17⟩ (tableOf []) (htab.trans rfl) (fun z hz => by simp only [tableOf, List.map_cons, List.map_nil, List.mem_cons, List.not_mem_nil, or_false] at hz; rcases hz with rfl | rfl; exact Or.inr ⟨by decide, _, hts _ wl_L_13, hE.2.2.2.2 (g_E2, g_E0) (by simp [g_CL])⟩; exact Or.inr ⟨by decide, _, hts _ wl_L_15, hE.2.2.2.2 (g_E2, g_E1) (by simp [g_CL])⟩) (by decide) (by decide) (hts _ wl_L_17) (va_tabs rfl rfl (hE.2.2.1 (Cond.castable g_E2 g_E2) (by simp [g_NL]))) hc9 hv9 hk9 ?_
      refine W.eq (g2 := F0 m 21 ls [.ref q9]) rfl ?_
      refine W.widen (k := 10) (n := 60) (Nat.le_of_ble_eq_true rfl) (Nat.le_of_ble_eq_true rfl) ?_
      refine lv_astore (lv' := [(4, .ref q9), (0, .ref (ad_ D 0)), (1, .int wood), (2, .int bits), (3, .ref (ad_ D 31))]) hx hb dL_turn_21 hl (by decide) rfl (fun ls hl => ?_)
      refine lv_iconst (v := nI 3) hx hb dL_turn_23 (by decide) ?_
      refine W.widen (k := 10) (n := 60) (by omega) (by omega) ?_
      rw [← hQ]
      exact W.iret (v := nI 3) hx hb hr (fun te9 hte9 _ => g_fin (⟨by rw [he], Or.inr ⟨by rw [he]; decide, hC, g_off.rf⟩⟩) hP hS hte9) hS.2.2 dL_turn_24 hlocks
  · obtain ⟨he0, hok, hoff⟩ := hq
    obtain ⟨r9, rfl⟩ : ∃ r9 : Int32, v = some (.int r9) := by obtain ⟨_, _, _, _, _, hv9, _⟩ := hok; exact ⟨_, hv9⟩
    refine W.eq (g2 := F0 m 8 ls (.int r9 :: [.int (nI 0), .ref (ad_ D 31)])) rfl ?_
    refine W.widen (k := 10) (n := 60) (Nat.le_of_ble_eq_true rfl) (Nat.le_of_ble_eq_true rfl) ?_
    have hO2 := hoff.at0 hO (by decide)
    refine lv_i2l (v := (r9).toInt64) hx hb dL_turn_8 rfl ?_
    refine g_lastO hx hb hE hAD hP hS hO2 dL_turn_9 (fun H locs hP hS => ?_)
    refine lv_goto (tgt := 25) hx hb dL_turn_10 (by decide) ?_
    refine lv_iconst (v := nI 0) hx hb dL_turn_25 (by decide) ?_
    refine W.widen (k := 10) (n := 60) (by omega) (by omega) ?_
    rw [← hQ]
    exact W.iret (v := nI 0) hx hb hr (fun te9 hte9 _ => g_fin (⟨by rw [he0], Or.inl ⟨he0, r9, σ2, hok, hoff, rfl⟩⟩) hP hS hte9) hS.2.2 dL_turn_26 hlocks

abbrev m_L_miles_rm : Room := { frames := 12, cells := 10, slots := 60, locals := 287 }
set_option maxHeartbeats 4000000 in
set_option maxRecDepth 100000 in
theorem m_L_miles (l : Launch) (hst : l.stackTraces = false) (D : va_G) (hAD : g_AD D) (σ : Nat → va_E) (Ls : Nat → g_L) (wood name : Int32) (hC : g_C D σ Ls) (hvC : vC_ Ls) (f8 : Nat → Int64) (hO : σ 31 = .inl (g_cL D, 1, .inr (.inl f8))) : g_H l D yL_miles cL_miles 5 (some .int) [(0, 10, 13, 13), (0, 10, 17, 15)] m_L_miles_rm [.ref (ad_ D 0), .int wood, .int name, .ref (ad_ D 31)] σ (fun v1 σ1 => v1 = some (.int (nI (er_miles wood name))) ∧ ((er_miles wood name = 0 ∧ ∃ (r9 : Int32) (σ2 : Nat → va_E), (∃ w, w ≤ 1 ∧ wood = nI w ∧ (some (Value.int r9) : Option Value) = some (.int (mo_ (Ls w) name)) ∧ g_C D σ2 Ls) ∧ g_off 0 19 σ σ2 ∧ σ1 = va_up σ2 31 (.inl (g_cL D, 1, .inr (.inl (vp_updL f8 0 r9.toInt64))))) ∨ (er_miles wood name ≠ 0 ∧ g_C D σ1 Ls ∧ g_off 0 19 σ σ1))) := by
  refine g_ofH [(0, .ref (ad_ D 0)), (1, .int wood), (2, .int name), (3, .ref (ad_ D 31))] (by decide +kernel) (Nat.le_of_ble_eq_true rfl) rfl ?_
  intro p e s m args below meth c hx hb hr hml hown hlocks hts hE hZ hP hS htab ls hl
  have hown : s.vm.findClass RL = some m.cls := hown
  generalize hQ : MQ _ _ _ _ _ _ _ = Q
  refine lv_aload_n hx hb dL_miles_0 rfl (lv_at hl 3 rfl) ?_
  refine lv_iconst (v := nI 0) hx hb dL_miles_1 (by decide) ?_
  refine lv_aload_n hx hb dL_miles_2 rfl (lv_at hl 0 rfl) ?_
  refine lv_iload_n hx hb dL_miles_3 rfl (lv_at hl 1 rfl) ?_
  refine lv_iload_n hx hb dL_miles_4 rfl (lv_at hl 2 rfl) ?_
  refine g_callVY (y := yX2_miles) (n := 2) (As := [.int wood, .int name]) (rest := [.int (nI 0), .ref (ad_ D 31)]) hx hb hml hown hts hE hZ hP hS hl.1 ((m_X2_miles l hst D hAD σ Ls wood name hC hvC).Y) k_L_32 (ci := 2) (by decide) hC.1 rfl rfl rfl rfl rfl ⟨Nat.le_of_ble_eq_true rfl, Nat.le_of_ble_eq_true rfl⟩ (Nat.le_of_ble_eq_true rfl) ⟨Nat.le_of_ble_eq_true rfl, Nat.le_of_ble_eq_true rfl⟩ dL_miles_5 (fun E ce q9 σ3 H locs hq hP hS hc9 hv9 hk9 => ?_) (fun v σ2 H locs hq hP hS => ?_)
  · obtain ⟨hq, rfl⟩ := hq
    rcases hq with ⟨he, rfl⟩ | ⟨he, rfl⟩
    · refine vx_catch (name := g_E0) hown (tableOf []) ⟨0, 10, 13, 13⟩ (tableOf [(0, 10, 17, 15)]) (htab.trans rfl) (fun z hz => absurd hz (by simp [tableOf])) (by decide) (by decide) (hts _ wl_L_13) (va_tabs rfl rfl (hE.2.2.1 (Cond.castable g_E0 g_E0) (by simp [g_NL]))) hc9 hv9 hk9 ?_
      refine W.eq (g2 := F0 m 13 ls [.ref q9]) rfl ?_
      refine W.widen (k := 10) (n := 60) (Nat.le_of_ble_eq_true rfl) (Nat.le_of_ble_eq_true rfl) ?_
      refine lv_astore (lv' := [(4, .ref q9), (0, .ref (ad_ D 0)), (1, .int wood), (2, .int name), (3, .ref (ad_ D 31))]) hx hb dL_miles_13 hl (by decide) rfl (fun ls hl => ?_)
      refine lv_iconst (v := nI 1) hx hb dL_miles_15 (by decide) ?_
      refine W.widen (k := 10) (n := 60) (by omega) (by omega) ?_
      rw [← hQ]
      exact W.iret (v := nI 1) hx hb hr (fun te9 hte9 _ => g_fin (⟨by rw [he], Or.inr ⟨by rw [he]; decide, hC, g_off.rf⟩⟩) hP hS hte9) hS.2.2 dL_miles_16 hlocks
    · refine vx_catch (name := g_E1) hown (tableOf [(0, 10, 13, 13)]) ⟨0, 10, 17, 15⟩ (tableOf []) (htab.trans rfl) (fun z hz => by simp only [tableOf, List.map_cons, List.map_nil, List.mem_cons, List.not_mem_nil, or_false] at hz; subst hz; exact Or.inr ⟨by decide, _, hts _ wl_L_13, hE.2.2.2.2 (g_E1, g_E0) (by simp [g_CL])⟩) (by decide) (by decide) (hts _ wl_L_15) (va_tabs rfl rfl (hE.2.2.1 (Cond.castable g_E1 g_E1) (by simp [g_NL]))) hc9 hv9 hk9 ?_
      refine W.eq (g2 := F0 m 17 ls [.ref q9]) rfl ?_
      refine W.widen (k := 10) (n := 60) (Nat.le_of_ble_eq_true rfl) (Nat.le_of_ble_eq_true rfl) ?_
      refine lv_astore (lv' := [(4, .ref q9), (0, .ref (ad_ D 0)), (1, .int wood), (2, .int name), (3, .ref (ad_ D 31))]) hx hb dL_miles_17 hl (by decide) rfl (fun ls hl => ?_)
      refine lv_iconst (v := nI 2) hx hb dL_miles_19 (by decide) ?_
      refine W.widen (k := 10) (n := 60) (by omega) (by omega) ?_
      rw [← hQ]
      exact W.iret (v := nI 2) hx hb hr (fun te9 hte9 _ => g_fin (⟨by rw [he], Or.inr ⟨by rw [he]; decide, hC, g_off.rf⟩⟩) hP hS hte9) hS.2.2 dL_miles_20 hlocks
  · obtain ⟨he0, hok, hoff⟩ := hq
    obtain ⟨r9, rfl⟩ : ∃ r9 : Int32, v = some (.int r9) := by obtain ⟨_, _, _, hv9, _⟩ := hok; exact ⟨_, hv9⟩
    refine W.eq (g2 := F0 m 8 ls (.int r9 :: [.int (nI 0), .ref (ad_ D 31)])) rfl ?_
    refine W.widen (k := 10) (n := 60) (Nat.le_of_ble_eq_true rfl) (Nat.le_of_ble_eq_true rfl) ?_
    have hO2 := hoff.at0 hO (by decide)
    refine lv_i2l (v := (r9).toInt64) hx hb dL_miles_8 rfl ?_
    refine g_lastO hx hb hE hAD hP hS hO2 dL_miles_9 (fun H locs hP hS => ?_)
    refine lv_goto (tgt := 21) hx hb dL_miles_10 (by decide) ?_
    refine lv_iconst (v := nI 0) hx hb dL_miles_21 (by decide) ?_
    refine W.widen (k := 10) (n := 60) (by omega) (by omega) ?_
    rw [← hQ]
    exact W.iret (v := nI 0) hx hb hr (fun te9 hte9 _ => g_fin (⟨by rw [he0], Or.inl ⟨he0, r9, σ2, hok, hoff, rfl⟩⟩) hP hS hte9) hS.2.2 dL_miles_22 hlocks

abbrev m_L_count_rm : Room := { frames := 14, cells := 10, slots := 60, locals := 346 }
set_option maxHeartbeats 4000000 in
set_option maxRecDepth 100000 in
theorem m_L_count (l : Launch) (hst : l.stackTraces = false) (D : va_G) (hAD : g_AD D) (σ : Nat → va_E) (Ls : Nat → g_L) (wood what : Int32) (hC : g_C D σ Ls) (hvC : vC_ Ls) (f8 : Nat → Int64) (hO : σ 31 = .inl (g_cL D, 1, .inr (.inl f8))) : g_H l D yL_count cL_count 5 (some .int) [(0, 10, 13, 13)] m_L_count_rm [.ref (ad_ D 0), .int wood, .int what, .ref (ad_ D 31)] σ (fun v1 σ1 => v1 = some (.int (nI (er_count wood what))) ∧ ((er_count wood what = 0 ∧ ∃ (r9 : Int32) (σ2 : Nat → va_E), (∃ w t, w ≤ 1 ∧ wood = nI w ∧ t ≤ 6 ∧ what = nI t ∧ (some (Value.int r9) : Option Value) = some (.int (cn_ (Ls w) t)) ∧ g_C D σ2 Ls) ∧ g_off 0 19 σ σ2 ∧ σ1 = va_up σ2 31 (.inl (g_cL D, 1, .inr (.inl (vp_updL f8 0 r9.toInt64))))) ∨ (er_count wood what ≠ 0 ∧ g_C D σ1 Ls ∧ g_off 0 19 σ σ1))) := by
  refine g_ofH [(0, .ref (ad_ D 0)), (1, .int wood), (2, .int what), (3, .ref (ad_ D 31))] (by decide +kernel) (Nat.le_of_ble_eq_true rfl) rfl ?_
  intro p e s m args below meth c hx hb hr hml hown hlocks hts hE hZ hP hS htab ls hl
  have hown : s.vm.findClass RL = some m.cls := hown
  generalize hQ : MQ _ _ _ _ _ _ _ = Q
  refine lv_aload_n hx hb dL_count_0 rfl (lv_at hl 3 rfl) ?_
  refine lv_iconst (v := nI 0) hx hb dL_count_1 (by decide) ?_
  refine lv_aload_n hx hb dL_count_2 rfl (lv_at hl 0 rfl) ?_
  refine lv_iload_n hx hb dL_count_3 rfl (lv_at hl 1 rfl) ?_
  refine lv_iload_n hx hb dL_count_4 rfl (lv_at hl 2 rfl) ?_
  refine g_callVY (y := yX2_count) (n := 2) (As := [.int wood, .int what]) (rest := [.int (nI 0), .ref (ad_ D 31)]) hx hb hml hown hts hE hZ hP hS hl.1 ((m_X2_count l hst D hAD σ Ls wood what hC hvC).Y) k_L_35 (ci := 2) (by decide) hC.1 rfl rfl rfl rfl rfl ⟨Nat.le_of_ble_eq_true rfl, Nat.le_of_ble_eq_true rfl⟩ (Nat.le_of_ble_eq_true rfl) ⟨Nat.le_of_ble_eq_true rfl, Nat.le_of_ble_eq_true rfl⟩ dL_count_5 (fun E ce q9 σ3 H locs hq hP hS hc9 hv9 hk9 => ?_) (fun v σ2 H locs hq hP hS => ?_)
  · obtain ⟨hq, rfl⟩ := hq
    rcases hq with ⟨he, rfl⟩
    refine vx_catch (name := g_E0) hown (tableOf []) ⟨0, 10, 13, 13⟩ (tableOf []) (htab.trans rfl) (fun z hz => absurd hz (by simp [tableOf])) (by decide) (by decide) (hts _ wl_L_13) (va_tabs rfl rfl (hE.2.2.1 (Cond.castable g_E0 g_E0) (by simp [g_NL]))) hc9 hv9 hk9 ?_
    refine W.eq (g2 := F0 m 13 ls [.ref q9]) rfl ?_
    refine W.widen (k := 10) (n := 60) (Nat.le_of_ble_eq_true rfl) (Nat.le_of_ble_eq_true rfl) ?_
    refine lv_astore (lv' := [(4, .ref q9), (0, .ref (ad_ D 0)), (1, .int wood), (2, .int what), (3, .ref (ad_ D 31))]) hx hb dL_count_13 hl (by decide) rfl (fun ls hl => ?_)
    refine lv_iconst (v := nI 1) hx hb dL_count_15 (by decide) ?_
    refine W.widen (k := 10) (n := 60) (by omega) (by omega) ?_
    rw [← hQ]
    exact W.iret (v := nI 1) hx hb hr (fun te9 hte9 _ => g_fin (⟨by rw [he], Or.inr ⟨by rw [he]; decide, hC, g_off.rf⟩⟩) hP hS hte9) hS.2.2 dL_count_16 hlocks
  · obtain ⟨he0, hok, hoff⟩ := hq
    obtain ⟨r9, rfl⟩ : ∃ r9 : Int32, v = some (.int r9) := by obtain ⟨_, _, _, _, _, _, hv9, _⟩ := hok; exact ⟨_, hv9⟩
    refine W.eq (g2 := F0 m 8 ls (.int r9 :: [.int (nI 0), .ref (ad_ D 31)])) rfl ?_
    refine W.widen (k := 10) (n := 60) (Nat.le_of_ble_eq_true rfl) (Nat.le_of_ble_eq_true rfl) ?_
    have hO2 := hoff.at0 hO (by decide)
    refine lv_i2l (v := (r9).toInt64) hx hb dL_count_8 rfl ?_
    refine g_lastO hx hb hE hAD hP hS hO2 dL_count_9 (fun H locs hP hS => ?_)
    refine lv_goto (tgt := 17) hx hb dL_count_10 (by decide) ?_
    refine lv_iconst (v := nI 0) hx hb dL_count_17 (by decide) ?_
    refine W.widen (k := 10) (n := 60) (by omega) (by omega) ?_
    rw [← hQ]
    exact W.iret (v := nI 0) hx hb hr (fun te9 hte9 _ => g_fin (⟨by rw [he0], Or.inl ⟨he0, r9, σ2, hok, hoff, rfl⟩⟩) hP hS hte9) hS.2.2 dL_count_18 hlocks

abbrev m_L_sign_rm : Room := { frames := 14, cells := 10, slots := 60, locals := 346 }
set_option maxHeartbeats 4000000 in
set_option maxRecDepth 100000 in
theorem m_L_sign (l : Launch) (hst : l.stackTraces = false) (D : va_G) (hAD : g_AD D) (σ : Nat → va_E) (Ls : Nat → g_L) (wood place what : Int32) (hC : g_C D σ Ls) (hvC : vC_ Ls) (f8 : Nat → Int64) (hO : σ 31 = .inl (g_cL D, 1, .inr (.inl f8))) : g_H l D yL_sign cL_sign 6 (some .int) [(0, 12, 15, 13)] m_L_sign_rm [.ref (ad_ D 0), .int wood, .int place, .int what, .ref (ad_ D 31)] σ (fun v1 σ1 => v1 = some (.int (nI (er_sign Ls wood place what))) ∧ ((er_sign Ls wood place what = 0 ∧ ∃ (r9 : Int32) (σ2 : Nat → va_E), (∃ w p t, w ≤ 1 ∧ wood = nI w ∧ p < zs_ (Ls w).length ∧ place = nI p ∧ t ≤ 6 ∧ what = nI t ∧ (some (Value.int r9) : Option Value) = some (.int (tel_ (tb_ (Ls w)) t p)) ∧ g_C D σ2 Ls) ∧ g_off 0 19 σ σ2 ∧ σ1 = va_up σ2 31 (.inl (g_cL D, 1, .inr (.inl (vp_updL f8 0 r9.toInt64))))) ∨ (er_sign Ls wood place what ≠ 0 ∧ g_C D σ1 Ls ∧ g_off 0 19 σ σ1))) := by
  refine g_ofH [(0, .ref (ad_ D 0)), (1, .int wood), (2, .int place), (3, .int what), (4, .ref (ad_ D 31))] (by decide +kernel) (Nat.le_of_ble_eq_true rfl) rfl ?_
  intro p e s m args below meth c hx hb hr hml hown hlocks hts hE hZ hP hS htab ls hl
  have hown : s.vm.findClass RL = some m.cls := hown
  generalize hQ : MQ _ _ _ _ _ _ _ = Q
  refine lv_aload hx hb dL_sign_0 (lv_at hl 4 rfl) ?_
  refine lv_iconst (v := nI 0) hx hb dL_sign_2 (by decide) ?_
  refine lv_aload_n hx hb dL_sign_3 rfl (lv_at hl 0 rfl) ?_
  refine lv_iload_n hx hb dL_sign_4 rfl (lv_at hl 1 rfl) ?_
  refine lv_iload_n hx hb dL_sign_5 rfl (lv_at hl 2 rfl) ?_
  refine lv_iload_n hx hb dL_sign_6 rfl (lv_at hl 3 rfl) ?_
  refine g_callVY (y := yX2_sign) (n := 3) (As := [.int wood, .int place, .int what]) (rest := [.int (nI 0), .ref (ad_ D 31)]) hx hb hml hown hts hE hZ hP hS hl.1 (m_X2_sign l hst D hAD σ Ls wood place what hC hvC) k_L_38 (ci := 2) (by decide) hC.1 rfl rfl rfl rfl rfl ⟨Nat.le_of_ble_eq_true rfl, Nat.le_of_ble_eq_true rfl⟩ (Nat.le_of_ble_eq_true rfl) ⟨Nat.le_of_ble_eq_true rfl, Nat.le_of_ble_eq_true rfl⟩ dL_sign_7 (fun E ce q9 σ3 H locs hq hP hS hc9 hv9 hk9 => ?_) (fun v σ2 H locs hq hP hS => ?_)
  · obtain ⟨he, rfl, hCz, hoz⟩ := hq
    refine vx_catch (name := g_E0) hown (tableOf []) ⟨0, 12, 15, 13⟩ (tableOf []) (htab.trans rfl) (fun z hz => absurd hz (by simp [tableOf])) (by decide) (by decide) (hts _ wl_L_13) (va_tabs rfl rfl (hE.2.2.1 (Cond.castable g_E0 g_E0) (by simp [g_NL]))) hc9 hv9 hk9 ?_
    refine W.eq (g2 := F0 m 15 ls [.ref q9]) rfl ?_
    refine W.widen (k := 10) (n := 60) (Nat.le_of_ble_eq_true rfl) (Nat.le_of_ble_eq_true rfl) ?_
    refine lv_astore (lv' := [(5, .ref q9), (0, .ref (ad_ D 0)), (1, .int wood), (2, .int place), (3, .int what), (4, .ref (ad_ D 31))]) hx hb dL_sign_15 hl (by decide) rfl (fun ls hl => ?_)
    refine lv_iconst (v := nI 1) hx hb dL_sign_17 (by decide) ?_
    refine W.widen (k := 10) (n := 60) (by omega) (by omega) ?_
    rw [← hQ]
    exact W.iret (v := nI 1) hx hb hr (fun te9 hte9 _ => g_fin (⟨by rw [he], Or.inr ⟨by rw [he]; decide, hCz, hoz⟩⟩) hP hS hte9) hS.2.2 dL_sign_18 hlocks
  · obtain ⟨he0, hok, hoff⟩ := hq
    obtain ⟨r9, rfl⟩ : ∃ r9 : Int32, v = some (.int r9) := by obtain ⟨_, _, _, _, _, _, _, _, _, hv9, _⟩ := hok; exact ⟨_, hv9⟩
    refine W.eq (g2 := F0 m 10 ls (.int r9 :: [.int (nI 0), .ref (ad_ D 31)])) rfl ?_
    refine W.widen (k := 10) (n := 60) (Nat.le_of_ble_eq_true rfl) (Nat.le_of_ble_eq_true rfl) ?_
    have hO2 := hoff.at0 hO (by decide)
    refine lv_i2l (v := (r9).toInt64) hx hb dL_sign_10 rfl ?_
    refine g_lastO hx hb hE hAD hP hS hO2 dL_sign_11 (fun H locs hP hS => ?_)
    refine lv_goto (tgt := 19) hx hb dL_sign_12 (by decide) ?_
    refine lv_iconst (v := nI 0) hx hb dL_sign_19 (by decide) ?_
    refine W.widen (k := 10) (n := 60) (by omega) (by omega) ?_
    rw [← hQ]
    exact W.iret (v := nI 0) hx hb hr (fun te9 hte9 _ => g_fin (⟨by rw [he0], Or.inl ⟨he0, r9, σ2, hok, hoff, rfl⟩⟩) hP hS hte9) hS.2.2 dL_sign_20 hlocks

abbrev m_L_walk_rm : Room := { frames := 14, cells := 10, slots := 60, locals := 347 }
set_option maxHeartbeats 4000000 in
set_option maxRecDepth 100000 in
theorem m_L_walk (l : Launch) (hst : l.stackTraces = false) (D : va_G) (hAD : g_AD D) (σ : Nat → va_E) (Ls : Nat → g_L) (wood name what : Int32) (hC : g_C D σ Ls) (hvC : vC_ Ls) (f8 : Nat → Int64) (hO : σ 31 = .inl (g_cL D, 1, .inr (.inl f8))) : g_H l D yL_walk cL_walk 6 (some .int) [(0, 12, 15, 13), (0, 12, 19, 15), (0, 12, 23, 17)] m_L_walk_rm [.ref (ad_ D 0), .int wood, .int name, .int what, .ref (ad_ D 31)] σ (fun v1 σ1 => v1 = some (.int (nI (er_walk Ls wood name what))) ∧ ((er_walk Ls wood name what = 0 ∧ ∃ (r9 : Int32) (σ2 : Nat → va_E), (∃ w t, w ≤ 1 ∧ wood = nI w ∧ t ≤ 2 ∧ what = nI t ∧ nm1_ name ∧ (Ls w).length ≠ 0 ∧ (some (Value.int r9) : Option Value) = some (.int (tw_ (tb_ (Ls w)) name t)) ∧ g_C D σ2 Ls) ∧ g_off 0 19 σ σ2 ∧ σ1 = va_up σ2 31 (.inl (g_cL D, 1, .inr (.inl (vp_updL f8 0 r9.toInt64))))) ∨ (er_walk Ls wood name what ≠ 0 ∧ g_C D σ1 Ls ∧ g_off 0 19 σ σ1))) := by
  refine g_ofH [(0, .ref (ad_ D 0)), (1, .int wood), (2, .int name), (3, .int what), (4, .ref (ad_ D 31))] (by decide +kernel) (Nat.le_of_ble_eq_true rfl) rfl ?_
  intro p e s m args below meth c hx hb hr hml hown hlocks hts hE hZ hP hS htab ls hl
  have hown : s.vm.findClass RL = some m.cls := hown
  generalize hQ : MQ _ _ _ _ _ _ _ = Q
  refine lv_aload hx hb dL_walk_0 (lv_at hl 4 rfl) ?_
  refine lv_iconst (v := nI 0) hx hb dL_walk_2 (by decide) ?_
  refine lv_aload_n hx hb dL_walk_3 rfl (lv_at hl 0 rfl) ?_
  refine lv_iload_n hx hb dL_walk_4 rfl (lv_at hl 1 rfl) ?_
  refine lv_iload_n hx hb dL_walk_5 rfl (lv_at hl 2 rfl) ?_
  refine lv_iload_n hx hb dL_walk_6 rfl (lv_at hl 3 rfl) ?_
  refine g_callVY (y := yX2_walk) (n := 3) (As := [.int wood, .int name, .int what]) (rest := [.int (nI 0), .ref (ad_ D 31)]) hx hb hml hown hts hE hZ hP hS hl.1 ((m_X2_walk l hst D hAD σ Ls wood name what hC hvC).Y) k_L_41 (ci := 2) (by decide) hC.1 rfl rfl rfl rfl rfl ⟨Nat.le_of_ble_eq_true rfl, Nat.le_of_ble_eq_true rfl⟩ (Nat.le_of_ble_eq_true rfl) ⟨Nat.le_of_ble_eq_true rfl, Nat.le_of_ble_eq_true rfl⟩ dL_walk_7 (fun E ce q9 σ3 H locs hq hP hS hc9 hv9 hk9 => ?_) (fun v σ2 H locs hq hP hS => ?_)
  · obtain ⟨hq, rfl⟩ := hq
    rcases hq with ⟨he, rfl⟩ | ⟨he, rfl⟩ | ⟨he, rfl⟩
    · refine vx_catch (name := g_E0) hown (tableOf []) ⟨0, 12, 15, 13⟩ (tableOf [(0, 12, 19, 15), (0, 12, 23, 17)]) (htab.trans rfl) (fun z hz => absurd hz (by simp [tableOf])) (by decide) (by decide) (hts _ wl_L_13) (va_tabs rfl rfl (hE.2.2.1 (Cond.castable g_E0 g_E0) (by simp [g_NL]))) hc9 hv9 hk9 ?_
      refine W.eq (g2 := F0 m 15 ls [.ref q9]) rfl ?_
      refine W.widen (k := 10) (n := 60) (Nat.le_of_ble_eq_true rfl) (Nat.le_of_ble_eq_true rfl) ?_
      refine lv_astore (lv' := [(5, .ref q9), (0, .ref (ad_ D 0)), (1, .int wood), (2, .int name), (3, .int what), (4, .ref (ad_ D 31))]) hx hb dL_walk_15 hl (by decide) rfl (fun ls hl => ?_)
      refine lv_iconst (v := nI 1) hx hb dL_walk_17 (by decide) ?_
      refine W.widen (k := 10) (n := 60) (by omega) (by omega) ?_
      rw [← hQ]
      exact W.iret (v := nI 1) hx hb hr (fun te9 hte9 _ => g_fin (⟨by rw [he], Or.inr ⟨by rw [he]; decide, hC, g_off.rf⟩⟩) hP hS hte9) hS.2.2 dL_walk_18 hlocks
    · refine vx_catch (name := g_E1) hown (tableOf [(0, 12, 15, 13)]) ⟨0, 12, 19, 15⟩ (tableOf [(0, 12, 23, 17)]) (htab.trans rfl) (fun z hz => by simp only [tableOf, List.map_cons, List.map_nil, List.mem_cons, List.not_mem_nil, or_false] at hz; subst hz; exact Or.inr ⟨by decide, _, hts _ wl_L_13, hE.2.2.2.2 (g_E1, g_E0) (by simp [g_CL])⟩) (by decide) (by decide) (hts _ wl_L_15) (va_tabs rfl rfl (hE.2.2.1 (Cond.castable g_E1 g_E1) (by simp [g_NL]))) hc9 hv9 hk9 ?_
      refine W.eq (g2 := F0 m 19 ls [.ref q9]) rfl ?_
      refine W.widen (k := 10) (n := 60) (Nat.le_of_ble_eq_true rfl) (Nat.le_of_ble_eq_true rfl) ?_
      refine lv_astore (lv' := [(5, .ref q9), (0, .ref (ad_ D 0)), (1, .int wood), (2, .int name), (3, .int what), (4, .ref (ad_ D 31))]) hx hb dL_walk_19 hl (by decide) rfl (fun ls hl => ?_)
      refine lv_iconst (v := nI 2) hx hb dL_walk_21 (by decide) ?_
      refine W.widen (k := 10) (n := 60) (by omega) (by omega) ?_
      rw [← hQ]
      exact W.iret (v := nI 2) hx hb hr (fun te9 hte9 _ => g_fin (⟨by rw [he], Or.inr ⟨by rw [he]; decide, hC, g_off.rf⟩⟩) hP hS hte9) hS.2.2 dL_walk_22 hlocks
    · refine vx_catch (name := g_E2) hown (tableOf [(0, 12, 15, 13), (0, 12, 19, 15)]) ⟨0, 12, 23, 17⟩ (tableOf []) (htab.trans rfl) (fun z hz => by simp only [tableOf, List.map_cons, List.map_nil, List.mem_cons, List.not_mem_nil, or_false] at hz; rcases hz with rfl | rfl; exact Or.inr ⟨by decide, _, hts _ wl_L_13, hE.2.2.2.2 (g_E2, g_E0) (by simp [g_CL])⟩; exact Or.inr ⟨by decide, _, hts _ wl_L_15, hE.2.2.2.2 (g_E2, g_E1) (by simp [g_CL])⟩) (by decide) (by decide) (hts _ wl_L_17) (va_tabs rfl rfl (hE.2.2.1 (Cond.castable g_E2 g_E2) (by simp [g_NL]))) hc9 hv9 hk9 ?_
      refine W.eq (g2 := F0 m 23 ls [.ref q9]) rfl ?_
      refine W.widen (k := 10) (n := 60) (Nat.le_of_ble_eq_true rfl) (Nat.le_of_ble_eq_true rfl) ?_
      refine lv_astore (lv' := [(5, .ref q9), (0, .ref (ad_ D 0)), (1, .int wood), (2, .int name), (3, .int what), (4, .ref (ad_ D 31))]) hx hb dL_walk_23 hl (by decide) rfl (fun ls hl => ?_)
      refine lv_iconst (v := nI 3) hx hb dL_walk_25 (by decide) ?_
      refine W.widen (k := 10) (n := 60) (by omega) (by omega) ?_
      rw [← hQ]
      exact W.iret (v := nI 3) hx hb hr (fun te9 hte9 _ => g_fin (⟨by rw [he], Or.inr ⟨by rw [he]; decide, hC, g_off.rf⟩⟩) hP hS hte9) hS.2.2 dL_walk_26 hlocks
  · obtain ⟨he0, hok, hoff⟩ := hq
    obtain ⟨r9, rfl⟩ : ∃ r9 : Int32, v = some (.int r9) := by obtain ⟨_, _, _, _, _, _, _, _, hv9, _⟩ := hok; exact ⟨_, hv9⟩
    refine W.eq (g2 := F0 m 10 ls (.int r9 :: [.int (nI 0), .ref (ad_ D 31)])) rfl ?_
    refine W.widen (k := 10) (n := 60) (Nat.le_of_ble_eq_true rfl) (Nat.le_of_ble_eq_true rfl) ?_
    have hO2 := hoff.at0 hO (by decide)
    refine lv_i2l (v := (r9).toInt64) hx hb dL_walk_10 rfl ?_
    refine g_lastO hx hb hE hAD hP hS hO2 dL_walk_11 (fun H locs hP hS => ?_)
    refine lv_goto (tgt := 27) hx hb dL_walk_12 (by decide) ?_
    refine lv_iconst (v := nI 0) hx hb dL_walk_27 (by decide) ?_
    refine W.widen (k := 10) (n := 60) (by omega) (by omega) ?_
    rw [← hQ]
    exact W.iret (v := nI 0) hx hb hr (fun te9 hte9 _ => g_fin (⟨by rw [he0], Or.inl ⟨he0, r9, σ2, hok, hoff, rfl⟩⟩) hP hS hte9) hS.2.2 dL_walk_28 hlocks

abbrev m_L_step_rm : Room := { frames := 11, cells := 10, slots := 60, locals := 267 }
set_option maxHeartbeats 4000000 in
set_option maxRecDepth 100000 in
theorem m_L_step (l : Launch) (hst : l.stackTraces = false) (D : va_G) (hAD : g_AD D) (σ : Nat → va_E) (Ls : Nat → g_L) (wood name up : Int32) (hC : g_C D σ Ls) (hvC : vC_ Ls) (f8 : Nat → Int64) (hO : σ 31 = .inl (g_cL D, 1, .inr (.inl f8))) : g_H l D yL_step cL_step 6 (some .int) [(0, 12, 15, 13), (0, 12, 19, 15)] m_L_step_rm [.ref (ad_ D 0), .int wood, .int name, .int up, .ref (ad_ D 31)] σ (fun v1 σ1 => v1 = some (.int (nI (er_miles wood name))) ∧ ((er_miles wood name = 0 ∧ ∃ (r9 : Int32) (σ2 : Nat → va_E), (∃ w, w ≤ 1 ∧ wood = nI w ∧ nm1_ name ∧ (some (Value.int r9) : Option Value) = some (.int (if up = 0 then na_ (Ls w) (nI (rk_ (Ls w) name) - nI 1) else fn_ (Ls w) (rk_ (Ls w) (name + nI 1)))) ∧ g_C D σ2 Ls) ∧ g_off 0 19 σ σ2 ∧ σ1 = va_up σ2 31 (.inl (g_cL D, 1, .inr (.inl (vp_updL f8 0 r9.toInt64))))) ∨ (er_miles wood name ≠ 0 ∧ g_C D σ1 Ls ∧ g_off 0 19 σ σ1))) := by
  refine g_ofH [(0, .ref (ad_ D 0)), (1, .int wood), (2, .int name), (3, .int up), (4, .ref (ad_ D 31))] (by decide +kernel) (Nat.le_of_ble_eq_true rfl) rfl ?_
  intro p e s m args below meth c hx hb hr hml hown hlocks hts hE hZ hP hS htab ls hl
  have hown : s.vm.findClass RL = some m.cls := hown
  generalize hQ : MQ _ _ _ _ _ _ _ = Q
  refine lv_aload hx hb dL_step_0 (lv_at hl 4 rfl) ?_
  refine lv_iconst (v := nI 0) hx hb dL_step_2 (by decide) ?_
  refine lv_aload_n hx hb dL_step_3 rfl (lv_at hl 0 rfl) ?_
  refine lv_iload_n hx hb dL_step_4 rfl (lv_at hl 1 rfl) ?_
  refine lv_iload_n hx hb dL_step_5 rfl (lv_at hl 2 rfl) ?_
  refine lv_iload_n hx hb dL_step_6 rfl (lv_at hl 3 rfl) ?_
  refine g_callVY (y := yX2_step) (n := 3) (As := [.int wood, .int name, .int up]) (rest := [.int (nI 0), .ref (ad_ D 31)]) hx hb hml hown hts hE hZ hP hS hl.1 ((m_X2_step l hst D hAD σ Ls wood name up hC hvC).Y) k_L_44 (ci := 2) (by decide) hC.1 rfl rfl rfl rfl rfl ⟨Nat.le_of_ble_eq_true rfl, Nat.le_of_ble_eq_true rfl⟩ (Nat.le_of_ble_eq_true rfl) ⟨Nat.le_of_ble_eq_true rfl, Nat.le_of_ble_eq_true rfl⟩ dL_step_7 (fun E ce q9 σ3 H locs hq hP hS hc9 hv9 hk9 => ?_) (fun v σ2 H locs hq hP hS => ?_)
  · obtain ⟨hq, rfl⟩ := hq
    rcases hq with ⟨he, rfl⟩ | ⟨he, rfl⟩
    · refine vx_catch (name := g_E0) hown (tableOf []) ⟨0, 12, 15, 13⟩ (tableOf [(0, 12, 19, 15)]) (htab.trans rfl) (fun z hz => absurd hz (by simp [tableOf])) (by decide) (by decide) (hts _ wl_L_13) (va_tabs rfl rfl (hE.2.2.1 (Cond.castable g_E0 g_E0) (by simp [g_NL]))) hc9 hv9 hk9 ?_
      refine W.eq (g2 := F0 m 15 ls [.ref q9]) rfl ?_
      refine W.widen (k := 10) (n := 60) (Nat.le_of_ble_eq_true rfl) (Nat.le_of_ble_eq_true rfl) ?_
      refine lv_astore (lv' := [(5, .ref q9), (0, .ref (ad_ D 0)), (1, .int wood), (2, .int name), (3, .int up), (4, .ref (ad_ D 31))]) hx hb dL_step_15 hl (by decide) rfl (fun ls hl => ?_)
      refine lv_iconst (v := nI 1) hx hb dL_step_17 (by decide) ?_
      refine W.widen (k := 10) (n := 60) (by omega) (by omega) ?_
      rw [← hQ]
      exact W.iret (v := nI 1) hx hb hr (fun te9 hte9 _ => g_fin (⟨by rw [he], Or.inr ⟨by rw [he]; decide, hC, g_off.rf⟩⟩) hP hS hte9) hS.2.2 dL_step_18 hlocks
    · refine vx_catch (name := g_E1) hown (tableOf [(0, 12, 15, 13)]) ⟨0, 12, 19, 15⟩ (tableOf []) (htab.trans rfl) (fun z hz => by simp only [tableOf, List.map_cons, List.map_nil, List.mem_cons, List.not_mem_nil, or_false] at hz; subst hz; exact Or.inr ⟨by decide, _, hts _ wl_L_13, hE.2.2.2.2 (g_E1, g_E0) (by simp [g_CL])⟩) (by decide) (by decide) (hts _ wl_L_15) (va_tabs rfl rfl (hE.2.2.1 (Cond.castable g_E1 g_E1) (by simp [g_NL]))) hc9 hv9 hk9 ?_
      refine W.eq (g2 := F0 m 19 ls [.ref q9]) rfl ?_
      refine W.widen (k := 10) (n := 60) (Nat.le_of_ble_eq_true rfl) (Nat.le_of_ble_eq_true rfl) ?_
      refine lv_astore (lv' := [(5, .ref q9), (0, .ref (ad_ D 0)), (1, .int wood), (2, .int name), (3, .int up), (4, .ref (ad_ D 31))]) hx hb dL_step_19 hl (by decide) rfl (fun ls hl => ?_)
      refine lv_iconst (v := nI 2) hx hb dL_step_21 (by decide) ?_
      refine W.widen (k := 10) (n := 60) (by omega) (by omega) ?_
      rw [← hQ]
      exact W.iret (v := nI 2) hx hb hr (fun te9 hte9 _ => g_fin (⟨by rw [he], Or.inr ⟨by rw [he]; decide, hC, g_off.rf⟩⟩) hP hS hte9) hS.2.2 dL_step_22 hlocks
  · obtain ⟨he0, hok, hoff⟩ := hq
    obtain ⟨r9, rfl⟩ : ∃ r9 : Int32, v = some (.int r9) := by obtain ⟨_, _, _, _, hv9, _⟩ := hok; exact ⟨_, hv9⟩
    refine W.eq (g2 := F0 m 10 ls (.int r9 :: [.int (nI 0), .ref (ad_ D 31)])) rfl ?_
    refine W.widen (k := 10) (n := 60) (Nat.le_of_ble_eq_true rfl) (Nat.le_of_ble_eq_true rfl) ?_
    have hO2 := hoff.at0 hO (by decide)
    refine lv_i2l (v := (r9).toInt64) hx hb dL_step_10 rfl ?_
    refine g_lastO hx hb hE hAD hP hS hO2 dL_step_11 (fun H locs hP hS => ?_)
    refine lv_goto (tgt := 23) hx hb dL_step_12 (by decide) ?_
    refine lv_iconst (v := nI 0) hx hb dL_step_23 (by decide) ?_
    refine W.widen (k := 10) (n := 60) (by omega) (by omega) ?_
    rw [← hQ]
    exact W.iret (v := nI 0) hx hb hr (fun te9 hte9 _ => g_fin (⟨by rw [he0], Or.inl ⟨he0, r9, σ2, hok, hoff, rfl⟩⟩) hP hS hte9) hS.2.2 dL_step_24 hlocks

abbrev m_L_at_rm : Room := { frames := 11, cells := 10, slots := 60, locals := 265 }
set_option maxHeartbeats 4000000 in
set_option maxRecDepth 100000 in
theorem m_L_at (l : Launch) (hst : l.stackTraces = false) (D : va_G) (hAD : g_AD D) (σ : Nat → va_E) (Ls : Nat → g_L) (wood k : Int32) (hC : g_C D σ Ls) (hvC : vC_ Ls) (f8 : Nat → Int64) (hO : σ 31 = .inl (g_cL D, 1, .inr (.inl f8))) : g_H l D yL_at cL_at 5 (some .int) [(0, 10, 13, 13)] m_L_at_rm [.ref (ad_ D 0), .int wood, .int k, .ref (ad_ D 31)] σ (fun v1 σ1 => v1 = some (.int (nI (er_at Ls wood k))) ∧ ((er_at Ls wood k = 0 ∧ ∃ (r9 : Int32) (σ2 : Nat → va_E), (∃ w j, w ≤ 1 ∧ wood = nI w ∧ j < (Ls w).length ∧ k = nI j ∧ (some (Value.int r9) : Option Value) = some (.int (fn_ (Ls w) j)) ∧ g_C D σ2 Ls) ∧ g_off 0 19 σ σ2 ∧ σ1 = va_up σ2 31 (.inl (g_cL D, 1, .inr (.inl (vp_updL f8 0 r9.toInt64))))) ∨ (er_at Ls wood k ≠ 0 ∧ g_C D σ1 Ls ∧ g_off 0 19 σ σ1))) := by
  refine g_ofH [(0, .ref (ad_ D 0)), (1, .int wood), (2, .int k), (3, .ref (ad_ D 31))] (by decide +kernel) (Nat.le_of_ble_eq_true rfl) rfl ?_
  intro p e s m args below meth c hx hb hr hml hown hlocks hts hE hZ hP hS htab ls hl
  have hown : s.vm.findClass RL = some m.cls := hown
  generalize hQ : MQ _ _ _ _ _ _ _ = Q
  refine lv_aload_n hx hb dL_at_0 rfl (lv_at hl 3 rfl) ?_
  refine lv_iconst (v := nI 0) hx hb dL_at_1 (by decide) ?_
  refine lv_aload_n hx hb dL_at_2 rfl (lv_at hl 0 rfl) ?_
  refine lv_iload_n hx hb dL_at_3 rfl (lv_at hl 1 rfl) ?_
  refine lv_iload_n hx hb dL_at_4 rfl (lv_at hl 2 rfl) ?_
  refine g_callVY (y := yX2_at) (n := 2) (As := [.int wood, .int k]) (rest := [.int (nI 0), .ref (ad_ D 31)]) hx hb hml hown hts hE hZ hP hS hl.1 ((m_X2_at l hst D hAD σ Ls wood k hC hvC).Y) k_L_48 (ci := 2) (by decide) hC.1 rfl rfl rfl rfl rfl ⟨Nat.le_of_ble_eq_true rfl, Nat.le_of_ble_eq_true rfl⟩ (Nat.le_of_ble_eq_true rfl) ⟨Nat.le_of_ble_eq_true rfl, Nat.le_of_ble_eq_true rfl⟩ dL_at_5 (fun E ce q9 σ3 H locs hq hP hS hc9 hv9 hk9 => ?_) (fun v σ2 H locs hq hP hS => ?_)
  · obtain ⟨hq, rfl⟩ := hq
    rcases hq with ⟨he, rfl⟩
    refine vx_catch (name := g_E0) hown (tableOf []) ⟨0, 10, 13, 13⟩ (tableOf []) (htab.trans rfl) (fun z hz => absurd hz (by simp [tableOf])) (by decide) (by decide) (hts _ wl_L_13) (va_tabs rfl rfl (hE.2.2.1 (Cond.castable g_E0 g_E0) (by simp [g_NL]))) hc9 hv9 hk9 ?_
    refine W.eq (g2 := F0 m 13 ls [.ref q9]) rfl ?_
    refine W.widen (k := 10) (n := 60) (Nat.le_of_ble_eq_true rfl) (Nat.le_of_ble_eq_true rfl) ?_
    refine lv_astore (lv' := [(4, .ref q9), (0, .ref (ad_ D 0)), (1, .int wood), (2, .int k), (3, .ref (ad_ D 31))]) hx hb dL_at_13 hl (by decide) rfl (fun ls hl => ?_)
    refine lv_iconst (v := nI 1) hx hb dL_at_15 (by decide) ?_
    refine W.widen (k := 10) (n := 60) (by omega) (by omega) ?_
    rw [← hQ]
    exact W.iret (v := nI 1) hx hb hr (fun te9 hte9 _ => g_fin (⟨by rw [he], Or.inr ⟨by rw [he]; decide, hC, g_off.rf⟩⟩) hP hS hte9) hS.2.2 dL_at_16 hlocks
  · obtain ⟨he0, hok, hoff⟩ := hq
    obtain ⟨r9, rfl⟩ : ∃ r9 : Int32, v = some (.int r9) := by obtain ⟨_, _, _, _, _, _, hv9, _⟩ := hok; exact ⟨_, hv9⟩
    refine W.eq (g2 := F0 m 8 ls (.int r9 :: [.int (nI 0), .ref (ad_ D 31)])) rfl ?_
    refine W.widen (k := 10) (n := 60) (Nat.le_of_ble_eq_true rfl) (Nat.le_of_ble_eq_true rfl) ?_
    have hO2 := hoff.at0 hO (by decide)
    refine lv_i2l (v := (r9).toInt64) hx hb dL_at_8 rfl ?_
    refine g_lastO hx hb hE hAD hP hS hO2 dL_at_9 (fun H locs hP hS => ?_)
    refine lv_goto (tgt := 17) hx hb dL_at_10 (by decide) ?_
    refine lv_iconst (v := nI 0) hx hb dL_at_17 (by decide) ?_
    refine W.widen (k := 10) (n := 60) (by omega) (by omega) ?_
    rw [← hQ]
    exact W.iret (v := nI 0) hx hb hr (fun te9 hte9 _ => g_fin (⟨by rw [he0], Or.inl ⟨he0, r9, σ2, hok, hoff, rfl⟩⟩) hP hS hte9) hS.2.2 dL_at_18 hlocks

abbrev m_L_range_rm : Room := { frames := 12, cells := 10, slots := 60, locals := 293 }
set_option maxHeartbeats 4000000 in
set_option maxRecDepth 100000 in
theorem m_L_range (l : Launch) (hst : l.stackTraces = false) (D : va_G) (hAD : g_AD D) (σ : Nat → va_E) (Ls : Nat → g_L) (wood lo hi what : Int32) (hC : g_C D σ Ls) (hvC : vC_ Ls) (f8 : Nat → Int64) (hO : σ 31 = .inl (g_cL D, 1, .inr (.inl f8))) : g_H l D yL_range cL_range 7 (some .int) [(0, 14, 17, 13), (0, 14, 21, 15)] m_L_range_rm [.ref (ad_ D 0), .int wood, .int lo, .int hi, .int what, .ref (ad_ D 31)] σ (fun v1 σ1 => v1 = some (.int (nI (er_range wood lo hi what))) ∧ ((er_range wood lo hi what = 0 ∧ ∃ (r9 : Int32) (σ2 : Nat → va_E), (∃ w t, w ≤ 1 ∧ wood = nI w ∧ t ≤ 3 ∧ what = nI t ∧ nm1_ lo ∧ nm1_ hi ∧ lo ≤ hi ∧ (some (Value.int r9) : Option Value) = some (.int (ra_ (Ls w) lo hi t)) ∧ g_C D σ2 Ls) ∧ g_off 0 19 σ σ2 ∧ σ1 = va_up σ2 31 (.inl (g_cL D, 1, .inr (.inl (vp_updL f8 0 r9.toInt64))))) ∨ (er_range wood lo hi what ≠ 0 ∧ g_C D σ1 Ls ∧ g_off 0 19 σ σ1))) := by
  refine g_ofH [(0, .ref (ad_ D 0)), (1, .int wood), (2, .int lo), (3, .int hi), (4, .int what), (5, .ref (ad_ D 31))] (by decide +kernel) (Nat.le_of_ble_eq_true rfl) rfl ?_
  intro p e s m args below meth c hx hb hr hml hown hlocks hts hE hZ hP hS htab ls hl
  have hown : s.vm.findClass RL = some m.cls := hown
  generalize hQ : MQ _ _ _ _ _ _ _ = Q
  refine lv_aload hx hb dL_range_0 (lv_at hl 5 rfl) ?_
  refine lv_iconst (v := nI 0) hx hb dL_range_2 (by decide) ?_
  refine lv_aload_n hx hb dL_range_3 rfl (lv_at hl 0 rfl) ?_
  refine lv_iload_n hx hb dL_range_4 rfl (lv_at hl 1 rfl) ?_
  refine lv_iload_n hx hb dL_range_5 rfl (lv_at hl 2 rfl) ?_
  refine lv_iload_n hx hb dL_range_6 rfl (lv_at hl 3 rfl) ?_
  refine lv_iload hx hb dL_range_7 (lv_at hl 4 rfl) ?_
  refine g_callVY (y := yX2_range) (n := 4) (As := [.int wood, .int lo, .int hi, .int what]) (rest := [.int (nI 0), .ref (ad_ D 31)]) hx hb hml hown hts hE hZ hP hS hl.1 ((m_X2_range l hst D hAD σ Ls wood lo hi what hC hvC).Y) k_L_51 (ci := 2) (by decide) hC.1 rfl rfl rfl rfl rfl ⟨Nat.le_of_ble_eq_true rfl, Nat.le_of_ble_eq_true rfl⟩ (Nat.le_of_ble_eq_true rfl) ⟨Nat.le_of_ble_eq_true rfl, Nat.le_of_ble_eq_true rfl⟩ dL_range_9 (fun E ce q9 σ3 H locs hq hP hS hc9 hv9 hk9 => ?_) (fun v σ2 H locs hq hP hS => ?_)
  · obtain ⟨hq, rfl⟩ := hq
    rcases hq with ⟨he, rfl⟩ | ⟨he, rfl⟩
    · refine vx_catch (name := g_E0) hown (tableOf []) ⟨0, 14, 17, 13⟩ (tableOf [(0, 14, 21, 15)]) (htab.trans rfl) (fun z hz => absurd hz (by simp [tableOf])) (by decide) (by decide) (hts _ wl_L_13) (va_tabs rfl rfl (hE.2.2.1 (Cond.castable g_E0 g_E0) (by simp [g_NL]))) hc9 hv9 hk9 ?_
      refine W.eq (g2 := F0 m 17 ls [.ref q9]) rfl ?_
      refine W.widen (k := 10) (n := 60) (Nat.le_of_ble_eq_true rfl) (Nat.le_of_ble_eq_true rfl) ?_
      refine lv_astore (lv' := [(6, .ref q9), (0, .ref (ad_ D 0)), (1, .int wood), (2, .int lo), (3, .int hi), (4, .int what), (5, .ref (ad_ D 31))]) hx hb dL_range_17 hl (by decide) rfl (fun ls hl => ?_)
      refine lv_iconst (v := nI 1) hx hb dL_range_19 (by decide) ?_
      refine W.widen (k := 10) (n := 60) (by omega) (by omega) ?_
      rw [← hQ]
      exact W.iret (v := nI 1) hx hb hr (fun te9 hte9 _ => g_fin (⟨by rw [he], Or.inr ⟨by rw [he]; decide, hC, g_off.rf⟩⟩) hP hS hte9) hS.2.2 dL_range_20 hlocks
    · refine vx_catch (name := g_E1) hown (tableOf [(0, 14, 17, 13)]) ⟨0, 14, 21, 15⟩ (tableOf []) (htab.trans rfl) (fun z hz => by simp only [tableOf, List.map_cons, List.map_nil, List.mem_cons, List.not_mem_nil, or_false] at hz; subst hz; exact Or.inr ⟨by decide, _, hts _ wl_L_13, hE.2.2.2.2 (g_E1, g_E0) (by simp [g_CL])⟩) (by decide) (by decide) (hts _ wl_L_15) (va_tabs rfl rfl (hE.2.2.1 (Cond.castable g_E1 g_E1) (by simp [g_NL]))) hc9 hv9 hk9 ?_
      refine W.eq (g2 := F0 m 21 ls [.ref q9]) rfl ?_
      refine W.widen (k := 10) (n := 60) (Nat.le_of_ble_eq_true rfl) (Nat.le_of_ble_eq_true rfl) ?_
      refine lv_astore (lv' := [(6, .ref q9), (0, .ref (ad_ D 0)), (1, .int wood), (2, .int lo), (3, .int hi), (4, .int what), (5, .ref (ad_ D 31))]) hx hb dL_range_21 hl (by decide) rfl (fun ls hl => ?_)
      refine lv_iconst (v := nI 2) hx hb dL_range_23 (by decide) ?_
      refine W.widen (k := 10) (n := 60) (by omega) (by omega) ?_
      rw [← hQ]
      exact W.iret (v := nI 2) hx hb hr (fun te9 hte9 _ => g_fin (⟨by rw [he], Or.inr ⟨by rw [he]; decide, hC, g_off.rf⟩⟩) hP hS hte9) hS.2.2 dL_range_24 hlocks
  · obtain ⟨he0, hok, hoff⟩ := hq
    obtain ⟨r9, rfl⟩ : ∃ r9 : Int32, v = some (.int r9) := by obtain ⟨_, _, _, _, _, _, _, _, _, hv9, _⟩ := hok; exact ⟨_, hv9⟩
    refine W.eq (g2 := F0 m 12 ls (.int r9 :: [.int (nI 0), .ref (ad_ D 31)])) rfl ?_
    refine W.widen (k := 10) (n := 60) (Nat.le_of_ble_eq_true rfl) (Nat.le_of_ble_eq_true rfl) ?_
    have hO2 := hoff.at0 hO (by decide)
    refine lv_i2l (v := (r9).toInt64) hx hb dL_range_12 rfl ?_
    refine g_lastO hx hb hE hAD hP hS hO2 dL_range_13 (fun H locs hP hS => ?_)
    refine lv_goto (tgt := 25) hx hb dL_range_14 (by decide) ?_
    refine lv_iconst (v := nI 0) hx hb dL_range_25 (by decide) ?_
    refine W.widen (k := 10) (n := 60) (by omega) (by omega) ?_
    rw [← hQ]
    exact W.iret (v := nI 0) hx hb hr (fun te9 hte9 _ => g_fin (⟨by rw [he0], Or.inl ⟨he0, r9, σ2, hok, hoff, rfl⟩⟩) hP hS hte9) hS.2.2 dL_range_26 hlocks

abbrev m_L_near_rm : Room := { frames := 12, cells := 10, slots := 60, locals := 287 }
set_option maxHeartbeats 4000000 in
set_option maxRecDepth 100000 in
theorem m_L_near (l : Launch) (hst : l.stackTraces = false) (D : va_G) (hAD : g_AD D) (σ : Nat → va_E) (Ls : Nat → g_L) (wood name : Int32) (hC : g_C D σ Ls) (hvC : vC_ Ls) (f8 : Nat → Int64) (hO : σ 31 = .inl (g_cL D, 1, .inr (.inl f8))) : g_H l D yL_near cL_near 5 (some .int) [(0, 10, 13, 13), (0, 10, 17, 15)] m_L_near_rm [.ref (ad_ D 0), .int wood, .int name, .ref (ad_ D 31)] σ (fun v1 σ1 => v1 = some (.int (nI (er_miles wood name))) ∧ ((er_miles wood name = 0 ∧ ∃ (r9 : Int32) (σ2 : Nat → va_E), (∃ w, w ≤ 1 ∧ wood = nI w ∧ (some (Value.int r9) : Option Value) = some (.int (ne_ (Ls w) name (Ls w).length)) ∧ g_C D σ2 Ls) ∧ g_off 0 19 σ σ2 ∧ σ1 = va_up σ2 31 (.inl (g_cL D, 1, .inr (.inl (vp_updL f8 0 r9.toInt64))))) ∨ (er_miles wood name ≠ 0 ∧ g_C D σ1 Ls ∧ g_off 0 19 σ σ1))) := by
  refine g_ofH [(0, .ref (ad_ D 0)), (1, .int wood), (2, .int name), (3, .ref (ad_ D 31))] (by decide +kernel) (Nat.le_of_ble_eq_true rfl) rfl ?_
  intro p e s m args below meth c hx hb hr hml hown hlocks hts hE hZ hP hS htab ls hl
  have hown : s.vm.findClass RL = some m.cls := hown
  generalize hQ : MQ _ _ _ _ _ _ _ = Q
  refine lv_aload_n hx hb dL_near_0 rfl (lv_at hl 3 rfl) ?_
  refine lv_iconst (v := nI 0) hx hb dL_near_1 (by decide) ?_
  refine lv_aload_n hx hb dL_near_2 rfl (lv_at hl 0 rfl) ?_
  refine lv_iload_n hx hb dL_near_3 rfl (lv_at hl 1 rfl) ?_
  refine lv_iload_n hx hb dL_near_4 rfl (lv_at hl 2 rfl) ?_
  refine g_callVY (y := yX2_near) (n := 2) (As := [.int wood, .int name]) (rest := [.int (nI 0), .ref (ad_ D 31)]) hx hb hml hown hts hE hZ hP hS hl.1 ((m_X2_near l hst D hAD σ Ls wood name hC hvC).Y) k_L_55 (ci := 2) (by decide) hC.1 rfl rfl rfl rfl rfl ⟨Nat.le_of_ble_eq_true rfl, Nat.le_of_ble_eq_true rfl⟩ (Nat.le_of_ble_eq_true rfl) ⟨Nat.le_of_ble_eq_true rfl, Nat.le_of_ble_eq_true rfl⟩ dL_near_5 (fun E ce q9 σ3 H locs hq hP hS hc9 hv9 hk9 => ?_) (fun v σ2 H locs hq hP hS => ?_)
  · obtain ⟨hq, rfl⟩ := hq
    rcases hq with ⟨he, rfl⟩ | ⟨he, rfl⟩
    · refine vx_catch (name := g_E0) hown (tableOf []) ⟨0, 10, 13, 13⟩ (tableOf [(0, 10, 17, 15)]) (htab.trans rfl) (fun z hz => absurd hz (by simp [tableOf])) (by decide) (by decide) (hts _ wl_L_13) (va_tabs rfl rfl (hE.2.2.1 (Cond.castable g_E0 g_E0) (by simp [g_NL]))) hc9 hv9 hk9 ?_
      refine W.eq (g2 := F0 m 13 ls [.ref q9]) rfl ?_
      refine W.widen (k := 10) (n := 60) (Nat.le_of_ble_eq_true rfl) (Nat.le_of_ble_eq_true rfl) ?_
      refine lv_astore (lv' := [(4, .ref q9), (0, .ref (ad_ D 0)), (1, .int wood), (2, .int name), (3, .ref (ad_ D 31))]) hx hb dL_near_13 hl (by decide) rfl (fun ls hl => ?_)
      refine lv_iconst (v := nI 1) hx hb dL_near_15 (by decide) ?_
      refine W.widen (k := 10) (n := 60) (by omega) (by omega) ?_
      rw [← hQ]
      exact W.iret (v := nI 1) hx hb hr (fun te9 hte9 _ => g_fin (⟨by rw [he], Or.inr ⟨by rw [he]; decide, hC, g_off.rf⟩⟩) hP hS hte9) hS.2.2 dL_near_16 hlocks
    · refine vx_catch (name := g_E1) hown (tableOf [(0, 10, 13, 13)]) ⟨0, 10, 17, 15⟩ (tableOf []) (htab.trans rfl) (fun z hz => by simp only [tableOf, List.map_cons, List.map_nil, List.mem_cons, List.not_mem_nil, or_false] at hz; subst hz; exact Or.inr ⟨by decide, _, hts _ wl_L_13, hE.2.2.2.2 (g_E1, g_E0) (by simp [g_CL])⟩) (by decide) (by decide) (hts _ wl_L_15) (va_tabs rfl rfl (hE.2.2.1 (Cond.castable g_E1 g_E1) (by simp [g_NL]))) hc9 hv9 hk9 ?_
      refine W.eq (g2 := F0 m 17 ls [.ref q9]) rfl ?_
      refine W.widen (k := 10) (n := 60) (Nat.le_of_ble_eq_true rfl) (Nat.le_of_ble_eq_true rfl) ?_
      refine lv_astore (lv' := [(4, .ref q9), (0, .ref (ad_ D 0)), (1, .int wood), (2, .int name), (3, .ref (ad_ D 31))]) hx hb dL_near_17 hl (by decide) rfl (fun ls hl => ?_)
      refine lv_iconst (v := nI 2) hx hb dL_near_19 (by decide) ?_
      refine W.widen (k := 10) (n := 60) (by omega) (by omega) ?_
      rw [← hQ]
      exact W.iret (v := nI 2) hx hb hr (fun te9 hte9 _ => g_fin (⟨by rw [he], Or.inr ⟨by rw [he]; decide, hC, g_off.rf⟩⟩) hP hS hte9) hS.2.2 dL_near_20 hlocks
  · obtain ⟨he0, hok, hoff⟩ := hq
    obtain ⟨r9, rfl⟩ : ∃ r9 : Int32, v = some (.int r9) := by obtain ⟨_, _, _, hv9, _⟩ := hok; exact ⟨_, hv9⟩
    refine W.eq (g2 := F0 m 8 ls (.int r9 :: [.int (nI 0), .ref (ad_ D 31)])) rfl ?_
    refine W.widen (k := 10) (n := 60) (Nat.le_of_ble_eq_true rfl) (Nat.le_of_ble_eq_true rfl) ?_
    have hO2 := hoff.at0 hO (by decide)
    refine lv_i2l (v := (r9).toInt64) hx hb dL_near_8 rfl ?_
    refine g_lastO hx hb hE hAD hP hS hO2 dL_near_9 (fun H locs hP hS => ?_)
    refine lv_goto (tgt := 21) hx hb dL_near_10 (by decide) ?_
    refine lv_iconst (v := nI 0) hx hb dL_near_21 (by decide) ?_
    refine W.widen (k := 10) (n := 60) (by omega) (by omega) ?_
    rw [← hQ]
    exact W.iret (v := nI 0) hx hb hr (fun te9 hte9 _ => g_fin (⟨by rw [he0], Or.inl ⟨he0, r9, σ2, hok, hoff, rfl⟩⟩) hP hS hte9) hS.2.2 dL_near_22 hlocks

abbrev m_L_far_rm : Room := { frames := 12, cells := 10, slots := 60, locals := 286 }
set_option maxHeartbeats 4000000 in
set_option maxRecDepth 100000 in
theorem m_L_far (l : Launch) (hst : l.stackTraces = false) (D : va_G) (hAD : g_AD D) (σ : Nat → va_E) (Ls : Nat → g_L) (wood : Int32) (hC : g_C D σ Ls) (hvC : vC_ Ls) (f8 : Nat → Int64) (hO : σ 31 = .inl (g_cL D, 1, .inr (.inl f8))) : g_H l D yL_far cL_far 4 (some .int) [(0, 9, 12, 13)] m_L_far_rm [.ref (ad_ D 0), .int wood, .ref (ad_ D 31)] σ (fun v1 σ1 => v1 = some (.int (nI (er_wood wood))) ∧ ((er_wood wood = 0 ∧ ∃ (r9 : Int32) (σ2 : Nat → va_E), (∃ w, w ≤ 1 ∧ wood = nI w ∧ (some (Value.int r9) : Option Value) = some (.int (fa_ (Ls w) (Ls w).length)) ∧ g_C D σ2 Ls) ∧ g_off 0 19 σ σ2 ∧ σ1 = va_up σ2 31 (.inl (g_cL D, 1, .inr (.inl (vp_updL f8 0 r9.toInt64))))) ∨ (er_wood wood ≠ 0 ∧ g_C D σ1 Ls ∧ g_off 0 19 σ σ1))) := by
  refine g_ofH [(0, .ref (ad_ D 0)), (1, .int wood), (2, .ref (ad_ D 31))] (by decide +kernel) (Nat.le_of_ble_eq_true rfl) rfl ?_
  intro p e s m args below meth c hx hb hr hml hown hlocks hts hE hZ hP hS htab ls hl
  have hown : s.vm.findClass RL = some m.cls := hown
  generalize hQ : MQ _ _ _ _ _ _ _ = Q
  refine lv_aload_n hx hb dL_far_0 rfl (lv_at hl 2 rfl) ?_
  refine lv_iconst (v := nI 0) hx hb dL_far_1 (by decide) ?_
  refine lv_aload_n hx hb dL_far_2 rfl (lv_at hl 0 rfl) ?_
  refine lv_iload_n hx hb dL_far_3 rfl (lv_at hl 1 rfl) ?_
  refine g_callVY (y := yX2_far) (n := 1) (As := [.int wood]) (rest := [.int (nI 0), .ref (ad_ D 31)]) hx hb hml hown hts hE hZ hP hS hl.1 ((m_X2_far l hst D hAD σ Ls wood hC hvC).Y) k_L_58 (ci := 2) (by decide) hC.1 rfl rfl rfl rfl rfl ⟨Nat.le_of_ble_eq_true rfl, Nat.le_of_ble_eq_true rfl⟩ (Nat.le_of_ble_eq_true rfl) ⟨Nat.le_of_ble_eq_true rfl, Nat.le_of_ble_eq_true rfl⟩ dL_far_4 (fun E ce q9 σ3 H locs hq hP hS hc9 hv9 hk9 => ?_) (fun v σ2 H locs hq hP hS => ?_)
  · obtain ⟨hq, rfl⟩ := hq
    rcases hq with ⟨he, rfl⟩
    refine vx_catch (name := g_E0) hown (tableOf []) ⟨0, 9, 12, 13⟩ (tableOf []) (htab.trans rfl) (fun z hz => absurd hz (by simp [tableOf])) (by decide) (by decide) (hts _ wl_L_13) (va_tabs rfl rfl (hE.2.2.1 (Cond.castable g_E0 g_E0) (by simp [g_NL]))) hc9 hv9 hk9 ?_
    refine W.eq (g2 := F0 m 12 ls [.ref q9]) rfl ?_
    refine W.widen (k := 10) (n := 60) (Nat.le_of_ble_eq_true rfl) (Nat.le_of_ble_eq_true rfl) ?_
    refine lv_astore_n (lv' := [(3, .ref q9), (0, .ref (ad_ D 0)), (1, .int wood), (2, .ref (ad_ D 31))]) hx hb dL_far_12 rfl hl (by decide) rfl (fun ls hl => ?_)
    refine lv_iconst (v := nI 1) hx hb dL_far_13 (by decide) ?_
    refine W.widen (k := 10) (n := 60) (by omega) (by omega) ?_
    rw [← hQ]
    exact W.iret (v := nI 1) hx hb hr (fun te9 hte9 _ => g_fin (⟨by rw [he], Or.inr ⟨by rw [he]; decide, hC, g_off.rf⟩⟩) hP hS hte9) hS.2.2 dL_far_14 hlocks
  · obtain ⟨he0, hok, hoff⟩ := hq
    obtain ⟨r9, rfl⟩ : ∃ r9 : Int32, v = some (.int r9) := by obtain ⟨_, _, _, hv9, _⟩ := hok; exact ⟨_, hv9⟩
    refine W.eq (g2 := F0 m 7 ls (.int r9 :: [.int (nI 0), .ref (ad_ D 31)])) rfl ?_
    refine W.widen (k := 10) (n := 60) (Nat.le_of_ble_eq_true rfl) (Nat.le_of_ble_eq_true rfl) ?_
    have hO2 := hoff.at0 hO (by decide)
    refine lv_i2l (v := (r9).toInt64) hx hb dL_far_7 rfl ?_
    refine g_lastO hx hb hE hAD hP hS hO2 dL_far_8 (fun H locs hP hS => ?_)
    refine lv_goto (tgt := 15) hx hb dL_far_9 (by decide) ?_
    refine lv_iconst (v := nI 0) hx hb dL_far_15 (by decide) ?_
    refine W.widen (k := 10) (n := 60) (by omega) (by omega) ?_
    rw [← hQ]
    exact W.iret (v := nI 0) hx hb hr (fun te9 hte9 _ => g_fin (⟨by rw [he0], Or.inl ⟨he0, r9, σ2, hok, hoff, rfl⟩⟩) hP hS hte9) hS.2.2 dL_far_16 hlocks

abbrev m_L_unlike_rm : Room := { frames := 10, cells := 10, slots := 60, locals := 246 }
set_option maxHeartbeats 4000000 in
set_option maxRecDepth 100000 in
theorem m_L_unlike (l : Launch) (hst : l.stackTraces = false) (D : va_G) (hAD : g_AD D) (σ : Nat → va_E) (Ls : Nat → g_L) (a b : Int32) (hC : g_C D σ Ls) (hvC : vC_ Ls) (f8 : Nat → Int64) (hO : σ 31 = .inl (g_cL D, 1, .inr (.inl f8))) : g_H l D yL_unlike cL_unlike 5 (some .int) [(0, 10, 13, 15)] m_L_unlike_rm [.ref (ad_ D 0), .int a, .int b, .ref (ad_ D 31)] σ (fun v1 σ1 => v1 = some (.int (nI (er_unlike a b))) ∧ ((er_unlike a b = 0 ∧ ∃ (r9 : Int32) (σ2 : Nat → va_E), ((some (Value.int r9) : Option Value) = some (.int (fub_ a b)) ∧ nm1_ a ∧ nm1_ b ∧ g_C D σ2 Ls) ∧ g_off 0 19 σ σ2 ∧ σ1 = va_up σ2 31 (.inl (g_cL D, 1, .inr (.inl (vp_updL f8 0 r9.toInt64))))) ∨ (er_unlike a b ≠ 0 ∧ g_C D σ1 Ls ∧ g_off 0 19 σ σ1))) := by
  refine g_ofH [(0, .ref (ad_ D 0)), (1, .int a), (2, .int b), (3, .ref (ad_ D 31))] (by decide +kernel) (Nat.le_of_ble_eq_true rfl) rfl ?_
  intro p e s m args below meth c hx hb hr hml hown hlocks hts hE hZ hP hS htab ls hl
  have hown : s.vm.findClass RL = some m.cls := hown
  generalize hQ : MQ _ _ _ _ _ _ _ = Q
  refine lv_aload_n hx hb dL_unlike_0 rfl (lv_at hl 3 rfl) ?_
  refine lv_iconst (v := nI 0) hx hb dL_unlike_1 (by decide) ?_
  refine lv_aload_n hx hb dL_unlike_2 rfl (lv_at hl 0 rfl) ?_
  refine lv_iload_n hx hb dL_unlike_3 rfl (lv_at hl 1 rfl) ?_
  refine lv_iload_n hx hb dL_unlike_4 rfl (lv_at hl 2 rfl) ?_
  refine g_callVY (y := yX2_unlike) (n := 2) (As := [.int a, .int b]) (rest := [.int (nI 0), .ref (ad_ D 31)]) hx hb hml hown hts hE hZ hP hS hl.1 ((m_X2_unlike l hst D hAD σ Ls a b hC hvC).Y) k_L_62 (ci := 2) (by decide) hC.1 rfl rfl rfl rfl rfl ⟨Nat.le_of_ble_eq_true rfl, Nat.le_of_ble_eq_true rfl⟩ (Nat.le_of_ble_eq_true rfl) ⟨Nat.le_of_ble_eq_true rfl, Nat.le_of_ble_eq_true rfl⟩ dL_unlike_5 (fun E ce q9 σ3 H locs hq hP hS hc9 hv9 hk9 => ?_) (fun v σ2 H locs hq hP hS => ?_)
  · obtain ⟨hq, rfl⟩ := hq
    rcases hq with ⟨he, rfl⟩
    refine vx_catch (name := g_E1) hown (tableOf []) ⟨0, 10, 13, 15⟩ (tableOf []) (htab.trans rfl) (fun z hz => absurd hz (by simp [tableOf])) (by decide) (by decide) (hts _ wl_L_15) (va_tabs rfl rfl (hE.2.2.1 (Cond.castable g_E1 g_E1) (by simp [g_NL]))) hc9 hv9 hk9 ?_
    refine W.eq (g2 := F0 m 13 ls [.ref q9]) rfl ?_
    refine W.widen (k := 10) (n := 60) (Nat.le_of_ble_eq_true rfl) (Nat.le_of_ble_eq_true rfl) ?_
    refine lv_astore (lv' := [(4, .ref q9), (0, .ref (ad_ D 0)), (1, .int a), (2, .int b), (3, .ref (ad_ D 31))]) hx hb dL_unlike_13 hl (by decide) rfl (fun ls hl => ?_)
    refine lv_iconst (v := nI 1) hx hb dL_unlike_15 (by decide) ?_
    refine W.widen (k := 10) (n := 60) (by omega) (by omega) ?_
    rw [← hQ]
    exact W.iret (v := nI 1) hx hb hr (fun te9 hte9 _ => g_fin (⟨by rw [he], Or.inr ⟨by rw [he]; decide, hC, g_off.rf⟩⟩) hP hS hte9) hS.2.2 dL_unlike_16 hlocks
  · obtain ⟨he0, hok, hoff⟩ := hq
    obtain ⟨r9, rfl⟩ : ∃ r9 : Int32, v = some (.int r9) := by obtain ⟨hv9, _⟩ := hok; exact ⟨_, hv9⟩
    refine W.eq (g2 := F0 m 8 ls (.int r9 :: [.int (nI 0), .ref (ad_ D 31)])) rfl ?_
    refine W.widen (k := 10) (n := 60) (Nat.le_of_ble_eq_true rfl) (Nat.le_of_ble_eq_true rfl) ?_
    have hO2 := hoff.at0 hO (by decide)
    refine lv_i2l (v := (r9).toInt64) hx hb dL_unlike_8 rfl ?_
    refine g_lastO hx hb hE hAD hP hS hO2 dL_unlike_9 (fun H locs hP hS => ?_)
    refine lv_goto (tgt := 17) hx hb dL_unlike_10 (by decide) ?_
    refine lv_iconst (v := nI 0) hx hb dL_unlike_17 (by decide) ?_
    refine W.widen (k := 10) (n := 60) (by omega) (by omega) ?_
    rw [← hQ]
    exact W.iret (v := nI 0) hx hb hr (fun te9 hte9 _ => g_fin (⟨by rw [he0], Or.inl ⟨he0, r9, σ2, hok, hoff, rfl⟩⟩) hP hS hte9) hS.2.2 dL_unlike_18 hlocks

abbrev m_L_would_rm : Room := { frames := 14, cells := 10, slots := 60, locals := 344 }
set_option maxHeartbeats 4000000 in
set_option maxRecDepth 100000 in
theorem m_L_would (l : Launch) (hst : l.stackTraces = false) (D : va_G) (hAD : g_AD D) (σ : Nat → va_E) (Ls : Nat → g_L) (what : Int32) (hC : g_C D σ Ls) (hvC : vC_ Ls) (f8 : Nat → Int64) (hO : σ 31 = .inl (g_cL D, 1, .inr (.inl f8))) : g_H l D yL_would cL_would 4 (some .int) [(0, 9, 12, 13)] m_L_would_rm [.ref (ad_ D 0), .int what, .ref (ad_ D 31)] σ (fun v1 σ1 => v1 = some (.int (nI (er_would what))) ∧ ((er_would what = 0 ∧ ∃ (r9 : Int32) (σ2 : Nat → va_E), (∃ t, t ≤ 3 ∧ what = nI t ∧ (some (Value.int r9) : Option Value) = some (.int (cn_ (bo_ (Ls 0) (Ls 1)) t)) ∧ g_C D σ2 Ls) ∧ g_off 0 19 σ σ2 ∧ σ1 = va_up σ2 31 (.inl (g_cL D, 1, .inr (.inl (vp_updL f8 0 r9.toInt64))))) ∨ (er_would what ≠ 0 ∧ g_C D σ1 Ls ∧ g_off 0 19 σ σ1))) := by
  refine g_ofH [(0, .ref (ad_ D 0)), (1, .int what), (2, .ref (ad_ D 31))] (by decide +kernel) (Nat.le_of_ble_eq_true rfl) rfl ?_
  intro p e s m args below meth c hx hb hr hml hown hlocks hts hE hZ hP hS htab ls hl
  have hown : s.vm.findClass RL = some m.cls := hown
  generalize hQ : MQ _ _ _ _ _ _ _ = Q
  refine lv_aload_n hx hb dL_would_0 rfl (lv_at hl 2 rfl) ?_
  refine lv_iconst (v := nI 0) hx hb dL_would_1 (by decide) ?_
  refine lv_aload_n hx hb dL_would_2 rfl (lv_at hl 0 rfl) ?_
  refine lv_iload_n hx hb dL_would_3 rfl (lv_at hl 1 rfl) ?_
  refine g_callVY (y := yX2_would) (n := 1) (As := [.int what]) (rest := [.int (nI 0), .ref (ad_ D 31)]) hx hb hml hown hts hE hZ hP hS hl.1 ((m_X2_would l hst D hAD σ Ls what hC hvC).Y) k_L_65 (ci := 2) (by decide) hC.1 rfl rfl rfl rfl rfl ⟨Nat.le_of_ble_eq_true rfl, Nat.le_of_ble_eq_true rfl⟩ (Nat.le_of_ble_eq_true rfl) ⟨Nat.le_of_ble_eq_true rfl, Nat.le_of_ble_eq_true rfl⟩ dL_would_4 (fun E ce q9 σ3 H locs hq hP hS hc9 hv9 hk9 => ?_) (fun v σ2 H locs hq hP hS => ?_)
  · obtain ⟨hq, rfl⟩ := hq
    rcases hq with ⟨he, rfl⟩
    refine vx_catch (name := g_E0) hown (tableOf []) ⟨0, 9, 12, 13⟩ (tableOf []) (htab.trans rfl) (fun z hz => absurd hz (by simp [tableOf])) (by decide) (by decide) (hts _ wl_L_13) (va_tabs rfl rfl (hE.2.2.1 (Cond.castable g_E0 g_E0) (by simp [g_NL]))) hc9 hv9 hk9 ?_
    refine W.eq (g2 := F0 m 12 ls [.ref q9]) rfl ?_
    refine W.widen (k := 10) (n := 60) (Nat.le_of_ble_eq_true rfl) (Nat.le_of_ble_eq_true rfl) ?_
    refine lv_astore_n (lv' := [(3, .ref q9), (0, .ref (ad_ D 0)), (1, .int what), (2, .ref (ad_ D 31))]) hx hb dL_would_12 rfl hl (by decide) rfl (fun ls hl => ?_)
    refine lv_iconst (v := nI 1) hx hb dL_would_13 (by decide) ?_
    refine W.widen (k := 10) (n := 60) (by omega) (by omega) ?_
    rw [← hQ]
    exact W.iret (v := nI 1) hx hb hr (fun te9 hte9 _ => g_fin (⟨by rw [he], Or.inr ⟨by rw [he]; decide, hC, g_off.rf⟩⟩) hP hS hte9) hS.2.2 dL_would_14 hlocks
  · obtain ⟨he0, hok, hoff⟩ := hq
    obtain ⟨r9, rfl⟩ : ∃ r9 : Int32, v = some (.int r9) := by obtain ⟨_, _, _, hv9, _⟩ := hok; exact ⟨_, hv9⟩
    refine W.eq (g2 := F0 m 7 ls (.int r9 :: [.int (nI 0), .ref (ad_ D 31)])) rfl ?_
    refine W.widen (k := 10) (n := 60) (Nat.le_of_ble_eq_true rfl) (Nat.le_of_ble_eq_true rfl) ?_
    have hO2 := hoff.at0 hO (by decide)
    refine lv_i2l (v := (r9).toInt64) hx hb dL_would_7 rfl ?_
    refine g_lastO hx hb hE hAD hP hS hO2 dL_would_8 (fun H locs hP hS => ?_)
    refine lv_goto (tgt := 15) hx hb dL_would_9 (by decide) ?_
    refine lv_iconst (v := nI 0) hx hb dL_would_15 (by decide) ?_
    refine W.widen (k := 10) (n := 60) (by omega) (by omega) ?_
    rw [← hQ]
    exact W.iret (v := nI 0) hx hb hr (fun te9 hte9 _ => g_fin (⟨by rw [he0], Or.inl ⟨he0, r9, σ2, hok, hoff, rfl⟩⟩) hP hS hte9) hS.2.2 dL_would_16 hlocks

abbrev m_L_advise_rm : Room := { frames := 14, cells := 10, slots := 60, locals := 344 }
set_option maxHeartbeats 4000000 in
set_option maxRecDepth 100000 in
theorem m_L_advise (l : Launch) (hst : l.stackTraces = false) (D : va_G) (hAD : g_AD D) (σ : Nat → va_E) (Ls : Nat → g_L) (wood : Int32) (hC : g_C D σ Ls) (hvC : vC_ Ls) (f8 : Nat → Int64) (hO : σ 31 = .inl (g_cL D, 1, .inr (.inl f8))) : g_H l D yL_advise cL_advise 4 (some .int) [(0, 9, 12, 13)] m_L_advise_rm [.ref (ad_ D 0), .int wood, .ref (ad_ D 31)] σ (fun v1 σ1 => v1 = some (.int (nI (er_wood wood))) ∧ ((er_wood wood = 0 ∧ ∃ (r9 : Int32) (σ2 : Nat → va_E), (∃ w, w ≤ 1 ∧ wood = nI w ∧ (some (Value.int r9) : Option Value) = some (.int (bs_ (tb_ (Ls w)) (zs_ (Ls w).length)).1) ∧ g_C D σ2 Ls) ∧ g_off 0 19 σ σ2 ∧ σ1 = va_up σ2 31 (.inl (g_cL D, 1, .inr (.inl (vp_updL f8 0 r9.toInt64))))) ∨ (er_wood wood ≠ 0 ∧ g_C D σ1 Ls ∧ g_off 0 19 σ σ1))) := by
  refine g_ofH [(0, .ref (ad_ D 0)), (1, .int wood), (2, .ref (ad_ D 31))] (by decide +kernel) (Nat.le_of_ble_eq_true rfl) rfl ?_
  intro p e s m args below meth c hx hb hr hml hown hlocks hts hE hZ hP hS htab ls hl
  have hown : s.vm.findClass RL = some m.cls := hown
  generalize hQ : MQ _ _ _ _ _ _ _ = Q
  refine lv_aload_n hx hb dL_advise_0 rfl (lv_at hl 2 rfl) ?_
  refine lv_iconst (v := nI 0) hx hb dL_advise_1 (by decide) ?_
  refine lv_aload_n hx hb dL_advise_2 rfl (lv_at hl 0 rfl) ?_
  refine lv_iload_n hx hb dL_advise_3 rfl (lv_at hl 1 rfl) ?_
  refine g_callVY (y := yX2_advise) (n := 1) (As := [.int wood]) (rest := [.int (nI 0), .ref (ad_ D 31)]) hx hb hml hown hts hE hZ hP hS hl.1 ((m_X2_advise l hst D hAD σ Ls wood hC hvC).Y) k_L_68 (ci := 2) (by decide) hC.1 rfl rfl rfl rfl rfl ⟨Nat.le_of_ble_eq_true rfl, Nat.le_of_ble_eq_true rfl⟩ (Nat.le_of_ble_eq_true rfl) ⟨Nat.le_of_ble_eq_true rfl, Nat.le_of_ble_eq_true rfl⟩ dL_advise_4 (fun E ce q9 σ3 H locs hq hP hS hc9 hv9 hk9 => ?_) (fun v σ2 H locs hq hP hS => ?_)
  · obtain ⟨hq, rfl⟩ := hq
    rcases hq with ⟨he, rfl⟩
    refine vx_catch (name := g_E0) hown (tableOf []) ⟨0, 9, 12, 13⟩ (tableOf []) (htab.trans rfl) (fun z hz => absurd hz (by simp [tableOf])) (by decide) (by decide) (hts _ wl_L_13) (va_tabs rfl rfl (hE.2.2.1 (Cond.castable g_E0 g_E0) (by simp [g_NL]))) hc9 hv9 hk9 ?_
    refine W.eq (g2 := F0 m 12 ls [.ref q9]) rfl ?_
    refine W.widen (k := 10) (n := 60) (Nat.le_of_ble_eq_true rfl) (Nat.le_of_ble_eq_true rfl) ?_
    refine lv_astore_n (lv' := [(3, .ref q9), (0, .ref (ad_ D 0)), (1, .int wood), (2, .ref (ad_ D 31))]) hx hb dL_advise_12 rfl hl (by decide) rfl (fun ls hl => ?_)
    refine lv_iconst (v := nI 1) hx hb dL_advise_13 (by decide) ?_
    refine W.widen (k := 10) (n := 60) (by omega) (by omega) ?_
    rw [← hQ]
    exact W.iret (v := nI 1) hx hb hr (fun te9 hte9 _ => g_fin (⟨by rw [he], Or.inr ⟨by rw [he]; decide, hC, g_off.rf⟩⟩) hP hS hte9) hS.2.2 dL_advise_14 hlocks
  · obtain ⟨he0, hok, hoff⟩ := hq
    obtain ⟨r9, rfl⟩ : ∃ r9 : Int32, v = some (.int r9) := by obtain ⟨_, _, _, hv9, _⟩ := hok; exact ⟨_, hv9⟩
    refine W.eq (g2 := F0 m 7 ls (.int r9 :: [.int (nI 0), .ref (ad_ D 31)])) rfl ?_
    refine W.widen (k := 10) (n := 60) (Nat.le_of_ble_eq_true rfl) (Nat.le_of_ble_eq_true rfl) ?_
    have hO2 := hoff.at0 hO (by decide)
    refine lv_i2l (v := (r9).toInt64) hx hb dL_advise_7 rfl ?_
    refine g_lastO hx hb hE hAD hP hS hO2 dL_advise_8 (fun H locs hP hS => ?_)
    refine lv_goto (tgt := 15) hx hb dL_advise_9 (by decide) ?_
    refine lv_iconst (v := nI 0) hx hb dL_advise_15 (by decide) ?_
    refine W.widen (k := 10) (n := 60) (by omega) (by omega) ?_
    rw [← hQ]
    exact W.iret (v := nI 0) hx hb hr (fun te9 hte9 _ => g_fin (⟨by rw [he0], Or.inl ⟨he0, r9, σ2, hok, hoff, rfl⟩⟩) hP hS hte9) hS.2.2 dL_advise_16 hlocks

abbrev m_L_mean_rm : Room := { frames := 14, cells := 10, slots := 60, locals := 346 }
set_option maxHeartbeats 4000000 in
set_option maxRecDepth 100000 in
theorem m_L_mean (l : Launch) (hst : l.stackTraces = false) (D : va_G) (hAD : g_AD D) (σ : Nat → va_E) (Ls : Nat → g_L) (wood : Int32) (hC : g_C D σ Ls) (hvC : vC_ Ls) (f8 : Nat → UInt64) (hO : σ 32 = .inl (g_cD D, 1, .inr (.inr (.inr (.inl f8))))) : g_H l D yL_mean cL_mean 4 (some .int) [(0, 8, 11, 13)] m_L_mean_rm [.ref (ad_ D 0), .int wood, .ref (ad_ D 32)] σ (fun v1 σ1 => v1 = some (.int (nI (er_wood wood))) ∧ ((er_wood wood = 0 ∧ ∃ (r9 : UInt64) (σ2 : Nat → va_E), (∃ w, w ≤ 1 ∧ wood = nI w ∧ (some (Value.double r9) : Option Value) = some (.double (me_ (Ls w))) ∧ g_C D σ2 Ls) ∧ g_off 0 19 σ σ2 ∧ σ1 = va_up σ2 32 (.inl (g_cD D, 1, .inr (.inr (.inr (.inl (vf_upd f8 0 r9))))))) ∨ (er_wood wood ≠ 0 ∧ g_C D σ1 Ls ∧ g_off 0 19 σ σ1))) := by
  refine g_ofH [(0, .ref (ad_ D 0)), (1, .int wood), (2, .ref (ad_ D 32))] (by decide +kernel) (Nat.le_of_ble_eq_true rfl) rfl ?_
  intro p e s m args below meth c hx hb hr hml hown hlocks hts hE hZ hP hS htab ls hl
  have hown : s.vm.findClass RL = some m.cls := hown
  generalize hQ : MQ _ _ _ _ _ _ _ = Q
  refine lv_aload_n hx hb dL_mean_0 rfl (lv_at hl 2 rfl) ?_
  refine lv_iconst (v := nI 0) hx hb dL_mean_1 (by decide) ?_
  refine lv_aload_n hx hb dL_mean_2 rfl (lv_at hl 0 rfl) ?_
  refine lv_iload_n hx hb dL_mean_3 rfl (lv_at hl 1 rfl) ?_
  refine g_callVY (y := yX2_mean) (n := 1) (As := [.int wood]) (rest := [.int (nI 0), .ref (ad_ D 32)]) hx hb hml hown hts hE hZ hP hS hl.1 ((m_X2_mean l hst D hAD σ Ls wood hC hvC).Y) k_L_71 (ci := 2) (by decide) hC.1 rfl rfl rfl rfl rfl ⟨Nat.le_of_ble_eq_true rfl, Nat.le_of_ble_eq_true rfl⟩ (Nat.le_of_ble_eq_true rfl) ⟨Nat.le_of_ble_eq_true rfl, Nat.le_of_ble_eq_true rfl⟩ dL_mean_4 (fun E ce q9 σ3 H locs hq hP hS hc9 hv9 hk9 => ?_) (fun v σ2 H locs hq hP hS => ?_)
  · obtain ⟨hq, rfl⟩ := hq
    rcases hq with ⟨he, rfl⟩
    refine vx_catch (name := g_E0) hown (tableOf []) ⟨0, 8, 11, 13⟩ (tableOf []) (htab.trans rfl) (fun z hz => absurd hz (by simp [tableOf])) (by decide) (by decide) (hts _ wl_L_13) (va_tabs rfl rfl (hE.2.2.1 (Cond.castable g_E0 g_E0) (by simp [g_NL]))) hc9 hv9 hk9 ?_
    refine W.eq (g2 := F0 m 11 ls [.ref q9]) rfl ?_
    refine W.widen (k := 10) (n := 60) (Nat.le_of_ble_eq_true rfl) (Nat.le_of_ble_eq_true rfl) ?_
    refine lv_astore_n (lv' := [(3, .ref q9), (0, .ref (ad_ D 0)), (1, .int wood), (2, .ref (ad_ D 32))]) hx hb dL_mean_11 rfl hl (by decide) rfl (fun ls hl => ?_)
    refine lv_iconst (v := nI 1) hx hb dL_mean_12 (by decide) ?_
    refine W.widen (k := 10) (n := 60) (by omega) (by omega) ?_
    rw [← hQ]
    exact W.iret (v := nI 1) hx hb hr (fun te9 hte9 _ => g_fin (⟨by rw [he], Or.inr ⟨by rw [he]; decide, hC, g_off.rf⟩⟩) hP hS hte9) hS.2.2 dL_mean_13 hlocks
  · obtain ⟨he0, hok, hoff⟩ := hq
    obtain ⟨r9, rfl⟩ : ∃ r9 : UInt64, v = some (.double r9) := by obtain ⟨_, _, _, hv9, _⟩ := hok; exact ⟨_, hv9⟩
    refine W.eq (g2 := F0 m 7 ls (.double r9 :: [.int (nI 0), .ref (ad_ D 32)])) rfl ?_
    refine W.widen (k := 10) (n := 60) (Nat.le_of_ble_eq_true rfl) (Nat.le_of_ble_eq_true rfl) ?_
    have hO2 := hoff.at0 hO (by decide)
    refine g_dastO hx hb hE hAD hP hS hO2 dL_mean_7 (fun H locs hP hS => ?_)
    refine lv_goto (tgt := 14) hx hb dL_mean_8 (by decide) ?_
    refine lv_iconst (v := nI 0) hx hb dL_mean_14 (by decide) ?_
    refine W.widen (k := 10) (n := 60) (by omega) (by omega) ?_
    rw [← hQ]
    exact W.iret (v := nI 0) hx hb hr (fun te9 hte9 _ => g_fin (⟨by rw [he0], Or.inl ⟨he0, r9, σ2, hok, hoff, rfl⟩⟩) hP hS hte9) hS.2.2 dL_mean_15 hlocks
