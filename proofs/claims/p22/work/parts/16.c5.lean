theorem tI_0' {f : Nat → Int32} {n : Nat} {T : Nat → Nat → Int32} : tI_ f n 0 (bg_ T 0 0 n 0 0) := by
  cases n with
  | zero => exact ⟨fun q nd _ h => by simp [tN_, tr_] at h, fun q nd h => by simp [tN_, tr_] at h⟩
  | succ n => exact tI_0 (by omega)
theorem zs_le {n : Nat} (h : n ≤ 48) : zs_ n ≤ 95 := by unfold zs_; split <;> omega
theorem wk_leaf {T : Nat → Nat → Int32} {x : Int32} {p : Nat} (h : T 0 p = -1) : ∀ k, wk_ T x k p = p
  | 0 => rfl
  | k + 1 => by rw [wk_, if_pos h]
/-- a post's sides stand in the row -/
def ch_ (sz : Nat) (T : Nat → Nat → Int32) : Prop := ∀ p, p < sz → ¬ T 0 p = -1 → ∃ l h : Nat, T 5 p = nI l ∧ T 6 p = nI h ∧ l < sz ∧ h < sz
theorem wk_lt {T : Nat → Nat → Int32} {x : Int32} {sz : Nat} (hsz : sz ≤ 95) (hc : ch_ sz T) : ∀ (k p : Nat), p < sz → wk_ T x k p < sz
  | 0, p, h => h
  | k + 1, p, h => by
    rw [wk_]
    split
    · exact h
    · next hn =>
      obtain ⟨l, r, e5, e6, b5, b6⟩ := hc p h hn
      refine wk_lt hsz hc k _ ?_
      rw [e5, e6, nI_clamp (by omega), nI_clamp (by omega)]
      split
      · exact b6
      · exact b5
theorem g_ip0 {c : Prop} [Decidable c] (h : (if c then (0 : Int32) else 1) = 0) : c := by
  by_cases hc : c
  · exact hc
  · rw [if_neg hc] at h; exact absurd h (by decide)
theorem g_ip1 {c : Prop} [Decidable c] (h : ¬ (if c then (0 : Int32) else 1) = 0) : ¬ c := fun hc => h (by rw [if_pos hc])
theorem g_hb1 {c : Bool} (h : ¬ (if c then (1 : Int32) else 0) = 0) : c = true := by
  cases c with
  | true => rfl
  | false => exact absurd rfl h
theorem g_hb0 {c : Bool} (h : (if c then (1 : Int32) else 0) = 0) : c = false := by
  cases c with
  | true => exact absurd h (by decide)
  | false => rfl
abbrev m_X0_fill_rm : Room := { frames := 12, cells := 0, slots := 0, locals := 300 }
set_option maxHeartbeats 4000000 in
set_option maxRecDepth 100000 in
theorem m_X0_fill (l : Launch) (D : va_G) (hAD : g_AD D) (σ : Nat → va_E) (sz : Nat) (T : Nat → Nat → Int32) (hG : g_S D σ sz T) (v : Nat) (L : g_L) (F G : Nat → Int32) (hV : g_VF D σ v L F G) (hvd : v + 2 < 10 ∨ 19 < v) (hgs : gs_ (fn_ L) L.length) : g_M l D yX0_fill cX0_fill 4 none m_X0_fill_rm [.ref (ad_ D 10), .ref (ad_ D v)] σ (fun v1 σ1 => v1 = none ∧ (∃ T1, g_S D σ1 (zs_ L.length) T1 ∧ tB_ (fn_ L) L.length T1) ∧ g_off 10 19 σ σ1) := by
  refine g_ofW [(0, .ref (ad_ D 10)), (1, .ref (ad_ D v))] (by decide +kernel) (Nat.le_of_ble_eq_true rfl) rfl ?_
  intro p e s m args below meth c hx hb hr hml hown hlocks hts hE hZ hP hS hnm ls hl
  have hown : s.vm.findClass RX0 = some m.cls := hown
  generalize hQ : MQ _ _ _ _ _ _ _ = Q
  obtain ⟨h10, h11, h12, h13, h14, h15, h16, h17, h18, h19, hsz⟩ := id hG
  have hvv := hV.2.2.2.2.2
  have hLn := hV.2.2.2.2.1
  have hz9 := zs_le hLn
  refine lv_aload_n hx hb dX0_fill_0 rfl (lv_at hl 1 rfl) ?_
  refine g_callV0 (y := yX1_size) (n := 0) (As := []) (rest := []) hx hb hml hown hts hE hZ hP hS hl.1 (m_X1_size l D hAD σ v L F G hV) k_X0_43 (ci := 1) (by omega) hV.1 rfl rfl rfl rfl rfl ⟨rfl, rfl⟩ ⟨Nat.le_of_ble_eq_true rfl, Nat.le_of_ble_eq_true rfl⟩ (Nat.le_of_ble_eq_true rfl) ⟨Nat.le_of_ble_eq_true rfl, Nat.le_of_ble_eq_true rfl⟩ dX0_fill_1 (fun v1 σ_2 H locs hq hP hS => ?_)
  obtain ⟨rfl, rfl⟩ := hq
  refine W.eq (g2 := F0 m 4 ls [.int (nI L.length)]) rfl ?_
  refine lv_istore_n (lv' := [(2, .int (nI L.length)), (0, .ref (ad_ D 10)), (1, .ref (ad_ D v))]) hx hb dX0_fill_4 rfl hl (by decide) rfl (fun ls hl => ?_)
  refine lv_aload_n hx hb dX0_fill_5 rfl (lv_at hl 1 rfl) ?_
  refine lv_iload_n hx hb dX0_fill_6 rfl (lv_at hl 0 rfl) ?_
  refine lv_if_ne (tgt := 14) hx hb dX0_fill_7 (by decide) (fun h7 => ?_) (fun h7 => ?_)
  · have hb7 := g_ne (a := L.length) (b := 0) h7 (by omega) (by omega)
    refine lv_iconst (v := nI 2) hx hb dX0_fill_14 (by decide) ?_
    refine lv_iload_n hx hb dX0_fill_15 rfl (lv_at hl 0 rfl) ?_
    refine lv_imul hx hb dX0_fill_16 ?_
    refine g_top (y := nI (2 * L.length)) (pk_mul 2 L.length) ?_
    refine lv_iconst (v := nI 1) hx hb dX0_fill_17 (by decide) ?_
    refine lv_isub hx hb dX0_fill_18 ?_
    refine g_top (y := nI ((2 * L.length) - 1)) (pk_sub (by omega)) ?_
    refine g_top (y := nI (zs_ L.length)) (by rw [zs_, if_neg hb7]) ?_
    refine g_put hx hb hts hE hown hAD hP hS g_inX0 tyX0 tyX0_ok nmX0 rfl (by decide) h10 9 (by decide) rfl rfl (by decide +kernel) wf_X0_39 (v := nI (zs_ L.length)) (Nat.le_of_ble_eq_true rfl) dX0_fill_19 (fun H locs hP hS => ?_)
    obtain ⟨σ_3, hσ4⟩ : ∃ z : Nat → va_E, z = va_up σ 10 (.inr (0, [.ref (ad_ D 11), .ref (ad_ D 12), .ref (ad_ D 13), .ref (ad_ D 14), .ref (ad_ D 15), .ref (ad_ D 16), .ref (ad_ D 17), .ref (ad_ D 18), .ref (ad_ D 19), .int (nI (zs_ L.length))])) := ⟨_, rfl⟩
    have hP : va_P D vwCl (g_W D σ_3) H := by rw [hσ4]; exact hP
    have hc5 : σ_3 10 = .inr (0, [.ref (ad_ D 11), .ref (ad_ D 12), .ref (ad_ D 13), .ref (ad_ D 14), .ref (ad_ D 15), .ref (ad_ D 16), .ref (ad_ D 17), .ref (ad_ D 18), .ref (ad_ D 19), .int (nI (zs_ L.length))]) := by rw [hσ4]; exact g_ups
    have hc6 := (by rw [hσ4]; exact g_upn h11 (by decide) : σ_3 11 = .inl (g_cI D, 95, .inl (T 0)))
    have hc7 := (by rw [hσ4]; exact g_upn h12 (by decide) : σ_3 12 = .inl (g_cI D, 95, .inl (T 1)))
    have hc8 := (by rw [hσ4]; exact g_upn h13 (by decide) : σ_3 13 = .inl (g_cI D, 95, .inl (T 2)))
    have hc9 := (by rw [hσ4]; exact g_upn h14 (by decide) : σ_3 14 = .inl (g_cI D, 95, .inl (T 3)))
    have hc10 := (by rw [hσ4]; exact g_upn h15 (by decide) : σ_3 15 = .inl (g_cI D, 95, .inl (T 4)))
    have hc11 := (by rw [hσ4]; exact g_upn h16 (by decide) : σ_3 16 = .inl (g_cI D, 95, .inl (T 5)))
    have hc12 := (by rw [hσ4]; exact g_upn h17 (by decide) : σ_3 17 = .inl (g_cI D, 95, .inl (T 6)))
    have hc13 := (by rw [hσ4]; exact g_upn h18 (by decide) : σ_3 18 = .inl (g_cI D, 95, .inl (T 7)))
    have hc14 := (by rw [hσ4]; exact g_upn h19 (by decide) : σ_3 19 = .inl (g_cI D, 95, .inl (T 8)))
    have ho15 : g_off 10 19 σ σ_3 := by rw [hσ4]; exact g_off.up (g_off.rf (lo := 10) (hi := 19) (σ := σ)) (by omega) (by omega)
    have hVp16 := g_VF.one hV (q := 10) (σ' := σ_3) (fun k hk => by rw [hσ4]; simp [va_up, hk]) (by omega)
    have hsz := hz9
    refine lv_aload_n hx hb dX0_fill_22 rfl (lv_at hl 1 rfl) ?_
    refine lv_iconst (v := nI 0) hx hb dX0_fill_23 (by decide) ?_
    refine lv_iconst (v := nI 0) hx hb dX0_fill_24 (by decide) ?_
    refine lv_iload_n hx hb dX0_fill_25 rfl (lv_at hl 0 rfl) ?_
    refine lv_iconst (v := nI 0) hx hb dX0_fill_26 (by decide) ?_
    refine lv_iconst (v := nI 0) hx hb dX0_fill_27 (by decide) ?_
    have hGp17 : g_S D σ_3 (zs_ L.length) (T) := ⟨hc5, hc6, hc7, hc8, hc9, hc10, hc11, hc12, hc13, hc14, hsz⟩
    refine g_callV0 (y := yX0_begin) (n := 5) (As := [.int (nI 0), .int (nI 0), .int (nI L.length), .int (nI 0), .int (nI 0)]) (rest := []) hx hb hml hown hts hE hZ hP hS hl.1 (m_X0_begin l D hAD σ_3 (zs_ L.length) (T) hGp17 0 0 L.length 0 0 (by omega)) k_X0_48 (ci := 0) (by decide) hc5 rfl rfl rfl rfl rfl ⟨rfl, rfl⟩ ⟨Nat.le_of_ble_eq_true rfl, Nat.le_of_ble_eq_true rfl⟩ (Nat.le_of_ble_eq_true rfl) ⟨Nat.le_of_ble_eq_true rfl, Nat.le_of_ble_eq_true rfl⟩ dX0_fill_28 (fun v18 σ_19 H locs hq hP hS => ?_)
    obtain ⟨rfl, hq2⟩ := hq
    refine W.eq (g2 := F0 m 31 ls []) rfl ?_
    obtain ⟨hGb20, hob21⟩ := hq2
    have hV22 := g_VF.off hVp16 hob21 (by omega)
    obtain ⟨s23_10, s23_11, s23_12, s23_13, s23_14, s23_15, s23_16, s23_17, s23_18, s23_19, s23_sz⟩ := id hGb20
    have ho24 := g_off.tr ho15 hob21
    refine lv_iconst (v := nI 0) hx hb dX0_fill_31 (by decide) ?_
    refine lv_istore_n (lv' := [(3, .int (nI 0)), (2, .int (nI L.length)), (0, .ref (ad_ D 10)), (1, .ref (ad_ D v))]) hx hb dX0_fill_32 rfl hl (by decide) rfl (fun ls hl => ?_)
    have K33 : ∀ (fuel33 : Nat) (i : Nat) (σ2 : Nat → va_E) (T2 : Nat → Nat → Int32), (zs_ L.length - i) < fuel33 → (i ≤ zs_ L.length) → (g_S D σ2 (zs_ L.length) T2) → (tI_ (fn_ L) L.length i T2) → (g_VF D σ2 v L F G) → (g_off 10 19 σ σ2) → ∀ (H : Heap) (locs : List Loc), va_P D vwCl (g_W D σ2) H → va_S (g_A D s.heap.size) s.heap H locs → ∀ ls : Array Slot, lv_has ls 4 [(3, .int (nI i)), (0, .ref (ad_ D 10)), (1, .ref (ad_ D v))] → W p l e m_X0_fill_rm s m args below meth c H locs 0 0 Q (F0 m 33 ls []) := by
      intro fuel33
      induction fuel33 with
      | zero => intro i σ2 T2 hf; exact absurd hf (Nat.not_lt_zero _)
      | succ fuel33 ih33 =>
        intro i σ2 T2 hf33 hi i0 iI iV io H locs hP hS ls hl
        obtain ⟨t_10, t_11, t_12, t_13, t_14, t_15, t_16, t_17, t_18, t_19, t_sz⟩ := id i0
        refine lv_iload_n hx hb dX0_fill_33 rfl (lv_at hl 0 rfl) ?_
        refine lv_aload_n hx hb dX0_fill_34 rfl (lv_at hl 1 rfl) ?_
        refine g_get hx hb hts hE hown hP g_inX0 rfl (by decide) t_10 9 (by decide) rfl wf_X0_39 (v := .int (nI (zs_ L.length))) rfl dX0_fill_35 ?_
        refine lv_icmp_ge (tgt := 53) hx hb dX0_fill_38 (by decide) (fun h38 => ?_) (fun h38 => ?_)
        · have hb38 := g_le (a := zs_ L.length) (b := i) h38 (by omega) (by omega)
          have hi2 : i = zs_ L.length := by omega
          rw [← hQ]
          exact W.vret hx hb hr (fun te9 hte9 _ => g_fin (⟨rfl, ⟨T2, i0, tI_end hgs (by rw [← hi2]; exact iI)⟩, io⟩) hP hS hte9) hS.2.2 dX0_fill_53 hlocks
        · have hb38 := g_nle (a := zs_ L.length) (b := i) h38 (by omega) (by omega)
          obtain ⟨nd, hnd⟩ : ∃ nd, (tN_ (fn_ L) L.length)[i]? = some nd := ⟨_, List.getElem?_eq_getElem (by rw [tN_len hgs]; exact hb38)⟩
          obtain ⟨k1, k2, k7, k8⟩ := tI_know hgs iI hnd
          have hn1 := tN_pos hnd
          obtain ⟨n1, n2, n3, n4, n5, n6, -⟩ := tr_node hgs L.length 0 L.length 0 0 hn1 (Nat.le_refl _) (by omega) i nd hnd
          refine lv_aload_n hx hb dX0_fill_41 rfl (lv_at hl 1 rfl) ?_
          refine lv_iload_n hx hb dX0_fill_42 rfl (lv_at hl 0 rfl) ?_
          refine lv_aload_n hx hb dX0_fill_43 rfl (lv_at hl 2 rfl) ?_
          refine g_callV0 (y := yX0_fillAt) (n := 2) (As := [.int (nI i), .ref (ad_ D v)]) (rest := []) hx hb hml hown hts hE hZ hP hS hl.1 (m_X0_fillAt l D hAD σ2 (zs_ L.length) (T2) i0 v L F G i nd.1 nd.2.1 nd.2.2.1 iV hvd k1 k2 k7 (by omega) (by omega) (by omega) (fun h => (hgs nd.1 nd.2.1 h (by omega)).2) (by omega)) k_X0_52 (ci := 0) (by decide) t_10 rfl rfl rfl rfl rfl ⟨rfl, rfl⟩ ⟨Nat.le_of_ble_eq_true rfl, Nat.le_of_ble_eq_true rfl⟩ (Nat.le_of_ble_eq_true rfl) ⟨Nat.le_of_ble_eq_true rfl, Nat.le_of_ble_eq_true rfl⟩ dX0_fill_44 (fun v25 σ_26 H locs hq hP hS => ?_)
          obtain ⟨rfl, hq2⟩ := hq
          refine W.eq (g2 := F0 m 47 ls []) rfl ?_
          obtain ⟨hGb27, hob28⟩ := hq2
          have hV29 := g_VF.off iV hob28 (by omega)
          obtain ⟨s30_10, s30_11, s30_12, s30_13, s30_14, s30_15, s30_16, s30_17, s30_18, s30_19, s30_sz⟩ := id hGb27
          have ho31 := g_off.tr io hob28
          refine lv_iinc (v := nI (i + 1)) (lv' := [(3, .int (nI (i + 1))), (0, .ref (ad_ D 10)), (1, .ref (ad_ D v))]) hx hb dX0_fill_47 hl (k := 0) rfl (g_inc i) (by decide) rfl (fun ls hl => ?_)
          refine lv_goto (tgt := 33) hx hb dX0_fill_50 (by decide) ?_
          exact ih33 (i + 1) σ_26 (fat_ (fn_ L) (T2) i nd.1 nd.2.1 nd.2.2.1) (by omega) (by omega) hGb27 (tI_step hgs iI hnd) hV29 ho31 _ _ hP hS ls (lv_sub hl [0, 1, 2] rfl)
    exact K33 ((zs_ L.length - 0) + 1) 0 σ_19 (bg_ (T) 0 0 L.length 0 0) (Nat.lt_succ_self _) (Nat.zero_le _) hGb20 tI_0' hV22 ho24 _ _ hP hS ls (lv_sub hl [0, 2, 3] rfl)
  · have hb7 := g_eq (a := L.length) (b := 0) h7 (by omega) (by omega)
    refine lv_iconst (v := nI 0) hx hb dX0_fill_10 (by decide) ?_
    refine lv_goto (tgt := 19) hx hb dX0_fill_11 (by decide) ?_
    refine g_top (y := nI (zs_ L.length)) (by rw [zs_, if_pos hb7]) ?_
    refine g_put hx hb hts hE hown hAD hP hS g_inX0 tyX0 tyX0_ok nmX0 rfl (by decide) h10 9 (by decide) rfl rfl (by decide +kernel) wf_X0_39 (v := nI (zs_ L.length)) (Nat.le_of_ble_eq_true rfl) dX0_fill_19 (fun H locs hP hS => ?_)
    obtain ⟨σ_32, hσ33⟩ : ∃ z : Nat → va_E, z = va_up σ 10 (.inr (0, [.ref (ad_ D 11), .ref (ad_ D 12), .ref (ad_ D 13), .ref (ad_ D 14), .ref (ad_ D 15), .ref (ad_ D 16), .ref (ad_ D 17), .ref (ad_ D 18), .ref (ad_ D 19), .int (nI (zs_ L.length))])) := ⟨_, rfl⟩
    have hP : va_P D vwCl (g_W D σ_32) H := by rw [hσ33]; exact hP
    have hc34 : σ_32 10 = .inr (0, [.ref (ad_ D 11), .ref (ad_ D 12), .ref (ad_ D 13), .ref (ad_ D 14), .ref (ad_ D 15), .ref (ad_ D 16), .ref (ad_ D 17), .ref (ad_ D 18), .ref (ad_ D 19), .int (nI (zs_ L.length))]) := by rw [hσ33]; exact g_ups
    have hc35 := (by rw [hσ33]; exact g_upn h11 (by decide) : σ_32 11 = .inl (g_cI D, 95, .inl (T 0)))
    have hc36 := (by rw [hσ33]; exact g_upn h12 (by decide) : σ_32 12 = .inl (g_cI D, 95, .inl (T 1)))
    have hc37 := (by rw [hσ33]; exact g_upn h13 (by decide) : σ_32 13 = .inl (g_cI D, 95, .inl (T 2)))
    have hc38 := (by rw [hσ33]; exact g_upn h14 (by decide) : σ_32 14 = .inl (g_cI D, 95, .inl (T 3)))
    have hc39 := (by rw [hσ33]; exact g_upn h15 (by decide) : σ_32 15 = .inl (g_cI D, 95, .inl (T 4)))
    have hc40 := (by rw [hσ33]; exact g_upn h16 (by decide) : σ_32 16 = .inl (g_cI D, 95, .inl (T 5)))
    have hc41 := (by rw [hσ33]; exact g_upn h17 (by decide) : σ_32 17 = .inl (g_cI D, 95, .inl (T 6)))
    have hc42 := (by rw [hσ33]; exact g_upn h18 (by decide) : σ_32 18 = .inl (g_cI D, 95, .inl (T 7)))
    have hc43 := (by rw [hσ33]; exact g_upn h19 (by decide) : σ_32 19 = .inl (g_cI D, 95, .inl (T 8)))
    have ho44 : g_off 10 19 σ σ_32 := by rw [hσ33]; exact g_off.up (g_off.rf (lo := 10) (hi := 19) (σ := σ)) (by omega) (by omega)
    have hVp45 := g_VF.one hV (q := 10) (σ' := σ_32) (fun k hk => by rw [hσ33]; simp [va_up, hk]) (by omega)
    have hsz := hz9
    refine lv_aload_n hx hb dX0_fill_22 rfl (lv_at hl 1 rfl) ?_
    refine lv_iconst (v := nI 0) hx hb dX0_fill_23 (by decide) ?_
    refine lv_iconst (v := nI 0) hx hb dX0_fill_24 (by decide) ?_
    refine lv_iload_n hx hb dX0_fill_25 rfl (lv_at hl 0 rfl) ?_
    refine lv_iconst (v := nI 0) hx hb dX0_fill_26 (by decide) ?_
    refine lv_iconst (v := nI 0) hx hb dX0_fill_27 (by decide) ?_
    have hGp46 : g_S D σ_32 (zs_ L.length) (T) := ⟨hc34, hc35, hc36, hc37, hc38, hc39, hc40, hc41, hc42, hc43, hsz⟩
    refine g_callV0 (y := yX0_begin) (n := 5) (As := [.int (nI 0), .int (nI 0), .int (nI L.length), .int (nI 0), .int (nI 0)]) (rest := []) hx hb hml hown hts hE hZ hP hS hl.1 (m_X0_begin l D hAD σ_32 (zs_ L.length) (T) hGp46 0 0 L.length 0 0 (by omega)) k_X0_48 (ci := 0) (by decide) hc34 rfl rfl rfl rfl rfl ⟨rfl, rfl⟩ ⟨Nat.le_of_ble_eq_true rfl, Nat.le_of_ble_eq_true rfl⟩ (Nat.le_of_ble_eq_true rfl) ⟨Nat.le_of_ble_eq_true rfl, Nat.le_of_ble_eq_true rfl⟩ dX0_fill_28 (fun v47 σ_48 H locs hq hP hS => ?_)
    obtain ⟨rfl, hq2⟩ := hq
    refine W.eq (g2 := F0 m 31 ls []) rfl ?_
    obtain ⟨hGb49, hob50⟩ := hq2
    have hV51 := g_VF.off hVp45 hob50 (by omega)
    obtain ⟨s52_10, s52_11, s52_12, s52_13, s52_14, s52_15, s52_16, s52_17, s52_18, s52_19, s52_sz⟩ := id hGb49
    have ho53 := g_off.tr ho44 hob50
    refine lv_iconst (v := nI 0) hx hb dX0_fill_31 (by decide) ?_
    refine lv_istore_n (lv' := [(3, .int (nI 0)), (2, .int (nI L.length)), (0, .ref (ad_ D 10)), (1, .ref (ad_ D v))]) hx hb dX0_fill_32 rfl hl (by decide) rfl (fun ls hl => ?_)
    have K33 : ∀ (fuel33 : Nat) (i : Nat) (σ2 : Nat → va_E) (T2 : Nat → Nat → Int32), (zs_ L.length - i) < fuel33 → (i ≤ zs_ L.length) → (g_S D σ2 (zs_ L.length) T2) → (tI_ (fn_ L) L.length i T2) → (g_VF D σ2 v L F G) → (g_off 10 19 σ σ2) → ∀ (H : Heap) (locs : List Loc), va_P D vwCl (g_W D σ2) H → va_S (g_A D s.heap.size) s.heap H locs → ∀ ls : Array Slot, lv_has ls 4 [(3, .int (nI i)), (0, .ref (ad_ D 10)), (1, .ref (ad_ D v))] → W p l e m_X0_fill_rm s m args below meth c H locs 0 0 Q (F0 m 33 ls []) := by
      intro fuel33
      induction fuel33 with
      | zero => intro i σ2 T2 hf; exact absurd hf (Nat.not_lt_zero _)
      | succ fuel33 ih33 =>
        intro i σ2 T2 hf33 hi i0 iI iV io H locs hP hS ls hl
        obtain ⟨t_10, t_11, t_12, t_13, t_14, t_15, t_16, t_17, t_18, t_19, t_sz⟩ := id i0
        refine lv_iload_n hx hb dX0_fill_33 rfl (lv_at hl 0 rfl) ?_
        refine lv_aload_n hx hb dX0_fill_34 rfl (lv_at hl 1 rfl) ?_
        refine g_get hx hb hts hE hown hP g_inX0 rfl (by decide) t_10 9 (by decide) rfl wf_X0_39 (v := .int (nI (zs_ L.length))) rfl dX0_fill_35 ?_
        refine lv_icmp_ge (tgt := 53) hx hb dX0_fill_38 (by decide) (fun h38 => ?_) (fun h38 => ?_)
        · have hb38 := g_le (a := zs_ L.length) (b := i) h38 (by omega) (by omega)
          have hi2 : i = zs_ L.length := by omega
          rw [← hQ]
          exact W.vret hx hb hr (fun te9 hte9 _ => g_fin (⟨rfl, ⟨T2, i0, tI_end hgs (by rw [← hi2]; exact iI)⟩, io⟩) hP hS hte9) hS.2.2 dX0_fill_53 hlocks
        · have hb38 := g_nle (a := zs_ L.length) (b := i) h38 (by omega) (by omega)
          obtain ⟨nd, hnd⟩ : ∃ nd, (tN_ (fn_ L) L.length)[i]? = some nd := ⟨_, List.getElem?_eq_getElem (by rw [tN_len hgs]; exact hb38)⟩
          obtain ⟨k1, k2, k7, k8⟩ := tI_know hgs iI hnd
          have hn1 := tN_pos hnd
          obtain ⟨n1, n2, n3, n4, n5, n6, -⟩ := tr_node hgs L.length 0 L.length 0 0 hn1 (Nat.le_refl _) (by omega) i nd hnd
          refine lv_aload_n hx hb dX0_fill_41 rfl (lv_at hl 1 rfl) ?_
          refine lv_iload_n hx hb dX0_fill_42 rfl (lv_at hl 0 rfl) ?_
          refine lv_aload_n hx hb dX0_fill_43 rfl (lv_at hl 2 rfl) ?_
          refine g_callV0 (y := yX0_fillAt) (n := 2) (As := [.int (nI i), .ref (ad_ D v)]) (rest := []) hx hb hml hown hts hE hZ hP hS hl.1 (m_X0_fillAt l D hAD σ2 (zs_ L.length) (T2) i0 v L F G i nd.1 nd.2.1 nd.2.2.1 iV hvd k1 k2 k7 (by omega) (by omega) (by omega) (fun h => (hgs nd.1 nd.2.1 h (by omega)).2) (by omega)) k_X0_52 (ci := 0) (by decide) t_10 rfl rfl rfl rfl rfl ⟨rfl, rfl⟩ ⟨Nat.le_of_ble_eq_true rfl, Nat.le_of_ble_eq_true rfl⟩ (Nat.le_of_ble_eq_true rfl) ⟨Nat.le_of_ble_eq_true rfl, Nat.le_of_ble_eq_true rfl⟩ dX0_fill_44 (fun v54 σ_55 H locs hq hP hS => ?_)
          obtain ⟨rfl, hq2⟩ := hq
          refine W.eq (g2 := F0 m 47 ls []) rfl ?_
          obtain ⟨hGb56, hob57⟩ := hq2
          have hV58 := g_VF.off iV hob57 (by omega)
          obtain ⟨s59_10, s59_11, s59_12, s59_13, s59_14, s59_15, s59_16, s59_17, s59_18, s59_19, s59_sz⟩ := id hGb56
          have ho60 := g_off.tr io hob57
          refine lv_iinc (v := nI (i + 1)) (lv' := [(3, .int (nI (i + 1))), (0, .ref (ad_ D 10)), (1, .ref (ad_ D v))]) hx hb dX0_fill_47 hl (k := 0) rfl (g_inc i) (by decide) rfl (fun ls hl => ?_)
          refine lv_goto (tgt := 33) hx hb dX0_fill_50 (by decide) ?_
          exact ih33 (i + 1) σ_55 (fat_ (fn_ L) (T2) i nd.1 nd.2.1 nd.2.2.1) (by omega) (by omega) hGb56 (tI_step hgs iI hnd) hV58 ho60 _ _ hP hS ls (lv_sub hl [0, 1, 2] rfl)
    exact K33 ((zs_ L.length - 0) + 1) 0 σ_48 (bg_ (T) 0 0 L.length 0 0) (Nat.lt_succ_self _) (Nat.zero_le _) hGb49 tI_0' hV51 ho53 _ _ hP hS ls (lv_sub hl [0, 2, 3] rfl)

abbrev m_X0_isPost_rm : Room := { frames := 9, cells := 0, slots := 0, locals := 221 }
set_option maxHeartbeats 4000000 in
set_option maxRecDepth 100000 in
theorem m_X0_isPost (l : Launch) (D : va_G) (hAD : g_AD D) (σ : Nat → va_E) (sz : Nat) (T : Nat → Nat → Int32) (hG : g_S D σ sz T) (p9 : Nat) (hp : p9 < 95) : g_M l D yX0_isPost cX0_isPost 2 (some .boolean) m_X0_isPost_rm [.ref (ad_ D 10), .int (nI p9)] σ (fun v1 σ1 => v1 = some (.int (if T 0 p9 = -1 then 0 else 1)) ∧ σ = σ1) := by
  refine g_ofW [(0, .ref (ad_ D 10)), (1, .int (nI p9))] (by decide +kernel) (Nat.le_of_ble_eq_true rfl) rfl ?_
  intro p e s m args below meth c hx hb hr hml hown hlocks hts hE hZ hP hS hnm ls hl
  have hown : s.vm.findClass RX0 = some m.cls := hown
  generalize hQ : MQ _ _ _ _ _ _ _ = Q
  obtain ⟨h10, h11, h12, h13, h14, h15, h16, h17, h18, h19, hsz⟩ := id hG
  refine lv_aload_n hx hb dX0_isPost_0 rfl (lv_at hl 0 rfl) ?_
  refine g_get hx hb hts hE hown hP g_inX0 rfl (by decide) h10 0 (by decide) rfl wf_X0_9 (v := .ref (ad_ D 11)) rfl dX0_isPost_1 ?_
  refine lv_iload_n hx hb dX0_isPost_4 rfl (lv_at hl 1 rfl) ?_
  refine g_callN0 (y := yX2_read) (n := 2) (As := [.ref (ad_ D 11), .int (nI p9)]) (rest := []) hx hb hml hown hts hE hZ hP hS hl.1 (m_X2_read l D hAD σ 11 95 (T 0) (nI p9) (by decide) (by decide) h11) k_X0_56 rfl rfl ⟨rfl, rfl⟩ ⟨Nat.le_of_ble_eq_true rfl, Nat.le_of_ble_eq_true rfl⟩ (Nat.le_of_ble_eq_true rfl) ⟨Nat.le_of_ble_eq_true rfl, Nat.le_of_ble_eq_true rfl⟩ dX0_isPost_5 (fun v1 σ_2 H locs hq hP hS => ?_)
  obtain ⟨rfl, rfl⟩ := hq
  refine W.eq (g2 := F0 m 8 ls [.int (rd_ (T 0) 95 (nI p9))]) rfl ?_
  refine g_top (y := T 0 p9) (rd_in (by omega) (by decide)) ?_
  refine lv_iconst (v := (-1)) hx hb dX0_isPost_8 (by decide) ?_
  refine lv_icmp_eq (tgt := 16) hx hb dX0_isPost_9 (by decide) (fun h9 => ?_) (fun h9 => ?_)
  · refine lv_iconst (v := nI 0) hx hb dX0_isPost_16 (by decide) ?_
    rw [← hQ]
    exact W.zret (v := nI 0) hx hb hr (by first | rfl | decide | (split <;> rfl)) (fun te9 hte9 _ => g_fin (⟨by first | (rw [if_pos h9]; rfl) | (rw [if_neg h9]; rfl), rfl⟩) hP hS hte9) hS.2.2 dX0_isPost_17 hlocks
  · refine lv_iconst (v := nI 1) hx hb dX0_isPost_12 (by decide) ?_
    refine lv_goto (tgt := 17) hx hb dX0_isPost_13 (by decide) ?_
    rw [← hQ]
    exact W.zret (v := nI 1) hx hb hr (by first | rfl | decide | (split <;> rfl)) (fun te9 hte9 _ => g_fin (⟨by first | (rw [if_pos h9]; rfl) | (rw [if_neg h9]; rfl), rfl⟩) hP hS hte9) hS.2.2 dX0_isPost_17 hlocks

abbrev m_X0_postCount_rm : Room := { frames := 10, cells := 0, slots := 0, locals := 242 }
set_option maxHeartbeats 4000000 in
set_option maxRecDepth 100000 in
theorem m_X0_postCount (l : Launch) (D : va_G) (hAD : g_AD D) (σ : Nat → va_E) (sz : Nat) (T : Nat → Nat → Int32) (hG : g_S D σ sz T)   : g_M l D yX0_postCount cX0_postCount 3 (some .int) m_X0_postCount_rm [.ref (ad_ D 10)] σ (fun v1 σ1 => v1 = some (.int (nI (pc_ (T 0) sz))) ∧ σ = σ1) := by
  refine g_ofW [(0, .ref (ad_ D 10))] (by decide +kernel) (Nat.le_of_ble_eq_true rfl) rfl ?_
  intro p e s m args below meth c hx hb hr hml hown hlocks hts hE hZ hP hS hnm ls hl
  have hown : s.vm.findClass RX0 = some m.cls := hown
  generalize hQ : MQ _ _ _ _ _ _ _ = Q
  obtain ⟨h10, h11, h12, h13, h14, h15, h16, h17, h18, h19, hsz⟩ := id hG
  refine lv_iconst (v := nI 0) hx hb dX0_postCount_0 (by decide) ?_
  refine lv_istore_n (lv' := [(1, .int (nI 0)), (0, .ref (ad_ D 10))]) hx hb dX0_postCount_1 rfl hl (by decide) rfl (fun ls hl => ?_)
  refine lv_iconst (v := nI 0) hx hb dX0_postCount_2 (by decide) ?_
  refine lv_istore_n (lv' := [(2, .int (nI 0)), (1, .int (nI 0)), (0, .ref (ad_ D 10))]) hx hb dX0_postCount_3 rfl hl (by decide) rfl (fun ls hl => ?_)
  have K4 : ∀ (fuel4 : Nat) (i : Nat), (sz - i) < fuel4 → (i ≤ sz) → ∀ (H : Heap) (locs : List Loc), va_P D vwCl (g_W D σ) H → va_S (g_A D s.heap.size) s.heap H locs → ∀ ls : Array Slot, lv_has ls 3 [(2, .int (nI i)), (1, .int (nI (pc_ (T 0) i))), (0, .ref (ad_ D 10))] → W p l e m_X0_postCount_rm s m args below meth c H locs 0 0 Q (F0 m 4 ls []) := by
    intro fuel4
    induction fuel4 with
    | zero => intro i hf; exact absurd hf (Nat.not_lt_zero _)
    | succ fuel4 ih4 =>
      intro i hf4 hi H locs hP hS ls hl
      refine lv_iload_n hx hb dX0_postCount_4 rfl (lv_at hl 0 rfl) ?_
      refine lv_aload_n hx hb dX0_postCount_5 rfl (lv_at hl 2 rfl) ?_
      refine g_get hx hb hts hE hown hP g_inX0 rfl (by decide) h10 9 (by decide) rfl wf_X0_39 (v := .int (nI sz)) rfl dX0_postCount_6 ?_
      refine lv_icmp_ge (tgt := 29) hx hb dX0_postCount_9 (by decide) (fun h9 => ?_) (fun h9 => ?_)
      · have hb9 := g_le (a := sz) (b := i) h9 (by omega) (by omega)
        have hi2 : i = sz := by omega
        refine lv_iload_n hx hb dX0_postCount_29 rfl (lv_at hl 1 rfl) ?_
        rw [← hQ]
        exact W.iret (v := nI (pc_ (T 0) i)) hx hb hr (fun te9 hte9 _ => g_fin (⟨by rw [← hi2], rfl⟩) hP hS hte9) hS.2.2 dX0_postCount_30 hlocks
      · have hb9 := g_nle (a := sz) (b := i) h9 (by omega) (by omega)
        refine lv_aload_n hx hb dX0_postCount_12 rfl (lv_at hl 2 rfl) ?_
        refine lv_iload_n hx hb dX0_postCount_13 rfl (lv_at hl 0 rfl) ?_
        refine g_callV0 (y := yX0_isPost) (n := 1) (As := [.int (nI i)]) (rest := []) hx hb hml hown hts hE hZ hP hS hl.1 (m_X0_isPost l D hAD σ sz T hG i (by omega)) k_X0_68 (ci := 0) (by decide) hG.1 rfl rfl rfl rfl rfl ⟨rfl, rfl⟩ ⟨Nat.le_of_ble_eq_true rfl, Nat.le_of_ble_eq_true rfl⟩ (Nat.le_of_ble_eq_true rfl) ⟨Nat.le_of_ble_eq_true rfl, Nat.le_of_ble_eq_true rfl⟩ dX0_postCount_14 (fun v1 σ_2 H locs hq hP hS => ?_)
        obtain ⟨rfl, rfl⟩ := hq
        refine W.eq (g2 := F0 m 17 ls [.int (if T 0 i = -1 then 0 else 1)]) rfl ?_
        refine lv_if_eq (tgt := 23) hx hb dX0_postCount_17 (by decide) (fun h17 => ?_) (fun h17 => ?_)
        · have hq17 := g_ip0 h17
          have hfx3 : (nI (pc_ (T 0) i)) = nI (pc_ (T 0) (i + 1)) := congrArg nI (by rw [pc_, if_pos hq17]; rfl)
          rw [hfx3] at hl
          refine lv_iinc (v := nI (i + 1)) (lv' := [(2, .int (nI (i + 1))), (1, .int (nI (pc_ (T 0) (i + 1)))), (0, .ref (ad_ D 10))]) hx hb dX0_postCount_23 hl (k := 0) rfl (g_inc i) (by decide) rfl (fun ls hl => ?_)
          refine lv_goto (tgt := 4) hx hb dX0_postCount_26 (by decide) ?_
          exact ih4 (i + 1) (by omega) (by omega) _ _ hP hS ls (lv_sub hl [0, 1, 2] rfl)
        · have hq17 := g_ip1 h17
          refine lv_iinc (v := nI (pc_ (T 0) i + 1)) (lv' := [(1, .int (nI (pc_ (T 0) i + 1))), (2, .int (nI i)), (0, .ref (ad_ D 10))]) hx hb dX0_postCount_20 hl (k := 1) rfl (g_inc (pc_ (T 0) i)) (by decide) rfl (fun ls hl => ?_)
          have hfx4 : (nI (pc_ (T 0) i + 1)) = nI (pc_ (T 0) (i + 1)) := congrArg nI (by rw [pc_, if_neg hq17])
          rw [hfx4] at hl
          refine lv_iinc (v := nI (i + 1)) (lv' := [(2, .int (nI (i + 1))), (1, .int (nI (pc_ (T 0) (i + 1)))), (0, .ref (ad_ D 10))]) hx hb dX0_postCount_23 hl (k := 1) rfl (g_inc i) (by decide) rfl (fun ls hl => ?_)
          refine lv_goto (tgt := 4) hx hb dX0_postCount_26 (by decide) ?_
          exact ih4 (i + 1) (by omega) (by omega) _ _ hP hS ls (lv_sub hl [0, 1, 2] rfl)
  exact K4 ((sz - 0) + 1) 0 (Nat.lt_succ_self _) (Nat.zero_le _) _ _ hP hS ls (lv_sub hl [0, 1, 2] rfl)

abbrev m_X0_postBits_rm : Room := { frames := 10, cells := 0, slots := 0, locals := 242 }
set_option maxHeartbeats 4000000 in
set_option maxRecDepth 100000 in
theorem m_X0_postBits (l : Launch) (D : va_G) (hAD : g_AD D) (σ : Nat → va_E) (sz : Nat) (T : Nat → Nat → Int32) (hG : g_S D σ sz T)   : g_M l D yX0_postBits cX0_postBits 3 (some .int) m_X0_postBits_rm [.ref (ad_ D 10)] σ (fun v1 σ1 => v1 = some (.int (pb_ (T 0) sz)) ∧ σ = σ1) := by
  refine g_ofW [(0, .ref (ad_ D 10))] (by decide +kernel) (Nat.le_of_ble_eq_true rfl) rfl ?_
  intro p e s m args below meth c hx hb hr hml hown hlocks hts hE hZ hP hS hnm ls hl
  have hown : s.vm.findClass RX0 = some m.cls := hown
  generalize hQ : MQ _ _ _ _ _ _ _ = Q
  obtain ⟨h10, h11, h12, h13, h14, h15, h16, h17, h18, h19, hsz⟩ := id hG
  refine lv_iconst (v := nI 0) hx hb dX0_postBits_0 (by decide) ?_
  refine lv_istore_n (lv' := [(1, .int (nI 0)), (0, .ref (ad_ D 10))]) hx hb dX0_postBits_1 rfl hl (by decide) rfl (fun ls hl => ?_)
  refine lv_iconst (v := nI 0) hx hb dX0_postBits_2 (by decide) ?_
  refine lv_istore_n (lv' := [(2, .int (nI 0)), (1, .int (nI 0)), (0, .ref (ad_ D 10))]) hx hb dX0_postBits_3 rfl hl (by decide) rfl (fun ls hl => ?_)
  have K4 : ∀ (fuel4 : Nat) (i : Nat), (sz - i) < fuel4 → (i ≤ sz) → ∀ (H : Heap) (locs : List Loc), va_P D vwCl (g_W D σ) H → va_S (g_A D s.heap.size) s.heap H locs → ∀ ls : Array Slot, lv_has ls 3 [(2, .int (nI i)), (1, .int (pb_ (T 0) i)), (0, .ref (ad_ D 10))] → W p l e m_X0_postBits_rm s m args below meth c H locs 0 0 Q (F0 m 4 ls []) := by
    intro fuel4
    induction fuel4 with
    | zero => intro i hf; exact absurd hf (Nat.not_lt_zero _)
    | succ fuel4 ih4 =>
      intro i hf4 hi H locs hP hS ls hl
      refine lv_iload_n hx hb dX0_postBits_4 rfl (lv_at hl 0 rfl) ?_
      refine lv_aload_n hx hb dX0_postBits_5 rfl (lv_at hl 2 rfl) ?_
      refine g_get hx hb hts hE hown hP g_inX0 rfl (by decide) h10 9 (by decide) rfl wf_X0_39 (v := .int (nI sz)) rfl dX0_postBits_6 ?_
      refine lv_icmp_ge (tgt := 39) hx hb dX0_postBits_9 (by decide) (fun h9 => ?_) (fun h9 => ?_)
      · have hb9 := g_le (a := sz) (b := i) h9 (by omega) (by omega)
        have hi2 : i = sz := by omega
        refine lv_iload_n hx hb dX0_postBits_39 rfl (lv_at hl 1 rfl) ?_
        rw [← hQ]
        exact W.iret (v := pb_ (T 0) i) hx hb hr (fun te9 hte9 _ => g_fin (⟨by rw [← hi2], rfl⟩) hP hS hte9) hS.2.2 dX0_postBits_40 hlocks
      · have hb9 := g_nle (a := sz) (b := i) h9 (by omega) (by omega)
        refine lv_aload_n hx hb dX0_postBits_12 rfl (lv_at hl 2 rfl) ?_
        refine lv_iload_n hx hb dX0_postBits_13 rfl (lv_at hl 0 rfl) ?_
        refine g_callV0 (y := yX0_isPost) (n := 1) (As := [.int (nI i)]) (rest := []) hx hb hml hown hts hE hZ hP hS hl.1 (m_X0_isPost l D hAD σ sz T hG i (by omega)) k_X0_68 (ci := 0) (by decide) hG.1 rfl rfl rfl rfl rfl ⟨rfl, rfl⟩ ⟨Nat.le_of_ble_eq_true rfl, Nat.le_of_ble_eq_true rfl⟩ (Nat.le_of_ble_eq_true rfl) ⟨Nat.le_of_ble_eq_true rfl, Nat.le_of_ble_eq_true rfl⟩ dX0_postBits_14 (fun v1 σ_2 H locs hq hP hS => ?_)
        obtain ⟨rfl, rfl⟩ := hq
        refine W.eq (g2 := F0 m 17 ls [.int (if T 0 i = -1 then 0 else 1)]) rfl ?_
        refine lv_if_eq (tgt := 33) hx hb dX0_postBits_17 (by decide) (fun h17 => ?_) (fun h17 => ?_)
        · have hq17 := g_ip0 h17
          have hfx3 : (pb_ (T 0) i) = pb_ (T 0) (i + 1) := by rw [pb_, if_pos hq17]
          rw [hfx3] at hl
          refine lv_iinc (v := nI (i + 1)) (lv' := [(2, .int (nI (i + 1))), (1, .int (pb_ (T 0) (i + 1))), (0, .ref (ad_ D 10))]) hx hb dX0_postBits_33 hl (k := 0) rfl (g_inc i) (by decide) rfl (fun ls hl => ?_)
          refine lv_goto (tgt := 4) hx hb dX0_postBits_36 (by decide) ?_
          exact ih4 (i + 1) (by omega) (by omega) _ _ hP hS ls (lv_sub hl [0, 1, 2] rfl)
        · have hq17 := g_ip1 h17
          refine lv_iload_n hx hb dX0_postBits_20 rfl (lv_at hl 1 rfl) ?_
          refine lv_iconst (v := nI 1) hx hb dX0_postBits_21 (by decide) ?_
          refine lv_aload_n hx hb dX0_postBits_22 rfl (lv_at hl 2 rfl) ?_
          refine g_get hx hb hts hE hown hP g_inX0 rfl (by decide) h10 0 (by decide) rfl wf_X0_9 (v := .ref (ad_ D 11)) rfl dX0_postBits_23 ?_
          refine lv_iload_n hx hb dX0_postBits_26 rfl (lv_at hl 0 rfl) ?_
          refine g_callN0 (y := yX2_read) (n := 2) (As := [.ref (ad_ D 11), .int (nI i)]) (rest := [.int (nI 1), .int (pb_ (T 0) i)]) hx hb hml hown hts hE hZ hP hS hl.1 (m_X2_read l D hAD σ 11 95 (T 0) (nI i) (by decide) (by decide) h11) k_X0_56 rfl rfl ⟨rfl, rfl⟩ ⟨Nat.le_of_ble_eq_true rfl, Nat.le_of_ble_eq_true rfl⟩ (Nat.le_of_ble_eq_true rfl) ⟨Nat.le_of_ble_eq_true rfl, Nat.le_of_ble_eq_true rfl⟩ dX0_postBits_27 (fun v4 σ_5 H locs hq hP hS => ?_)
          obtain ⟨rfl, rfl⟩ := hq
          refine W.eq (g2 := F0 m 30 ls [.int (rd_ (T 0) 95 (nI i)), .int (nI 1), .int (pb_ (T 0) i)]) rfl ?_
          refine g_top (y := T 0 i) (rd_in (by omega) (by decide)) ?_
          refine lv_ishl hx hb dX0_postBits_30 ?_
          refine lv_ior hx hb dX0_postBits_31 ?_
          refine lv_istore_n (lv' := [(1, .int ((pb_ (T 0) i) ||| ((nI 1) <<< ((T 0 i) &&& 31)))), (2, .int (nI i)), (0, .ref (ad_ D 10))]) hx hb dX0_postBits_32 rfl hl (by decide) rfl (fun ls hl => ?_)
          have hfx6 : ((pb_ (T 0) i) ||| ((nI 1) <<< ((T 0 i) &&& 31))) = pb_ (T 0) (i + 1) := by rw [pb_, if_neg hq17]; rfl
          rw [hfx6] at hl
          refine lv_iinc (v := nI (i + 1)) (lv' := [(2, .int (nI (i + 1))), (1, .int (pb_ (T 0) (i + 1))), (0, .ref (ad_ D 10))]) hx hb dX0_postBits_33 hl (k := 1) rfl (g_inc i) (by decide) rfl (fun ls hl => ?_)
          refine lv_goto (tgt := 4) hx hb dX0_postBits_36 (by decide) ?_
          exact ih4 (i + 1) (by omega) (by omega) _ _ hP hS ls (lv_sub hl [0, 1, 2] rfl)
  exact K4 ((sz - 0) + 1) 0 (Nat.lt_succ_self _) (Nat.zero_le _) _ _ hP hS ls (lv_sub hl [0, 1, 2] rfl)

abbrev m_X0_longestPath_rm : Room := { frames := 9, cells := 0, slots := 0, locals := 221 }
set_option maxHeartbeats 4000000 in
set_option maxRecDepth 100000 in
theorem m_X0_longestPath (l : Launch) (D : va_G) (hAD : g_AD D) (σ : Nat → va_E) (sz : Nat) (T : Nat → Nat → Int32) (hG : g_S D σ sz T)   : g_M l D yX0_longestPath cX0_longestPath 3 (some .int) m_X0_longestPath_rm [.ref (ad_ D 10)] σ (fun v1 σ1 => v1 = some (.int (lg_ (T 7) sz)) ∧ σ = σ1) := by
  refine g_ofW [(0, .ref (ad_ D 10))] (by decide +kernel) (Nat.le_of_ble_eq_true rfl) rfl ?_
  intro p e s m args below meth c hx hb hr hml hown hlocks hts hE hZ hP hS hnm ls hl
  have hown : s.vm.findClass RX0 = some m.cls := hown
  generalize hQ : MQ _ _ _ _ _ _ _ = Q
  obtain ⟨h10, h11, h12, h13, h14, h15, h16, h17, h18, h19, hsz⟩ := id hG
  refine lv_iconst (v := nI 0) hx hb dX0_longestPath_0 (by decide) ?_
  refine lv_istore_n (lv' := [(1, .int (nI 0)), (0, .ref (ad_ D 10))]) hx hb dX0_longestPath_1 rfl hl (by decide) rfl (fun ls hl => ?_)
  refine lv_iconst (v := nI 0) hx hb dX0_longestPath_2 (by decide) ?_
  refine lv_istore_n (lv' := [(2, .int (nI 0)), (1, .int (nI 0)), (0, .ref (ad_ D 10))]) hx hb dX0_longestPath_3 rfl hl (by decide) rfl (fun ls hl => ?_)
  have K4 : ∀ (fuel4 : Nat) (i : Nat), (sz - i) < fuel4 → (i ≤ sz) → ∀ (H : Heap) (locs : List Loc), va_P D vwCl (g_W D σ) H → va_S (g_A D s.heap.size) s.heap H locs → ∀ ls : Array Slot, lv_has ls 3 [(2, .int (nI i)), (1, .int (lg_ (T 7) i)), (0, .ref (ad_ D 10))] → W p l e m_X0_longestPath_rm s m args below meth c H locs 0 0 Q (F0 m 4 ls []) := by
    intro fuel4
    induction fuel4 with
    | zero => intro i hf; exact absurd hf (Nat.not_lt_zero _)
    | succ fuel4 ih4 =>
      intro i hf4 hi H locs hP hS ls hl
      refine lv_iload_n hx hb dX0_longestPath_4 rfl (lv_at hl 0 rfl) ?_
      refine lv_aload_n hx hb dX0_longestPath_5 rfl (lv_at hl 2 rfl) ?_
      refine g_get hx hb hts hE hown hP g_inX0 rfl (by decide) h10 9 (by decide) rfl wf_X0_39 (v := .int (nI sz)) rfl dX0_longestPath_6 ?_
      refine lv_icmp_ge (tgt := 31) hx hb dX0_longestPath_9 (by decide) (fun h9 => ?_) (fun h9 => ?_)
      · have hb9 := g_le (a := sz) (b := i) h9 (by omega) (by omega)
        have hi2 : i = sz := by omega
        refine lv_iload_n hx hb dX0_longestPath_31 rfl (lv_at hl 1 rfl) ?_
        rw [← hQ]
        exact W.iret (v := lg_ (T 7) i) hx hb hr (fun te9 hte9 _ => g_fin (⟨by rw [← hi2], rfl⟩) hP hS hte9) hS.2.2 dX0_longestPath_32 hlocks
      · have hb9 := g_nle (a := sz) (b := i) h9 (by omega) (by omega)
        refine lv_iload_n hx hb dX0_longestPath_12 rfl (lv_at hl 1 rfl) ?_
        refine lv_aload_n hx hb dX0_longestPath_13 rfl (lv_at hl 2 rfl) ?_
        refine g_get hx hb hts hE hown hP g_inX0 rfl (by decide) h10 7 (by decide) rfl wf_X0_33 (v := .ref (ad_ D 18)) rfl dX0_longestPath_14 ?_
        refine lv_iload_n hx hb dX0_longestPath_17 rfl (lv_at hl 0 rfl) ?_
        refine g_callN0 (y := yX2_read) (n := 2) (As := [.ref (ad_ D 18), .int (nI i)]) (rest := [.int (lg_ (T 7) i)]) hx hb hml hown hts hE hZ hP hS hl.1 (m_X2_read l D hAD σ 18 95 (T 7) (nI i) (by decide) (by decide) h18) k_X0_56 rfl rfl ⟨rfl, rfl⟩ ⟨Nat.le_of_ble_eq_true rfl, Nat.le_of_ble_eq_true rfl⟩ (Nat.le_of_ble_eq_true rfl) ⟨Nat.le_of_ble_eq_true rfl, Nat.le_of_ble_eq_true rfl⟩ dX0_longestPath_18 (fun v1 σ_2 H locs hq hP hS => ?_)
        obtain ⟨rfl, rfl⟩ := hq
        refine W.eq (g2 := F0 m 21 ls [.int (rd_ (T 7) 95 (nI i)), .int (lg_ (T 7) i)]) rfl ?_
        refine g_top (y := T 7 i) (rd_in (by omega) (by decide)) ?_
        refine g_mmax hx hb (hml.trans hl.1.symm) hown hts k_X0_72 k_max ⟨Nat.le_of_ble_eq_true rfl, Nat.le_of_ble_eq_true rfl, by omega, by omega⟩ dX0_longestPath_21 ?_
        refine lv_istore_n (lv' := [(1, .int (if lg_ (T 7) i < T 7 i then T 7 i else lg_ (T 7) i)), (2, .int (nI i)), (0, .ref (ad_ D 10))]) hx hb dX0_longestPath_24 rfl hl (by decide) rfl (fun ls hl => ?_)
        refine lv_iinc (v := nI (i + 1)) (lv' := [(2, .int (nI (i + 1))), (1, .int (if lg_ (T 7) i < T 7 i then T 7 i else lg_ (T 7) i)), (0, .ref (ad_ D 10))]) hx hb dX0_longestPath_25 hl (k := 1) rfl (g_inc i) (by decide) rfl (fun ls hl => ?_)
        refine lv_goto (tgt := 4) hx hb dX0_longestPath_28 (by decide) ?_
        exact ih4 (i + 1) (by omega) (by omega) _ _ hP hS ls (lv_sub hl [0, 1, 2] rfl)
  exact K4 ((sz - 0) + 1) 0 (Nat.lt_succ_self _) (Nat.zero_le _) _ _ hP hS ls (lv_sub hl [0, 1, 2] rfl)

abbrev m_X0_addedPaths_rm : Room := { frames := 10, cells := 0, slots := 0, locals := 242 }
set_option maxHeartbeats 4000000 in
set_option maxRecDepth 100000 in
theorem m_X0_addedPaths (l : Launch) (D : va_G) (hAD : g_AD D) (σ : Nat → va_E) (sz : Nat) (T : Nat → Nat → Int32) (hG : g_S D σ sz T)   : g_M l D yX0_addedPaths cX0_addedPaths 3 (some .int) m_X0_addedPaths_rm [.ref (ad_ D 10)] σ (fun v1 σ1 => v1 = some (.int (ap_ (T 0) (T 7) sz)) ∧ σ = σ1) := by
  refine g_ofW [(0, .ref (ad_ D 10))] (by decide +kernel) (Nat.le_of_ble_eq_true rfl) rfl ?_
  intro p e s m args below meth c hx hb hr hml hown hlocks hts hE hZ hP hS hnm ls hl
  have hown : s.vm.findClass RX0 = some m.cls := hown
  generalize hQ : MQ _ _ _ _ _ _ _ = Q
  obtain ⟨h10, h11, h12, h13, h14, h15, h16, h17, h18, h19, hsz⟩ := id hG
  refine lv_iconst (v := nI 0) hx hb dX0_addedPaths_0 (by decide) ?_
  refine lv_istore_n (lv' := [(1, .int (nI 0)), (0, .ref (ad_ D 10))]) hx hb dX0_addedPaths_1 rfl hl (by decide) rfl (fun ls hl => ?_)
  refine lv_iconst (v := nI 0) hx hb dX0_addedPaths_2 (by decide) ?_
  refine lv_istore_n (lv' := [(2, .int (nI 0)), (1, .int (nI 0)), (0, .ref (ad_ D 10))]) hx hb dX0_addedPaths_3 rfl hl (by decide) rfl (fun ls hl => ?_)
  have K4 : ∀ (fuel4 : Nat) (i : Nat), (sz - i) < fuel4 → (i ≤ sz) → ∀ (H : Heap) (locs : List Loc), va_P D vwCl (g_W D σ) H → va_S (g_A D s.heap.size) s.heap H locs → ∀ ls : Array Slot, lv_has ls 3 [(2, .int (nI i)), (1, .int (ap_ (T 0) (T 7) i)), (0, .ref (ad_ D 10))] → W p l e m_X0_addedPaths_rm s m args below meth c H locs 0 0 Q (F0 m 4 ls []) := by
    intro fuel4
    induction fuel4 with
    | zero => intro i hf; exact absurd hf (Nat.not_lt_zero _)
    | succ fuel4 ih4 =>
      intro i hf4 hi H locs hP hS ls hl
      refine lv_iload_n hx hb dX0_addedPaths_4 rfl (lv_at hl 0 rfl) ?_
      refine lv_aload_n hx hb dX0_addedPaths_5 rfl (lv_at hl 2 rfl) ?_
      refine g_get hx hb hts hE hown hP g_inX0 rfl (by decide) h10 9 (by decide) rfl wf_X0_39 (v := .int (nI sz)) rfl dX0_addedPaths_6 ?_
      refine lv_icmp_ge (tgt := 37) hx hb dX0_addedPaths_9 (by decide) (fun h9 => ?_) (fun h9 => ?_)
      · have hb9 := g_le (a := sz) (b := i) h9 (by omega) (by omega)
        have hi2 : i = sz := by omega
        refine lv_iload_n hx hb dX0_addedPaths_37 rfl (lv_at hl 1 rfl) ?_
        rw [← hQ]
        exact W.iret (v := ap_ (T 0) (T 7) i) hx hb hr (fun te9 hte9 _ => g_fin (⟨by rw [← hi2], rfl⟩) hP hS hte9) hS.2.2 dX0_addedPaths_38 hlocks
      · have hb9 := g_nle (a := sz) (b := i) h9 (by omega) (by omega)
        refine lv_aload_n hx hb dX0_addedPaths_12 rfl (lv_at hl 2 rfl) ?_
        refine lv_iload_n hx hb dX0_addedPaths_13 rfl (lv_at hl 0 rfl) ?_
        refine g_callV0 (y := yX0_isPost) (n := 1) (As := [.int (nI i)]) (rest := []) hx hb hml hown hts hE hZ hP hS hl.1 (m_X0_isPost l D hAD σ sz T hG i (by omega)) k_X0_68 (ci := 0) (by decide) hG.1 rfl rfl rfl rfl rfl ⟨rfl, rfl⟩ ⟨Nat.le_of_ble_eq_true rfl, Nat.le_of_ble_eq_true rfl⟩ (Nat.le_of_ble_eq_true rfl) ⟨Nat.le_of_ble_eq_true rfl, Nat.le_of_ble_eq_true rfl⟩ dX0_addedPaths_14 (fun v1 σ_2 H locs hq hP hS => ?_)
        obtain ⟨rfl, rfl⟩ := hq
        refine W.eq (g2 := F0 m 17 ls [.int (if T 0 i = -1 then 0 else 1)]) rfl ?_
        refine lv_if_ne (tgt := 31) hx hb dX0_addedPaths_17 (by decide) (fun h17 => ?_) (fun h17 => ?_)
        · have hq17 := g_ip1 h17
          have hfx3 : (ap_ (T 0) (T 7) i) = ap_ (T 0) (T 7) (i + 1) := by rw [ap_, if_neg hq17]
          rw [hfx3] at hl
          refine lv_iinc (v := nI (i + 1)) (lv' := [(2, .int (nI (i + 1))), (1, .int (ap_ (T 0) (T 7) (i + 1))), (0, .ref (ad_ D 10))]) hx hb dX0_addedPaths_31 hl (k := 0) rfl (g_inc i) (by decide) rfl (fun ls hl => ?_)
          refine lv_goto (tgt := 4) hx hb dX0_addedPaths_34 (by decide) ?_
          exact ih4 (i + 1) (by omega) (by omega) _ _ hP hS ls (lv_sub hl [0, 1, 2] rfl)
        · have hq17 := g_ip0 h17
          refine lv_iload_n hx hb dX0_addedPaths_20 rfl (lv_at hl 1 rfl) ?_
          refine lv_aload_n hx hb dX0_addedPaths_21 rfl (lv_at hl 2 rfl) ?_
          refine g_get hx hb hts hE hown hP g_inX0 rfl (by decide) h10 7 (by decide) rfl wf_X0_33 (v := .ref (ad_ D 18)) rfl dX0_addedPaths_22 ?_
          refine lv_iload_n hx hb dX0_addedPaths_25 rfl (lv_at hl 0 rfl) ?_
          refine g_callN0 (y := yX2_read) (n := 2) (As := [.ref (ad_ D 18), .int (nI i)]) (rest := [.int (ap_ (T 0) (T 7) i)]) hx hb hml hown hts hE hZ hP hS hl.1 (m_X2_read l D hAD σ 18 95 (T 7) (nI i) (by decide) (by decide) h18) k_X0_56 rfl rfl ⟨rfl, rfl⟩ ⟨Nat.le_of_ble_eq_true rfl, Nat.le_of_ble_eq_true rfl⟩ (Nat.le_of_ble_eq_true rfl) ⟨Nat.le_of_ble_eq_true rfl, Nat.le_of_ble_eq_true rfl⟩ dX0_addedPaths_26 (fun v4 σ_5 H locs hq hP hS => ?_)
          obtain ⟨rfl, rfl⟩ := hq
          refine W.eq (g2 := F0 m 29 ls [.int (rd_ (T 7) 95 (nI i)), .int (ap_ (T 0) (T 7) i)]) rfl ?_
          refine g_top (y := T 7 i) (rd_in (by omega) (by decide)) ?_
          refine lv_iadd hx hb dX0_addedPaths_29 ?_
          refine lv_istore_n (lv' := [(1, .int ((ap_ (T 0) (T 7) i) + (T 7 i))), (2, .int (nI i)), (0, .ref (ad_ D 10))]) hx hb dX0_addedPaths_30 rfl hl (by decide) rfl (fun ls hl => ?_)
          have hfx6 : ((ap_ (T 0) (T 7) i) + (T 7 i)) = ap_ (T 0) (T 7) (i + 1) := by rw [ap_, if_pos hq17]
          rw [hfx6] at hl
          refine lv_iinc (v := nI (i + 1)) (lv' := [(2, .int (nI (i + 1))), (1, .int (ap_ (T 0) (T 7) (i + 1))), (0, .ref (ad_ D 10))]) hx hb dX0_addedPaths_31 hl (k := 1) rfl (g_inc i) (by decide) rfl (fun ls hl => ?_)
          refine lv_goto (tgt := 4) hx hb dX0_addedPaths_34 (by decide) ?_
          exact ih4 (i + 1) (by omega) (by omega) _ _ hP hS ls (lv_sub hl [0, 1, 2] rfl)
  exact K4 ((sz - 0) + 1) 0 (Nat.lt_succ_self _) (Nat.zero_le _) _ _ hP hS ls (lv_sub hl [0, 1, 2] rfl)


abbrev m_X0_tell_rm : Room := { frames := 9, cells := 0, slots := 0, locals := 221 }
set_option maxHeartbeats 4000000 in
set_option maxRecDepth 100000 in
theorem m_X0_tell (l : Launch) (D : va_G) (hAD : g_AD D) (σ : Nat → va_E) (sz : Nat) (T : Nat → Nat → Int32) (hG : g_S D σ sz T) (p9 w9 : Nat) (hp : p9 < 95) (hw : w9 ≤ 6) : g_M l D yX0_tell cX0_tell 3 (some .int) m_X0_tell_rm [.ref (ad_ D 10), .int (nI p9), .int (nI w9)] σ (fun v1 σ1 => v1 = some (.int (tel_ T w9 p9)) ∧ σ = σ1) := by
  refine g_ofW [(0, .ref (ad_ D 10)), (1, .int (nI p9)), (2, .int (nI w9))] (by decide +kernel) (Nat.le_of_ble_eq_true rfl) rfl ?_
  intro p e s m args below meth c hx hb hr hml hown hlocks hts hE hZ hP hS hnm ls hl
  have hown : s.vm.findClass RX0 = some m.cls := hown
  generalize hQ : MQ _ _ _ _ _ _ _ = Q
  obtain ⟨h10, h11, h12, h13, h14, h15, h16, h17, h18, h19, hsz⟩ := id hG
  refine lv_iload_n hx hb dX0_tell_0 rfl (lv_at hl 2 rfl) ?_
  rcases (show w9 = 0 ∨ w9 = 1 ∨ w9 = 2 ∨ w9 = 3 ∨ w9 = 4 ∨ w9 = 5 ∨ w9 = 6 by omega) with rfl | rfl | rfl | rfl | rfl | rfl | rfl
  · refine lv_tableIn (x := nI 0) (off := 39) (tgt := 40) hx hb dX0_tell_1 (by decide) (by decide) rfl (by decide) ?_
    refine lv_aload_n hx hb dX0_tell_40 rfl (lv_at hl 0 rfl) ?_
    refine g_get hx hb hts hE hown hP g_inX0 rfl (by decide) h10 0 (by decide) rfl wf_X0_9 (v := .ref (ad_ D 11)) rfl dX0_tell_41 ?_
    refine lv_iload_n hx hb dX0_tell_44 rfl (lv_at hl 1 rfl) ?_
    refine g_callN0 (y := yX2_read) (n := 2) (As := [.ref (ad_ D 11), .int (nI p9)]) (rest := []) hx hb hml hown hts hE hZ hP hS hl.1 (m_X2_read l D hAD σ 11 95 (T 0) (nI p9) (by decide) (by decide) h11) k_X0_56 rfl rfl ⟨rfl, rfl⟩ ⟨Nat.le_of_ble_eq_true rfl, Nat.le_of_ble_eq_true rfl⟩ (Nat.le_of_ble_eq_true rfl) ⟨Nat.le_of_ble_eq_true rfl, Nat.le_of_ble_eq_true rfl⟩ dX0_tell_45 (fun v1 σ_2 H locs hq hP hS => ?_)
    obtain ⟨rfl, rfl⟩ := hq
    refine W.eq (g2 := F0 m 48 ls [.int (rd_ (T 0) 95 (nI p9))]) rfl ?_
    refine g_top (y := T 0 p9) (rd_in (by omega) (by decide)) ?_
    rw [← hQ]
    exact W.iret (v := T 0 p9) hx hb hr (fun te9 hte9 _ => g_fin (⟨rfl, rfl⟩) hP hS hte9) hS.2.2 dX0_tell_48 hlocks
  · refine lv_tableIn (x := nI 1) (off := 48) (tgt := 49) hx hb dX0_tell_1 (by decide) (by decide) rfl (by decide) ?_
    refine lv_aload_n hx hb dX0_tell_49 rfl (lv_at hl 0 rfl) ?_
    refine g_get hx hb hts hE hown hP g_inX0 rfl (by decide) h10 2 (by decide) rfl wf_X0_18 (v := .ref (ad_ D 13)) rfl dX0_tell_50 ?_
    refine lv_iload_n hx hb dX0_tell_53 rfl (lv_at hl 1 rfl) ?_
    refine g_callN0 (y := yX2_read) (n := 2) (As := [.ref (ad_ D 13), .int (nI p9)]) (rest := []) hx hb hml hown hts hE hZ hP hS hl.1 (m_X2_read l D hAD σ 13 95 (T 2) (nI p9) (by decide) (by decide) h13) k_X0_56 rfl rfl ⟨rfl, rfl⟩ ⟨Nat.le_of_ble_eq_true rfl, Nat.le_of_ble_eq_true rfl⟩ (Nat.le_of_ble_eq_true rfl) ⟨Nat.le_of_ble_eq_true rfl, Nat.le_of_ble_eq_true rfl⟩ dX0_tell_54 (fun v3 σ_4 H locs hq hP hS => ?_)
    obtain ⟨rfl, rfl⟩ := hq
    refine W.eq (g2 := F0 m 57 ls [.int (rd_ (T 2) 95 (nI p9))]) rfl ?_
    refine g_top (y := T 2 p9) (rd_in (by omega) (by decide)) ?_
    rw [← hQ]
    exact W.iret (v := T 2 p9) hx hb hr (fun te9 hte9 _ => g_fin (⟨rfl, rfl⟩) hP hS hte9) hS.2.2 dX0_tell_57 hlocks
  · refine lv_tableIn (x := nI 2) (off := 57) (tgt := 58) hx hb dX0_tell_1 (by decide) (by decide) rfl (by decide) ?_
    refine lv_aload_n hx hb dX0_tell_58 rfl (lv_at hl 0 rfl) ?_
    refine g_get hx hb hts hE hown hP g_inX0 rfl (by decide) h10 3 (by decide) rfl wf_X0_21 (v := .ref (ad_ D 14)) rfl dX0_tell_59 ?_
    refine lv_iload_n hx hb dX0_tell_62 rfl (lv_at hl 1 rfl) ?_
    refine g_callN0 (y := yX2_read) (n := 2) (As := [.ref (ad_ D 14), .int (nI p9)]) (rest := []) hx hb hml hown hts hE hZ hP hS hl.1 (m_X2_read l D hAD σ 14 95 (T 3) (nI p9) (by decide) (by decide) h14) k_X0_56 rfl rfl ⟨rfl, rfl⟩ ⟨Nat.le_of_ble_eq_true rfl, Nat.le_of_ble_eq_true rfl⟩ (Nat.le_of_ble_eq_true rfl) ⟨Nat.le_of_ble_eq_true rfl, Nat.le_of_ble_eq_true rfl⟩ dX0_tell_63 (fun v5 σ_6 H locs hq hP hS => ?_)
    obtain ⟨rfl, rfl⟩ := hq
    refine W.eq (g2 := F0 m 66 ls [.int (rd_ (T 3) 95 (nI p9))]) rfl ?_
    refine g_top (y := T 3 p9) (rd_in (by omega) (by decide)) ?_
    rw [← hQ]
    exact W.iret (v := T 3 p9) hx hb hr (fun te9 hte9 _ => g_fin (⟨rfl, rfl⟩) hP hS hte9) hS.2.2 dX0_tell_66 hlocks
  · refine lv_tableIn (x := nI 3) (off := 66) (tgt := 67) hx hb dX0_tell_1 (by decide) (by decide) rfl (by decide) ?_
    refine lv_aload_n hx hb dX0_tell_67 rfl (lv_at hl 0 rfl) ?_
    refine g_get hx hb hts hE hown hP g_inX0 rfl (by decide) h10 4 (by decide) rfl wf_X0_24 (v := .ref (ad_ D 15)) rfl dX0_tell_68 ?_
    refine lv_iload_n hx hb dX0_tell_71 rfl (lv_at hl 1 rfl) ?_
    refine g_callN0 (y := yX2_read) (n := 2) (As := [.ref (ad_ D 15), .int (nI p9)]) (rest := []) hx hb hml hown hts hE hZ hP hS hl.1 (m_X2_read l D hAD σ 15 95 (T 4) (nI p9) (by decide) (by decide) h15) k_X0_56 rfl rfl ⟨rfl, rfl⟩ ⟨Nat.le_of_ble_eq_true rfl, Nat.le_of_ble_eq_true rfl⟩ (Nat.le_of_ble_eq_true rfl) ⟨Nat.le_of_ble_eq_true rfl, Nat.le_of_ble_eq_true rfl⟩ dX0_tell_72 (fun v7 σ_8 H locs hq hP hS => ?_)
    obtain ⟨rfl, rfl⟩ := hq
    refine W.eq (g2 := F0 m 75 ls [.int (rd_ (T 4) 95 (nI p9))]) rfl ?_
    refine g_top (y := T 4 p9) (rd_in (by omega) (by decide)) ?_
    rw [← hQ]
    exact W.iret (v := T 4 p9) hx hb hr (fun te9 hte9 _ => g_fin (⟨rfl, rfl⟩) hP hS hte9) hS.2.2 dX0_tell_75 hlocks
  · refine lv_tableIn (x := nI 4) (off := 75) (tgt := 76) hx hb dX0_tell_1 (by decide) (by decide) rfl (by decide) ?_
    refine lv_aload_n hx hb dX0_tell_76 rfl (lv_at hl 0 rfl) ?_
    refine g_get hx hb hts hE hown hP g_inX0 rfl (by decide) h10 5 (by decide) rfl wf_X0_27 (v := .ref (ad_ D 16)) rfl dX0_tell_77 ?_
    refine lv_iload_n hx hb dX0_tell_80 rfl (lv_at hl 1 rfl) ?_
    refine g_callN0 (y := yX2_read) (n := 2) (As := [.ref (ad_ D 16), .int (nI p9)]) (rest := []) hx hb hml hown hts hE hZ hP hS hl.1 (m_X2_read l D hAD σ 16 95 (T 5) (nI p9) (by decide) (by decide) h16) k_X0_56 rfl rfl ⟨rfl, rfl⟩ ⟨Nat.le_of_ble_eq_true rfl, Nat.le_of_ble_eq_true rfl⟩ (Nat.le_of_ble_eq_true rfl) ⟨Nat.le_of_ble_eq_true rfl, Nat.le_of_ble_eq_true rfl⟩ dX0_tell_81 (fun v9 σ_10 H locs hq hP hS => ?_)
    obtain ⟨rfl, rfl⟩ := hq
    refine W.eq (g2 := F0 m 84 ls [.int (rd_ (T 5) 95 (nI p9))]) rfl ?_
    refine g_top (y := T 5 p9) (rd_in (by omega) (by decide)) ?_
    rw [← hQ]
    exact W.iret (v := T 5 p9) hx hb hr (fun te9 hte9 _ => g_fin (⟨rfl, rfl⟩) hP hS hte9) hS.2.2 dX0_tell_84 hlocks
  · refine lv_tableIn (x := nI 5) (off := 84) (tgt := 85) hx hb dX0_tell_1 (by decide) (by decide) rfl (by decide) ?_
    refine lv_aload_n hx hb dX0_tell_85 rfl (lv_at hl 0 rfl) ?_
    refine g_get hx hb hts hE hown hP g_inX0 rfl (by decide) h10 6 (by decide) rfl wf_X0_30 (v := .ref (ad_ D 17)) rfl dX0_tell_86 ?_
    refine lv_iload_n hx hb dX0_tell_89 rfl (lv_at hl 1 rfl) ?_
    refine g_callN0 (y := yX2_read) (n := 2) (As := [.ref (ad_ D 17), .int (nI p9)]) (rest := []) hx hb hml hown hts hE hZ hP hS hl.1 (m_X2_read l D hAD σ 17 95 (T 6) (nI p9) (by decide) (by decide) h17) k_X0_56 rfl rfl ⟨rfl, rfl⟩ ⟨Nat.le_of_ble_eq_true rfl, Nat.le_of_ble_eq_true rfl⟩ (Nat.le_of_ble_eq_true rfl) ⟨Nat.le_of_ble_eq_true rfl, Nat.le_of_ble_eq_true rfl⟩ dX0_tell_90 (fun v11 σ_12 H locs hq hP hS => ?_)
    obtain ⟨rfl, rfl⟩ := hq
    refine W.eq (g2 := F0 m 93 ls [.int (rd_ (T 6) 95 (nI p9))]) rfl ?_
    refine g_top (y := T 6 p9) (rd_in (by omega) (by decide)) ?_
    rw [← hQ]
    exact W.iret (v := T 6 p9) hx hb hr (fun te9 hte9 _ => g_fin (⟨rfl, rfl⟩) hP hS hte9) hS.2.2 dX0_tell_93 hlocks
  · refine lv_tableOut (x := nI 6) (tgt := 94) hx hb dX0_tell_1 (by decide) (by decide) ?_
    refine lv_aload_n hx hb dX0_tell_94 rfl (lv_at hl 0 rfl) ?_
    refine g_get hx hb hts hE hown hP g_inX0 rfl (by decide) h10 7 (by decide) rfl wf_X0_33 (v := .ref (ad_ D 18)) rfl dX0_tell_95 ?_
    refine lv_iload_n hx hb dX0_tell_98 rfl (lv_at hl 1 rfl) ?_
    refine g_callN0 (y := yX2_read) (n := 2) (As := [.ref (ad_ D 18), .int (nI p9)]) (rest := []) hx hb hml hown hts hE hZ hP hS hl.1 (m_X2_read l D hAD σ 18 95 (T 7) (nI p9) (by decide) (by decide) h18) k_X0_56 rfl rfl ⟨rfl, rfl⟩ ⟨Nat.le_of_ble_eq_true rfl, Nat.le_of_ble_eq_true rfl⟩ (Nat.le_of_ble_eq_true rfl) ⟨Nat.le_of_ble_eq_true rfl, Nat.le_of_ble_eq_true rfl⟩ dX0_tell_99 (fun v13 σ_14 H locs hq hP hS => ?_)
    obtain ⟨rfl, rfl⟩ := hq
    refine W.eq (g2 := F0 m 102 ls [.int (rd_ (T 7) 95 (nI p9))]) rfl ?_
    refine g_top (y := T 7 p9) (rd_in (by omega) (by decide)) ?_
    rw [← hQ]
    exact W.iret (v := T 7 p9) hx hb hr (fun te9 hte9 _ => g_fin (⟨rfl, rfl⟩) hP hS hte9) hS.2.2 dX0_tell_102 hlocks

abbrev m_X0_placeBy_rm : Room := { frames := 10, cells := 0, slots := 0, locals := 242 }
set_option maxHeartbeats 4000000 in
set_option maxRecDepth 100000 in
theorem m_X0_placeBy (l : Launch) (D : va_G) (hAD : g_AD D) (σ : Nat → va_E) (sz : Nat) (T : Nat → Nat → Int32) (hG : g_S D σ sz T) (x9 : Int32) (h0z : 0 < sz) (hch : ch_ sz T) : g_M l D yX0_placeBy cX0_placeBy 5 (some .int) m_X0_placeBy_rm [.ref (ad_ D 10), .int x9] σ (fun v1 σ1 => v1 = some (.int (nI (wk_ T x9 16 0))) ∧ σ = σ1) := by
  refine g_ofW [(0, .ref (ad_ D 10)), (1, .int x9)] (by decide +kernel) (Nat.le_of_ble_eq_true rfl) rfl ?_
  intro p e s m args below meth c hx hb hr hml hown hlocks hts hE hZ hP hS hnm ls hl
  have hown : s.vm.findClass RX0 = some m.cls := hown
  generalize hQ : MQ _ _ _ _ _ _ _ = Q
  obtain ⟨h10, h11, h12, h13, h14, h15, h16, h17, h18, h19, hsz⟩ := id hG
  refine lv_iconst (v := nI 0) hx hb dX0_placeBy_0 (by decide) ?_
  refine lv_istore_n (lv' := [(2, .int (nI 0)), (0, .ref (ad_ D 10)), (1, .int x9)]) hx hb dX0_placeBy_1 rfl hl (by decide) rfl (fun ls hl => ?_)
  refine lv_iconst (v := nI 0) hx hb dX0_placeBy_2 (by decide) ?_
  refine lv_istore_n (lv' := [(3, .int (nI 0)), (2, .int (nI 0)), (0, .ref (ad_ D 10)), (1, .int x9)]) hx hb dX0_placeBy_3 rfl hl (by decide) rfl (fun ls hl => ?_)
  have K4 : ∀ (fuel4 : Nat) (k9 p9 : Nat), (16 - k9) < fuel4 → (k9 ≤ 16) → (p9 < sz) → (wk_ T x9 (16 - k9) p9 = wk_ T x9 16 0) → ∀ (H : Heap) (locs : List Loc), va_P D vwCl (g_W D σ) H → va_S (g_A D s.heap.size) s.heap H locs → ∀ ls : Array Slot, lv_has ls 5 [(3, .int (nI k9)), (2, .int (nI p9)), (0, .ref (ad_ D 10)), (1, .int x9)] → W p l e m_X0_placeBy_rm s m args below meth c H locs 0 0 Q (F0 m 4 ls []) := by
    intro fuel4
    induction fuel4 with
    | zero => intro k9 p9 hf; exact absurd hf (Nat.not_lt_zero _)
    | succ fuel4 ih4 =>
      intro k9 p9 hf4 hk hp hI H locs hP hS ls hl
      refine lv_iload_n hx hb dX0_placeBy_4 rfl (lv_at hl 0 rfl) ?_
      refine lv_bipush (v := nI 16) hx hb dX0_placeBy_5 (by decide) ?_
      refine lv_icmp_ge (tgt := 63) hx hb dX0_placeBy_7 (by decide) (fun h7 => ?_) (fun h7 => ?_)
      · have hb7 := g_le (a := 16) (b := k9) h7 (by omega) (by omega)
        refine lv_iload_n hx hb dX0_placeBy_63 rfl (lv_at hl 1 rfl) ?_
        rw [← hQ]
        exact W.iret (v := nI p9) hx hb hr (fun te9 hte9 _ => g_fin (⟨by first | rw [← hI, wk_leaf hq15] | (rw [← hI, show 16 - k9 = 0 by omega]; rfl), rfl⟩) hP hS hte9) hS.2.2 dX0_placeBy_64 hlocks
      · have hb7 := g_nle (a := 16) (b := k9) h7 (by omega) (by omega)
        refine lv_aload_n hx hb dX0_placeBy_10 rfl (lv_at hl 2 rfl) ?_
        refine lv_iload_n hx hb dX0_placeBy_11 rfl (lv_at hl 1 rfl) ?_
        refine g_callV0 (y := yX0_isPost) (n := 1) (As := [.int (nI p9)]) (rest := []) hx hb hml hown hts hE hZ hP hS hl.1 (m_X0_isPost l D hAD σ sz T hG p9 (by omega)) k_X0_68 (ci := 0) (by decide) hG.1 rfl rfl rfl rfl rfl ⟨rfl, rfl⟩ ⟨Nat.le_of_ble_eq_true rfl, Nat.le_of_ble_eq_true rfl⟩ (Nat.le_of_ble_eq_true rfl) ⟨Nat.le_of_ble_eq_true rfl, Nat.le_of_ble_eq_true rfl⟩ dX0_placeBy_12 (fun v1 σ_2 H locs hq hP hS => ?_)
        obtain ⟨rfl, rfl⟩ := hq
        refine W.eq (g2 := F0 m 15 ls [.int (if T 0 p9 = -1 then 0 else 1)]) rfl ?_
        refine lv_if_eq (tgt := 63) hx hb dX0_placeBy_15 (by decide) (fun h15 => ?_) (fun h15 => ?_)
        · have hq15 := g_ip0 h15
          refine lv_iload_n hx hb dX0_placeBy_63 rfl (lv_at hl 1 rfl) ?_
          rw [← hQ]
          exact W.iret (v := nI p9) hx hb hr (fun te9 hte9 _ => g_fin (⟨by first | rw [← hI, wk_leaf hq15] | (rw [← hI, show 16 - k9 = 0 by omega]; rfl), rfl⟩) hP hS hte9) hS.2.2 dX0_placeBy_64 hlocks
        · have hq15 := g_ip1 h15
          obtain ⟨l9, r9, e5, e6, b5, b6⟩ := hch p9 hp hq15
          refine lv_iload_n hx hb dX0_placeBy_18 rfl (lv_at hl 3 rfl) ?_
          refine lv_aload_n hx hb dX0_placeBy_19 rfl (lv_at hl 2 rfl) ?_
          refine g_get hx hb hts hE hown hP g_inX0 rfl (by decide) h10 0 (by decide) rfl wf_X0_9 (v := .ref (ad_ D 11)) rfl dX0_placeBy_20 ?_
          refine lv_iload_n hx hb dX0_placeBy_23 rfl (lv_at hl 1 rfl) ?_
          refine g_callN0 (y := yX2_read) (n := 2) (As := [.ref (ad_ D 11), .int (nI p9)]) (rest := [.int x9]) hx hb hml hown hts hE hZ hP hS hl.1 (m_X2_read l D hAD σ 11 95 (T 0) (nI p9) (by decide) (by decide) h11) k_X0_56 rfl rfl ⟨rfl, rfl⟩ ⟨Nat.le_of_ble_eq_true rfl, Nat.le_of_ble_eq_true rfl⟩ (Nat.le_of_ble_eq_true rfl) ⟨Nat.le_of_ble_eq_true rfl, Nat.le_of_ble_eq_true rfl⟩ dX0_placeBy_24 (fun v3 σ_4 H locs hq hP hS => ?_)
          obtain ⟨rfl, rfl⟩ := hq
          refine W.eq (g2 := F0 m 27 ls [.int (rd_ (T 0) 95 (nI p9)), .int x9]) rfl ?_
          refine g_top (y := T 0 p9) (rd_in (by omega) (by decide)) ?_
          refine g_callN0 (y := yX2_hasBit) (n := 2) (As := [.int x9, .int (T 0 p9)]) (rest := []) hx hb hml hown hts hE hZ hP hS hl.1 (m_X2_hasBit l D hAD σ (x9) (T 0 p9)) k_X0_77 rfl rfl ⟨rfl, rfl⟩ ⟨Nat.le_of_ble_eq_true rfl, Nat.le_of_ble_eq_true rfl⟩ (Nat.le_of_ble_eq_true rfl) ⟨Nat.le_of_ble_eq_true rfl, Nat.le_of_ble_eq_true rfl⟩ dX0_placeBy_27 (fun v5 σ_6 H locs hq hP hS => ?_)
          obtain ⟨rfl, rfl⟩ := hq
          refine W.eq (g2 := F0 m 30 ls [.int (if hb_ (x9) (T 0 p9) then 1 else 0)]) rfl ?_
          refine lv_istore (lv' := [(4, .int (if hb_ (x9) (T 0 p9) then 1 else 0)), (3, .int (nI k9)), (2, .int (nI p9)), (0, .ref (ad_ D 10)), (1, .int x9)]) hx hb dX0_placeBy_30 hl (by decide) rfl (fun ls hl => ?_)
          refine lv_iload hx hb dX0_placeBy_32 (lv_at hl 0 rfl) ?_
          refine lv_if_eq (tgt := 48) hx hb dX0_placeBy_34 (by decide) (fun h34 => ?_) (fun h34 => ?_)
          · refine lv_aload_n hx hb dX0_placeBy_48 rfl (lv_at hl 3 rfl) ?_
            refine g_get hx hb hts hE hown hP g_inX0 rfl (by decide) h10 5 (by decide) rfl wf_X0_27 (v := .ref (ad_ D 16)) rfl dX0_placeBy_49 ?_
            refine lv_iload_n hx hb dX0_placeBy_52 rfl (lv_at hl 2 rfl) ?_
            refine g_callN0 (y := yX2_read) (n := 2) (As := [.ref (ad_ D 16), .int (nI p9)]) (rest := []) hx hb hml hown hts hE hZ hP hS hl.1 (m_X2_read l D hAD σ 16 95 (T 5) (nI p9) (by decide) (by decide) h16) k_X0_56 rfl rfl ⟨rfl, rfl⟩ ⟨Nat.le_of_ble_eq_true rfl, Nat.le_of_ble_eq_true rfl⟩ (Nat.le_of_ble_eq_true rfl) ⟨Nat.le_of_ble_eq_true rfl, Nat.le_of_ble_eq_true rfl⟩ dX0_placeBy_53 (fun v7 σ_8 H locs hq hP hS => ?_)
            obtain ⟨rfl, rfl⟩ := hq
            refine W.eq (g2 := F0 m 56 ls [.int (rd_ (T 5) 95 (nI p9))]) rfl ?_
            refine g_top (y := nI l9) ((rd_in (by omega) (by decide)).trans e5) ?_
            refine lv_istore_n (lv' := [(2, .int (nI l9)), (4, .int (if hb_ (x9) (T 0 p9) then 1 else 0)), (3, .int (nI k9)), (0, .ref (ad_ D 10)), (1, .int x9)]) hx hb dX0_placeBy_56 rfl hl (by decide) rfl (fun ls hl => ?_)
            refine lv_iinc (v := nI (k9 + 1)) (lv' := [(3, .int (nI (k9 + 1))), (2, .int (nI l9)), (4, .int (if hb_ (x9) (T 0 p9) then 1 else 0)), (0, .ref (ad_ D 10)), (1, .int x9)]) hx hb dX0_placeBy_57 hl (k := 2) rfl (g_inc k9) (by decide) rfl (fun ls hl => ?_)
            refine lv_goto (tgt := 4) hx hb dX0_placeBy_60 (by decide) ?_
            exact ih4 (k9 + 1) l9 (by omega) (by omega) (by omega) (by rw [← hI, show 16 - k9 = (16 - (k9 + 1)) + 1 by omega, wk_, if_neg hq15, g_hb0 h34, if_neg (by decide), e5, nI_clamp (by omega)]) _ _ hP hS ls (lv_sub hl [0, 1, 3, 4] rfl)
          · refine lv_aload_n hx hb dX0_placeBy_37 rfl (lv_at hl 3 rfl) ?_
            refine g_get hx hb hts hE hown hP g_inX0 rfl (by decide) h10 6 (by decide) rfl wf_X0_30 (v := .ref (ad_ D 17)) rfl dX0_placeBy_38 ?_
            refine lv_iload_n hx hb dX0_placeBy_41 rfl (lv_at hl 2 rfl) ?_
            refine g_callN0 (y := yX2_read) (n := 2) (As := [.ref (ad_ D 17), .int (nI p9)]) (rest := []) hx hb hml hown hts hE hZ hP hS hl.1 (m_X2_read l D hAD σ 17 95 (T 6) (nI p9) (by decide) (by decide) h17) k_X0_56 rfl rfl ⟨rfl, rfl⟩ ⟨Nat.le_of_ble_eq_true rfl, Nat.le_of_ble_eq_true rfl⟩ (Nat.le_of_ble_eq_true rfl) ⟨Nat.le_of_ble_eq_true rfl, Nat.le_of_ble_eq_true rfl⟩ dX0_placeBy_42 (fun v9 σ_10 H locs hq hP hS => ?_)
            obtain ⟨rfl, rfl⟩ := hq
            refine W.eq (g2 := F0 m 45 ls [.int (rd_ (T 6) 95 (nI p9))]) rfl ?_
            refine g_top (y := nI r9) ((rd_in (by omega) (by decide)).trans e6) ?_
            refine lv_goto (tgt := 56) hx hb dX0_placeBy_45 (by decide) ?_
            refine lv_istore_n (lv' := [(2, .int (nI r9)), (4, .int (if hb_ (x9) (T 0 p9) then 1 else 0)), (3, .int (nI k9)), (0, .ref (ad_ D 10)), (1, .int x9)]) hx hb dX0_placeBy_56 rfl hl (by decide) rfl (fun ls hl => ?_)
            refine lv_iinc (v := nI (k9 + 1)) (lv' := [(3, .int (nI (k9 + 1))), (2, .int (nI r9)), (4, .int (if hb_ (x9) (T 0 p9) then 1 else 0)), (0, .ref (ad_ D 10)), (1, .int x9)]) hx hb dX0_placeBy_57 hl (k := 2) rfl (g_inc k9) (by decide) rfl (fun ls hl => ?_)
            refine lv_goto (tgt := 4) hx hb dX0_placeBy_60 (by decide) ?_
            exact ih4 (k9 + 1) r9 (by omega) (by omega) (by omega) (by rw [← hI, show 16 - k9 = (16 - (k9 + 1)) + 1 by omega, wk_, if_neg hq15, g_hb1 h34, if_pos rfl, e6, nI_clamp (by omega)]) _ _ hP hS ls (lv_sub hl [0, 1, 3, 4] rfl)
  exact K4 ((16 - 0) + 1) 0 0 (Nat.lt_succ_self _) (Nat.zero_le _) h0z rfl _ _ hP hS ls (lv_sub hl [0, 1, 2, 3] rfl)

abbrev m_X0_tellWalk_rm : Room := { frames := 11, cells := 0, slots := 0, locals := 266 }
set_option maxHeartbeats 4000000 in
set_option maxRecDepth 100000 in
theorem m_X0_tellWalk (l : Launch) (D : va_G) (hAD : g_AD D) (σ : Nat → va_E) (sz : Nat) (T : Nat → Nat → Int32) (hG : g_S D σ sz T) (x9 : Int32) (w9 : Nat) (h0z : 0 < sz) (hch : ch_ sz T) (hw : w9 ≤ 2) : g_M l D yX0_tellWalk cX0_tellWalk 4 (some .int) m_X0_tellWalk_rm [.ref (ad_ D 10), .int x9, .int (nI w9)] σ (fun v1 σ1 => v1 = some (.int (tw_ T x9 w9)) ∧ σ = σ1) := by
  refine g_ofW [(0, .ref (ad_ D 10)), (1, .int x9), (2, .int (nI w9))] (by decide +kernel) (Nat.le_of_ble_eq_true rfl) rfl ?_
  intro p e s m args below meth c hx hb hr hml hown hlocks hts hE hZ hP hS hnm ls hl
  have hown : s.vm.findClass RX0 = some m.cls := hown
  generalize hQ : MQ _ _ _ _ _ _ _ = Q
  obtain ⟨h10, h11, h12, h13, h14, h15, h16, h17, h18, h19, hsz⟩ := id hG
  have hwk := wk_lt (x := x9) hsz hch 16 0 h0z
  refine lv_aload_n hx hb dX0_tellWalk_0 rfl (lv_at hl 0 rfl) ?_
  refine lv_iload_n hx hb dX0_tellWalk_1 rfl (lv_at hl 1 rfl) ?_
  refine g_callV0 (y := yX0_placeBy) (n := 1) (As := [.int x9]) (rest := []) hx hb hml hown hts hE hZ hP hS hl.1 (m_X0_placeBy l D hAD σ sz T hG (x9) h0z hch) k_X0_60 (ci := 0) (by decide) hG.1 rfl rfl rfl rfl rfl ⟨rfl, rfl⟩ ⟨Nat.le_of_ble_eq_true rfl, Nat.le_of_ble_eq_true rfl⟩ (Nat.le_of_ble_eq_true rfl) ⟨Nat.le_of_ble_eq_true rfl, Nat.le_of_ble_eq_true rfl⟩ dX0_tellWalk_2 (fun v1 σ_2 H locs hq hP hS => ?_)
  obtain ⟨rfl, rfl⟩ := hq
  refine W.eq (g2 := F0 m 5 ls [.int (nI (wk_ T (x9) 16 0))]) rfl ?_
  refine lv_istore_n (lv' := [(3, .int (nI (wk_ T (x9) 16 0))), (0, .ref (ad_ D 10)), (1, .int x9), (2, .int (nI w9))]) hx hb dX0_tellWalk_5 rfl hl (by decide) rfl (fun ls hl => ?_)
  refine lv_iload_n hx hb dX0_tellWalk_6 rfl (lv_at hl 3 rfl) ?_
  rcases (show w9 = 0 ∨ w9 = 1 ∨ w9 = 2 by omega) with rfl | rfl | rfl
  · refine lv_lookup (x := nI 0) (off := 25) (tgt := 32) hx hb dX0_tellWalk_7 (by decide) (by decide) (by decide) ?_
    refine lv_aload_n hx hb dX0_tellWalk_32 rfl (lv_at hl 1 rfl) ?_
    refine g_get hx hb hts hE hown hP g_inX0 rfl (by decide) h10 7 (by decide) rfl wf_X0_33 (v := .ref (ad_ D 18)) rfl dX0_tellWalk_33 ?_
    refine lv_iload_n hx hb dX0_tellWalk_36 rfl (lv_at hl 0 rfl) ?_
    refine g_callN0 (y := yX2_read) (n := 2) (As := [.ref (ad_ D 18), .int (nI (wk_ T (x9) 16 0))]) (rest := []) hx hb hml hown hts hE hZ hP hS hl.1 (m_X2_read l D hAD σ 18 95 (T 7) (nI (wk_ T (x9) 16 0)) (by decide) (by decide) h18) k_X0_56 rfl rfl ⟨rfl, rfl⟩ ⟨Nat.le_of_ble_eq_true rfl, Nat.le_of_ble_eq_true rfl⟩ (Nat.le_of_ble_eq_true rfl) ⟨Nat.le_of_ble_eq_true rfl, Nat.le_of_ble_eq_true rfl⟩ dX0_tellWalk_37 (fun v3 σ_4 H locs hq hP hS => ?_)
    obtain ⟨rfl, rfl⟩ := hq
    refine W.eq (g2 := F0 m 40 ls [.int (rd_ (T 7) 95 (nI (wk_ T (x9) 16 0)))]) rfl ?_
    refine g_top (y := T 7 (wk_ T x9 16 0)) (rd_in (by omega) (by decide)) ?_
    rw [← hQ]
    exact W.iret (v := T 7 (wk_ T x9 16 0)) hx hb hr (fun te9 hte9 _ => g_fin (⟨rfl, rfl⟩) hP hS hte9) hS.2.2 dX0_tellWalk_40 hlocks
  · refine lv_lookup (x := nI 1) (off := 34) (tgt := 41) hx hb dX0_tellWalk_7 (by decide) (by decide) (by decide) ?_
    refine lv_aload_n hx hb dX0_tellWalk_41 rfl (lv_at hl 1 rfl) ?_
    refine g_get hx hb hts hE hown hP g_inX0 rfl (by decide) h10 3 (by decide) rfl wf_X0_21 (v := .ref (ad_ D 14)) rfl dX0_tellWalk_42 ?_
    refine lv_iload_n hx hb dX0_tellWalk_45 rfl (lv_at hl 0 rfl) ?_
    refine g_callN0 (y := yX2_read) (n := 2) (As := [.ref (ad_ D 14), .int (nI (wk_ T (x9) 16 0))]) (rest := []) hx hb hml hown hts hE hZ hP hS hl.1 (m_X2_read l D hAD σ 14 95 (T 3) (nI (wk_ T (x9) 16 0)) (by decide) (by decide) h14) k_X0_56 rfl rfl ⟨rfl, rfl⟩ ⟨Nat.le_of_ble_eq_true rfl, Nat.le_of_ble_eq_true rfl⟩ (Nat.le_of_ble_eq_true rfl) ⟨Nat.le_of_ble_eq_true rfl, Nat.le_of_ble_eq_true rfl⟩ dX0_tellWalk_46 (fun v5 σ_6 H locs hq hP hS => ?_)
    obtain ⟨rfl, rfl⟩ := hq
    refine W.eq (g2 := F0 m 49 ls [.int (rd_ (T 3) 95 (nI (wk_ T (x9) 16 0)))]) rfl ?_
    refine g_top (y := T 3 (wk_ T x9 16 0)) (rd_in (by omega) (by decide)) ?_
    rw [← hQ]
    exact W.iret (v := T 3 (wk_ T x9 16 0)) hx hb hr (fun te9 hte9 _ => g_fin (⟨rfl, rfl⟩) hP hS hte9) hS.2.2 dX0_tellWalk_49 hlocks
  · refine lv_lookup (x := nI 2) (off := 43) (tgt := 50) hx hb dX0_tellWalk_7 (by decide) (by decide) (by decide) ?_
    refine lv_aload_n hx hb dX0_tellWalk_50 rfl (lv_at hl 1 rfl) ?_
    refine g_get hx hb hts hE hown hP g_inX0 rfl (by decide) h10 3 (by decide) rfl wf_X0_21 (v := .ref (ad_ D 14)) rfl dX0_tellWalk_51 ?_
    refine lv_iload_n hx hb dX0_tellWalk_54 rfl (lv_at hl 0 rfl) ?_
    refine g_callN0 (y := yX2_read) (n := 2) (As := [.ref (ad_ D 14), .int (nI (wk_ T (x9) 16 0))]) (rest := []) hx hb hml hown hts hE hZ hP hS hl.1 (m_X2_read l D hAD σ 14 95 (T 3) (nI (wk_ T (x9) 16 0)) (by decide) (by decide) h14) k_X0_56 rfl rfl ⟨rfl, rfl⟩ ⟨Nat.le_of_ble_eq_true rfl, Nat.le_of_ble_eq_true rfl⟩ (Nat.le_of_ble_eq_true rfl) ⟨Nat.le_of_ble_eq_true rfl, Nat.le_of_ble_eq_true rfl⟩ dX0_tellWalk_55 (fun v7 σ_8 H locs hq hP hS => ?_)
    obtain ⟨rfl, rfl⟩ := hq
    refine W.eq (g2 := F0 m 58 ls [.int (rd_ (T 3) 95 (nI (wk_ T (x9) 16 0)))]) rfl ?_
    refine g_top (y := T 3 (wk_ T x9 16 0)) (rd_in (by omega) (by decide)) ?_
    refine lv_iload_n hx hb dX0_tellWalk_58 rfl (lv_at hl 2 rfl) ?_
    refine g_callN0 (y := yX2_firstUnlikeBit) (n := 2) (As := [.int (T 3 (wk_ T x9 16 0)), .int x9]) (rest := []) hx hb hml hown hts hE hZ hP hS hl.1 (m_X2_firstUnlikeBit l D hAD σ (T 3 (wk_ T x9 16 0)) (x9)) k_X0_64 rfl rfl ⟨rfl, rfl⟩ ⟨Nat.le_of_ble_eq_true rfl, Nat.le_of_ble_eq_true rfl⟩ (Nat.le_of_ble_eq_true rfl) ⟨Nat.le_of_ble_eq_true rfl, Nat.le_of_ble_eq_true rfl⟩ dX0_tellWalk_59 (fun v9 σ_10 H locs hq hP hS => ?_)
    obtain ⟨rfl, rfl⟩ := hq
    refine W.eq (g2 := F0 m 62 ls [.int (fub_ (T 3 (wk_ T x9 16 0)) (x9))]) rfl ?_
    rw [← hQ]
    exact W.iret (v := fub_ (T 3 (wk_ T x9 16 0)) (x9)) hx hb hr (fun te9 hte9 _ => g_fin (⟨rfl, rfl⟩) hP hS hte9) hS.2.2 dX0_tellWalk_62 hlocks
