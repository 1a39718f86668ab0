set_option maxHeartbeats 1000000 in
theorem n_take (l : Launch) (hst : l.stackTraces = false) (D : va_G) (hAD : g_AD D) (σ : Nat → va_E) (Ls : Nat → g_L) (hC : g_C D σ Ls) (hvC : vC_ Ls) (w : Nat) (x : Int32) (hw : w ≤ 1) (hx9 : nm1_ x) (hm : mo_ (Ls w) x ≠ -1) : g_M l D yX2_take cX2_take 5 (some .int) m_X2_take_rm [.ref (ad_ D 0), .int (nI w), .int x] σ (fun v σ1 => v = some (.int (mo_ (Ls w) x)) ∧ g_C D σ1 (ul_ Ls w ((Ls w).eraseIdx (rk_ (Ls w) x)))) := by
  have e0 : er_take Ls (nI w) x = 0 := by rw [er_take, wl_n hw, if_pos (ix_of hw (by decide)), if_pos hx9, if_neg hm]
  refine (m_X2_take l hst D hAD σ Ls (nI w) x hC hvC).M (fun E h => by rcases h with h | h | h <;> exact absurd (e0.symm.trans h.1) (by decide)) (fun v σ1 h => ?_)
  obtain ⟨-, ⟨w1, hw1, ew, hv, -, -, hc⟩, -⟩ := h
  have ee := nI_w ew hw hw1
  subst ee
  exact ⟨hv, hc⟩

theorem x_take (l : Launch) (hst : l.stackTraces = false) (D : va_G) (hAD : g_AD D) (σ : Nat → va_E) (Ls : Nat → g_L) (hC : g_C D σ Ls) (hvC : vC_ Ls) (w : Nat) (x : Int32) (hw : w ≤ 1) (hx9 : nm1_ x) (hm : mo_ (Ls w) x = -1) : g_Y l D yX2_take cX2_take 5 (some .int) m_X2_take_rm [.ref (ad_ D 0), .int (nI w), .int x] σ (fun _ _ => False) (fun E σ1 => E = g_E2 ∧ σ = σ1) := by
  have e0 : er_take Ls (nI w) x = 3 := by rw [er_take, wl_n hw, if_pos (ix_of hw (by decide)), if_pos hx9, if_pos hm]
  refine (m_X2_take l hst D hAD σ Ls (nI w) x hC hvC).E (fun v σ1 h => absurd (e0.symm.trans h.1) (by decide)) (fun E h => ?_)
  rcases h with h | h | h
  · exact absurd (e0.symm.trans h.1) (by decide)
  · exact absurd (e0.symm.trans h.1) (by decide)
  · exact h.2

theorem x_turn (l : Launch) (hst : l.stackTraces = false) (D : va_G) (hAD : g_AD D) (σ : Nat → va_E) (Ls : Nat → g_L) (hC : g_C D σ Ls) (hvC : vC_ Ls) (w : Nat) (b : Int32) (hw : w ≤ 1) (hb9 : nm1_ b) (hn : (Ls w).length = 0) : g_Y l D yX2_turn cX2_turn 4 (some .int) m_X2_turn_rm [.ref (ad_ D 0), .int (nI w), .int b] σ (fun _ _ => False) (fun E σ1 => E = g_E2 ∧ σ = σ1) := by
  have e0 : er_turn Ls (nI w) b = 3 := by rw [er_turn, wl_n hw, if_pos (ix_of hw (by decide)), if_pos hb9, if_pos hn]
  refine (m_X2_turn l hst D hAD σ Ls (nI w) b hC hvC).E (fun v σ1 h => absurd (e0.symm.trans h.1) (by decide)) (fun E h => ?_)
  rcases h with h | h | h
  · exact absurd (e0.symm.trans h.1) (by decide)
  · exact absurd (e0.symm.trans h.1) (by decide)
  · exact h.2

theorem x_cut (l : Launch) (hst : l.stackTraces = false) (D : va_G) (hAD : g_AD D) (σ : Nat → va_E) (Ls : Nat → g_L) (hC : g_C D σ Ls) (hvC : vC_ Ls) (w : Nat) (x : Int32) (hw : w ≤ 1) (hx9 : nm1_ x) (ho : (Ls (1 - w)).length ≠ 0) : g_Y l D yX2_cut cX2_cut 7 (some .int) m_X2_cut_rm [.ref (ad_ D 0), .int (nI w), .int x] σ (fun _ _ => False) (fun E σ1 => E = g_E2 ∧ σ = σ1) := by
  have e0 : er_cut Ls (nI w) x = 3 := by rw [er_cut, ot_n hw, if_pos (ix_of hw (by decide)), if_pos hx9, if_pos (by omega)]
  refine (m_X2_cut l hst D hAD σ Ls (nI w) x hC hvC).E (fun v σ1 h => absurd (e0.symm.trans h.1) (by decide)) (fun E h => ?_)
  rcases h with h | h | h
  · exact absurd (e0.symm.trans h.1) (by decide)
  · exact absurd (e0.symm.trans h.1) (by decide)
  · exact h.2

theorem x_merge (l : Launch) (hst : l.stackTraces = false) (D : va_G) (hAD : g_AD D) (σ : Nat → va_E) (Ls : Nat → g_L) (hC : g_C D σ Ls) (hvC : vC_ Ls) (w r : Nat) (hw : w ≤ 1) (hr : r ≤ 3) (ho : ¬ (Ls w).length + (Ls (1 - w)).length - cm_ (Ls w) (Ls (1 - w)) (Ls w).length ≤ 24) : g_Y l D yX2_merge cX2_merge 8 (some .int) m_X2_merge_rm [.ref (ad_ D 0), .int (nI w), .int (nI r)] σ (fun _ _ => False) (fun E σ1 => E = g_E2 ∧ σ = σ1) := by
  have e0 : er_merge Ls (nI w) (nI r) = 2 := by rw [er_merge, wl_n hw, ot_n hw, if_pos ⟨ix_of hw (by decide), ix_of hr (by decide)⟩, if_pos (by omega)]
  refine (m_X2_merge l hst D hAD σ Ls (nI w) (nI r) hC hvC).E (fun v σ1 h => absurd (e0.symm.trans h.1) (by decide)) (fun E h => ?_)
  rcases h with h | h
  · exact absurd (e0.symm.trans h.1) (by decide)
  · exact h.2

theorem x_put (l : Launch) (hst : l.stackTraces = false) (D : va_G) (hAD : g_AD D) (σ : Nat → va_E) (Ls : Nat → g_L) (hC : g_C D σ Ls) (hvC : vC_ Ls) (w : Nat) (x y : Int32) (hw : w ≤ 1) (hx9 : nm1_ x) (hy9 : ix_ y (nI 999)) (ho : mo_ (Ls w) x = -1 ∧ 24 ≤ (Ls w).length) : g_Y l D yX2_put cX2_put 6 (some .int) m_X2_put_rm [.ref (ad_ D 0), .int (nI w), .int x, .int y] σ (fun _ _ => False) (fun E σ1 => E = g_E2 ∧ σ = σ1) := by
  have e0 : er_put Ls (nI w) x y = 3 := by rw [er_put, wl_n hw, if_pos (ix_of hw (by decide)), if_pos ⟨hx9, hy9⟩, if_pos ho]
  refine (m_X2_put l hst D hAD σ Ls (nI w) x y hC hvC).E (fun v σ1 h => absurd (e0.symm.trans h.1) (by decide)) (fun E h => ?_)
  rcases h with h | h | h
  · exact absurd (e0.symm.trans h.1) (by decide)
  · exact absurd (e0.symm.trans h.1) (by decide)
  · exact h.2
