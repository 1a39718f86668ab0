theorem nI_w {a b : Nat} (h : nI a = nI b) (ha : a ≤ 1) (hb : b ≤ 1) : a = b := g_eq h (by omega) (by omega)
theorem ix_zs {p n : Nat} (h : p < n) (hn : n < 2 ^ 30) : ix_ (nI p) (nI n - nI 1) := by
  obtain ⟨k, rfl⟩ : ∃ k, n = k + 1 := ⟨n - 1, by omega⟩
  rw [show nI (k + 1) - nI 1 = nI k from nI_pred k]
  exact ix_of (by omega) (by omega)
set_option maxHeartbeats 1000000 in
theorem n_count (l : Launch) (hst : l.stackTraces = false) (D : va_G) (hAD : g_AD D) (σ : Nat → va_E) (Ls : Nat → g_L) (hC : g_C D σ Ls) (hvC : vC_ Ls) (w t : Nat) (hw : w ≤ 1) (ht : t ≤ 6) : g_M l D yX2_count cX2_count 4 (some .int) m_X2_count_rm [.ref (ad_ D 0), .int (nI w), .int (nI t)] σ (fun v σ1 => v = some (.int (cn_ (Ls w) t)) ∧ g_C D σ1 Ls) := by
  have e0 : er_count (nI w) (nI t) = 0 := by rw [er_count, if_pos ⟨ix_of hw (by decide), ix_of ht (by decide)⟩]
  refine (m_X2_count l hst D hAD σ Ls (nI w) (nI t) hC hvC).M (fun E h => by exact absurd (e0.symm.trans h.1) (by decide)) (fun v σ1 h => ?_)
  obtain ⟨-, ⟨w1, t1, hw1, ew, ht1, et, hv, hc⟩, -⟩ := h
  have ee := nI_w ew hw hw1
  subst ee
  have ef := g_eq et (by omega) (by omega)
  subst ef
  exact ⟨hv, hc⟩

set_option maxHeartbeats 1000000 in
theorem n_sign (l : Launch) (hst : l.stackTraces = false) (D : va_G) (hAD : g_AD D) (σ : Nat → va_E) (Ls : Nat → g_L) (hC : g_C D σ Ls) (hvC : vC_ Ls) (w p t : Nat) (hw : w ≤ 1) (hp : p < zs_ (Ls w).length) (ht : t ≤ 6) : g_M l D yX2_sign cX2_sign 4 (some .int) m_X2_sign_rm [.ref (ad_ D 0), .int (nI w), .int (nI p), .int (nI t)] σ (fun v σ1 => v = some (.int (tel_ (tb_ (Ls w)) t p)) ∧ g_C D σ1 Ls) := by
  have e0 : er_sign Ls (nI w) (nI p) (nI t) = 0 := by have hz := zs_le (show (Ls w).length ≤ 48 by have := (hvC w hw).2; omega); rw [er_sign, wl_n hw, if_pos ⟨ix_of hw (by decide), ix_zs (by omega) (by omega), ix_of ht (by decide)⟩]
  refine (m_X2_sign l hst D hAD σ Ls (nI w) (nI p) (nI t) hC hvC).M (fun E σ1 h => by exact absurd (e0.symm.trans h.1) (by decide)) (fun v σ1 h => ?_)
  obtain ⟨-, ⟨w1, p1, t1, hw1, ew, hp1, ep, ht1, et, hv, hc⟩, -⟩ := h
  have ee := nI_w ew hw hw1
  subst ee
  have hz := zs_le (show (Ls w).length ≤ 48 by have := (hvC w hw).2; omega)
  have eg := g_eq ep (by omega) (by omega)
  subst eg
  have ef := g_eq et (by omega) (by omega)
  subst ef
  exact ⟨hv, hc⟩

set_option maxHeartbeats 1000000 in
theorem n_walk (l : Launch) (hst : l.stackTraces = false) (D : va_G) (hAD : g_AD D) (σ : Nat → va_E) (Ls : Nat → g_L) (hC : g_C D σ Ls) (hvC : vC_ Ls) (w : Nat) (x : Int32) (t : Nat) (hw : w ≤ 1) (hx9 : nm1_ x) (ht : t ≤ 2) (hn : (Ls w).length ≠ 0) : g_M l D yX2_walk cX2_walk 5 (some .int) m_X2_walk_rm [.ref (ad_ D 0), .int (nI w), .int x, .int (nI t)] σ (fun v σ1 => v = some (.int (tw_ (tb_ (Ls w)) x t)) ∧ g_C D σ1 Ls) := by
  have e0 : er_walk Ls (nI w) x (nI t) = 0 := by rw [er_walk, wl_n hw, if_pos ⟨ix_of hw (by decide), ix_of ht (by decide)⟩, if_pos hx9, if_neg hn]
  refine (m_X2_walk l hst D hAD σ Ls (nI w) x (nI t) hC hvC).M (fun E h => by rcases h with h | h | h <;> exact absurd (e0.symm.trans h.1) (by decide)) (fun v σ1 h => ?_)
  obtain ⟨-, ⟨w1, t1, hw1, ew, ht1, et, -, -, hv, hc⟩, -⟩ := h
  have ee := nI_w ew hw hw1
  subst ee
  have ef := g_eq et (by omega) (by omega)
  subst ef
  exact ⟨hv, hc⟩

set_option maxHeartbeats 1000000 in
theorem n_step (l : Launch) (hst : l.stackTraces = false) (D : va_G) (hAD : g_AD D) (σ : Nat → va_E) (Ls : Nat → g_L) (hC : g_C D σ Ls) (hvC : vC_ Ls) (w : Nat) (x up : Int32) (hw : w ≤ 1) (hx9 : nm1_ x) : g_M l D yX2_step cX2_step 5 (some .int) m_X2_step_rm [.ref (ad_ D 0), .int (nI w), .int x, .int up] σ (fun v σ1 => v = some (.int (if up = 0 then na_ (Ls w) (nI (rk_ (Ls w) x) - nI 1) else fn_ (Ls w) (rk_ (Ls w) (x + nI 1)))) ∧ g_C D σ1 Ls) := by
  have e0 : er_miles (nI w) x = 0 := by rw [er_miles, if_pos (ix_of hw (by decide)), if_pos hx9]
  refine (m_X2_step l hst D hAD σ Ls (nI w) x up hC hvC).M (fun E h => by rcases h with h | h <;> exact absurd (e0.symm.trans h.1) (by decide)) (fun v σ1 h => ?_)
  obtain ⟨-, ⟨w1, hw1, ew, -, hv, hc⟩, -⟩ := h
  have ee := nI_w ew hw hw1
  subst ee
  exact ⟨hv, hc⟩

set_option maxHeartbeats 1000000 in
theorem n_at (l : Launch) (hst : l.stackTraces = false) (D : va_G) (hAD : g_AD D) (σ : Nat → va_E) (Ls : Nat → g_L) (hC : g_C D σ Ls) (hvC : vC_ Ls) (w j : Nat) (hw : w ≤ 1) (hj : j < (Ls w).length) : g_M l D yX2_at cX2_at 4 (some .int) m_X2_at_rm [.ref (ad_ D 0), .int (nI w), .int (nI j)] σ (fun v σ1 => v = some (.int (fn_ (Ls w) j)) ∧ g_C D σ1 Ls) := by
  have e0 : er_at Ls (nI w) (nI j) = 0 := by have h24 := (hvC w hw).2; rw [er_at, wl_n hw, if_pos ⟨ix_of hw (by decide), ix_zs (by omega) (by omega)⟩]
  refine (m_X2_at l hst D hAD σ Ls (nI w) (nI j) hC hvC).M (fun E h => by exact absurd (e0.symm.trans h.1) (by decide)) (fun v σ1 h => ?_)
  obtain ⟨-, ⟨w1, j1, hw1, ew, hj1, ej, hv, hc⟩, -⟩ := h
  have ee := nI_w ew hw hw1
  subst ee
  have h24 := (hvC w hw).2
  have eg := g_eq ej (by omega) (by omega)
  subst eg
  exact ⟨hv, hc⟩

set_option maxHeartbeats 1000000 in
theorem n_miles (l : Launch) (hst : l.stackTraces = false) (D : va_G) (hAD : g_AD D) (σ : Nat → va_E) (Ls : Nat → g_L) (hC : g_C D σ Ls) (hvC : vC_ Ls) (w : Nat) (x : Int32) (hw : w ≤ 1) (hx9 : nm1_ x) : g_M l D yX2_miles cX2_miles 3 (some .int) m_X2_miles_rm [.ref (ad_ D 0), .int (nI w), .int x] σ (fun v σ1 => v = some (.int (mo_ (Ls w) x)) ∧ g_C D σ1 Ls) := by
  have e0 : er_miles (nI w) x = 0 := by rw [er_miles, if_pos (ix_of hw (by decide)), if_pos hx9]
  refine (m_X2_miles l hst D hAD σ Ls (nI w) x hC hvC).M (fun E h => by rcases h with h | h <;> exact absurd (e0.symm.trans h.1) (by decide)) (fun v σ1 h => ?_)
  obtain ⟨-, ⟨w1, hw1, ew, hv, hc⟩, -⟩ := h
  have ee := nI_w ew hw hw1
  subst ee
  exact ⟨hv, hc⟩

set_option maxHeartbeats 1000000 in
theorem n_near (l : Launch) (hst : l.stackTraces = false) (D : va_G) (hAD : g_AD D) (σ : Nat → va_E) (Ls : Nat → g_L) (hC : g_C D σ Ls) (hvC : vC_ Ls) (w : Nat) (x : Int32) (hw : w ≤ 1) (hx9 : nm1_ x) : g_M l D yX2_near cX2_near 3 (some .int) m_X2_near_rm [.ref (ad_ D 0), .int (nI w), .int x] σ (fun v σ1 => v = some (.int (ne_ (Ls w) x (Ls w).length)) ∧ g_C D σ1 Ls) := by
  have e0 : er_miles (nI w) x = 0 := by rw [er_miles, if_pos (ix_of hw (by decide)), if_pos hx9]
  refine (m_X2_near l hst D hAD σ Ls (nI w) x hC hvC).M (fun E h => by rcases h with h | h <;> exact absurd (e0.symm.trans h.1) (by decide)) (fun v σ1 h => ?_)
  obtain ⟨-, ⟨w1, hw1, ew, hv, hc⟩, -⟩ := h
  have ee := nI_w ew hw hw1
  subst ee
  exact ⟨hv, hc⟩

set_option maxHeartbeats 1000000 in
theorem n_far (l : Launch) (hst : l.stackTraces = false) (D : va_G) (hAD : g_AD D) (σ : Nat → va_E) (Ls : Nat → g_L) (hC : g_C D σ Ls) (hvC : vC_ Ls) (w : Nat) (hw : w ≤ 1) : g_M l D yX2_far cX2_far 2 (some .int) m_X2_far_rm [.ref (ad_ D 0), .int (nI w)] σ (fun v σ1 => v = some (.int (fa_ (Ls w) (Ls w).length)) ∧ g_C D σ1 Ls) := by
  have e0 : er_wood (nI w) = 0 := by rw [er_wood, if_pos (ix_of hw (by decide))]
  refine (m_X2_far l hst D hAD σ Ls (nI w) hC hvC).M (fun E h => by exact absurd (e0.symm.trans h.1) (by decide)) (fun v σ1 h => ?_)
  obtain ⟨-, ⟨w1, hw1, ew, hv, hc⟩, -⟩ := h
  have ee := nI_w ew hw hw1
  subst ee
  exact ⟨hv, hc⟩

set_option maxHeartbeats 1000000 in
theorem n_unlike (l : Launch) (hst : l.stackTraces = false) (D : va_G) (hAD : g_AD D) (σ : Nat → va_E) (Ls : Nat → g_L) (hC : g_C D σ Ls) (hvC : vC_ Ls) (a b : Int32) (ha : nm1_ a) (hb9 : nm1_ b) : g_M l D yX2_unlike cX2_unlike 3 (some .int) m_X2_unlike_rm [.ref (ad_ D 0), .int a, .int b] σ (fun v σ1 => v = some (.int (fub_ a b)) ∧ g_C D σ1 Ls) := by
  have e0 : er_unlike a b = 0 := by rw [er_unlike, if_pos ⟨ha, hb9⟩]
  refine (m_X2_unlike l hst D hAD σ Ls a b hC hvC).M (fun E h => by exact absurd (e0.symm.trans h.1) (by decide)) (fun v σ1 h => ?_)
  obtain ⟨-, ⟨hv, -, -, hc⟩, -⟩ := h
  exact ⟨hv, hc⟩

set_option maxHeartbeats 1000000 in
theorem n_would (l : Launch) (hst : l.stackTraces = false) (D : va_G) (hAD : g_AD D) (σ : Nat → va_E) (Ls : Nat → g_L) (hC : g_C D σ Ls) (hvC : vC_ Ls) (t : Nat) (ht : t ≤ 3) : g_M l D yX2_would cX2_would 2 (some .int) m_X2_would_rm [.ref (ad_ D 0), .int (nI t)] σ (fun v σ1 => v = some (.int (cn_ (bo_ (Ls 0) (Ls 1)) t)) ∧ g_C D σ1 Ls) := by
  have e0 : er_would (nI t) = 0 := by rw [er_would, if_pos (ix_of ht (by decide))]
  refine (m_X2_would l hst D hAD σ Ls (nI t) hC hvC).M (fun E h => by exact absurd (e0.symm.trans h.1) (by decide)) (fun v σ1 h => ?_)
  obtain ⟨-, ⟨t1, ht1, et, hv, hc⟩, -⟩ := h
  have ef := g_eq et (by omega) (by omega)
  subst ef
  exact ⟨hv, hc⟩

set_option maxHeartbeats 1000000 in
theorem n_mean (l : Launch) (hst : l.stackTraces = false) (D : va_G) (hAD : g_AD D) (σ : Nat → va_E) (Ls : Nat → g_L) (hC : g_C D σ Ls) (hvC : vC_ Ls) (w : Nat) (hw : w ≤ 1) : g_M l D yX2_mean cX2_mean 4 (some .double) m_X2_mean_rm [.ref (ad_ D 0), .int (nI w)] σ (fun v σ1 => v = some (.double (me_ (Ls w))) ∧ g_C D σ1 Ls) := by
  have e0 : er_wood (nI w) = 0 := by rw [er_wood, if_pos (ix_of hw (by decide))]
  refine (m_X2_mean l hst D hAD σ Ls (nI w) hC hvC).M (fun E h => by exact absurd (e0.symm.trans h.1) (by decide)) (fun v σ1 h => ?_)
  obtain ⟨-, ⟨w1, hw1, ew, hv, hc⟩, -⟩ := h
  have ee := nI_w ew hw hw1
  subst ee
  exact ⟨hv, hc⟩

set_option maxHeartbeats 1000000 in
theorem n_turn (l : Launch) (hst : l.stackTraces = false) (D : va_G) (hAD : g_AD D) (σ : Nat → va_E) (Ls : Nat → g_L) (hC : g_C D σ Ls) (hvC : vC_ Ls) (w : Nat) (b : Int32) (hw : w ≤ 1) (hb9 : nm1_ b) (hn : (Ls w).length ≠ 0) : g_M l D yX2_turn cX2_turn 4 (some .int) m_X2_turn_rm [.ref (ad_ D 0), .int (nI w), .int b] σ (fun v σ1 => v = some (.int (fn_ (cb_ (Ls w) b (Ls w).length) 0)) ∧ g_C D σ1 (ul_ Ls w (cb_ (Ls w) b (Ls w).length))) := by
  have e0 : er_turn Ls (nI w) b = 0 := by rw [er_turn, wl_n hw, if_pos (ix_of hw (by decide)), if_pos hb9, if_neg hn]
  refine (m_X2_turn l hst D hAD σ Ls (nI w) b hC hvC).M (fun E h => by rcases h with h | h | h <;> exact absurd (e0.symm.trans h.1) (by decide)) (fun v σ1 h => ?_)
  obtain ⟨-, ⟨w1, hw1, ew, -, -, hv, hc⟩, -⟩ := h
  have ee := nI_w ew hw hw1
  subst ee
  exact ⟨hv, hc⟩

set_option maxHeartbeats 1000000 in
theorem n_cut (l : Launch) (hst : l.stackTraces = false) (D : va_G) (hAD : g_AD D) (σ : Nat → va_E) (Ls : Nat → g_L) (hC : g_C D σ Ls) (hvC : vC_ Ls) (w : Nat) (x : Int32) (hw : w ≤ 1) (hx9 : nm1_ x) (ho : (Ls (1 - w)).length = 0) : g_M l D yX2_cut cX2_cut 7 (some .int) m_X2_cut_rm [.ref (ad_ D 0), .int (nI w), .int x] σ (fun v σ1 => v = some (.int (nI (ct_ (Ls w) (Ls (1 - w)) (rk_ (Ls w) x) ((Ls w).length - rk_ (Ls w) x)).length)) ∧ g_C D σ1 (ul_ (ul_ Ls w ((Ls w).take (rk_ (Ls w) x))) (1 - w) (ct_ (Ls w) (Ls (1 - w)) (rk_ (Ls w) x) ((Ls w).length - rk_ (Ls w) x)))) := by
  have e0 : er_cut Ls (nI w) x = 0 := by rw [er_cut, ot_n hw, if_pos (ix_of hw (by decide)), if_pos hx9, if_neg (by omega)]
  refine (m_X2_cut l hst D hAD σ Ls (nI w) x hC hvC).M (fun E h => by rcases h with h | h | h <;> exact absurd (e0.symm.trans h.1) (by decide)) (fun v σ1 h => ?_)
  obtain ⟨-, ⟨w1, hw1, ew, -, -, hv, hc⟩, -⟩ := h
  have ee := nI_w ew hw hw1
  subst ee
  exact ⟨hv, hc⟩

set_option maxHeartbeats 1000000 in
theorem n_merge (l : Launch) (hst : l.stackTraces = false) (D : va_G) (hAD : g_AD D) (σ : Nat → va_E) (Ls : Nat → g_L) (hC : g_C D σ Ls) (hvC : vC_ Ls) (w r : Nat) (hw : w ≤ 1) (hr : r ≤ 3) (ho : (Ls w).length + (Ls (1 - w)).length - cm_ (Ls w) (Ls (1 - w)) (Ls w).length ≤ 24) : g_M l D yX2_merge cX2_merge 8 (some .int) m_X2_merge_rm [.ref (ad_ D 0), .int (nI w), .int (nI r)] σ (fun v σ1 => v = some (.int (nI (cm_ (Ls w) (Ls (1 - w)) (Ls w).length))) ∧ g_C D σ1 (ul_ (ul_ Ls w []) (1 - w) (mg_ r (Ls w) (Ls (1 - w)) (Ls w).length))) := by
  have e0 : er_merge Ls (nI w) (nI r) = 0 := by rw [er_merge, wl_n hw, ot_n hw, if_pos ⟨ix_of hw (by decide), ix_of hr (by decide)⟩, if_neg (by omega)]
  refine (m_X2_merge l hst D hAD σ Ls (nI w) (nI r) hC hvC).M (fun E h => by rcases h with h | h <;> exact absurd (e0.symm.trans h.1) (by decide)) (fun v σ1 h => ?_)
  obtain ⟨-, ⟨w1, r1, hw1, ew, hr1, er, hv, hc⟩, -⟩ := h
  have ee := nI_w ew hw hw1
  subst ee
  have ef := g_eq er (by omega) (by omega)
  subst ef
  exact ⟨hv, hc⟩

set_option maxHeartbeats 1000000 in
theorem n_put (l : Launch) (hst : l.stackTraces = false) (D : va_G) (hAD : g_AD D) (σ : Nat → va_E) (Ls : Nat → g_L) (hC : g_C D σ Ls) (hvC : vC_ Ls) (w : Nat) (x y : Int32) (hw : w ≤ 1) (hx9 : nm1_ x) (hy9 : ix_ y (nI 999)) (ho : ¬ (mo_ (Ls w) x = -1 ∧ 24 ≤ (Ls w).length)) : g_M l D yX2_put cX2_put 6 (some .int) m_X2_put_rm [.ref (ad_ D 0), .int (nI w), .int x, .int y] σ (fun v σ1 => v = some (.int (mo_ (Ls w) x)) ∧ g_C D σ1 (ul_ Ls w (st_ (Ls w) x y))) := by
  have e0 : er_put Ls (nI w) x y = 0 := by rw [er_put, wl_n hw, if_pos (ix_of hw (by decide)), if_pos ⟨hx9, hy9⟩, if_neg ho]
  refine (m_X2_put l hst D hAD σ Ls (nI w) x y hC hvC).M (fun E h => by rcases h with h | h | h <;> exact absurd (e0.symm.trans h.1) (by decide)) (fun v σ1 h => ?_)
  obtain ⟨-, ⟨w1, hw1, ew, hv, hc⟩, -⟩ := h
  have ee := nI_w ew hw hw1
  subst ee
  exact ⟨hv, hc⟩

theorem n_digest (l : Launch) (D : va_G) (hAD : g_AD D) (σ : Nat → va_E) (Ls : Nat → g_L) (hC : g_C D σ Ls) (hvC : vC_ Ls) : g_M l D yX2_digest cX2_digest 4 (some .long) m_X2_digest_rm [.ref (ad_ D 0)] σ (fun v σ1 => v = some (.long (di_ (Ls 0) (Ls 1))) ∧ g_C D σ1 Ls) := by
  have h := m_X2_digest l D hAD σ Ls hC hvC
  intro sz
  refine h_mono (h sz) (fun a U q => q) (fun a st oc t q => ?_)
  obtain ⟨⟨v, σ1, h0, ⟨h1, h2, -⟩, h3⟩, h4⟩ := q
  exact ⟨⟨v, σ1, h0, ⟨h1, h2⟩, h3⟩, h4⟩
