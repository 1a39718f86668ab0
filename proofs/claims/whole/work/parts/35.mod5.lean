theorem mr_cut {Ls : Nat → g_L} {S N Z : Nat → Int32} {w k : Nat} (h : mr_ Ls S N Z) (hw : w ≤ 1) (hk : k ≤ (Ls w).length) : mr_ (ul_ (ul_ Ls w ((Ls w).take k)) (1 - w) ((Ls w).drop k)) (upd (upd S w (nI k)) (1 - w) (nI ((Ls w).length - k))) (va_cpy N N (24 * w + k) (24 * (1 - w)) ((Ls w).length - k)) (va_cpy Z Z (24 * w + k) (24 * (1 - w)) ((Ls w).length - k)) := by
  intro v hv
  obtain ⟨a1, a2, a3⟩ := h w hw
  have fd : ∀ j, fn_ ((Ls w).drop k) j = fn_ (Ls w) (k + j) := fun j => by unfold fn_; simp [List.getD_eq_getElem?_getD, List.getElem?_drop]
  have gd : ∀ j, gn_ ((Ls w).drop k) j = gn_ (Ls w) (k + j) := fun j => by unfold gn_; simp [List.getD_eq_getElem?_getD, List.getElem?_drop]
  by_cases e : v = w
  · subst e
    rw [ul_ne (by omega), ul_at, upd_ne (by omega), upd_at, List.length_take, Nat.min_eq_left hk]
    refine ⟨rfl, by omega, fun j hj => ?_⟩
    rw [fn_take hj, gn_take hj]
    unfold va_cpy
    rw [if_neg (by omega), if_neg (by omega)]
    exact a3 j (by omega)
  · have e2 : v = 1 - w := by omega
    subst e2
    rw [ul_at, upd_at, List.length_drop]
    refine ⟨rfl, by omega, fun j hj => ?_⟩
    rw [fd, gd]
    unfold va_cpy
    rw [if_pos (by omega), if_pos (by omega), show 24 * w + k + (24 * (1 - w) + j - 24 * (1 - w)) = 24 * w + (k + j) by omega]
    exact a3 (k + j) (by omega)
theorem ct_take {S : g_L} {a : Nat} (h : vL_ S) : ∀ c, a + c ≤ S.length → ct_ S [] a c = (S.drop a).take c
  | 0, _ => by simp [ct_]
  | c + 1, hc => by
    have hM : ((S.drop a).take c).length = c := by rw [List.length_take, List.length_drop]; omega
    have hf : ∀ j, j < c → fn_ ((S.drop a).take c) j = fn_ S (a + j) := fun j hj => by
      rw [fn_take hj]; unfold fn_; simp [List.getD_eq_getElem?_getD, List.getElem?_drop]
    have hr : rk_ ((S.drop a).take c) (fn_ S (a + c)) = c := rk_eq (by omega) (fun j hj => by rw [hf j hj]; exact vL_mono h (by omega) (by omega)) (fun q => by omega)
    rw [ct_, ct_take h c (by omega)]
    unfold st_
    rw [hr, if_neg (by rw [fn_out (by omega)]; exact fun q => vL_ne h (a + c) (by omega) q.symm)]
    have e1 : ((S.drop a).take c).take c = (S.drop a).take c := List.take_of_length_le (by omega)
    have e2 : ((S.drop a).take c).drop c = [] := List.drop_of_length_le (by omega)
    rw [e1, e2, List.take_succ, List.getElem?_drop, List.getElem?_eq_getElem (show a + c < S.length by omega)]
    unfold fn_ gn_
    simp [List.getD_eq_getElem?_getD, List.getElem?_eq_getElem (show a + c < S.length by omega)]
theorem ct_drop {S T : g_L} {a : Nat} (h : vL_ S) (ha : a ≤ S.length) (hT : T.length = 0) : ct_ S T a (S.length - a) = S.drop a := by
  rw [List.eq_nil_of_length_eq_zero hT, ct_take h _ (by omega), List.take_of_length_le (by simp)]
/-! the reference's answers -/
theorem mB_nd {L : g_L} {T : Nat → Nat → Int32} (hv : vL_ L) (h : mB_ (fn_ L) L.length T) {p : Nat} (hp : p < zs_ L.length) : ∃ a c : Nat, 1 ≤ c ∧ a + c ≤ L.length ∧ T 1 p = nI a ∧ T 2 p = nI (a + c) ∧ tb_ L 2 p = nI c ∧ tb_ L 3 p = fn_ L a ∧ tb_ L 4 p = fn_ L (a + c - 1) := by
  have hg := gs_of hv
  have hT := tb_T hv
  rw [← tN_len hg] at hp
  have e := List.getElem?_eq_getElem hp
  generalize (tN_ (fn_ L) L.length)[p] = nd at e
  obtain ⟨n1, n2, n3, n4, n5, n6, n7⟩ := tr_node hg L.length 0 L.length 0 0 (tN_pos e) (Nat.le_refl _) (by omega) p nd e
  have h1 := h p nd e 1 (by decide)
  have h2 := h p nd e 2 (by decide)
  rw [Nat.zero_add] at h1 h2
  exact ⟨nd.1, nd.2.1, n1, by omega, h1, h2, hT p nd e 2 (by decide), hT p nd e 3 (by decide), hT p nd e 4 (by decide)⟩
theorem pc_tr {f : Nat → Int32} {n : Nat} (hg : gs_ f n) {B : Nat → Int32} (hfu : ∀ a c, 2 ≤ c → a + c ≤ n → fub_ (f a) (f (a + c - 1)) ≠ -1) : ∀ (k a c q b s : Nat), 1 ≤ c → c ≤ k → a + c ≤ n → (∀ i nd, (tr_ f k a c q b)[i]? = some nd → B (s + i) = fub_ (f nd.1) (f (nd.1 + nd.2.1 - 1))) → pc_ B (s + (2 * c - 1)) = pc_ B s + (c - 1)
  | 0, a, c, q, b, s, h1, h2, _, _ => absurd h1 (by omega)
  | k + 1, a, c, q, b, s, h1, h2, h3, hB => by
    have h0 := hB 0 (a, c, q, b) (tr_hd (by omega))
    by_cases hc : 2 ≤ c
    · obtain ⟨m1, m2⟩ := hg a c hc h3
      have hX := tr_len hg k a (ms_ f a c) (q + 1) (c - ms_ f a c) m1 (by omega) (by omega)
      have p1 := pc_tr hg hfu k a (ms_ f a c) (q + 1) (c - ms_ f a c) (s + 1) m1 (by omega) (by omega) (fun i nd hi => by
        have := hB (i + 1) nd (by rw [tr_, if_pos hc, ix_l (ix_some hi)]; exact hi)
        rw [show s + (i + 1) = s + 1 + i by omega] at this; exact this)
      have p2 := pc_tr hg hfu k (a + ms_ f a c) (c - ms_ f a c) (q + 1) (ms_ f a c) (s + 2 * ms_ f a c) (by omega) (by omega) (by omega) (fun i nd hi => by
        have := hB (i + 2 * ms_ f a c) nd (by rw [tr_, if_pos hc, show i + 2 * ms_ f a c = (i + 2 * ms_ f a c - 1) + 1 by omega, ix_r (by omega), show i + 2 * ms_ f a c - 1 - (tr_ f k a (ms_ f a c) (q + 1) (c - ms_ f a c)).length = i by omega]; exact hi)
        rw [show s + (i + 2 * ms_ f a c) = s + 2 * ms_ f a c + i by omega] at this; exact this)
      rw [show s + (2 * c - 1) = s + 2 * ms_ f a c + (2 * (c - ms_ f a c) - 1) by omega, p2, show s + 2 * ms_ f a c = s + 1 + (2 * ms_ f a c - 1) by omega, p1, pc_, show s = s + 0 from rfl, h0, if_neg (hfu a c hc h3)]
      omega
    · have e : c = 1 := by omega
      subst e
      rw [show s + (2 * 1 - 1) = s + 1 from rfl, pc_, show s = s + 0 from rfl, h0]
      rw [if_pos (by
        show fub_ (f a) (f (a + 1 - 1)) = -1
        rw [Nat.add_sub_cancel]; unfold fub_; rw [if_pos (by simp)])]
theorem pc_n {L : g_L} (hv : vL_ L) : pc_ (tb_ L 0) (zs_ L.length) = L.length - 1 := by
  by_cases h0 : L.length = 0
  · rw [h0]; rfl
  · have hfu : ∀ a c, 2 ≤ c → a + c ≤ L.length → fub_ (fn_ L a) (fn_ L (a + c - 1)) ≠ -1 := fun a c hc hac => by
      obtain ⟨k, hk, e, -⟩ := dp_ hv hc hac
      rw [e]; exact ne_m1 (Int32.not_lt.mp (nI_pos (by omega)))
    have := pc_tr (gs_of hv) (B := tb_ L 0) hfu L.length 0 L.length 0 0 0 (by omega) (Nat.le_refl _) (by omega) (fun i nd hi => by
      rw [Nat.zero_add]; exact tb_T hv i nd hi 0 (by decide))
    unfold zs_
    rw [if_neg h0]
    rw [Nat.zero_add] at this
    rw [this]
    show 0 + _ = _
    omega
theorem mx1 {n : Nat} (hn : n < 2 ^ 30) : (if nI 0 < nI n - nI 1 then nI n - nI 1 else nI 0) = nI (n - 1) := by
  cases n with
  | zero => decide
  | succ n =>
    have e : nI (n + 1) - nI 1 = nI n := nI_pred n
    rw [e, Nat.add_sub_cancel]
    by_cases h : n = 0
    · subst h; rfl
    · rw [if_pos (nI_lt (by omega) (by omega))]
theorem sz_ixn {r n : Nat} (hn : n < 2 ^ 30) (hr : r < 2 ^ 30) (h : ix_ (nI r) (nI n - nI 1)) : r < n := by
  obtain ⟨j, hj, e⟩ := sz_ix hn h
  have := g_eq e (by omega) (by omega)
  omega
theorem sz_ixo {r n : Nat} (hn : n < 2 ^ 30) (h : r < n) : ix_ (nI r) (nI n - nI 1) := by
  obtain ⟨l, rfl⟩ : ∃ l, n = l + 1 := ⟨n - 1, by omega⟩
  have e : nI (l + 1) - nI 1 = nI l := nI_pred l
  rw [e]; exact ix_of (by omega) (by omega)
theorem st_lo {L : g_L} {r : Nat} (hL : L.length ≤ 48) (hr : r ≤ L.length) (h : ¬ ix_ (nI r - nI 1) (nI L.length - nI 1)) : na_ L (nI r - nI 1) = -1 := by
  cases r with
  | zero => rw [na_, if_pos (by decide)]
  | succ r =>
    have e : nI (r + 1) - nI 1 = nI r := nI_pred r
    rw [e] at h
    exact absurd (sz_ixo (by omega) (by omega)) h
