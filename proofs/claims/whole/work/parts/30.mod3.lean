/-! PURE: the reference's table and the class's table -/
theorem mB_q {L : g_L} {T : Nat → Nat → Int32} (hv : vL_ L) (h : mB_ (fn_ L) L.length T) {q : Nat} (hq : q < zs_ L.length) {j : Nat} (hj : j < 6) : T j q = mv_ (fn_ L) ((tN_ (fn_ L) L.length).getD q (0, 0, 0, 0)) q j := by
  rw [← tN_len (gs_of hv)] at hq
  have e := List.getElem?_eq_getElem hq
  have h1 := h q _ e j hj
  rw [Nat.zero_add] at h1
  rw [h1, List.getD_eq_getElem?_getD, e]
  rfl
theorem mB_0 {L : g_L} {T : Nat → Nat → Int32} (hv : vL_ L) (h : mB_ (fn_ L) L.length T) {q : Nat} (hq : q < zs_ L.length) : T 0 q = tb_ L 0 q := mB_q hv h hq (j := 0) (by decide)
theorem mB_3 {L : g_L} {T : Nat → Nat → Int32} (hv : vL_ L) (h : mB_ (fn_ L) L.length T) {q : Nat} (hq : q < zs_ L.length) : T 3 q = tb_ L 5 q := mB_q hv h hq (j := 3) (by decide)
theorem mB_4 {L : g_L} {T : Nat → Nat → Int32} (hv : vL_ L) (h : mB_ (fn_ L) L.length T) {q : Nat} (hq : q < zs_ L.length) : T 4 q = tb_ L 6 q := mB_q hv h hq (j := 4) (by decide)
theorem mB_5 {L : g_L} {T : Nat → Nat → Int32} (hv : vL_ L) (h : mB_ (fn_ L) L.length T) {q : Nat} (hq : q < zs_ L.length) : T 5 q = tb_ L 7 q := mB_q hv h hq (j := 5) (by decide)
theorem tb_T {L : g_L} (hv : vL_ L) : tB_ (fn_ L) L.length (tb_ L) := by
  intro q nd e j hj
  rw [tb_, List.getD_eq_getElem?_getD, e]
  rfl
/-- names between two names share the bits above the unlike one -/
theorem b_bet {x y p q k : Nat} (hxy : x < y) (h1 : 2 ^ k ≤ x ^^^ y) (h2 : x ^^^ y < 2 ^ (k + 1)) (hxp : x ≤ p) (hpq : p ≤ q) (hqy : q ≤ y) (hb : p.testBit k = q.testBit k) : p ^^^ q < 2 ^ k := by
  obtain ⟨-, -, hab⟩ := b_top hxy h1 h2
  have hd : x / 2 ^ (k + 1) = y / 2 ^ (k + 1) := by
    apply Nat.eq_of_testBit_eq
    intro i
    rw [Nat.testBit_div_two_pow, Nat.testBit_div_two_pow]
    exact hab _ (by omega)
  have a1 : x / 2 ^ (k + 1) ≤ p / 2 ^ (k + 1) := Nat.div_le_div_right hxp
  have a2 : p / 2 ^ (k + 1) ≤ q / 2 ^ (k + 1) := Nat.div_le_div_right hpq
  have a3 : q / 2 ^ (k + 1) ≤ y / 2 ^ (k + 1) := Nat.div_le_div_right hqy
  have e : p / 2 ^ (k + 1) = q / 2 ^ (k + 1) := by omega
  apply Nat.lt_pow_two_of_testBit
  intro i hi
  rw [Nat.testBit_xor]
  rcases Nat.eq_or_lt_of_le hi with c | c
  · rw [← c, hb]; simp
  · have : p.testBit i = q.testBit i := by
      have h3 := congrArg (fun z => z.testBit (i - (k + 1))) e
      simp only [Nat.testBit_div_two_pow] at h3
      rw [show i - (k + 1) + (k + 1) = i by omega] at h3
      exact h3
    rw [this]; simp
/-- the sides' bits are lower -/
theorem dp_ {L : g_L} {a c : Nat} (h : vL_ L) (hc : 2 ≤ c) (hac : a + c ≤ L.length) : ∃ k, k < 16 ∧ fub_ (fn_ L a) (fn_ L (a + c - 1)) = nI k ∧
    (2 ≤ ms_ (fn_ L) a c → ∃ k', k' < k ∧ fub_ (fn_ L a) (fn_ L (a + ms_ (fn_ L) a c - 1)) = nI k') ∧
    (2 ≤ c - ms_ (fn_ L) a c → ∃ k', k' < k ∧ fub_ (fn_ L (a + ms_ (fn_ L) a c)) (fn_ L (a + ms_ (fn_ L) a c + (c - ms_ (fn_ L) a c) - 1)) = nI k') := by
  obtain ⟨g1, g2⟩ := gs_of h a c hc hac
  obtain ⟨x, hx, ex⟩ := vL_nat h (show a < L.length by omega)
  obtain ⟨y, hy, ey⟩ := vL_nat h (show a + c - 1 < L.length by omega)
  have lt' : ∀ {i j u v : Nat}, i < j → j < L.length → u ≤ 65535 → v ≤ 65535 → fn_ L i = nI u → fn_ L j = nI v → u < v := by
    intro i j u v hij hj hu hv eu ev
    have := vL_mono h hij hj
    rw [eu, ev] at this
    exact g_lt this (by omega) (by omega)
  have le' : ∀ {i j u v : Nat}, i ≤ j → j < L.length → u ≤ 65535 → v ≤ 65535 → fn_ L i = nI u → fn_ L j = nI v → u ≤ v := by
    intro i j u v hij hj hu hv eu ev
    rcases Nat.eq_or_lt_of_le hij with q | q
    · subst q
      have := g_eq (eu.symm.trans ev) (by omega) (by omega)
      omega
    · exact Nat.le_of_lt (lt' q hj hu hv eu ev)
  have hlt := lt' (show a < a + c - 1 by omega) (by omega) hx hy ex ey
  obtain ⟨k, hk, e, k1, k2⟩ := fub_bit hlt hy
  obtain ⟨t1, t2, -⟩ := b_top hlt k1 k2
  refine ⟨k, hk, by rw [ex, ey, e], fun h2 => ?_, fun h2 => ?_⟩
  · obtain ⟨z, hz, ez⟩ := vL_nat h (show a + ms_ (fn_ L) a c - 1 < L.length by omega)
    have l1 := lt' (show a < a + ms_ (fn_ L) a c - 1 by omega) (by omega) hx hz ex ez
    have l2 := le' (show a + ms_ (fn_ L) a c - 1 ≤ a + c - 1 by omega) (by omega) hz hy ez ey
    have hb := sp_no (fn_ L) (fub_ (fn_ L a) (fn_ L (a + c - 1))) c a (ms_ (fn_ L) a c - 1) (show _ < ms_ (fn_ L) a c by omega)
    rw [show a + (ms_ (fn_ L) a c - 1) = a + ms_ (fn_ L) a c - 1 by omega, ez, ex, ey, e, b_hb (by omega) (by omega)] at hb
    have hlow := b_bet hlt k1 k2 (Nat.le_refl x) (Nat.le_of_lt l1) l2 (t1.trans hb.symm)
    obtain ⟨k', hk', e', m1, m2⟩ := fub_bit l1 hz
    exact ⟨k', (Nat.pow_lt_pow_iff_right (a := 2) (by decide)).mp (Nat.lt_of_le_of_lt m1 hlow), by rw [ex, ez, e']⟩
  · obtain ⟨z, hz, ez⟩ := vL_nat h (show a + ms_ (fn_ L) a c < L.length by omega)
    have e3 : a + ms_ (fn_ L) a c + (c - ms_ (fn_ L) a c) - 1 = a + c - 1 := by omega
    have l1 := le' (show a ≤ a + ms_ (fn_ L) a c by omega) (by omega) hx hz ex ez
    have l2 := lt' (show a + ms_ (fn_ L) a c < a + c - 1 by omega) (by omega) hz hy ez ey
    have hb := sp_yes (fn_ L) (fub_ (fn_ L a) (fn_ L (a + c - 1))) c a g2
    rw [show a + sp_ (fn_ L) (fub_ (fn_ L a) (fn_ L (a + c - 1))) a c = a + ms_ (fn_ L) a c from rfl, ez, ex, ey, e, b_hb (by omega) (by omega)] at hb
    have hlow := b_bet hlt k1 k2 l1 (Nat.le_of_lt l2) (Nat.le_refl y) (hb.trans t2.symm)
    obtain ⟨k', hk', e', m1, m2⟩ := fub_bit l2 hy
    exact ⟨k', (Nat.pow_lt_pow_iff_right (a := 2) (by decide)).mp (Nat.lt_of_le_of_lt m1 hlow), by rw [e3, ez, ey, e']⟩
/-- a post of the row: its sides, their bits -/
theorem tb_post {L : g_L} (hv : vL_ L) {p : Nat} (hp : p < zs_ L.length) (hn : ¬ tb_ L 0 p = -1) : ∃ l r k : Nat, tb_ L 5 p = nI l ∧ tb_ L 6 p = nI r ∧ l < zs_ L.length ∧ r < zs_ L.length ∧ k < 16 ∧ tb_ L 0 p = nI k ∧ (¬ tb_ L 0 l = -1 → ∃ k', k' < k ∧ tb_ L 0 l = nI k') ∧ (¬ tb_ L 0 r = -1 → ∃ k', k' < k ∧ tb_ L 0 r = nI k') := by
  have hg := gs_of hv
  have hT := tb_T hv
  rw [← tN_len hg] at hp ⊢
  have e := List.getElem?_eq_getElem hp
  generalize (tN_ (fn_ L) L.length)[p] = nd at e
  obtain ⟨n1, n2, n3, n4, n5, n6, n7⟩ := tr_node hg L.length 0 L.length 0 0 (tN_pos e) (Nat.le_refl _) (by omega) p nd e
  rw [hT p nd e 0 (by decide)] at hn
  have hc := tv_post n1 hn
  obtain ⟨d1, d2⟩ := n7 hc
  obtain ⟨k, hk, ek, s1, s2⟩ := dp_ hv hc (show nd.1 + nd.2.1 ≤ L.length by omega)
  refine ⟨p + 1, p + 2 * ms_ (fn_ L) nd.1 nd.2.1, k, ?_, ?_, ix_some d1, ix_some d2, hk, ?_, ?_, ?_⟩
  · rw [hT p nd e 5 (by decide), tv_, if_pos hc]
  · rw [hT p nd e 6 (by decide), tv_, if_pos hc]
  · rw [hT p nd e 0 (by decide)]; exact ek
  · intro hn2
    rw [hT _ _ d1 0 (by decide)] at hn2 ⊢
    exact s1 (tv_post (gs_of hv _ _ hc (by omega)).1 hn2)
  · intro hn2
    rw [hT _ _ d2 0 (by decide)] at hn2 ⊢
    have := (gs_of hv _ _ hc (show nd.1 + nd.2.1 ≤ L.length by omega)).2
    exact s2 (tv_post (show 1 ≤ nd.2.1 - ms_ (fn_ L) nd.1 nd.2.1 by omega) hn2)
theorem mgm0 {a b : Int32} (h : b ≠ -1) : a = mgm_ 0 a b := by unfold mgm_; rw [if_neg h]; rfl
theorem mgm1 {a b : Int32} (h : b ≠ -1) : b = mgm_ 1 a b := by unfold mgm_; rw [if_neg h]; rfl
theorem mgm2 {a b : Int32} (h : b ≠ -1) : (if a + b < nI 999 then a + b else nI 999) = mgm_ 2 a b := by
  unfold mgm_; rw [if_neg h]
  show _ = if nI 999 < a + b then nI 999 else a + b
  by_cases c : a + b < nI 999
  · rw [if_pos c, if_neg (fun q => Int32.lt_irrefl (Int32.lt_trans c q))]
  · rw [if_neg c]
    by_cases d : nI 999 < a + b
    · rw [if_pos d]
    · rw [if_neg d]; exact Int32.le_antisymm (Int32.not_lt.mp c) (Int32.not_lt.mp d)
theorem mgm3 {a b : Int32} (h : b ≠ -1) : (if b < a then b else a) = mgm_ 3 a b := by unfold mgm_; rw [if_neg h]; rfl
