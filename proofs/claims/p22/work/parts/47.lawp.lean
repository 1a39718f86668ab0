/-! PURE: what the law asks of a wood -/
/-- leaves -/
def lvX (X : List g_Nd) : List g_Nd := X.filter (fun nd => !decide (2 ≤ nd.2.1))
theorem lv_tr {f : Nat → Int32} {n : Nat} (hg : gs_ f n) : ∀ (j a c q b : Nat), 1 ≤ c → c ≤ j → a + c ≤ n → (lvX (tr_ f j a c q b)).map (fun nd => nd.1) = List.range' a c ∧ lgX (tr_ f j a c q b) = lgX (lvX (tr_ f j a c q b)) ∧ apX (tr_ f j a c q b) = fo9 (· + ·) 0 (fun nd => nd.2.2.1) (lvX (tr_ f j a c q b)) ∧ ∀ nd ∈ lvX (tr_ f j a c q b), nd.2.1 = 1
  | 0, a, c, q, b, h1, h2, _ => absurd h1 (by omega)
  | j + 1, a, c, q, b, h1, h2, h3 => by
    rw [tr_]
    by_cases hc : 2 ≤ c
    · obtain ⟨g1, g2⟩ := hg a c hc h3
      obtain ⟨x1, x2, x3, x4⟩ := lv_tr hg j a (ms_ f a c) (q + 1) (c - ms_ f a c) g1 (by omega) (by omega)
      obtain ⟨y1, y2, y3, y4⟩ := lv_tr hg j (a + ms_ f a c) (c - ms_ f a c) (q + 1) (ms_ f a c) (by omega) (by omega) (by omega)
      have hd : (tr_ f j a (ms_ f a c) (q + 1) (c - ms_ f a c))[0]? = _ := tr_hd (by omega)
      rw [if_pos hc]
      generalize tr_ f j a (ms_ f a c) (q + 1) (c - ms_ f a c) = X at x1 x2 x3 x4 hd ⊢
      generalize tr_ f j (a + ms_ f a c) (c - ms_ f a c) (q + 1) (ms_ f a c) = Y at y1 y2 y3 y4 ⊢
      have hl : lvX ((a, c, q, b) :: (X ++ Y)) = lvX X ++ lvX Y := by
        unfold lvX
        rw [List.filter_cons, if_neg (by simpa using hc), List.filter_append]
      rw [hl]
      refine ⟨?_, ?_, ?_, fun nd hn => (List.mem_append.mp hn).elim (x4 nd) (y4 nd)⟩
      · rw [List.map_append, x1, y1, List.range'_append_1, show ms_ f a c + (c - ms_ f a c) = c by omega]
      · have hX : q ≤ lgX X := by
          cases X with
          | nil => simp at hd
          | cons z t =>
            simp at hd
            unfold lgX
            rw [fo9, hd]
            show q ≤ max (q + 1) _
            omega
        unfold lgX at *
        rw [fo9, fo9_app mx_as mx_0l, fo9_app mx_as mx_0l, ← x2, ← y2]
        show max q (max _ _) = _
        omega
      · unfold apX at *
        rw [fo9, fo9_app Nat.add_assoc Nat.zero_add, fo9_app Nat.add_assoc Nat.zero_add, ← x3, ← y3]
        show (if 2 ≤ c then 0 else q) + _ = _
        rw [if_pos hc, Nat.zero_add]
    · have e1 : c = 1 := by omega
      subst e1
      rw [if_neg hc]
      exact ⟨rfl, rfl, rfl, fun nd hn => by simp [lvX] at hn; rw [hn]⟩
def dp_ (L : g_L) (j : Nat) : Nat := ((lvX (tN_ (fn_ L) L.length)).getD j (0, 0, 0, 0)).2.2.1
theorem lv_len {L : g_L} (h : vL_ L) : (lvX (tN_ (fn_ L) L.length)).length = L.length := by
  by_cases h0 : L.length = 0
  · have e : L = [] := List.length_eq_zero_iff.mp h0
    subst e; rfl
  · have := congrArg List.length (lv_tr (gs_of h) L.length 0 L.length 0 0 (by omega) (Nat.le_refl _) (by omega)).1
    rwa [List.length_map, List.length_range'] at this
theorem lv_fst {L : g_L} (h : vL_ L) {j : Nat} (hj : j < (lvX (tN_ (fn_ L) L.length)).length) : ((lvX (tN_ (fn_ L) L.length))[j]).1 = j := by
  have hn := lv_len h
  have e := (lv_tr (gs_of h) L.length 0 L.length 0 0 (by omega) (Nat.le_refl _) (by omega)).1
  have e2 : ((lvX (tN_ (fn_ L) L.length)).map (fun nd => nd.1))[j]? = some j := by
    rw [e, List.getElem?_range' (by omega)]; simp
  rw [List.getElem?_map, List.getElem?_eq_getElem hj] at e2
  exact Option.some.inj e2
/-- a leaf's posts ahead -/
theorem dp_of {L : g_L} (h : vL_ L) {p : Nat} {nd : g_Nd} (hp : (tN_ (fn_ L) L.length)[p]? = some nd) (h1 : nd.2.1 = 1) : dp_ L nd.1 = nd.2.2.1 ∧ nd.1 < L.length := by
  have hm : nd ∈ lvX (tN_ (fn_ L) L.length) := List.mem_filter.mpr ⟨List.mem_of_getElem? hp, by simp [h1]⟩
  obtain ⟨i, hi, e⟩ := List.getElem_of_mem hm
  have e1 := lv_fst h hi
  rw [e] at e1
  refine ⟨?_, by rw [e1]; rw [lv_len h] at hi; exact hi⟩
  unfold dp_
  rw [e1, List.getD_eq_getElem?_getD, List.getElem?_eq_getElem hi, e]
  rfl
def dL_ (L : g_L) (k : Nat) : Nat := fo9 max 0 (fun nd => nd.2.2.1) ((lvX (tN_ (fn_ L) L.length)).take k)
def dS_ (L : g_L) (k : Nat) : Nat := fo9 (· + ·) 0 (fun nd => nd.2.2.1) ((lvX (tN_ (fn_ L) L.length)).take k)
theorem dLS_s {L : g_L} (h : vL_ L) {k : Nat} (hk : k < L.length) : dL_ L (k + 1) = max (dL_ L k) (dp_ L k) ∧ dS_ L (k + 1) = dS_ L k + dp_ L k := by
  have hl : k < (lvX (tN_ (fn_ L) L.length)).length := by rw [lv_len h]; exact hk
  unfold dL_ dS_ dp_
  rw [fo9_tk mx_as mx_0l mx_0r hl, fo9_tk Nat.add_assoc Nat.zero_add Nat.add_zero hl, List.getD_eq_getElem?_getD, List.getElem?_eq_getElem hl]
  exact ⟨rfl, rfl⟩
theorem dp_le {L : g_L} (h : vL_ L) {j : Nat} (hj : j < L.length) : dp_ L j < L.length := by
  have hl : j < (lvX (tN_ (fn_ L) L.length)).length := by rw [lv_len h]; exact hj
  have hm : (lvX (tN_ (fn_ L) L.length))[j] ∈ tN_ (fn_ L) L.length := (List.mem_filter.mp (List.getElem_mem hl)).1
  unfold dp_
  rw [List.getD_eq_getElem?_getD, List.getElem?_eq_getElem hl]
  show ((lvX (tN_ (fn_ L) L.length))[j]).2.2.1 < _
  generalize (lvX (tN_ (fn_ L) L.length))[j] = nd at hm ⊢
  obtain ⟨i, hi, e⟩ := List.getElem_of_mem hm
  obtain ⟨n1, n2, n3, -⟩ := nd_ok h (List.getElem?_eq_getElem hi)
  rw [e] at n1 n3
  omega
theorem dL_le {L : g_L} (h : vL_ L) : ∀ k, k ≤ L.length → dL_ L k ≤ L.length
  | 0, _ => Nat.zero_le _
  | k + 1, hk => by
    rw [(dLS_s h hk).1]
    have := dL_le h k (by omega)
    have := dp_le h hk
    omega
theorem cn_dp {L : g_L} (h : vL_ L) (h48 : L.length ≤ 48) : cn_ L 2 = nI (dL_ L L.length) ∧ cn_ L 3 = nI (dS_ L L.length) := by
  by_cases h0 : L.length = 0
  · have e : L = [] := List.length_eq_zero_iff.mp h0
    subst e; exact ⟨rfl, rfl⟩
  · obtain ⟨t1, t2, -⟩ := tb_sum h h48 _ (Nat.le_refl _)
    rw [List.take_length] at t1 t2
    rw [tN_len (gs_of h)] at t1 t2
    obtain ⟨-, x2, x3, -⟩ := lv_tr (gs_of h) L.length 0 L.length 0 0 (by omega) (Nat.le_refl _) (by omega)
    have hl := lv_len h
    have ht : (lvX (tN_ (fn_ L) L.length)).take L.length = lvX (tN_ (fn_ L) L.length) := List.take_of_length_le (by omega)
    unfold dL_ dS_
    rw [ht]
    refine ⟨?_, ?_⟩
    · show lg_ (tb_ L 7) (zs_ L.length) = _
      rw [t1]
      exact congrArg nI x2
    · show ap_ (tb_ L 0) (tb_ L 7) (zs_ L.length) = _
      rw [t2]
      exact congrArg nI x3
/-- a side's bit is smaller -/
theorem ch_bit {L : g_L} (h : vL_ L) {a c a' c' t t' : Nat} (hc : 2 ≤ c) (hac : a + c ≤ L.length) (ht : fub_ (fn_ L a) (fn_ L (a + c - 1)) = nI t) (ht16 : t < 16) (hs : (a' = a ∧ c' = ms_ (fn_ L) a c) ∨ (a' = a + ms_ (fn_ L) a c ∧ c' = c - ms_ (fn_ L) a c)) (hc' : 2 ≤ c') (ht' : fub_ (fn_ L a') (fn_ L (a' + c' - 1)) = nI t') (ht16' : t' < 16) : t' < t := by
  obtain ⟨m1, m2⟩ := gs_of h a c hc hac
  obtain ⟨k, hk, e, p1, p2, p3⟩ := sg_top h hc hac
  have ek : k = t := g_eq (e.symm.trans ht) (by omega) (by omega)
  subst ek
  have hac' : a' + c' ≤ L.length := by rcases hs with ⟨rfl, rfl⟩ | ⟨rfl, rfl⟩ <;> omega
  obtain ⟨m1', m2'⟩ := gs_of h a' c' hc' hac'
  obtain ⟨k', hk', e', q1, q2, -⟩ := sg_top h hc' hac'
  have ek' : k' = t' := g_eq (e'.symm.trans ht') (by omega) (by omega)
  subst ek'
  have f0 := q1 0 (by omega)
  have f1 := q2 (ms_ (fn_ L) a' c') (Nat.le_refl _) m2'
  rcases Nat.lt_trichotomy k' k with z | z | z
  · exact z
  · subst z
    rcases hs with ⟨rfl, rfl⟩ | ⟨rfl, rfl⟩
    · have := p1 _ m2'
      rw [this] at f1; cases f1
    · have := p2 (ms_ (fn_ L) a c) (Nat.le_refl _) m2
      rw [Nat.add_zero] at f0
      rw [this] at f0; cases f0
  · exfalso
    rcases hs with ⟨rfl, rfl⟩ | ⟨rfl, rfl⟩
    · have g1 := p3 k' z hk' 0 (by omega)
      have g2 := p3 k' z hk' _ (Nat.lt_trans m2' m2)
      rw [Nat.add_zero] at f0
      rw [f1, f0] at g2; cases g2
    · have g1 := p3 k' z hk' (ms_ (fn_ L) a c) m2
      have g2 := p3 k' z hk' (ms_ (fn_ L) a c + ms_ (fn_ L) (a + ms_ (fn_ L) a c) (c - ms_ (fn_ L) a c)) (by omega)
      rw [Nat.add_zero] at f0
      rw [← Nat.add_assoc] at g2
      rw [f1, ← g1, f0] at g2; cases g2
/-- the way to a village -/
theorem wk_go {L : g_L} (h : vL_ L) (h48 : L.length ≤ 48) : ∀ (k p j : Nat) (nd : g_Nd), (tN_ (fn_ L) L.length)[p]? = some nd → nd.1 ≤ j → j < nd.1 + nd.2.1 → (nd.2.1 = 1 ∨ ∃ t, t < k ∧ t < 16 ∧ fub_ (fn_ L nd.1) (fn_ L (nd.1 + nd.2.1 - 1)) = nI t) → ∃ nd', (tN_ (fn_ L) L.length)[wk_ (tb_ L) (fn_ L j) k p]? = some nd' ∧ nd'.1 = j ∧ nd'.2.1 = 1
  | 0, p, j, nd, hp, h1, h2, h3 => by
    rcases h3 with h3 | ⟨t, ht, -⟩
    · exact ⟨nd, hp, by omega, h3⟩
    · omega
  | k + 1, p, j, nd, hp, h1, h2, h3 => by
    obtain ⟨n1, n2, n3, n4, n5⟩ := nd_ok h hp
    have e0 : tb_ L 0 p = fub_ (fn_ L nd.1) (fn_ L (nd.1 + nd.2.1 - 1)) := by rw [tb_at hp]; rfl
    by_cases hc : 2 ≤ nd.2.1
    · obtain ⟨t, ht, ht16, et⟩ : ∃ t, t < k + 1 ∧ t < 16 ∧ fub_ (fn_ L nd.1) (fn_ L (nd.1 + nd.2.1 - 1)) = nI t := h3.resolve_left (by omega)
      obtain ⟨k9, hk9, e9, p1, p2, -⟩ := sg_top h hc n2
      have ek : k9 = t := g_eq (e9.symm.trans et) (by omega) (by omega)
      subst ek
      obtain ⟨m1, m2⟩ := gs_of h nd.1 nd.2.1 hc n2
      obtain ⟨d1, d2⟩ := n5 hc
      have hn1 : ¬ tb_ L 0 p = -1 := by
        rw [e0, et]
        intro q
        have z := nI_pos (show k9 < 2 ^ 31 by omega)
        rw [q] at z
        exact z (by decide)
      have e5 : (tb_ L 5 p).toNatClampNeg = p + 1 := by rw [tb_at hp, tv_, if_pos hc]; exact nI_clamp (by omega)
      have e6 : (tb_ L 6 p).toNatClampNeg = p + 2 * ms_ (fn_ L) nd.1 nd.2.1 := by rw [tb_at hp, tv_, if_pos hc]; exact nI_clamp (by omega)
      rw [wk_, if_neg hn1, e0, et, e5, e6]
      have hbit : ∀ a' c', ((a' = nd.1 ∧ c' = ms_ (fn_ L) nd.1 nd.2.1) ∨ (a' = nd.1 + ms_ (fn_ L) nd.1 nd.2.1 ∧ c' = nd.2.1 - ms_ (fn_ L) nd.1 nd.2.1)) → 1 ≤ c' → a' + c' ≤ L.length → c' = 1 ∨ ∃ t, t < k ∧ t < 16 ∧ fub_ (fn_ L a') (fn_ L (a' + c' - 1)) = nI t := by
        intro a' c' hs hc1 hac'
        by_cases hc2 : 2 ≤ c'
        · obtain ⟨t', ht', e', -⟩ := sg_top h hc2 hac'
          have := ch_bit h hc n2 et ht16 hs hc2 e' ht'
          exact Or.inr ⟨t', by omega, ht', e'⟩
        · exact Or.inl (by omega)
      by_cases hj : j < nd.1 + ms_ (fn_ L) nd.1 nd.2.1
      · have hb := p1 (j - nd.1) (by omega)
        rw [show nd.1 + (j - nd.1) = j by omega] at hb
        rw [hb, if_neg (by decide)]
        exact wk_go h h48 k _ j _ d1 h1 hj (hbit nd.1 (ms_ (fn_ L) nd.1 nd.2.1) (Or.inl ⟨rfl, rfl⟩) m1 (by omega))
      · have hb := p2 (j - nd.1) (by omega) (by omega)
        rw [show nd.1 + (j - nd.1) = j by omega] at hb
        rw [hb, if_pos rfl]
        exact wk_go h h48 k _ j _ d2 (by show nd.1 + ms_ (fn_ L) nd.1 nd.2.1 ≤ j; omega) (by show j < nd.1 + ms_ (fn_ L) nd.1 nd.2.1 + (nd.2.1 - ms_ (fn_ L) nd.1 nd.2.1); omega) (hbit (nd.1 + ms_ (fn_ L) nd.1 nd.2.1) (nd.2.1 - ms_ (fn_ L) nd.1 nd.2.1) (Or.inr ⟨rfl, rfl⟩) (by omega) (by omega))
    · have hm1 : tb_ L 0 p = -1 := by
        rw [e0, show nd.1 + nd.2.1 - 1 = nd.1 by omega, fub_, if_pos (by simp)]
      rw [wk_, if_pos hm1]
      exact ⟨nd, hp, by omega, by omega⟩
theorem tw_at {L : g_L} (h : vL_ L) (h48 : L.length ≤ 48) {j : Nat} (hj : j < L.length) : tw_ (tb_ L) (fn_ L j) 0 = nI (dp_ L j) ∧ tw_ (tb_ L) (fn_ L j) 1 = fn_ L j ∧ tw_ (tb_ L) (fn_ L j) 2 = -1 := by
  have h0 : (tN_ (fn_ L) L.length)[0]? = some (0, L.length, 0, 0) := tr_hd (by omega)
  have hb : L.length = 1 ∨ ∃ t, t < 16 ∧ t < 16 ∧ fub_ (fn_ L 0) (fn_ L (0 + L.length - 1)) = nI t := by
    by_cases hc : 2 ≤ L.length
    · obtain ⟨t, ht, e, -⟩ := sg_top h (a := 0) hc (by omega)
      exact Or.inr ⟨t, ht, ht, e⟩
    · exact Or.inl (by omega)
  obtain ⟨nd, e1, e2, e3⟩ := wk_go h h48 16 0 j _ h0 (Nat.zero_le _) (by show j < 0 + L.length; omega) hb
  have hd := dp_of h e1 e3
  rw [e2] at hd
  have t3 : tb_ L 3 (wk_ (tb_ L) (fn_ L j) 16 0) = fn_ L j := by rw [tb_at e1, tv_, e2]
  refine ⟨?_, t3, ?_⟩
  · show tb_ L 7 _ = _
    rw [tb_at e1]
    show nI nd.2.2.1 = _
    rw [hd.1]
  · show fub_ (tb_ L 3 _) _ = -1
    rw [t3, fub_, if_pos (by simp)]
/-! near, far, step -/
theorem ne_at {L : g_L} (h : vL_ L) {j : Nat} (hj : j < L.length) : ∀ c, c ≤ L.length → (c ≤ j → ne_ L (fn_ L j) c = -1 ∨ ∃ i, i < c ∧ ne_ L (fn_ L j) c = fn_ L i) ∧ (j < c → ne_ L (fn_ L j) c = fn_ L j)
  | 0, _ => ⟨fun _ => Or.inl rfl, fun q => absurd q (Nat.not_lt_zero _)⟩
  | c + 1, hc => by
    obtain ⟨i1, i2⟩ := ne_at h hj c (by omega)
    have hpos : ∀ z, 0 ≤ z → z ≤ 65535 → ¬ z ^^^ fn_ L j < fn_ L j ^^^ fn_ L j := by
      intro z z0 z1
      rw [Int32.xor_self]
      exact Int32.not_lt.mpr (xor_ok z0 z1 (h.2.1 j hj).1 (h.2.1 j hj).2).1
    constructor
    · intro hcj
      rw [ne_]
      split
      · exact Or.inr ⟨c, by omega, rfl⟩
      · rcases i1 (by omega) with q | ⟨i, hi, e⟩
        · exact Or.inl q
        · exact Or.inr ⟨i, by omega, e⟩
    · intro hcj
      rw [ne_]
      by_cases e : c = j
      · subst e
        rw [if_pos]
        rcases i1 (Nat.le_refl _) with q | ⟨i, hi, e⟩
        · exact Or.inl q
        · right
          rw [e, Int32.xor_self]
          have hx := xor_ok (h.2.1 i (by omega)).1 (h.2.1 i (by omega)).2 (h.2.1 c hj).1 (h.2.1 c hj).2
          have hne : fn_ L i ^^^ fn_ L c ≠ 0 := fun q => by
            have := vL_mono h hi hj
            have e9 : fn_ L i = fn_ L c := by
              have := congrArg (fun u => u ^^^ fn_ L c) q
              simpa [Int32.xor_assoc] using this
            rw [e9] at this
            exact Int32.lt_irrefl this
          exact i32_lt_of (Int32.not_lt.mpr hx.1) (fun q => hne q)
      · rw [i2 (by omega), if_neg]
        rintro (q | q)
        · exact ne_m1 (h.2.1 j hj).1 q
        · exact hpos _ (h.2.1 c (by omega)).1 (h.2.1 c (by omega)).2 q
theorem near_at {L : g_L} (h : vL_ L) {j : Nat} (hj : j < L.length) : ne_ L (fn_ L j) L.length = fn_ L j := (ne_at h hj _ (Nat.le_refl _)).2 hj
theorem im_l {x y : Int32} : x ≤ im_ x y := by
  unfold im_; split
  · next q => exact Int32.le_of_lt q
  · exact Int32.le_refl _
theorem im_r {x y : Int32} : y ≤ im_ x y := by
  unfold im_; split
  · exact Int32.le_refl _
  · next q => exact Int32.not_lt.mp q
theorem im_b {x y z : Int32} (h1 : x ≤ z) (h2 : y ≤ z) : im_ x y ≤ z := by
  unfold im_; split
  · exact h2
  · exact h1
theorem fi_ge {L : g_L} {k : Nat} {m : Int32} : ∀ c, m ≤ fi_ L k m c ∧ ∀ d, d < c → fn_ L k ^^^ fn_ L (k + 1 + d) ≤ fi_ L k m c
  | 0 => ⟨Int32.le_refl _, fun d hd => absurd hd (Nat.not_lt_zero _)⟩
  | c + 1 => by
    obtain ⟨i1, i2⟩ := fi_ge (L := L) (k := k) (m := m) c
    rw [fi_]
    refine ⟨Int32.le_trans i1 im_l, fun d hd => ?_⟩
    rcases Nat.lt_succ_iff_lt_or_eq.mp hd with q | q
    · exact Int32.le_trans (i2 d q) im_l
    · subst q; exact im_r
theorem fi_b {L : g_L} {k : Nat} {m z : Int32} (hm : m ≤ z) : ∀ c, (∀ d, d < c → fn_ L k ^^^ fn_ L (k + 1 + d) ≤ z) → fi_ L k m c ≤ z
  | 0, _ => hm
  | c + 1, h => im_b (fi_b hm c (fun d hd => h d (by omega))) (h c (by omega))
theorem fa_ge {L : g_L} : ∀ c, c ≤ L.length → -1 ≤ fa_ L c ∧ ∀ i j, i < c → i < j → j < L.length → fn_ L i ^^^ fn_ L j ≤ fa_ L c
  | 0, _ => ⟨Int32.le_refl _, fun i j hi => absurd hi (Nat.not_lt_zero _)⟩
  | c + 1, hc => by
    obtain ⟨i1, i2⟩ := fa_ge (L := L) c (by omega)
    obtain ⟨f1, f2⟩ := fi_ge (L := L) (k := c) (m := fa_ L c) (L.length - (c + 1))
    rw [fa_]
    refine ⟨Int32.le_trans i1 f1, fun i j hi hij hj => ?_⟩
    rcases Nat.lt_succ_iff_lt_or_eq.mp hi with q | q
    · exact Int32.le_trans (i2 i j q hij hj) f1
    · subst q
      have := f2 (j - (i + 1)) (by omega)
      rwa [show i + 1 + (j - (i + 1)) = j by omega] at this
theorem fa_b {L : g_L} {z : Int32} (hz : -1 ≤ z) : ∀ c, c ≤ L.length → (∀ i j, i < c → i < j → j < L.length → fn_ L i ^^^ fn_ L j ≤ z) → fa_ L c ≤ z
  | 0, _, _ => hz
  | c + 1, hc, h => fi_b (fa_b hz c (by omega) (fun i j hi => h i j (by omega))) _ (fun d hd => h c (c + 1 + d) (by omega) (by omega) (by omega))
theorem fa_1 {L : g_L} (h : L.length < 2) : fa_ L L.length = -1 := by
  rcases (show L.length = 0 ∨ L.length = 1 by omega) with e | e
  · rw [e]; rfl
  · rw [e, fa_, e]; rfl
/-- the farthest number's highest bit -/
theorem fa_top {L : g_L} (h : vL_ L) (hn : 2 ≤ L.length) : ∃ u, u < 65536 ∧ fa_ L L.length = nI u ∧ tp_ (nI u) = tel_ (tb_ L) 0 0 := by
  obtain ⟨x, hx, ex⟩ := vL_nat h (show 0 < L.length by omega)
  obtain ⟨y, hy, ey⟩ := vL_nat h (show L.length - 1 < L.length by omega)
  have hlt : x < y := by
    have := vL_mono h (show 0 < L.length - 1 by omega) (by omega)
    rw [ex, ey] at this
    exact g_lt this (by omega) (by omega)
  obtain ⟨k, hk, e, k1, k2⟩ := fub_bit hlt hy
  obtain ⟨-, -, t3⟩ := b_top hlt k1 k2
  have pk : 2 ^ (k + 1) ≤ 65536 := Nat.le_trans (Nat.pow_le_pow_right (by decide) (show k + 1 ≤ 16 by omega)) (by decide)
  have pz : 0 < 2 ^ k := Nat.two_pow_pos k
  have mid : ∀ j, j < L.length → ∃ z, z ≤ 65535 ∧ fn_ L j = nI z ∧ z / 2 ^ (k + 1) = x / 2 ^ (k + 1) := by
    intro j hj
    obtain ⟨z, hz, ez⟩ := vL_nat h hj
    refine ⟨z, hz, ez, q_mid ?_ ?_ t3⟩
    · have := vL_le h (Nat.zero_le j) hj
      rw [ex, ez] at this
      exact g_le this (by omega) (by omega)
    · have := vL_le h (show j ≤ L.length - 1 by omega) (by omega)
      rw [ey, ez] at this
      exact g_le this (by omega) (by omega)
  have hub : ∀ i j, i < L.length → i < j → j < L.length → fn_ L i ^^^ fn_ L j ≤ nI (2 ^ (k + 1) - 1) := by
    intro i j hi hij hj
    obtain ⟨z1, b1, e1, q1⟩ := mid i hi
    obtain ⟨z2, b2, e2, q2⟩ := mid j hj
    rw [e1, e2, b_xor]
    have hx : z1 ^^^ z2 < 2 ^ (k + 1) := by
      refine Nat.lt_pow_two_of_testBit _ (fun i hi => ?_)
      rw [Nat.testBit_xor, q_bit q1 (show k < i by omega), q_bit q2 (show k < i by omega)]
      simp
    exact nI_le (by omega) (by omega)
  have hle := fa_b (L := L) (z := nI (2 ^ (k + 1) - 1)) (Int32.le_trans (by decide) (nI_pos' (show 2 ^ (k + 1) - 1 < 2 ^ 31 by omega))) L.length (Nat.le_refl _) hub
  have hge := (fa_ge (L := L) L.length (Nat.le_refl _)).2 0 (L.length - 1) (by omega) (by omega) (by omega)
  rw [ex, ey, b_xor] at hge
  have h0 : 0 ≤ fa_ L L.length := Int32.le_trans (nI_pos' (show x ^^^ y < 2 ^ 31 by omega)) hge
  obtain ⟨u, hu, eu⟩ := i32_nat h0 hle (by omega)
  have hu2 : x ^^^ y ≤ u := by
    rw [eu] at hge
    exact g_le hge (by omega) (by omega)
  refine ⟨u, by omega, eu, ?_⟩
  have hn0 : (tN_ (fn_ L) L.length)[0]? = some (0, L.length, 0, 0) := tr_hd (by omega)
  have e9 : tel_ (tb_ L) 0 0 = fub_ (fn_ L 0) (fn_ L (0 + L.length - 1)) := by rw [tel_, tb_at hn0]; rfl
  rw [e9, Nat.zero_add, ex, ey, e, tp_, if_neg, nz_k (k := k) (by omega) (by omega) (by omega)]
  intro q
  have := g_eq (b := 0) q (by omega) (by decide)
  omega
theorem step_u {L : g_L} (h : vL_ L) {k : Nat} (hk : k < L.length) : rk_ L (fn_ L k + nI 1) = k + 1 := by
  obtain ⟨a, ha, ea⟩ := vL_nat h hk
  refine rk_eq (by omega) (fun j hj => ?_) (fun hk1 => ?_)
  · obtain ⟨b, hb, eb⟩ := vL_nat h (show j < L.length by omega)
    have := vL_le h (show j ≤ k by omega) hk
    rw [ea, eb] at this
    have := g_le this (by omega) (by omega)
    rw [ea, eb, nI_add]
    exact nI_lt (by omega) (by omega)
  · obtain ⟨b, hb, eb⟩ := vL_nat h hk1
    have := vL_mono h (Nat.lt_succ_self k) hk1
    rw [ea, eb] at this
    have := g_lt this (by omega) (by omega)
    rw [ea, eb, nI_add]
    exact nI_nlt (by omega) (by omega)
theorem step_d {L : g_L} (h : vL_ L) (h48 : L.length ≤ 48) {k : Nat} (hk : k < L.length) : na_ L (nI (rk_ L (fn_ L k)) - nI 1) = if k = 0 then -1 else fn_ L (k - 1) := by
  rw [rk_self h hk]
  cases k with
  | zero => rfl
  | succ k =>
    rw [show nI (k + 1) - nI 1 = nI k from nI_pred k, na_n (by omega), if_neg (by omega), Nat.add_sub_cancel]
