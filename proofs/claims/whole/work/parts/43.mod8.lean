/-! PURE: what a village spares -/
/-- the sum of the leaves' depths -/
def dS_ (f : Nat → Int32) : Nat → Nat → Nat → Nat → Nat
  | 0, _, _, _ => 0
  | k + 1, a, c, q => if 2 ≤ c then dS_ f k a (ms_ f a c) (q + 1) + dS_ f k (a + ms_ f a c) (c - ms_ f a c) (q + 1) else q
/-- the leaf j's depth and what stands beside it -/
def sv_ (f : Nat → Int32) : Nat → Nat → Nat → Nat → Nat → Nat → Nat
  | 0, _, _, _, _, _ => 0
  | k + 1, a, c, q, b, j => if 2 ≤ c then (if j < a + ms_ f a c then sv_ f k a (ms_ f a c) (q + 1) (c - ms_ f a c) j else sv_ f k (a + ms_ f a c) (c - ms_ f a c) (q + 1) (ms_ f a c) j) else q + b
theorem sp_cg {f g : Nat → Int32} {B : Int32} : ∀ (c a a' : Nat), (∀ j, j < c → g (a' + j) = f (a + j)) → sp_ g B a' c = sp_ f B a c
  | 0, _, _, _ => rfl
  | c + 1, a, a', h => by
    have h0 := h 0 (by omega)
    rw [Nat.add_zero, Nat.add_zero] at h0
    rw [sp_, sp_, h0, sp_cg c (a + 1) (a' + 1) (fun j hj => by
      have := h (j + 1) (by omega)
      rw [show a' + (j + 1) = a' + 1 + j by omega, show a + (j + 1) = a + 1 + j by omega] at this
      exact this)]
theorem ms_cg {f g : Nat → Int32} {a a' c : Nat} (hc : 1 ≤ c) (h : ∀ j, j < c → g (a' + j) = f (a + j)) : ms_ g a' c = ms_ f a c := by
  have h0 := h 0 (by omega)
  have h1 := h (c - 1) (by omega)
  rw [Nat.add_zero, Nat.add_zero] at h0
  rw [show a' + (c - 1) = a' + c - 1 by omega, show a + (c - 1) = a + c - 1 by omega] at h1
  unfold ms_
  rw [h0, h1, sp_cg c a a' h]
theorem ms_le (f : Nat → Int32) (a c : Nat) : ms_ f a c ≤ c := sp_le f _ c a
theorem dS_cg {f g : Nat → Int32} : ∀ (k a a' c q : Nat), (∀ j, j < c → g (a' + j) = f (a + j)) → dS_ g k a' c q = dS_ f k a c q
  | 0, _, _, _, _, _ => rfl
  | k + 1, a, a', c, q, h => by
    rw [dS_, dS_]
    by_cases hc : 2 ≤ c
    · have hm := ms_le f a c
      rw [if_pos hc, if_pos hc, ms_cg (by omega) h, dS_cg k a a' (ms_ f a c) (q + 1) (fun j hj => h j (by omega)), dS_cg k (a + ms_ f a c) (a' + ms_ f a c) (c - ms_ f a c) (q + 1) (fun j hj => by
        have := h (ms_ f a c + j) (by omega)
        rw [← Nat.add_assoc, ← Nat.add_assoc] at this; exact this)]
    · rw [if_neg hc, if_neg hc]
theorem dS_up {f : Nat → Int32} {n : Nat} (hg : gs_ f n) : ∀ (k a c q : Nat), 1 ≤ c → c ≤ k → a + c ≤ n → dS_ f k a c (q + 1) = dS_ f k a c q + c
  | 0, _, _, _, h1, h2, _ => absurd h1 (by omega)
  | k + 1, a, c, q, h1, h2, h3 => by
    rw [dS_, dS_]
    by_cases hc : 2 ≤ c
    · obtain ⟨m1, m2⟩ := hg a c hc h3
      rw [if_pos hc, if_pos hc, dS_up hg k a _ (q + 1) m1 (by omega) (by omega), dS_up hg k (a + ms_ f a c) _ (q + 1) (by omega) (by omega) (by omega)]
      omega
    · rw [if_neg hc, if_neg hc]; omega
theorem dS_fu {f : Nat → Int32} {n : Nat} (hg : gs_ f n) : ∀ (k k' a c q : Nat), 1 ≤ c → c ≤ k → c ≤ k' → a + c ≤ n → dS_ f k a c q = dS_ f k' a c q
  | 0, _, _, _, _, h1, h2, _, _ => absurd h1 (by omega)
  | k + 1, 0, _, _, _, h1, _, h2, _ => absurd h1 (by omega)
  | k + 1, k' + 1, a, c, q, h1, h2, h2', h3 => by
    rw [dS_, dS_]
    by_cases hc : 2 ≤ c
    · obtain ⟨m1, m2⟩ := hg a c hc h3
      rw [if_pos hc, if_pos hc, dS_fu hg k k' a _ (q + 1) m1 (by omega) (by omega) (by omega), dS_fu hg k k' (a + ms_ f a c) _ (q + 1) (by omega) (by omega) (by omega) (by omega)]
    · rw [if_neg hc, if_neg hc]
theorem dS_le {f : Nat → Int32} {n : Nat} (hg : gs_ f n) (N : Nat) : ∀ (k a c q : Nat), 1 ≤ c → c ≤ k → a + c ≤ n → q + c ≤ N → dS_ f k a c q ≤ c * N
  | 0, _, _, _, h1, h2, _, _ => absurd h1 (by omega)
  | k + 1, a, c, q, h1, h2, h3, h4 => by
    rw [dS_]
    by_cases hc : 2 ≤ c
    · obtain ⟨m1, m2⟩ := hg a c hc h3
      have i1 := dS_le hg N k a (ms_ f a c) (q + 1) m1 (by omega) (by omega) (by omega)
      have i2 := dS_le hg N k (a + ms_ f a c) (c - ms_ f a c) (q + 1) (by omega) (by omega) (by omega) (by omega)
      have e : c * N = ms_ f a c * N + (c - ms_ f a c) * N := by rw [← Nat.add_mul]; congr 1; omega
      rw [if_pos hc, e]; omega
    · rw [if_neg hc]
      have e : c = 1 := by omega
      subst e; omega
/-- any name of the low side and any of the high side part at the same bit -/
theorem fub_mid {L : g_L} {a c i j : Nat} (h : vL_ L) (hc : 2 ≤ c) (hac : a + c ≤ L.length) (hi : a ≤ i) (him : i < a + ms_ (fn_ L) a c) (hj : a + ms_ (fn_ L) a c ≤ j) (hjc : j < a + c) (hh : ∀ x, a + ms_ (fn_ L) a c ≤ x → x < a + c → hb_ (fn_ L x) (fub_ (fn_ L a) (fn_ L (a + c - 1))) = true) : fub_ (fn_ L i) (fn_ L j) = fub_ (fn_ L a) (fn_ L (a + c - 1)) := by
  obtain ⟨g1, g2⟩ := gs_of h a c hc hac
  obtain ⟨x, hx, ex⟩ := vL_nat h (show a < L.length by omega)
  obtain ⟨y, hy, ey⟩ := vL_nat h (show a + c - 1 < L.length by omega)
  obtain ⟨p, hp, ep⟩ := vL_nat h (show i < L.length by omega)
  obtain ⟨r, hr, er⟩ := vL_nat h (show j < L.length by omega)
  have lt' : ∀ {i j u v : Nat}, i < j → j < L.length → u ≤ 65535 → v ≤ 65535 → fn_ L i = nI u → fn_ L j = nI v → u < v := by
    intro i j u v hij hj hu hv eu ev
    have := vL_mono h hij hj
    rw [eu, ev] at this
    exact g_lt this (by omega) (by omega)
  have le' : ∀ {i j u v : Nat}, i ≤ j → j < L.length → u ≤ 65535 → v ≤ 65535 → fn_ L i = nI u → fn_ L j = nI v → u ≤ v := by
    intro i j u v hij hj hu hv eu ev
    rcases Nat.eq_or_lt_of_le hij with q | q
    · subst q
      have := g_eq (eu.symm.trans ev) (by omega) (by omega)
      omega
    · exact Nat.le_of_lt (lt' q hj hu hv eu ev)
  obtain ⟨k, hk, e, k1, k2⟩ := fub_bit (lt' (show a < a + c - 1 by omega) (by omega) hx hy ex ey) hy
  have hxy := lt' (show a < a + c - 1 by omega) (by omega) hx hy ex ey
  have hpr := lt' (show i < j by omega) (by omega) hp hr ep er
  have hxp := le' hi (by omega) hx hp ex ep
  have hry := le' (show j ≤ a + c - 1 by omega) (by omega) hr hy er ey
  have b1 : hb_ (fn_ L i) (fub_ (fn_ L a) (fn_ L (a + c - 1))) = false := by
    have := sp_no (fn_ L) (fub_ (fn_ L a) (fn_ L (a + c - 1))) c a (i - a) (show i - a < ms_ (fn_ L) a c by omega)
    rw [show a + (i - a) = i by omega] at this; exact this
  have b2 := hh j hj hjc
  rw [ep, ex, ey, e, b_hb (by omega) (by omega)] at b1
  rw [er, ex, ey, e, b_hb (by omega) (by omega)] at b2
  obtain ⟨-, -, hab⟩ := b_top hxy k1 k2
  have hd : x / 2 ^ (k + 1) = y / 2 ^ (k + 1) := by
    apply Nat.eq_of_testBit_eq
    intro z
    rw [Nat.testBit_div_two_pow, Nat.testBit_div_two_pow]
    exact hab _ (by omega)
  have a1 : x / 2 ^ (k + 1) ≤ p / 2 ^ (k + 1) := Nat.div_le_div_right hxp
  have a2 : p / 2 ^ (k + 1) ≤ r / 2 ^ (k + 1) := Nat.div_le_div_right (Nat.le_of_lt hpr)
  have a3 : r / 2 ^ (k + 1) ≤ y / 2 ^ (k + 1) := Nat.div_le_div_right hry
  have e2 : p / 2 ^ (k + 1) = r / 2 ^ (k + 1) := by omega
  have hup : p ^^^ r < 2 ^ (k + 1) := by
    apply Nat.lt_pow_two_of_testBit
    intro z hz
    rw [Nat.testBit_xor]
    have h3 := congrArg (fun w => w.testBit (z - (k + 1))) e2
    simp only [Nat.testBit_div_two_pow] at h3
    rw [show z - (k + 1) + (k + 1) = z by omega] at h3
    rw [h3]; simp
  have hlo : 2 ^ k ≤ p ^^^ r := by
    rcases Nat.lt_or_ge (p ^^^ r) (2 ^ k) with q | q
    · have := Nat.testBit_lt_two_pow q
      rw [Nat.testBit_xor, b1, b2] at this
      cases this
    · exact q
  obtain ⟨k', hk', e', l1, l2⟩ := fub_bit hpr hr
  have c1 : k' < k + 1 := (Nat.pow_lt_pow_iff_right (a := 2) (by decide)).mp (Nat.lt_of_le_of_lt l1 hup)
  have c2 : k < k' + 1 := (Nat.pow_lt_pow_iff_right (a := 2) (by decide)).mp (Nat.lt_of_le_of_lt hlo l2)
  rw [ex, ey, ep, er, e, e', show k' = k by omega]
/-- the high side's names have the bit -/
theorem sp_hi {L : g_L} {a c : Nat} (h : vL_ L) (hc : 2 ≤ c) (hac : a + c ≤ L.length) : ∀ x, a + ms_ (fn_ L) a c ≤ x → x < a + c → hb_ (fn_ L x) (fub_ (fn_ L a) (fn_ L (a + c - 1))) = true := by
  intro i hi hic
  obtain ⟨g1, g2⟩ := gs_of h a c hc hac
  obtain ⟨x, hx, ex⟩ := vL_nat h (show a < L.length by omega)
  obtain ⟨y, hy, ey⟩ := vL_nat h (show a + c - 1 < L.length by omega)
  obtain ⟨z, hz, ez⟩ := vL_nat h (show a + ms_ (fn_ L) a c < L.length by omega)
  obtain ⟨p, hp, ep⟩ := vL_nat h (show i < L.length by omega)
  have le' : ∀ {i j u v : Nat}, i ≤ j → j < L.length → u ≤ 65535 → v ≤ 65535 → fn_ L i = nI u → fn_ L j = nI v → u ≤ v := by
    intro i j u v hij hj hu hv eu ev
    rcases Nat.eq_or_lt_of_le hij with q | q
    · subst q
      have := g_eq (eu.symm.trans ev) (by omega) (by omega)
      omega
    · have := vL_mono h q hj
      rw [eu, ev] at this
      exact Nat.le_of_lt (g_lt this (by omega) (by omega))
  have hxy : x < y := by
    have := vL_mono h (show a < a + c - 1 by omega) (by omega)
    rw [ex, ey] at this
    exact g_lt this (by omega) (by omega)
  obtain ⟨k, hk, e, k1, k2⟩ := fub_bit hxy hy
  obtain ⟨-, t2, hab⟩ := b_top hxy k1 k2
  have hb := sp_yes (fn_ L) (fub_ (fn_ L a) (fn_ L (a + c - 1))) c a g2
  rw [show a + sp_ (fn_ L) (fub_ (fn_ L a) (fn_ L (a + c - 1))) a c = a + ms_ (fn_ L) a c from rfl, ez, ex, ey, e, b_hb (by omega) (by omega)] at hb
  rw [ep, ex, ey, e, b_hb (by omega) (by omega)]
  have hzp := le' hi (by omega) hz hp ez ep
  have hpy := le' (show i ≤ a + c - 1 by omega) (by omega) hp hy ep ey
  have hxz := le' (show a ≤ a + ms_ (fn_ L) a c by omega) (by omega) hx hz ex ez
  have hlow := b_bet hxy k1 k2 hxz (Nat.le_trans hzp hpy) (Nat.le_refl y) (hb.trans t2.symm)
  have hd : z / 2 ^ k = y / 2 ^ k := by
    apply Nat.eq_of_testBit_eq
    intro w
    rw [Nat.testBit_div_two_pow, Nat.testBit_div_two_pow]
    have h5 : (z ^^^ y).testBit (w + k) = false := Nat.testBit_lt_two_pow (Nat.lt_of_lt_of_le hlow (Nat.pow_le_pow_right (by decide) (by omega)))
    rw [Nat.testBit_xor] at h5
    cases h6 : z.testBit (w + k) <;> cases h7 : y.testBit (w + k) <;> simp [h6, h7] at h5 ⊢
  have d1 : z / 2 ^ k ≤ p / 2 ^ k := Nat.div_le_div_right hzp
  have d2 : p / 2 ^ k ≤ y / 2 ^ k := Nat.div_le_div_right hpy
  have d3 : p / 2 ^ k = y / 2 ^ k := by omega
  have := congrArg (fun w => w.testBit 0) d3
  simp only [Nat.testBit_div_two_pow, Nat.zero_add] at this
  rw [this]; exact t2
/-- a part without its name i, c ≥ 3 or so: the side keeps its size -/
theorem ms_er {L : g_L} {a c i : Nat} (h : vL_ L) (hc : 2 ≤ c) (hac : a + c ≤ L.length) (hi : a ≤ i) (hic : i < a + c) :
    (i < a + ms_ (fn_ L) a c → 2 ≤ ms_ (fn_ L) a c → ms_ (fn_ (L.eraseIdx i)) a (c - 1) = ms_ (fn_ L) a c - 1) ∧
    (a + ms_ (fn_ L) a c ≤ i → 2 ≤ c - ms_ (fn_ L) a c → ms_ (fn_ (L.eraseIdx i)) a (c - 1) = ms_ (fn_ L) a c) := by
  obtain ⟨g1, g2⟩ := gs_of h a c hc hac
  have hh := sp_hi h hc hac
  have hl : ∀ x, a ≤ x → x < a + ms_ (fn_ L) a c → hb_ (fn_ L x) (fub_ (fn_ L a) (fn_ L (a + c - 1))) = false := fun x h1 h2 => by
    have := sp_no (fn_ L) (fub_ (fn_ L a) (fn_ L (a + c - 1))) c a (x - a) (show x - a < ms_ (fn_ L) a c by omega)
    rw [show a + (x - a) = x by omega] at this; exact this
  have ge : ∀ j, fn_ (L.eraseIdx i) j = fn_ L (if j < i then j else j + 1) := fun j => by
    rw [fn_erase]; split <;> rfl
  have hB : ∀ lo hi2, a ≤ lo → lo < a + ms_ (fn_ L) a c → a + ms_ (fn_ L) a c ≤ hi2 → hi2 < a + c → fub_ (fn_ L lo) (fn_ L hi2) = fub_ (fn_ L a) (fn_ L (a + c - 1)) := fun lo hi2 z1 z2 z3 z4 => fub_mid h hc hac z1 z2 z3 z4 hh
  constructor
  · intro hil hm2
    unfold ms_ at *
    rw [ge a, ge (a + (c - 1) - 1)]
    have e1 : fub_ (fn_ L (if a < i then a else a + 1)) (fn_ L (if a + (c - 1) - 1 < i then a + (c - 1) - 1 else a + (c - 1) - 1 + 1)) = fub_ (fn_ L a) (fn_ L (a + c - 1)) := by
      apply hB <;> split <;> omega
    rw [e1]
    refine sp_eq (by omega) (fun j hj => ?_) (fun _ => ?_)
    · rw [ge]
      split
      · exact hl _ (by omega) (by omega)
      · exact hl _ (by omega) (by omega)
    · rw [ge, if_neg (by omega)]
      exact hh _ (by omega) (by omega)
  · intro hir hm2
    unfold ms_ at *
    rw [ge a, ge (a + (c - 1) - 1)]
    have e1 : fub_ (fn_ L (if a < i then a else a + 1)) (fn_ L (if a + (c - 1) - 1 < i then a + (c - 1) - 1 else a + (c - 1) - 1 + 1)) = fub_ (fn_ L a) (fn_ L (a + c - 1)) := by
      apply hB <;> split <;> omega
    rw [e1]
    refine sp_eq (by omega) (fun j hj => ?_) (fun _ => ?_)
    · rw [ge, if_pos (by omega)]
      exact hl _ (by omega) (by omega)
    · rw [ge]
      split
      · exact hh _ (by omega) (by omega)
      · exact hh _ (by omega) (by omega)
/-- the sum of the depths without a village -/
theorem dS_er {L : g_L} {i : Nat} (h : vL_ L) (hi : i < L.length) : ∀ (k k' a c q b : Nat), 2 ≤ c → c ≤ k → c - 1 ≤ k' → a + c ≤ L.length → a ≤ i → i < a + c → dS_ (fn_ (L.eraseIdx i)) k' a (c - 1) q + sv_ (fn_ L) k a c q b i = dS_ (fn_ L) k a c q
  | 0, _, _, _, _, _, h1, h2, _, _, _, _ => absurd h1 (by omega)
  | k + 1, 0, _, _, _, _, h1, _, h2, _, _, _ => absurd h1 (by omega)
  | k + 1, k' + 1, a, c, q, b, hc, h2, h2', hac, hai, hic => by
    obtain ⟨g1, g2⟩ := gs_of h a c hc hac
    have hg := gs_of h
    obtain ⟨m1, m2⟩ := ms_er h hc hac hai hic
    have ge : ∀ j, fn_ (L.eraseIdx i) j = fn_ L (if j < i then j else j + 1) := fun j => by
      rw [fn_erase]; split <;> rfl
    rw [show dS_ (fn_ L) (k + 1) a c q = dS_ (fn_ L) k a (ms_ (fn_ L) a c) (q + 1) + dS_ (fn_ L) k (a + ms_ (fn_ L) a c) (c - ms_ (fn_ L) a c) (q + 1) by rw [dS_, if_pos hc]]
    rw [show sv_ (fn_ L) (k + 1) a c q b i = if i < a + ms_ (fn_ L) a c then sv_ (fn_ L) k a (ms_ (fn_ L) a c) (q + 1) (c - ms_ (fn_ L) a c) i else sv_ (fn_ L) k (a + ms_ (fn_ L) a c) (c - ms_ (fn_ L) a c) (q + 1) (ms_ (fn_ L) a c) i by rw [sv_, if_pos hc]]
    by_cases hil : i < a + ms_ (fn_ L) a c
    · rw [if_pos hil]
      by_cases hm : 2 ≤ ms_ (fn_ L) a c
      · have em := m1 hil hm
        have ih := dS_er h hi k k' a (ms_ (fn_ L) a c) (q + 1) (c - ms_ (fn_ L) a c) hm (by omega) (by omega) (by omega) hai hil
        rw [dS_, if_pos (by omega), em, dS_cg k' (a + ms_ (fn_ L) a c) (a + (ms_ (fn_ L) a c - 1)) (c - 1 - (ms_ (fn_ L) a c - 1)) (q + 1) (fun j hj => by rw [ge, if_neg (by omega)]; congr 1; omega), show c - 1 - (ms_ (fn_ L) a c - 1) = c - ms_ (fn_ L) a c by omega, dS_fu hg k' k (a + ms_ (fn_ L) a c) (c - ms_ (fn_ L) a c) (q + 1) (by omega) (by omega) (by omega) (by omega)]
        omega
      · have e1 : ms_ (fn_ L) a c = 1 := by omega
        rw [e1] at hil ⊢
        have e2 : sv_ (fn_ L) k a 1 (q + 1) (c - 1) i = q + 1 + (c - 1) := by
          obtain ⟨k2, rfl⟩ : ∃ k2, k = k2 + 1 := ⟨k - 1, by omega⟩
          rw [sv_, if_neg (by omega)]
        have e3 : dS_ (fn_ L) k a 1 (q + 1) = q + 1 := by
          obtain ⟨k2, rfl⟩ : ∃ k2, k = k2 + 1 := ⟨k - 1, by omega⟩
          rw [dS_, if_neg (by omega)]
        rw [e2, e3, dS_up hg k (a + 1) (c - 1) q (by omega) (by omega) (by omega), dS_cg (k' + 1) (a + 1) a (c - 1) q (fun j hj => by rw [ge, if_neg (by omega)]; congr 1; omega), dS_fu hg (k' + 1) k (a + 1) (c - 1) q (by omega) (by omega) (by omega) (by omega)]
        omega
    · rw [if_neg hil]
      by_cases hm : 2 ≤ c - ms_ (fn_ L) a c
      · have em := m2 (by omega) hm
        have ih := dS_er h hi k k' (a + ms_ (fn_ L) a c) (c - ms_ (fn_ L) a c) (q + 1) (ms_ (fn_ L) a c) hm (by omega) (by omega) (by omega) (by omega) (by omega)
        rw [dS_, if_pos (by omega), em, dS_cg k' a a (ms_ (fn_ L) a c) (q + 1) (fun j hj => by rw [ge, if_pos (by omega)]), show c - 1 - ms_ (fn_ L) a c = c - ms_ (fn_ L) a c - 1 by omega, dS_fu hg k' k a (ms_ (fn_ L) a c) (q + 1) g1 (by omega) (by omega) (by omega)]
        omega
      · have e1 : c - ms_ (fn_ L) a c = 1 := by omega
        have e4 : c - 1 = ms_ (fn_ L) a c := by omega
        rw [e1, e4]
        have e2 : sv_ (fn_ L) k (a + ms_ (fn_ L) a c) 1 (q + 1) (ms_ (fn_ L) a c) i = q + 1 + ms_ (fn_ L) a c := by
          obtain ⟨k2, rfl⟩ : ∃ k2, k = k2 + 1 := ⟨k - 1, by omega⟩
          rw [sv_, if_neg (by omega)]
        have e3 : dS_ (fn_ L) k (a + ms_ (fn_ L) a c) 1 (q + 1) = q + 1 := by
          obtain ⟨k2, rfl⟩ : ∃ k2, k = k2 + 1 := ⟨k - 1, by omega⟩
          rw [dS_, if_neg (by omega)]
        rw [e2, e3, dS_up hg k a (ms_ (fn_ L) a c) q g1 (by omega) (by omega), dS_cg (k' + 1) a a (ms_ (fn_ L) a c) q (fun j hj => by rw [ge, if_pos (by omega)]), dS_fu hg (k' + 1) k a (ms_ (fn_ L) a c) q g1 (by omega) (by omega) (by omega)]
        omega
