/-! PURE: the tree of signs, as a row -/
abbrev g_Nd : Type := Nat × Nat × Nat × Nat
def ms_ (f : Nat → Int32) (a c : Nat) : Nat := sp_ f (fub_ (f a) (f (a + c - 1))) a c
def tr_ (f : Nat → Int32) : Nat → Nat → Nat → Nat → Nat → List g_Nd
  | 0, _, _, _, _ => []
  | k + 1, a, c, q, b => (a, c, q, b) :: (if 2 ≤ c then tr_ f k a (ms_ f a c) (q + 1) (c - ms_ f a c) ++ tr_ f k (a + ms_ f a c) (c - ms_ f a c) (q + 1) (ms_ f a c) else [])
/-- every part of two names or more is parted by its post -/
def gs_ (f : Nat → Int32) (n : Nat) : Prop := ∀ a c, 2 ≤ c → a + c ≤ n → 1 ≤ ms_ f a c ∧ ms_ f a c < c
theorem tr_len {f : Nat → Int32} {n : Nat} (hg : gs_ f n) : ∀ (k a c q b : Nat), 1 ≤ c → c ≤ k → a + c ≤ n → (tr_ f k a c q b).length = 2 * c - 1
  | 0, a, c, q, b, h1, h2, _ => absurd h1 (by omega)
  | k + 1, a, c, q, b, h1, h2, h3 => by
    rw [tr_, List.length_cons]
    by_cases h : 2 ≤ c
    · obtain ⟨g1, g2⟩ := hg a c h h3
      rw [if_pos h, List.length_append, tr_len hg k a _ _ _ g1 (by omega) (by omega), tr_len hg k (a + ms_ f a c) (c - ms_ f a c) _ _ (by omega) (by omega) (by omega)]
      omega
    · rw [if_neg h]
      simp
      omega
theorem tr_hd {f : Nat → Int32} {k a c q b : Nat} (h : 1 ≤ k) : (tr_ f k a c q b)[0]? = some (a, c, q, b) := by
  obtain ⟨j, rfl⟩ : ∃ j, k = j + 1 := ⟨k - 1, by omega⟩
  rw [tr_]; rfl
theorem ix_l {α : Type} {x : α} {X Y : List α} {i : Nat} (h : i < X.length) : (x :: (X ++ Y))[i + 1]? = X[i]? := by
  rw [List.getElem?_cons_succ, List.getElem?_append_left h]
theorem ix_r {α : Type} {x : α} {X Y : List α} {i : Nat} (h : X.length ≤ i) : (x :: (X ++ Y))[i + 1]? = Y[i - X.length]? := by
  rw [List.getElem?_cons_succ, List.getElem?_append_right h]
theorem ix_some {α : Type} {X : List α} {i : Nat} {y : α} (h : X[i]? = some y) : i < X.length := (List.getElem?_eq_some_iff.mp h).1
theorem tr_node {f : Nat → Int32} {n : Nat} (hg : gs_ f n) : ∀ (k a c q b : Nat), 1 ≤ c → c ≤ k → a + c ≤ n → ∀ (p : Nat) (nd : g_Nd), (tr_ f k a c q b)[p]? = some nd →
    1 ≤ nd.2.1 ∧ a ≤ nd.1 ∧ nd.1 + nd.2.1 ≤ a + c ∧ q ≤ nd.2.2.1 ∧ nd.2.2.1 + nd.2.1 ≤ q + c ∧ p + 2 * nd.2.1 ≤ 2 * c ∧ (2 ≤ nd.2.1 → (tr_ f k a c q b)[p + 1]? = some (nd.1, ms_ f nd.1 nd.2.1, nd.2.2.1 + 1, nd.2.1 - ms_ f nd.1 nd.2.1) ∧ (tr_ f k a c q b)[p + 2 * ms_ f nd.1 nd.2.1]? = some (nd.1 + ms_ f nd.1 nd.2.1, nd.2.1 - ms_ f nd.1 nd.2.1, nd.2.2.1 + 1, ms_ f nd.1 nd.2.1))
  | 0, a, c, q, b, h1, h2, _ => absurd h1 (by omega)
  | k + 1, a, c, q, b, h1, h2, h3 => by
    intro p nd hp
    rw [tr_] at hp ⊢
    by_cases h : 2 ≤ c
    · obtain ⟨g1, g2⟩ := hg a c h h3
      rw [if_pos h] at hp ⊢
      have e1 := tr_len hg k a (ms_ f a c) (q + 1) (c - ms_ f a c) g1 (by omega) (by omega)
      have e2 := tr_len hg k (a + ms_ f a c) (c - ms_ f a c) (q + 1) (ms_ f a c) (by omega) (by omega) (by omega)
      have i1 := tr_node hg k a (ms_ f a c) (q + 1) (c - ms_ f a c) g1 (by omega) (by omega)
      have i2 := tr_node hg k (a + ms_ f a c) (c - ms_ f a c) (q + 1) (ms_ f a c) (by omega) (by omega) (by omega)
      have z1 : (tr_ f k a (ms_ f a c) (q + 1) (c - ms_ f a c))[0]? = _ := tr_hd (by omega)
      have z2 : (tr_ f k (a + ms_ f a c) (c - ms_ f a c) (q + 1) (ms_ f a c))[0]? = _ := tr_hd (by omega)
      generalize tr_ f k a (ms_ f a c) (q + 1) (c - ms_ f a c) = X at hp e1 i1 z1 ⊢
      generalize tr_ f k (a + ms_ f a c) (c - ms_ f a c) (q + 1) (ms_ f a c) = Y at hp e2 i2 z2 ⊢
      cases p with
      | zero =>
        cases hp
        refine ⟨h1, Nat.le_refl _, Nat.le_refl _, Nat.le_refl _, Nat.le_refl _, by dsimp only; omega, fun _ => ⟨?_, ?_⟩⟩
        · rw [ix_l (by omega)]; exact z1
        · obtain ⟨j, hj⟩ : ∃ j, 0 + 2 * ms_ f a c = j + 1 := ⟨2 * ms_ f a c - 1, by omega⟩
          show ((a, c, q, b) :: (X ++ Y))[0 + 2 * ms_ f a c]? = _
          rw [hj, ix_r (by omega), show j - X.length = 0 by omega]
          exact z2
      | succ p =>
        by_cases hpl : p < X.length
        · rw [ix_l hpl] at hp
          obtain ⟨b1, b2, b3, b4, b5, b6, b7⟩ := i1 p nd hp
          refine ⟨b1, by omega, by omega, by omega, by omega, by omega, fun hc => ?_⟩
          obtain ⟨d1, d2⟩ := b7 hc
          rw [show p + 1 + 2 * ms_ f nd.1 nd.2.1 = (p + 2 * ms_ f nd.1 nd.2.1) + 1 by omega, ix_l (ix_some d1), ix_l (ix_some d2)]
          exact ⟨d1, d2⟩
        · rw [ix_r (by omega)] at hp
          obtain ⟨b1, b2, b3, b4, b5, b6, b7⟩ := i2 _ nd hp
          refine ⟨b1, by omega, by omega, by omega, by omega, by omega, fun hc => ?_⟩
          obtain ⟨d1, d2⟩ := b7 hc
          rw [show p + 1 + 2 * ms_ f nd.1 nd.2.1 = (p + 2 * ms_ f nd.1 nd.2.1) + 1 by omega, ix_r (by omega), ix_r (by omega), show p + 1 - X.length = p - X.length + 1 by omega, show p + 2 * ms_ f nd.1 nd.2.1 - X.length = p - X.length + 2 * ms_ f nd.1 nd.2.1 by omega]
          exact ⟨d1, d2⟩
    · rw [if_neg h] at hp ⊢
      cases p with
      | zero =>
        cases hp
        exact ⟨h1, Nat.le_refl _, Nat.le_refl _, Nat.le_refl _, Nat.le_refl _, by dsimp only; omega, fun hc => absurd hc h⟩
      | succ p => simp at hp
theorem tr_par {f : Nat → Int32} {n : Nat} (hg : gs_ f n) : ∀ (k a c q b : Nat), 1 ≤ c → c ≤ k → a + c ≤ n → ∀ (p : Nat) (nd : g_Nd), 0 < p → (tr_ f k a c q b)[p]? = some nd →
    ∃ (p' : Nat) (nd' : g_Nd), p' < p ∧ (tr_ f k a c q b)[p']? = some nd' ∧ 2 ≤ nd'.2.1 ∧ (p = p' + 1 ∨ p = p' + 2 * ms_ f nd'.1 nd'.2.1)
  | 0, a, c, q, b, h1, h2, _ => absurd h1 (by omega)
  | k + 1, a, c, q, b, h1, h2, h3 => by
    intro p nd h0 hp
    rw [tr_] at hp ⊢
    by_cases h : 2 ≤ c
    · obtain ⟨g1, g2⟩ := hg a c h h3
      rw [if_pos h] at hp ⊢
      have e1 := tr_len hg k a (ms_ f a c) (q + 1) (c - ms_ f a c) g1 (by omega) (by omega)
      have i1 := tr_par hg k a (ms_ f a c) (q + 1) (c - ms_ f a c) g1 (by omega) (by omega)
      have i2 := tr_par hg k (a + ms_ f a c) (c - ms_ f a c) (q + 1) (ms_ f a c) (by omega) (by omega) (by omega)
      generalize tr_ f k a (ms_ f a c) (q + 1) (c - ms_ f a c) = X at hp e1 i1 ⊢
      generalize tr_ f k (a + ms_ f a c) (c - ms_ f a c) (q + 1) (ms_ f a c) = Y at hp i2 ⊢
      obtain ⟨i, rfl⟩ : ∃ i, p = i + 1 := ⟨p - 1, by omega⟩
      by_cases hz : i = 0
      · subst hz
        exact ⟨0, (a, c, q, b), by omega, rfl, h, Or.inl rfl⟩
      · by_cases hil : i < X.length
        · rw [ix_l hil] at hp
          obtain ⟨p', nd', d1, d2, d3, d4⟩ := i1 i nd (by omega) hp
          exact ⟨p' + 1, nd', by omega, by rw [ix_l (ix_some d2)]; exact d2, d3, d4.elim (fun e => Or.inl (by omega)) (fun e => Or.inr (by omega))⟩
        · rw [ix_r (by omega)] at hp
          by_cases hy : i - X.length = 0
          · exact ⟨0, (a, c, q, b), by omega, rfl, h, Or.inr (by show i + 1 = 0 + 2 * ms_ f a c; omega)⟩
          · obtain ⟨p', nd', d1, d2, d3, d4⟩ := i2 _ nd (by omega) hp
            exact ⟨p' + X.length + 1, nd', by omega, by rw [ix_r (by omega), show p' + X.length - X.length = p' by omega]; exact d2, d3, d4.elim (fun e => Or.inl (by omega)) (fun e => Or.inr (by omega))⟩
    · rw [if_neg h] at hp
      obtain ⟨i, rfl⟩ : ∃ i, p = i + 1 := ⟨p - 1, by omega⟩
      simp at hp
/-- what is told of the sign at the place q -/
def tv_ (f : Nat → Int32) (nd : g_Nd) (q : Nat) (j : Nat) : Int32 := match j with
  | 0 => fub_ (f nd.1) (f (nd.1 + nd.2.1 - 1))
  | 1 => nI nd.1
  | 2 => nI nd.2.1
  | 3 => f nd.1
  | 4 => f (nd.1 + nd.2.1 - 1)
  | 5 => if 2 ≤ nd.2.1 then nI (q + 1) else -1
  | 6 => if 2 ≤ nd.2.1 then nI (q + 2 * ms_ f nd.1 nd.2.1) else -1
  | 7 => nI nd.2.2.1
  | _ => nI nd.2.2.2
abbrev tN_ (f : Nat → Int32) (n : Nat) : List g_Nd := tr_ f n 0 n 0 0
def zs_ (n : Nat) : Nat := if n = 0 then 0 else 2 * n - 1
def tB_ (f : Nat → Int32) (n : Nat) (T : Nat → Nat → Int32) : Prop := ∀ (q : Nat) (nd : g_Nd), (tN_ f n)[q]? = some nd → ∀ j, j < 9 → T j q = tv_ f nd q j
def bgn_ (f : Nat → Int32) (n p q : Nat) : Prop := q = 0 ∨ ∃ (p' : Nat) (nd' : g_Nd), p' < p ∧ (tN_ f n)[p']? = some nd' ∧ 2 ≤ nd'.2.1 ∧ (q = p' + 1 ∨ q = p' + 2 * ms_ f nd'.1 nd'.2.1)
def tI_ (f : Nat → Int32) (n p : Nat) (T : Nat → Nat → Int32) : Prop := (∀ (q : Nat) (nd : g_Nd), q < p → (tN_ f n)[q]? = some nd → ∀ j, j < 9 → T j q = tv_ f nd q j) ∧ ∀ (q : Nat) (nd : g_Nd), (tN_ f n)[q]? = some nd → bgn_ f n p q → T 1 q = nI nd.1 ∧ T 2 q = nI nd.2.1 ∧ T 7 q = nI nd.2.2.1 ∧ T 8 q = nI nd.2.2.2
theorem tN_len {f : Nat → Int32} {n : Nat} (hg : gs_ f n) : (tN_ f n).length = zs_ n := by
  unfold zs_
  split
  · next h => subst h; rfl
  · exact tr_len hg n 0 n 0 0 (by omega) (Nat.le_refl n) (by omega)
theorem tN_pos {f : Nat → Int32} {n q : Nat} {nd : g_Nd} (h : (tN_ f n)[q]? = some nd) : 1 ≤ n := by
  cases n with
  | zero => simp [tN_, tr_] at h
  | succ n => omega
theorem tI_end {f : Nat → Int32} {n : Nat} {T : Nat → Nat → Int32} (hg : gs_ f n) (h : tI_ f n (zs_ n) T) : tB_ f n T := fun q nd hq j hj => h.1 q nd (by rw [← tN_len hg]; exact ix_some hq) hq j hj
theorem tI_0 {f : Nat → Int32} {n : Nat} {T : Nat → Nat → Int32} (h : 1 ≤ n) : tI_ f n 0 (bg_ T 0 0 n 0 0) := by
  refine ⟨fun q nd hq => absurd hq (Nat.not_lt_zero q), fun q nd hq hb => ?_⟩
  rcases hb with rfl | ⟨p', nd', h1, -⟩
  · rw [tr_hd h] at hq
    cases hq
    exact ⟨upd_at, upd_at, upd_at, upd_at⟩
  · exact absurd h1 (Nat.not_lt_zero _)
theorem tI_know {f : Nat → Int32} {n p : Nat} {T : Nat → Nat → Int32} {nd : g_Nd} (hg : gs_ f n) (h : tI_ f n p T) (hp : (tN_ f n)[p]? = some nd) : T 1 p = nI nd.1 ∧ T 2 p = nI nd.2.1 ∧ T 7 p = nI nd.2.2.1 ∧ T 8 p = nI nd.2.2.2 := by
  refine h.2 p nd hp ?_
  by_cases h0 : p = 0
  · exact Or.inl h0
  · exact Or.inr (tr_par hg n 0 n 0 0 (tN_pos hp) (Nat.le_refl n) (by omega) p nd (by omega) hp)
theorem tI_step {f : Nat → Int32} {n p : Nat} {T : Nat → Nat → Int32} {nd : g_Nd} (hg : gs_ f n) (h : tI_ f n p T) (hp : (tN_ f n)[p]? = some nd) : tI_ f n (p + 1) (fat_ f T p nd.1 nd.2.1 nd.2.2.1) := by
  have hn := tN_pos hp
  obtain ⟨b1, b2, b3, b4, b5, b6, b7⟩ := tr_node hg n 0 n 0 0 hn (Nat.le_refl n) (by omega) p nd hp
  obtain ⟨k1, k2, k7, k8⟩ := tI_know hg h hp
  obtain ⟨a, c, q0, b0⟩ := nd
  dsimp only at b1 b2 b3 b4 b5 b6 b7 k1 k2 k7 k8 ⊢
  by_cases hc : 2 ≤ c
  · obtain ⟨d1, d2⟩ := b7 hc
    obtain ⟨g1, g2⟩ := hg a c hc (by omega)
    have em : sp_ f (fa0_ f T p a c 0 p) a c = ms_ f a c := by rw [show fa0_ f T p a c 0 p = fub_ (f a) (f (a + c - 1)) from upd_at]; rfl
    rw [fat_, if_pos hc, fsd_, em]
    refine ⟨fun q nd hq hN j hj => ?_, fun q nd hN hb => ?_⟩
    · by_cases e : q = p
      · subst e
        have hnd : nd = (a, c, q0, b0) := Option.some.inj (hN.symm.trans hp)
        subst hnd
        rcases (show j = 0 ∨ j = 1 ∨ j = 2 ∨ j = 3 ∨ j = 4 ∨ j = 5 ∨ j = 6 ∨ j = 7 ∨ j = 8 by omega) with rfl | rfl | rfl | rfl | rfl | rfl | rfl | rfl | rfl
        · exact upd_at
        · exact (upd_ne (by omega)).trans ((upd_ne (by omega)).trans k1)
        · exact (upd_ne (by omega)).trans ((upd_ne (by omega)).trans k2)
        · exact upd_at
        · exact upd_at
        · show upd (upd (T 5) q (-1)) q (nI (q + 1)) q = tv_ f (a, c, q0, b0) q 5
          rw [upd_at, tv_, if_pos hc]
        · show upd (upd (T 6) q (-1)) q (nI (q + 2 * sp_ f (fa0_ f T q a c 0 q) a c)) q = tv_ f (a, c, q0, b0) q 6
          rw [upd_at, tv_, if_pos hc, em]
        · exact (upd_ne (by omega)).trans ((upd_ne (by omega)).trans k7)
        · exact (upd_ne (by omega)).trans ((upd_ne (by omega)).trans k8)
      · have hT := h.1 q nd (by omega) hN j hj
        rw [← hT]
        rcases (show j = 0 ∨ j = 1 ∨ j = 2 ∨ j = 3 ∨ j = 4 ∨ j = 5 ∨ j = 6 ∨ j = 7 ∨ j = 8 by omega) with rfl | rfl | rfl | rfl | rfl | rfl | rfl | rfl | rfl
        · exact upd_ne e
        · exact (upd_ne (by omega)).trans (upd_ne (by omega))
        · exact (upd_ne (by omega)).trans (upd_ne (by omega))
        · exact upd_ne e
        · exact upd_ne e
        · exact (upd_ne e).trans (upd_ne e)
        · exact (upd_ne e).trans (upd_ne e)
        · exact (upd_ne (by omega)).trans (upd_ne (by omega))
        · exact (upd_ne (by omega)).trans (upd_ne (by omega))
    · by_cases e2 : q = p + 2 * ms_ f a c
      · subst e2
        have hnd := Option.some.inj (hN.symm.trans d2)
        subst hnd
        exact ⟨upd_at, upd_at, upd_at, upd_at⟩
      · by_cases e1 : q = p + 1
        · subst e1
          have hnd := Option.some.inj (hN.symm.trans d1)
          subst hnd
          exact ⟨(upd_ne e2).trans upd_at, (upd_ne e2).trans upd_at, (upd_ne e2).trans upd_at, (upd_ne e2).trans upd_at⟩
        · have hb2 : bgn_ f n p q := by
            rcases hb with h0 | ⟨p', nd', c1, c2, c3, c4⟩
            · exact Or.inl h0
            · by_cases e : p' = p
              · subst e
                have hnd := Option.some.inj (c2.symm.trans hp)
                subst hnd
                rcases c4 with c4 | c4
                · exact absurd c4 e1
                · exact absurd c4 e2
              · exact Or.inr ⟨p', nd', by omega, c2, c3, c4⟩
          obtain ⟨w1, w2, w7, w8⟩ := h.2 q nd hN hb2
          exact ⟨(upd_ne e2).trans ((upd_ne e1).trans w1), (upd_ne e2).trans ((upd_ne e1).trans w2), (upd_ne e2).trans ((upd_ne e1).trans w7), (upd_ne e2).trans ((upd_ne e1).trans w8)⟩
  · rw [fat_, if_neg hc]
    refine ⟨fun q nd hq hN j hj => ?_, fun q nd hN hb => ?_⟩
    · by_cases e : q = p
      · subst e
        have hnd : nd = (a, c, q0, b0) := Option.some.inj (hN.symm.trans hp)
        subst hnd
        rcases (show j = 0 ∨ j = 1 ∨ j = 2 ∨ j = 3 ∨ j = 4 ∨ j = 5 ∨ j = 6 ∨ j = 7 ∨ j = 8 by omega) with rfl | rfl | rfl | rfl | rfl | rfl | rfl | rfl | rfl
        · exact upd_at
        · exact k1
        · exact k2
        · exact upd_at
        · exact upd_at
        · show upd (T 5) q (-1) q = tv_ f (a, c, q0, b0) q 5
          rw [upd_at, tv_, if_neg hc]
        · show upd (T 6) q (-1) q = tv_ f (a, c, q0, b0) q 6
          rw [upd_at, tv_, if_neg hc]
        · exact k7
        · exact k8
      · have hT := h.1 q nd (by omega) hN j hj
        rw [← hT]
        rcases (show j = 0 ∨ j = 1 ∨ j = 2 ∨ j = 3 ∨ j = 4 ∨ j = 5 ∨ j = 6 ∨ j = 7 ∨ j = 8 by omega) with rfl | rfl | rfl | rfl | rfl | rfl | rfl | rfl | rfl
        · exact upd_ne e
        · rfl
        · rfl
        · exact upd_ne e
        · exact upd_ne e
        · exact upd_ne e
        · exact upd_ne e
        · rfl
        · rfl
    · have hb2 : bgn_ f n p q := by
        rcases hb with h0 | ⟨p', nd', c1, c2, c3, c4⟩
        · exact Or.inl h0
        · by_cases e : p' = p
          · subst e
            have hnd := Option.some.inj (c2.symm.trans hp)
            subst hnd
            exact absurd c3 hc
          · exact Or.inr ⟨p', nd', by omega, c2, c3, c4⟩
      exact h.2 q nd hN hb2
