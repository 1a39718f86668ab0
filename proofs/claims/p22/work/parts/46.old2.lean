/-! PURE: numberOfLeadingZeros (rows of whole, taken anew) -/
def tp_ (u : Int32) : Int32 := if u = 0 then -1 else nI (fo_ u 0 8)
theorem tp_fub {x y : Int32} : tp_ (x ^^^ y) = fub_ x y := rfl
theorem nz_k {u k : Nat} (hu : u < 65536) (h1 : 2 ^ k ≤ u) (h2 : u < 2 ^ (k + 1)) : fo_ (nI u) 0 8 = k := by
  have h0 : 0 < u := Nat.lt_of_lt_of_le (Nat.two_pow_pos k) h1
  obtain ⟨l1, l2, -⟩ := fo_log h0 hu
  have a1 : fo_ (nI u) 0 8 < k + 1 := (Nat.pow_lt_pow_iff_right (by decide)).mp (Nat.lt_of_le_of_lt l1 h2)
  have a2 : k < fo_ (nI u) 0 8 + 1 := (Nat.pow_lt_pow_iff_right (by decide)).mp (Nat.lt_of_le_of_lt h1 l2)
  omega
def nz_ (u : Nat) : Nat := if u = 0 then 32 else 31 - fo_ (nI u) 0 8
theorem nz_fin {u a i : Nat} (hu : u < 65536) (h1 : 1 ≤ i) (h4 : i < 4) (hi : i = u / 2 ^ a) (ha : a ≤ 30) : 31 - a - i / 2 = nz_ u := by
  have hp : 0 < 2 ^ a := Nat.two_pow_pos a
  have hne : u ≠ 0 := by
    intro e; rw [e, Nat.zero_div] at hi; omega
  have l1 : i * 2 ^ a ≤ u := by rw [hi]; exact Nat.div_mul_le_self u _
  have l2 : u < (i + 1) * 2 ^ a := by
    have := Nat.lt_succ_self (u / 2 ^ a)
    rw [← hi] at this
    exact (Nat.div_lt_iff_lt_mul hp).mp (by rw [← hi]; exact Nat.lt_succ_self i)
  rw [nz_, if_neg hne]
  rcases (show i = 1 ∨ i = 2 ∨ i = 3 by omega) with e | e | e
  · subst e
    rw [nz_k hu (k := a) (by omega) (by rw [Nat.pow_succ]; omega)]; omega
  · subst e
    rw [nz_k hu (k := a + 1) (by rw [Nat.pow_succ]; omega) (by rw [Nat.pow_succ, Nat.pow_succ]; omega)]
    omega
  · subst e
    rw [nz_k hu (k := a + 1) (by rw [Nat.pow_succ]; omega) (by rw [Nat.pow_succ, Nat.pow_succ]; omega)]
    omega
theorem tp_nz {u : Nat} (hu : u < 65536) : nI 31 - nI (nz_ u) = tp_ (nI u) := by
  unfold nz_ tp_
  by_cases h : u = 0
  · rw [if_pos h, if_pos (by rw [h]; rfl)]; decide
  · obtain ⟨-, -, l3⟩ := fo_log (Nat.pos_of_ne_zero h) hu
    rw [if_neg h, if_neg (show ¬ nI u = 0 from fun e => h (g_eq (b := 0) e (by omega) (by decide))), pk_sub (by omega)]
    congr 1
    omega
