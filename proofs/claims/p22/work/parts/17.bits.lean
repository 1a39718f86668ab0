/-! PURE: bits of names -/
theorem b_xor (a b : Nat) : nI a ^^^ nI b = nI (a ^^^ b) := by
  apply Int32.toBitVec_inj.mp
  show (nI a).toBitVec ^^^ (nI b).toBitVec = (nI (a ^^^ b)).toBitVec
  apply BitVec.eq_of_toNat_eq
  simp [nI, BitVec.toNat_xor, Nat.xor_mod_two_pow]
theorem b_sh : ∀ k, k < 32 → ((nI k &&& 31).toBitVec.smod 32).toNat = k := by decide +kernel
theorem b_shr {u k : Nat} (hu : u < 2 ^ 31) (hk : k < 32) : nI u >>> (nI k &&& 31) = nI (u / 2 ^ k) := pk_shrN hu _ k (b_sh k hk)
theorem b_hb {a k : Nat} (ha : a < 2 ^ 31) (hk : k < 32) : hb_ (nI a) (nI k) = a.testBit k := by
  unfold hb_
  rw [b_shr ha hk, show (1 : Int32) = nI 1 from rfl]
  have h1 : a / 2 ^ k < 2 ^ 32 := Nat.lt_of_le_of_lt (Nat.div_le_self _ _) (by omega)
  rw [pk_andN (m := nI 1) h1 1 (by decide)]
  rw [Nat.testBit_eq_decide_div_mod_eq]
  have h2 : a / 2 ^ k % 2 ^ 1 < 2 ^ 31 := by have := Nat.mod_lt (a / 2 ^ k) (show 0 < 2 ^ 1 by decide); omega
  rw [decide_eq_decide, nI_eq h2 (by decide)]
theorem fs_step {u b h : Nat} (hu : u < 65536) (h0 : 0 < h) (hb : b + h < 32) (h1 : b = 0 ∨ 2 ^ b ≤ u) (h2 : u < 2 ^ (b + 2 * h)) : (fs_ (nI u) b h = 0 ∨ 2 ^ fs_ (nI u) b h ≤ u) ∧ u < 2 ^ (fs_ (nI u) b h + h) := by
  unfold fs_
  rw [b_shr (by omega) hb]
  have hd : u / 2 ^ (b + h) < 2 ^ 31 := Nat.lt_of_le_of_lt (Nat.div_le_self _ _) (by omega)
  have hp : 0 < 2 ^ (b + h) := Nat.two_pow_pos _
  split
  · next hz =>
    have hz2 : u / 2 ^ (b + h) = 0 := g_eq (b := 0) hz hd (by decide)
    refine ⟨h1, ?_⟩
    rcases Nat.lt_or_ge u (2 ^ (b + h)) with q | q
    · exact q
    · have := Nat.div_pos q hp; omega
  · next hz =>
    have hz2 : u / 2 ^ (b + h) ≠ 0 := fun e => hz (by rw [e]; rfl)
    refine ⟨Or.inr ?_, by rw [show b + h + h = b + 2 * h by omega]; exact h2⟩
    rcases Nat.lt_or_ge u (2 ^ (b + h)) with q | q
    · exact absurd (Nat.div_eq_of_lt q) hz2
    · exact q
theorem fo_log {u : Nat} (h0 : 0 < u) (hu : u < 65536) : 2 ^ fo_ (nI u) 0 8 ≤ u ∧ u < 2 ^ (fo_ (nI u) 0 8 + 1) ∧ fo_ (nI u) 0 8 < 16 := by
  rw [fo_s _ _ _ (by decide), fo_s _ _ _ (by decide), fo_s _ _ _ (by decide), fo_s _ _ _ (by decide), show 8 / 2 / 2 / 2 / 2 = 0 from rfl, fo_0]
  have a1 := fs_step (b := 0) (h := 8) hu (by decide) (by decide) (Or.inl rfl) (by omega)
  have l1 := fs_le (nI u) 0 8
  generalize fs_ (nI u) 0 8 = x1 at a1 l1 ⊢
  have a2 := fs_step (b := x1) (h := 4) hu (by decide) (by omega) a1.1 a1.2
  have l2 := fs_le (nI u) x1 4
  rw [show 8 / 2 = 4 from rfl]
  generalize fs_ (nI u) x1 4 = x2 at a2 l2 ⊢
  have a3 := fs_step (b := x2) (h := 2) hu (by decide) (by omega) a2.1 a2.2
  have l3 := fs_le (nI u) x2 2
  rw [show 4 / 2 = 2 from rfl]
  generalize fs_ (nI u) x2 2 = x3 at a3 l3 ⊢
  have a4 := fs_step (b := x3) (h := 1) hu (by decide) (by omega) a3.1 a3.2
  have l4 := fs_le (nI u) x3 1
  rw [show 2 / 2 = 1 from rfl]
  generalize fs_ (nI u) x3 1 = x4 at a4 l4 ⊢
  refine ⟨?_, a4.2, by omega⟩
  rcases a4.1 with e | e
  · subst e; exact h0
  · exact e
/-- the highest unlike bit: the smaller name hasn't it, the greater one has it, above it both are alike -/
theorem b_top {a b k : Nat} (hlt : a < b) (h1 : 2 ^ k ≤ a ^^^ b) (h2 : a ^^^ b < 2 ^ (k + 1)) : a.testBit k = false ∧ b.testBit k = true ∧ ∀ i, k < i → a.testBit i = b.testBit i := by
  have hab : ∀ i, k < i → a.testBit i = b.testBit i := by
    intro i hi
    have hz : (a ^^^ b).testBit i = false := Nat.testBit_lt_two_pow (Nat.lt_of_lt_of_le h2 (Nat.pow_le_pow_right (by decide) hi))
    rw [Nat.testBit_xor] at hz
    cases ha : a.testBit i <;> cases hb : b.testBit i <;> simp [ha, hb] at hz ⊢
  have hk : (a ^^^ b).testBit k = true := by
    rw [Nat.testBit_eq_decide_div_mod_eq, decide_eq_true_eq]
    have q1 : 1 ≤ (a ^^^ b) / 2 ^ k := (Nat.le_div_iff_mul_le (Nat.two_pow_pos k)).mpr (by omega)
    have q2 : (a ^^^ b) / 2 ^ k < 2 := (Nat.div_lt_iff_lt_mul (Nat.two_pow_pos k)).mpr (by rw [Nat.pow_succ] at h2; omega)
    omega
  rw [Nat.testBit_xor] at hk
  cases ha : a.testBit k <;> cases hb : b.testBit k <;> simp [ha, hb] at hk
  · exact ⟨rfl, rfl, hab⟩
  · have hq : a / 2 ^ (k + 1) = b / 2 ^ (k + 1) := by
      apply Nat.eq_of_testBit_eq
      intro i
      rw [Nat.testBit_div_two_pow, Nat.testBit_div_two_pow]
      exact hab _ (by omega)
    rw [Nat.testBit_eq_decide_div_mod_eq, decide_eq_true_eq] at ha
    rw [Nat.testBit_eq_decide_div_mod_eq, decide_eq_false_iff_not] at hb
    have ea : a / 2 ^ (k + 1) = a / 2 ^ k / 2 := by rw [Nat.pow_succ, Nat.div_div_eq_div_mul]
    have eb : b / 2 ^ (k + 1) = b / 2 ^ k / 2 := by rw [Nat.pow_succ, Nat.div_div_eq_div_mul]
    have hle : a / 2 ^ k ≤ b / 2 ^ k := Nat.div_le_div_right (by omega)
    omega
/-- a valid wood: names get greater, 0 to 65535; miles 0 to 999 -/
def vL_ (L : g_L) : Prop := (∀ j, j + 1 < L.length → fn_ L j < fn_ L (j + 1)) ∧ (∀ j, j < L.length → 0 ≤ fn_ L j ∧ fn_ L j ≤ 65535) ∧ ∀ j, j < L.length → 0 ≤ gn_ L j ∧ gn_ L j ≤ 999
theorem i32_nat {x : Int32} {n : Nat} (h0 : 0 ≤ x) (hn : x ≤ nI n) (h : n < 2 ^ 31) : ∃ a : Nat, a ≤ n ∧ x = nI a := by
  obtain ⟨a, ha, rfl⟩ := nI_of (Int32.not_lt.mpr h0)
  exact ⟨a, (nI_leI ha h).mp hn, rfl⟩
theorem vL_nat {L : g_L} (h : vL_ L) {j : Nat} (hj : j < L.length) : ∃ a : Nat, a ≤ 65535 ∧ fn_ L j = nI a := i32_nat (h.2.1 j hj).1 (h.2.1 j hj).2 (by decide)
theorem vL_lt {L : g_L} (h : vL_ L) : ∀ (d i : Nat), i + d + 1 < L.length → fn_ L i < fn_ L (i + d + 1)
  | 0, i, hi => h.1 i hi
  | d + 1, i, hi => Int32.lt_trans (vL_lt h d i (by omega)) (h.1 (i + d + 1) hi)
theorem vL_mono {L : g_L} (h : vL_ L) {i j : Nat} (hij : i < j) (hj : j < L.length) : fn_ L i < fn_ L j := by
  obtain ⟨d, rfl⟩ : ∃ d, j = i + d + 1 := ⟨j - i - 1, by omega⟩
  exact vL_lt h d i hj
/-- the first unlike bit of two names -/
theorem fub_bit {a b : Nat} (hlt : a < b) (hb : b ≤ 65535) : ∃ k, k < 16 ∧ fub_ (nI a) (nI b) = nI k ∧ 2 ^ k ≤ a ^^^ b ∧ a ^^^ b < 2 ^ (k + 1) := by
  have hu : a ^^^ b < 65536 := Nat.xor_lt_two_pow (n := 16) (by omega) (by omega)
  have h0 : 0 < a ^^^ b := by
    rcases Nat.eq_zero_or_pos (a ^^^ b) with q | q
    · have e : a = b := by
        have := congrArg (fun z => z ^^^ b) q
        simpa [Nat.xor_assoc] using this
      omega
    · exact q
  obtain ⟨l1, l2, l3⟩ := fo_log h0 hu
  refine ⟨fo_ (nI (a ^^^ b)) 0 8, l3, ?_, l1, l2⟩
  unfold fub_
  rw [b_xor, if_neg]
  intro e
  have := g_eq (b := 0) e (by omega) (by decide)
  omega
theorem gs_of {L : g_L} (h : vL_ L) : gs_ (fn_ L) L.length := by
  intro a c hc hac
  obtain ⟨x, hx, ex⟩ := vL_nat h (show a < L.length by omega)
  obtain ⟨y, hy, ey⟩ := vL_nat h (show a + c - 1 < L.length by omega)
  have hlt : x < y := by
    have := vL_mono h (show a < a + c - 1 by omega) (by omega)
    rw [ex, ey] at this
    exact g_lt this (by omega) (by omega)
  obtain ⟨k, hk, e, k1, k2⟩ := fub_bit hlt hy
  obtain ⟨t1, t2, -⟩ := b_top hlt k1 k2
  have z1 : hb_ (fn_ L a) (fub_ (fn_ L a) (fn_ L (a + c - 1))) = false := by rw [ex, ey, e, b_hb (by omega) (by omega)]; exact t1
  have z2 : hb_ (fn_ L (a + c - 1)) (fub_ (fn_ L a) (fn_ L (a + c - 1))) = true := by rw [ey, ex, e, b_hb (by omega) (by omega)]; exact t2
  unfold ms_
  generalize fub_ (fn_ L a) (fn_ L (a + c - 1)) = B at z1 z2 ⊢
  constructor
  · obtain ⟨d, rfl⟩ : ∃ d, c = d + 1 := ⟨c - 1, by omega⟩
    rw [sp_, z1]
    simp
  · rcases Nat.lt_or_ge (sp_ (fn_ L) B a c) c with q | q
    · exact q
    · have := sp_no (fn_ L) B c a (c - 1) (by omega)
      rw [show a + (c - 1) = a + c - 1 by omega, z2] at this
      cases this
