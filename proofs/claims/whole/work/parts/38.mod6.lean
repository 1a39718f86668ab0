theorem rk_mono {L : g_L} {x y : Int32} (h : x ≤ y) : rk_ L x ≤ rk_ L y := by
  rcases Nat.lt_or_ge (rk_ L y) (rk_ L x) with q | q
  · have h1 := rk_lt L x _ q
    have h2 := rk_at L y (Nat.lt_of_lt_of_le q (rk_le L x))
    exact absurd (Int32.lt_of_lt_of_le h1 h) h2
  · exact q
theorem nm_up {x y : Int32} (hy : nm1_ y) (hx : nm1_ x) (h : x ≤ y) : x ≤ y + nI 1 := by
  obtain ⟨a, ha, rfl⟩ := ix_nat hx (by decide)
  obtain ⟨b, hb, rfl⟩ := ix_nat hy (by decide)
  have hab := (nI_leI (by omega) (by omega)).mp h
  rw [nI_add]
  exact (nI_leI (by omega) (by omega)).mpr (by omega)
def rg_ (L : g_L) (a b : Nat) (w : Nat) : Int32 := match w with
  | 0 => nI b - nI a
  | 1 => sm_ L a (b - a)
  | 2 => hs_ L a b
  | _ => mm_ L a (b - a)
theorem rg_ra {L : g_L} {lo hi : Int32} {t : Nat} (ht : t ≤ 3) : rg_ L (rk_ L lo) (rk_ L (hi + nI 1)) t = ra_ L lo hi t := by
  rcases (show t = 0 ∨ t = 1 ∨ t = 2 ∨ t = 3 by omega) with rfl | rfl | rfl | rfl <;> rfl
/-- the reference's way to the farthest pair -/
def fb_ (L : g_L) (a : Nat) (m : Int32) : Nat → Int32
  | 0 => m
  | c + 1 => im_ (fb_ L a m c) (fn_ L a ^^^ fn_ L c)
def fz_ (L : g_L) : Nat → Int32
  | 0 => -1
  | a + 1 => fb_ L a (fz_ L a) a
theorem im_l {x y : Int32} : x ≤ im_ x y := by
  unfold im_; split
  · next h => exact Int32.le_of_lt h
  · exact Int32.le_refl _
theorem im_r {x y : Int32} : y ≤ im_ x y := by
  unfold im_; split
  · exact Int32.le_refl _
  · next h => exact Int32.not_lt.mp h
theorem im_or (x y : Int32) : im_ x y = x ∨ im_ x y = y := by
  unfold im_; split
  · exact Or.inr rfl
  · exact Or.inl rfl
/-- m is the greatest of the pairs' unlikenesses, -1 of none -/
def fP_ (L : g_L) (P : Nat → Nat → Prop) (m : Int32) : Prop := -1 ≤ m ∧ (∀ i j, P i j → fn_ L i ^^^ fn_ L j ≤ m) ∧ (m = -1 ∨ ∃ i j, P i j ∧ m = fn_ L i ^^^ fn_ L j)
theorem fP_im {L : g_L} {P : Nat → Nat → Prop} {m : Int32} {i j : Nat} (h : fP_ L P m) : fP_ L (fun a b => P a b ∨ a = i ∧ b = j) (im_ m (fn_ L i ^^^ fn_ L j)) := by
  obtain ⟨h1, h2, h3⟩ := h
  refine ⟨Int32.le_trans h1 im_l, ?_, ?_⟩
  · rintro a b (q | ⟨rfl, rfl⟩)
    · exact Int32.le_trans (h2 a b q) im_l
    · exact im_r
  · rcases im_or m (fn_ L i ^^^ fn_ L j) with e | e
    · rw [e]
      rcases h3 with q | ⟨a, b, q, q2⟩
      · exact Or.inl q
      · exact Or.inr ⟨a, b, Or.inl q, q2⟩
    · rw [e]; exact Or.inr ⟨i, j, Or.inr ⟨rfl, rfl⟩, rfl⟩
theorem fP_cg {L : g_L} {P Q : Nat → Nat → Prop} {m : Int32} (h : fP_ L P m) (h1 : ∀ a b, P a b → Q a b ∨ Q b a) (h2 : ∀ a b, Q a b → P a b ∨ P b a) : fP_ L Q m := by
  obtain ⟨g1, g2, g3⟩ := h
  refine ⟨g1, ?_, ?_⟩
  · intro a b q
    rcases h2 a b q with z | z
    · exact g2 a b z
    · rw [Int32.xor_comm]; exact g2 b a z
  · rcases g3 with q | ⟨a, b, q, e⟩
    · exact Or.inl q
    · rcases h1 a b q with z | z
      · exact Or.inr ⟨a, b, z, e⟩
      · exact Or.inr ⟨b, a, z, by rw [Int32.xor_comm]; exact e⟩
theorem fP_eq {L : g_L} {P : Nat → Nat → Prop} {m n : Int32} (h : fP_ L P m) (g : fP_ L P n) : m = n := by
  have half : ∀ {m n : Int32}, fP_ L P m → fP_ L P n → m ≤ n := by
    intro m n h g
    rcases h.2.2 with q | ⟨a, b, q, e⟩
    · rw [q]; exact g.1
    · rw [e]; exact g.2.1 a b q
  exact Int32.le_antisymm (half h g) (half g h)
theorem fi_P {L : g_L} {k : Nat} {m : Int32} {P : Nat → Nat → Prop} (h : fP_ L P m) : ∀ c, fP_ L (fun a b => P a b ∨ a = k ∧ k < b ∧ b ≤ k + c) (fi_ L k m c)
  | 0 => fP_cg h (fun a b q => Or.inl (Or.inl q)) (fun a b q => Or.inl (q.elim id (fun z => absurd z.2.1 (by omega))))
  | c + 1 => fP_cg (fP_im (i := k) (j := k + 1 + c) (fi_P h c))
      (fun a b q => Or.inl (by rcases q with (q | q) | q; exact Or.inl q; exact Or.inr (by omega); exact Or.inr (by omega)))
      (fun a b q => Or.inl (by
        rcases q with q | q
        · exact Or.inl (Or.inl q)
        · by_cases e : b = k + 1 + c
          · exact Or.inr ⟨q.1, e⟩
          · exact Or.inl (Or.inr (by omega))))
theorem fb_P {L : g_L} {k : Nat} {m : Int32} {P : Nat → Nat → Prop} (h : fP_ L P m) : ∀ c, fP_ L (fun a b => P a b ∨ a = k ∧ b < c) (fb_ L k m c)
  | 0 => fP_cg h (fun a b q => Or.inl (Or.inl q)) (fun a b q => Or.inl (q.elim id (fun z => absurd z.2 (by omega))))
  | c + 1 => fP_cg (fP_im (i := k) (j := c) (fb_P h c))
      (fun a b q => Or.inl (by rcases q with (q | q) | q; exact Or.inl q; exact Or.inr (by omega); exact Or.inr (by omega)))
      (fun a b q => Or.inl (by
        rcases q with q | q
        · exact Or.inl (Or.inl q)
        · by_cases e : b = c
          · exact Or.inr ⟨q.1, e⟩
          · exact Or.inl (Or.inr (by omega))))
theorem fP_0 {L : g_L} : fP_ L (fun _ _ => False) (-1) := ⟨Int32.le_refl _, fun _ _ h => h.elim, Or.inl rfl⟩
theorem fa_P {L : g_L} : ∀ c, c ≤ L.length → fP_ L (fun a b => a < c ∧ a < b ∧ b < L.length) (fa_ L c)
  | 0, _ => fP_cg fP_0 (fun _ _ h => h.elim) (fun a b q => absurd q.1 (by omega))
  | c + 1, hc => fP_cg (fi_P (k := c) (fa_P c (by omega)) (L.length - (c + 1)))
      (fun a b q => Or.inl (by rcases q with q | q <;> omega))
      (fun a b q => Or.inl (by
        by_cases e : a = c
        · exact Or.inr (by omega)
        · exact Or.inl (by omega)))
theorem fz_P {L : g_L} : ∀ c, fP_ L (fun a b => a < c ∧ b < a) (fz_ L c)
  | 0 => fP_cg fP_0 (fun _ _ h => h.elim) (fun a b q => absurd q.1 (by omega))
  | c + 1 => fP_cg (fb_P (k := c) (fz_P c) c)
      (fun a b q => Or.inl (by rcases q with q | q <;> omega))
      (fun a b q => Or.inl (by
        by_cases e : a = c
        · exact Or.inr (by omega)
        · exact Or.inl (by omega)))
theorem fz_fa {L : g_L} : fz_ L L.length = fa_ L L.length :=
  fP_eq (fP_cg (Q := fun a b => a < L.length ∧ a < b ∧ b < L.length) (fz_P L.length) (fun a b q => Or.inr (by omega)) (fun a b q => Or.inr (by omega))) (fa_P L.length (Nat.le_refl _))
