/-! PURE: the row of signs -/
theorem g_VF.one {D : va_G} {σ σ' : Nat → va_E} {v q : Nat} {L : g_L} {F G : Nat → Int32} (h : g_VF D σ v L F G) (hf : ∀ k, k ≠ q → σ' k = σ k) (hd : q < v ∨ v + 2 < q) : g_VF D σ' v L F G := by
  obtain ⟨h0, h1, h2, h3⟩ := h
  exact ⟨by rw [hf v (by omega)]; exact h0, by rw [hf (v + 1) (by omega)]; exact h1, by rw [hf (v + 2) (by omega)]; exact h2, h3⟩
/-- the Signs object at 10, its nine rows at 11 .. 19 -/
def g_S (D : va_G) (σ : Nat → va_E) (sz : Nat) (T : Nat → Nat → Int32) : Prop := σ 10 = .inr (0, [.ref (ad_ D 11), .ref (ad_ D 12), .ref (ad_ D 13), .ref (ad_ D 14), .ref (ad_ D 15), .ref (ad_ D 16), .ref (ad_ D 17), .ref (ad_ D 18), .ref (ad_ D 19), .int (nI sz)]) ∧ σ 11 = .inl (g_cI D, 95, .inl (T 0)) ∧ σ 12 = .inl (g_cI D, 95, .inl (T 1)) ∧ σ 13 = .inl (g_cI D, 95, .inl (T 2)) ∧ σ 14 = .inl (g_cI D, 95, .inl (T 3)) ∧ σ 15 = .inl (g_cI D, 95, .inl (T 4)) ∧ σ 16 = .inl (g_cI D, 95, .inl (T 5)) ∧ σ 17 = .inl (g_cI D, 95, .inl (T 6)) ∧ σ 18 = .inl (g_cI D, 95, .inl (T 7)) ∧ σ 19 = .inl (g_cI D, 95, .inl (T 8)) ∧ sz ≤ 95
theorem g_S.off {D : va_G} {σ σ' : Nat → va_E} {lo hi sz : Nat} {T : Nat → Nat → Int32} (h : g_S D σ sz T) (ho : g_off lo hi σ σ') (hd : 19 < lo ∨ hi < 10) : g_S D σ' sz T := by
  obtain ⟨h0, h1, h2, h3, h4, h5, h6, h7, h8, h9, hs⟩ := h
  exact ⟨by rw [ho 10 (by omega)]; exact h0, by rw [ho 11 (by omega)]; exact h1, by rw [ho 12 (by omega)]; exact h2, by rw [ho 13 (by omega)]; exact h3, by rw [ho 14 (by omega)]; exact h4, by rw [ho 15 (by omega)]; exact h5, by rw [ho 16 (by omega)]; exact h6, by rw [ho 17 (by omega)]; exact h7, by rw [ho 18 (by omega)]; exact h8, by rw [ho 19 (by omega)]; exact h9, hs⟩
/-- begin -/
def bg_ (T : Nat → Nat → Int32) (p a c q b : Nat) : Nat → Nat → Int32 := fun j => match j with
  | 1 => upd (T 1) p (nI a)
  | 2 => upd (T 2) p (nI c)
  | 7 => upd (T 7) p (nI q)
  | 8 => upd (T 8) p (nI b)
  | j => T j
/-- how many names of a part, from its start on, don't have the bit -/
def sp_ (f : Nat → Int32) (b : Int32) : Nat → Nat → Nat
  | _, 0 => 0
  | a, c + 1 => if hb_ (f a) b then 0 else sp_ f b (a + 1) c + 1
theorem sp_le (f : Nat → Int32) (b : Int32) : ∀ (c a : Nat), sp_ f b a c ≤ c
  | 0, _ => Nat.le_refl _
  | c + 1, a => by rw [sp_]; split
                   · exact Nat.zero_le _
                   · exact Nat.succ_le_succ (sp_le f b c (a + 1))
theorem sp_no (f : Nat → Int32) (b : Int32) : ∀ (c a j : Nat), j < sp_ f b a c → hb_ (f (a + j)) b = false
  | 0, _, j, h => absurd h (Nat.not_lt_zero j)
  | c + 1, a, j, h => by
    rw [sp_] at h
    split at h
    · exact absurd h (Nat.not_lt_zero j)
    · next hn =>
      cases j with
      | zero => simpa using hn
      | succ j => rw [show a + (j + 1) = a + 1 + j by omega]; exact sp_no f b c (a + 1) j (Nat.lt_of_succ_lt_succ h)
theorem sp_yes (f : Nat → Int32) (b : Int32) : ∀ (c a : Nat), sp_ f b a c < c → hb_ (f (a + sp_ f b a c)) b = true
  | 0, _, h => absurd h (Nat.not_lt_zero _)
  | c + 1, a, h => by
    rw [sp_] at h ⊢
    split
    · next hn => simpa using hn
    · next hn =>
      rw [if_neg hn] at h
      rw [show a + (sp_ f b (a + 1) c + 1) = a + 1 + sp_ f b (a + 1) c by omega]
      exact sp_yes f b c (a + 1) (Nat.lt_of_succ_lt_succ h)
theorem sp_eq {f : Nat → Int32} {b : Int32} {a c i : Nat} (hi : i ≤ c) (h : ∀ j, j < i → hb_ (f (a + j)) b = false) (h2 : i < c → hb_ (f (a + i)) b = true) : sp_ f b a c = i := by
  rcases Nat.lt_trichotomy (sp_ f b a c) i with q | q | q
  · have := sp_yes f b c a (Nat.lt_of_lt_of_le q hi)
    rw [h _ q] at this; cases this
  · exact q
  · have := sp_no f b c a i q
    rw [h2 (Nat.lt_of_lt_of_le q (sp_le f b c a))] at this; cases this
/-- fillSides at a post -/
def fs2_ (f : Nat → Int32) (T : Nat → Nat → Int32) (p a c q : Nat) : Nat → Nat → Int32 := fun j => match j with
  | 5 => upd (T 5) p (nI (p + 1))
  | 6 => upd (T 6) p (nI (p + 2 * sp_ f (T 0 p) a c))
  | j => T j
def fsd_ (f : Nat → Int32) (T : Nat → Nat → Int32) (p a c q : Nat) : Nat → Nat → Int32 := bg_ (bg_ (fs2_ f T p a c q) (p + 1) a (sp_ f (T 0 p) a c) (q + 1) (c - sp_ f (T 0 p) a c)) (p + 2 * sp_ f (T 0 p) a c) (a + sp_ f (T 0 p) a c) (c - sp_ f (T 0 p) a c) (q + 1) (sp_ f (T 0 p) a c)
/-- fillAt -/
def fa0_ (f : Nat → Int32) (T : Nat → Nat → Int32) (p a c : Nat) : Nat → Nat → Int32 := fun j => match j with
  | 0 => upd (T 0) p (fub_ (f a) (f (a + c - 1)))
  | 3 => upd (T 3) p (f a)
  | 4 => upd (T 4) p (f (a + c - 1))
  | 5 => upd (T 5) p (-1)
  | 6 => upd (T 6) p (-1)
  | j => T j
def fat_ (f : Nat → Int32) (T : Nat → Nat → Int32) (p a c q : Nat) : Nat → Nat → Int32 := if 2 ≤ c then fsd_ f (fa0_ f T p a c) p a c q else fa0_ f T p a c
theorem upd_at {f : Nat → Int32} {k : Nat} {x : Int32} : upd f k x k = x := by simp [upd]
theorem upd_ne {f : Nat → Int32} {k j : Nat} {x : Int32} (h : j ≠ k) : upd f k x j = f j := by simp [upd, h]
/-! what is told of all signs -/
def pc_ (B : Nat → Int32) : Nat → Nat
  | 0 => 0
  | k + 1 => pc_ B k + if B k = -1 then 0 else 1
def pb_ (B : Nat → Int32) : Nat → Int32
  | 0 => 0
  | k + 1 => if B k = -1 then pb_ B k else pb_ B k ||| ((1 : Int32) <<< (B k &&& 31))
def lg_ (A : Nat → Int32) : Nat → Int32
  | 0 => 0
  | k + 1 => im_ (lg_ A k) (A k)
def ap_ (B A : Nat → Int32) : Nat → Int32
  | 0 => 0
  | k + 1 => if B k = -1 then ap_ B A k + A k else ap_ B A k
/-- the most that is spared, and by whom -/
def bs_ (T : Nat → Nat → Int32) : Nat → Int32 × Int32
  | 0 => (-1, -1)
  | k + 1 => if T 0 k = -1 ∧ (bs_ T k).2 < T 7 k + T 8 k then (T 3 k, T 7 k + T 8 k) else bs_ T k
def tel_ (T : Nat → Nat → Int32) (w p : Nat) : Int32 := match w with
  | 0 => T 0 p
  | 1 => T 2 p
  | 2 => T 3 p
  | 3 => T 4 p
  | 4 => T 5 p
  | 5 => T 6 p
  | _ => T 7 p
def wk_ (T : Nat → Nat → Int32) (x : Int32) : Nat → Nat → Nat
  | 0, p => p
  | k + 1, p => if T 0 p = -1 then p else wk_ T x k (if hb_ x (T 0 p) then (T 6 p).toNatClampNeg else (T 5 p).toNatClampNeg)
def tw_ (T : Nat → Nat → Int32) (x : Int32) (w : Nat) : Int32 := match w with
  | 0 => T 7 (wk_ T x 16 0)
  | 1 => T 3 (wk_ T x 16 0)
  | _ => fub_ (T 3 (wk_ T x 16 0)) x
