/-! PURE: a wood is a list of (name, miles) -/
abbrev g_L : Type := List (Int32 × Int32)
def fn_ (L : g_L) (j : Nat) : Int32 := (L.getD j (-1, -1)).1
def gn_ (L : g_L) (j : Nat) : Int32 := (L.getD j (-1, -1)).2
theorem fn_out {L : g_L} {j : Nat} (h : L.length ≤ j) : fn_ L j = -1 := by simp [fn_, h]
theorem gn_out {L : g_L} {j : Nat} (h : L.length ≤ j) : gn_ L j = -1 := by simp [gn_, h]
/-- a row's element, -1 outside -/
def rd_ (F : Nat → Int32) (n : Nat) (i : Int32) : Int32 := if i < 0 then -1 else if nI n ≤ i then -1 else F i.toNatClampNeg
def wr_ (F : Nat → Int32) (n : Nat) (i x : Int32) : Nat → Int32 := if i < 0 then F else if nI n ≤ i then F else upd F i.toNatClampNeg x
theorem rd_in {F : Nat → Int32} {n j : Nat} (h : j < n) (hn : n < 2 ^ 31) : rd_ F n (nI j) = F j := by
  rw [rd_, if_neg (nI_pos (Nat.lt_trans h hn)), if_neg (nI_ge h hn), nI_clamp (Nat.lt_trans h hn)]
theorem rd_out {F : Nat → Int32} {n j : Nat} (h : n ≤ j) (hj : j < 2 ^ 31) : rd_ F n (nI j) = -1 := by
  rw [rd_, if_neg (nI_pos hj), if_pos (nI_le h hj)]
theorem rd_neg {F : Nat → Int32} {n : Nat} {i : Int32} (h : i < 0) : rd_ F n i = -1 := by rw [rd_, if_pos h]
theorem wr_in {F : Nat → Int32} {n j : Nat} {x : Int32} (h : j < n) (hn : n < 2 ^ 31) : wr_ F n (nI j) x = upd F j x := by
  rw [wr_, if_neg (nI_pos (Nat.lt_trans h hn)), if_neg (nI_ge h hn), nI_clamp (Nat.lt_trans h hn)]
theorem g_vpin {i : Int32} {n : Nat} (h1 : ¬ i < 0) (h2 : ¬ nI n ≤ i) (hn : n < 2 ^ 31) : vp_in i n := by
  obtain ⟨j, hj, rfl⟩ := nI_of h1
  have : j < n := Nat.not_le.mp (mt (fun h => nI_le h hj) h2)
  exact vp_in_nI this hn
def hb_ (x b : Int32) : Bool := decide ((x >>> (b &&& 31)) &&& 1 = 1)
/-- the step of the search for the first unlike bit -/
def fs_ (u : Int32) (b h : Nat) : Nat := if u >>> (nI (b + h) &&& 31) = 0 then b else b + h
def fo_ (u : Int32) (b h : Nat) : Nat := if h = 0 then b else fo_ u (fs_ u b h) (h / 2)
termination_by h
decreasing_by omega
def fub_ (a b : Int32) : Int32 := if a ^^^ b = 0 then -1 else nI (fo_ (a ^^^ b) 0 8)
theorem fo_0 (u : Int32) (b : Nat) : fo_ u b 0 = b := by rw [fo_]; rfl
theorem fo_s (u : Int32) (b h : Nat) (hh : 0 < h) : fo_ u b h = fo_ u (fs_ u b h) (h / 2) := by rw [fo_, if_neg (by omega)]
theorem fs_le (u : Int32) (b h : Nat) : fs_ u b h ≤ b + h := by unfold fs_; split <;> omega
/-- how many names are smaller, at the list's start -/
def rk_ : g_L → Int32 → Nat
  | [], _ => 0
  | p :: t, x => if p.1 < x then rk_ t x + 1 else 0
theorem rk_le : ∀ (L : g_L) (x : Int32), rk_ L x ≤ L.length
  | [], _ => Nat.le_refl 0
  | p :: t, x => by
    rw [rk_]
    split
    · exact Nat.succ_le_succ (rk_le t x)
    · exact Nat.zero_le _
theorem rk_lt : ∀ (L : g_L) (x : Int32) (j : Nat), j < rk_ L x → fn_ L j < x
  | [], _, j, h => absurd h (Nat.not_lt_zero j)
  | p :: t, x, j, h => by
    rw [rk_] at h
    split at h
    · cases j with
      | zero => simpa [fn_]
      | succ j => exact rk_lt t x j (Nat.lt_of_succ_lt_succ h)
    · exact absurd h (Nat.not_lt_zero j)
theorem rk_at : ∀ (L : g_L) (x : Int32), rk_ L x < L.length → ¬ fn_ L (rk_ L x) < x
  | [], _, h => absurd h (Nat.not_lt_zero _)
  | p :: t, x, h => by
    rw [rk_] at h ⊢
    split
    · rw [if_pos (by assumption)] at h
      exact rk_at t x (Nat.lt_of_succ_lt_succ h)
    · next hn => simpa [fn_] using hn
theorem rk_eq {L : g_L} {x : Int32} {i : Nat} (hi : i ≤ L.length) (h : ∀ j, j < i → fn_ L j < x) (h2 : i < L.length → ¬ fn_ L i < x) : rk_ L x = i := by
  rcases Nat.lt_trichotomy (rk_ L x) i with q | q | q
  · exact absurd (h _ q) (rk_at L x (Nat.lt_of_lt_of_le q hi))
  · exact q
  · exact absurd (rk_lt L x i q) (h2 (Nat.lt_of_lt_of_le q (rk_le L x)))
def mo_ (L : g_L) (x : Int32) : Int32 := if fn_ L (rk_ L x) = x then gn_ L (rk_ L x) else -1
/-- set a village's miles, or put it up -/
def st_ (L : g_L) (x y : Int32) : g_L := if fn_ L (rk_ L x) = x then L.set (rk_ L x) (x, y) else L.take (rk_ L x) ++ (x, y) :: L.drop (rk_ L x)
/-- what nameAt answers -/
def na_ (L : g_L) (k : Int32) : Int32 := if k < 0 then -1 else fn_ L k.toNatClampNeg
def ma_ (L : g_L) (k : Int32) : Int32 := if k < 0 then -1 else gn_ L k.toNatClampNeg
theorem na_n {L : g_L} {j : Nat} (h : j < 2 ^ 31) : na_ L (nI j) = fn_ L j := by rw [na_, if_neg (nI_pos h), nI_clamp h]
theorem ma_n {L : g_L} {j : Nat} (h : j < 2 ^ 31) : ma_ L (nI j) = gn_ L j := by rw [ma_, if_neg (nI_pos h), nI_clamp h]
/-- a Villages object at the cells v, v+1, v+2 -/
def g_V (D : va_G) (σ : Nat → va_E) (v : Nat) (L : g_L) : Prop := ∃ F G : Nat → Int32, σ v = .inr (1, [.ref (ad_ D (v + 1)), .ref (ad_ D (v + 2)), .int (nI L.length)]) ∧ σ (v + 1) = .inl (g_cI D, 48, .inl F) ∧ σ (v + 2) = .inl (g_cI D, 48, .inl G) ∧ (∀ j, j < L.length → F j = fn_ L j ∧ G j = gn_ L j) ∧ L.length ≤ 48 ∧ v + 2 < 20
theorem g_V.off {D : va_G} {σ σ' : Nat → va_E} {v lo hi : Nat} {L : g_L} (h : g_V D σ v L) (ho : g_off lo hi σ σ') (hd : v + 2 < lo ∨ hi < v) : g_V D σ' v L := by
  obtain ⟨F, G, h0, h1, h2, h3⟩ := h
  exact ⟨F, G, by rw [ho v (by omega)]; exact h0, by rw [ho (v + 1) (by omega)]; exact h1, by rw [ho (v + 2) (by omega)]; exact h2, h3⟩
theorem na_out {L : g_L} {k : Int32} (h : nI L.length ≤ k) (hL : L.length < 2 ^ 31) : na_ L k = -1 := by
  unfold na_
  split
  · rfl
  · next h0 =>
    obtain ⟨j, hj, rfl⟩ := nI_of h0
    rw [nI_clamp hj]
    exact fn_out ((nI_leI hL hj).mp h)
theorem ma_out {L : g_L} {k : Int32} (h : nI L.length ≤ k) (hL : L.length < 2 ^ 31) : ma_ L k = -1 := by
  unfold ma_
  split
  · rfl
  · next h0 =>
    obtain ⟨j, hj, rfl⟩ := nI_of h0
    rw [nI_clamp hj]
    exact gn_out ((nI_leI hL hj).mp h)
theorem na_rd {L : g_L} {F : Nat → Int32} {k : Int32} (h : ¬ nI L.length ≤ k) (hL : L.length ≤ 48) (hF : ∀ j, j < L.length → F j = fn_ L j) : na_ L k = rd_ F 48 k := by
  unfold na_ rd_
  split
  · rfl
  · next h0 =>
    obtain ⟨j, hj, rfl⟩ := nI_of h0
    have hlt : j < L.length := Nat.not_le.mp (mt (fun q => nI_le q hj) h)
    rw [nI_clamp hj, if_neg (nI_ge (by omega) (by omega)), hF j hlt]
theorem ma_rd {L : g_L} {F : Nat → Int32} {k : Int32} (h : ¬ nI L.length ≤ k) (hL : L.length ≤ 48) (hF : ∀ j, j < L.length → F j = gn_ L j) : ma_ L k = rd_ F 48 k := by
  unfold ma_ rd_
  split
  · rfl
  · next h0 =>
    obtain ⟨j, hj, rfl⟩ := nI_of h0
    have hlt : j < L.length := Nat.not_le.mp (mt (fun q => nI_le q hj) h)
    rw [nI_clamp hj, if_neg (nI_ge (by omega) (by omega)), hF j hlt]
