/-! PURE: what Villages' methods do to the rows -/
theorem g_dec {i : Nat} (h : 0 < i) : nI i + Int32.ofInt (-1) = nI (i - 1) := by
  obtain ⟨n, rfl⟩ : ∃ n, i = n + 1 := ⟨i - 1, by omega⟩
  exact pk_m1 n
theorem g_off.one {lo hi q : Nat} {σ σ' σ2 : Nat → va_E} (h : g_off lo hi σ σ') (hf : ∀ k, k ≠ q → σ2 k = σ' k) (h1 : lo ≤ q) (h2 : q ≤ hi) : g_off lo hi σ σ2 := fun k hk => (hf k (by omega)).trans (h k hk)
def g_VF (D : va_G) (σ : Nat → va_E) (v : Nat) (L : g_L) (F G : Nat → Int32) : Prop := σ v = .inr (1, [.ref (ad_ D (v + 1)), .ref (ad_ D (v + 2)), .int (nI L.length)]) ∧ σ (v + 1) = .inl (g_cI D, 48, .inl F) ∧ σ (v + 2) = .inl (g_cI D, 48, .inl G) ∧ (∀ j, j < L.length → F j = fn_ L j ∧ G j = gn_ L j) ∧ L.length ≤ 48 ∧ v + 2 < 20
theorem g_VF.V {D : va_G} {σ : Nat → va_E} {v : Nat} {L : g_L} {F G : Nat → Int32} (h : g_VF D σ v L F G) : g_V D σ v L := ⟨F, G, h⟩
theorem g_VF.off {D : va_G} {σ σ' : Nat → va_E} {v lo hi : Nat} {L : g_L} {F G : Nat → Int32} (h : g_VF D σ v L F G) (ho : g_off lo hi σ σ') (hd : v + 2 < lo ∨ hi < v) : g_VF D σ' v L F G := by
  obtain ⟨h0, h1, h2, h3⟩ := h
  exact ⟨by rw [ho v (by omega)]; exact h0, by rw [ho (v + 1) (by omega)]; exact h1, by rw [ho (v + 2) (by omega)]; exact h2, h3⟩
def sh_ (F : Nat → Int32) (k n : Nat) : Nat → Int32 := fun q => if k < q ∧ q ≤ n then F (q - 1) else F q
theorem sh_0 {F : Nat → Int32} {n : Nat} : sh_ F n n = F := by
  funext q
  rw [sh_, if_neg (by omega)]
theorem sh_lo {F : Nat → Int32} {k n i : Nat} (h : i ≤ k) : sh_ F k n i = F i := by rw [sh_, if_neg (by omega)]
theorem sh_hi {F : Nat → Int32} {k n i : Nat} (h : n < i) : sh_ F k n i = F i := by rw [sh_, if_neg (by omega)]
theorem sh_in {F : Nat → Int32} {k n i : Nat} (h : k < i) (h2 : i ≤ n) : sh_ F k n i = F (i - 1) := by rw [sh_, if_pos ⟨h, h2⟩]
theorem sh_step {F : Nat → Int32} {j n : Nat} (h : 0 < j) (h2 : j ≤ n) : upd (sh_ F j n) j (F (j - 1)) = sh_ F (j - 1) n := by
  funext q
  by_cases e : q = j
  · subst e; simp only [upd, if_true]; rw [sh_in (by omega) h2]
  · simp only [upd, e, if_false, sh_]
    by_cases h3 : j < q ∧ q ≤ n
    · rw [if_pos h3, if_pos (by omega)]
    · rw [if_neg h3, if_neg (by omega)]
def rm_ (F : Nat → Int32) (a b : Nat) : Nat → Int32 := fun q => if a ≤ q ∧ q < b then F (q + 1) else F q
theorem rm_0 {F : Nat → Int32} {a : Nat} : rm_ F a a = F := by
  funext q
  rw [rm_, if_neg (by omega)]
theorem rm_at {F : Nat → Int32} {a b i : Nat} (h : b ≤ i) : rm_ F a b i = F i := by rw [rm_, if_neg (by omega)]
theorem rm_step {F : Nat → Int32} {a b : Nat} (h : a ≤ b) : upd (rm_ F a b) b (F (b + 1)) = rm_ F a (b + 1) := by
  funext q
  by_cases e : q = b
  · subst e; simp only [upd, if_true, rm_]; rw [if_pos (by omega)]
  · simp only [upd, e, if_false, rm_]
    by_cases h3 : a ≤ q ∧ q < b
    · rw [if_pos h3, if_pos (by omega)]
    · rw [if_neg h3, if_neg (by omega)]
theorem st_len {L : g_L} {x y : Int32} : (st_ L x y).length = if fn_ L (rk_ L x) = x then L.length else L.length + 1 := by
  unfold st_
  have := rk_le L x
  split
  · simp
  · simp; omega
theorem st_len_le {L : g_L} {x y : Int32} : (st_ L x y).length ≤ L.length + 1 := by rw [st_len]; split <;> omega
theorem getD_ins {L : g_L} {k j : Nat} {p d : Int32 × Int32} (h : k ≤ L.length) : (L.take k ++ p :: L.drop k).getD j d = if j < k then L.getD j d else if j = k then p else L.getD (j - 1) d := by
  simp only [List.getD_eq_getElem?_getD]
  by_cases h1 : j < k
  · rw [if_pos h1, List.getElem?_append_left (by simp; omega), List.getElem?_take_of_lt h1]
  · rw [if_neg h1, List.getElem?_append_right (by simp; omega)]
    have e : (L.take k).length = k := by simp; omega
    rw [e]
    by_cases h2 : j = k
    · subst h2; simp
    · rw [if_neg h2]
      obtain ⟨i, hi⟩ : ∃ i, j - k = i + 1 := ⟨j - k - 1, by omega⟩
      rw [hi, List.getElem?_cons_succ, List.getElem?_drop]
      congr 2
      omega
theorem fn_ins {L : g_L} {k j : Nat} {x y : Int32} (h : k ≤ L.length) : fn_ (L.take k ++ (x, y) :: L.drop k) j = if j < k then fn_ L j else if j = k then x else fn_ L (j - 1) := by
  unfold fn_; rw [getD_ins h]; split
  · rfl
  · split <;> rfl
theorem gn_ins {L : g_L} {k j : Nat} {x y : Int32} (h : k ≤ L.length) : gn_ (L.take k ++ (x, y) :: L.drop k) j = if j < k then gn_ L j else if j = k then y else gn_ L (j - 1) := by
  unfold gn_; rw [getD_ins h]; split
  · rfl
  · split <;> rfl
theorem getD_set {L : g_L} {k j : Nat} {p d : Int32 × Int32} (h : k < L.length) : (L.set k p).getD j d = if j = k then p else L.getD j d := by
  simp only [List.getD_eq_getElem?_getD]
  by_cases e : j = k
  · subst e; simp [h]
  · rw [if_neg e, List.getElem?_set_ne (Ne.symm e)]
theorem fn_set {L : g_L} {k j : Nat} {x y : Int32} (h : k < L.length) : fn_ (L.set k (x, y)) j = if j = k then x else fn_ L j := by
  unfold fn_; rw [getD_set h]; split <;> rfl
theorem gn_set {L : g_L} {k j : Nat} {x y : Int32} (h : k < L.length) : gn_ (L.set k (x, y)) j = if j = k then y else gn_ L j := by
  unfold gn_; rw [getD_set h]; split <;> rfl
theorem fn_in {L : g_L} {j : Nat} {x : Int32} (h : fn_ L j = x) (hx : x ≠ -1) : j < L.length := by
  rcases Nat.lt_or_ge j L.length with q | q
  · exact q
  · exact absurd ((fn_out q).symm.trans h).symm hx
theorem getD_erase {L : g_L} {k j : Nat} {d : Int32 × Int32} : (L.eraseIdx k).getD j d = if j < k then L.getD j d else L.getD (j + 1) d := by
  simp only [List.getD_eq_getElem?_getD, List.getElem?_eraseIdx]
  split <;> rfl
theorem fn_erase {L : g_L} {k j : Nat} : fn_ (L.eraseIdx k) j = if j < k then fn_ L j else fn_ L (j + 1) := by
  unfold fn_; rw [getD_erase]; split <;> rfl
theorem gn_erase {L : g_L} {k j : Nat} : gn_ (L.eraseIdx k) j = if j < k then gn_ L j else gn_ L (j + 1) := by
  unfold gn_; rw [getD_erase]; split <;> rfl
theorem fn_take {L : g_L} {k j : Nat} (h : j < k) : fn_ (L.take k) j = fn_ L j := by
  unfold fn_; simp only [List.getD_eq_getElem?_getD, List.getElem?_take_of_lt h]
theorem gn_take {L : g_L} {k j : Nat} (h : j < k) : gn_ (L.take k) j = gn_ L j := by
  unfold gn_; simp only [List.getD_eq_getElem?_getD, List.getElem?_take_of_lt h]
/-- behind a removal -/
theorem rep_erase {L : g_L} {F G : Nat → Int32} {a : Nat} (ha : a < L.length) (h : ∀ j, j < L.length → F j = fn_ L j ∧ G j = gn_ L j) : ∀ j, j < (L.eraseIdx a).length → rm_ F a (L.length - 1) j = fn_ (L.eraseIdx a) j ∧ rm_ G a (L.length - 1) j = gn_ (L.eraseIdx a) j := by
  intro j hj
  rw [List.length_eraseIdx_of_lt ha] at hj
  rw [fn_erase, gn_erase]
  unfold rm_
  by_cases e : j < a
  · have e2 : ¬ (a ≤ j ∧ j < L.length - 1) := by omega
    rw [if_neg e2, if_neg e2, if_pos e, if_pos e]; exact h j (by omega)
  · have e2 : a ≤ j ∧ j < L.length - 1 := by omega
    rw [if_pos e2, if_pos e2, if_neg e, if_neg e]; exact h (j + 1) (by omega)
theorem rep_set {L : g_L} {F G : Nat → Int32} {x y : Int32} (hx : x ≠ -1) (hf : fn_ L (rk_ L x) = x) (h : ∀ j, j < L.length → F j = fn_ L j ∧ G j = gn_ L j) : ∀ j, j < (st_ L x y).length → upd F (rk_ L x) x j = fn_ (st_ L x y) j ∧ upd G (rk_ L x) y j = gn_ (st_ L x y) j := by
  have hk := fn_in hf hx
  intro j hj
  rw [st_len, if_pos hf] at hj
  unfold st_
  rw [if_pos hf, fn_set hk, gn_set hk]
  unfold upd
  by_cases e : j = rk_ L x
  · rw [if_pos e, if_pos e, if_pos e, if_pos e]; exact ⟨rfl, rfl⟩
  · rw [if_neg e, if_neg e, if_neg e, if_neg e]; exact h j hj
theorem rep_ins {L : g_L} {F G : Nat → Int32} {x y : Int32} (hf : ¬ fn_ L (rk_ L x) = x) (h : ∀ j, j < L.length → F j = fn_ L j ∧ G j = gn_ L j) : ∀ j, j < (st_ L x y).length → upd (sh_ F (rk_ L x) L.length) (rk_ L x) x j = fn_ (st_ L x y) j ∧ upd (sh_ G (rk_ L x) L.length) (rk_ L x) y j = gn_ (st_ L x y) j := by
  have hk := rk_le L x
  intro j hj
  rw [st_len, if_neg hf] at hj
  unfold st_
  rw [if_neg hf, fn_ins hk, gn_ins hk]
  unfold upd sh_
  by_cases e1 : j < rk_ L x
  · have e2 : ¬ j = rk_ L x := by omega
    have e3 : ¬ (rk_ L x < j ∧ j ≤ L.length) := by omega
    simp only [if_neg e2, if_neg e3, if_pos e1]; exact h j (by omega)
  · by_cases e : j = rk_ L x
    · simp only [if_pos e, if_neg e1]; exact ⟨trivial, trivial⟩
    · have e3 : rk_ L x < j ∧ j ≤ L.length := by omega
      simp only [if_neg e, if_pos e3, if_neg e1]; exact h (j - 1) (by omega)
theorem rep_take {L : g_L} {F G : Nat → Int32} {k : Nat} (h : ∀ j, j < L.length → F j = fn_ L j ∧ G j = gn_ L j) : ∀ j, j < (L.take k).length → F j = fn_ (L.take k) j ∧ G j = gn_ (L.take k) j := by
  intro j hj
  rw [List.length_take] at hj
  rw [fn_take (by omega), gn_take (by omega)]
  exact h j (by omega)
/-! folds -/
def cm_ (L M : g_L) : Nat → Nat
  | 0 => 0
  | k + 1 => cm_ L M k + if mo_ M (fn_ L k) = -1 then 0 else 1
def sm_ (L : g_L) (a : Nat) : Nat → Int32
  | 0 => 0
  | c + 1 => sm_ L a c + gn_ L (a + c)
def im_ (x y : Int32) : Int32 := if x < y then y else x
def mm_ (L : g_L) (a : Nat) : Nat → Int32
  | 0 => -1
  | c + 1 => im_ (mm_ L a c) (gn_ L (a + c))
def ne_ (L : g_L) (x : Int32) : Nat → Int32
  | 0 => -1
  | c + 1 => if ne_ L x c = -1 ∨ fn_ L c ^^^ x < ne_ L x c ^^^ x then fn_ L c else ne_ L x c
def fi_ (L : g_L) (k : Nat) (m : Int32) : Nat → Int32
  | 0 => m
  | c + 1 => im_ (fi_ L k m c) (fn_ L k ^^^ fn_ L (k + 1 + c))
def fa_ (L : g_L) : Nat → Int32
  | 0 => -1
  | c + 1 => fi_ L c (fa_ L c) (L.length - (c + 1))
def sa_ (L M : g_L) : Nat → g_L
  | 0 => L
  | k + 1 => st_ (sa_ L M k) (fn_ M k) (gn_ M k)
/-- the names turned by the bits b -/
def cb_ (L : g_L) (b : Int32) : Nat → g_L
  | 0 => []
  | k + 1 => st_ (cb_ L b k) (fn_ L k ^^^ b) (gn_ L k)
theorem sa_len (L M : g_L) : ∀ k, (sa_ L M k).length ≤ L.length + k
  | 0 => Nat.le_refl _
  | k + 1 => Nat.le_trans st_len_le (Nat.succ_le_succ (sa_len L M k))
theorem cb_len (L : g_L) (b : Int32) : ∀ k, (cb_ L b k).length ≤ k
  | 0 => Nat.le_refl _
  | k + 1 => Nat.le_trans st_len_le (Nat.succ_le_succ (cb_len L b k))
theorem cm_le (L M : g_L) : ∀ k, cm_ L M k ≤ k
  | 0 => Nat.le_refl _
  | k + 1 => by have := cm_le L M k; rw [cm_]; split <;> omega
