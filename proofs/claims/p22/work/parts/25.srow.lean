/-! PURE: rows of names -/
def rn_ (R : List Int32) : Prop := ∀ x ∈ R, nm1_ x
theorem nm_nat {x : Int32} (h : nm1_ x) : ∃ a : Nat, a ≤ 65535 ∧ x = nI a := i32_nat (nm_le h).1 (nm_le h).2 (by decide)
theorem nm_of {a : Nat} (h : a ≤ 65535) : nm1_ (nI a) := ix_of h (by decide)
theorem gD_mem {R : List Int32} {i : Nat} (h : i < R.length) : R.getD i 0 ∈ R := by
  rw [List.getD_eq_getElem?_getD, List.getElem?_eq_getElem h]
  exact List.getElem_mem h
theorem tk_s {R : List Int32} {i : Nat} (h : i < R.length) : R.take (i + 1) = R.take i ++ [R.getD i 0] := by
  rw [List.take_succ_eq_append_getElem h, List.getD_eq_getElem?_getD, List.getElem?_eq_getElem h]
  rfl
theorem tk_all {R : List Int32} {i : Nat} (h : R.length ≤ i) : R.take i = R := List.take_of_length_le h
theorem sh2_ {x : Int32} {b : Nat} (h : nm1_ x) (hb : b < 32) : (x >>> (nI b &&& 31)) - (x >>> (nI b &&& 31)) / nI 2 * nI 2 = nI (if hb_ x (nI b) then 1 else 0) := by
  obtain ⟨a, ha, rfl⟩ := nm_nat h
  have h1 : a / 2 ^ b < 2 ^ 31 := Nat.lt_of_le_of_lt (Nat.div_le_self _ _) (by omega)
  rw [b_shr (by omega) hb, pk_rem h1 (by decide) (by decide), b_hb (by omega) hb, Nat.testBit_eq_decide_div_mod_eq]
  rcases Nat.mod_two_eq_zero_or_one (a / 2 ^ b) with q | q <;> rw [q] <;> rfl
def on_ (R : List Int32) (b : Nat) : Nat := (R.filter (fun x => hb_ x (nI b))).length
theorem on_le (R : List Int32) (b : Nat) : on_ R b ≤ R.length := List.length_filter_le ..
theorem on_s {R : List Int32} {i b : Nat} (h : i < R.length) : on_ (R.take (i + 1)) b = on_ (R.take i) b + if hb_ (R.getD i 0) (nI b) then 1 else 0 := by
  unfold on_
  rw [tk_s h, List.filter_append, List.length_append]
  congr 1
  generalize R.getD i 0 = z
  cases hc : hb_ z (nI b) <;> simp [List.filter, hc]
def bk_ : Nat → Int32
  | 0 => -1
  | k + 1 => nI k
theorem bk_dec : ∀ j, nI j + Int32.ofInt (-1) = bk_ j
  | 0 => rfl
  | j + 1 => pk_m1 j
theorem bk_pos {k : Nat} (h : ¬ bk_ k < 0) : ∃ j, k = j + 1 := by
  cases k with
  | zero => exact absurd (show bk_ 0 < 0 by decide) h
  | succ j => exact ⟨j, rfl⟩
theorem bk_neg {k : Nat} (hk : k ≤ 16) (h : bk_ k < 0) : k = 0 := by
  cases k with
  | zero => rfl
  | succ j => exact absurd h (nI_pos (show j < 2 ^ 31 by omega))
def bf_ (R : List Int32) : Nat → Int32
  | 0 => -1
  | k + 1 => if 0 < on_ R k ∧ on_ R k < R.length then nI k else bf_ R k
def bt_ (R : List Int32) : Int32 := bf_ R 16
theorem bf_r (R : List Int32) : ∀ k, k ≤ 16 → bf_ R k = -1 ∨ ∃ b, b < k ∧ bf_ R k = nI b ∧ 0 < on_ R b ∧ on_ R b < R.length
  | 0, _ => Or.inl rfl
  | k + 1, hk => by
    rw [bf_]
    split
    · next h => exact Or.inr ⟨k, by omega, rfl, h⟩
    · rcases bf_r R k (by omega) with e | ⟨b, h1, h2⟩
      · exact Or.inl e
      · exact Or.inr ⟨b, by omega, h2⟩
theorem bt_r (R : List Int32) : bt_ R = -1 ∨ ∃ b, b < 16 ∧ bt_ R = nI b ∧ 0 < on_ R b ∧ on_ R b < R.length := bf_r R 16 (Nat.le_refl _)
def le_ (R : List Int32) : Int32 := R.foldl (fun a x => if x < a then x else a) (nI 99999)
def mx_ (R : List Int32) : Int32 := R.foldl (fun a x => if a < x then x else a) (-1)
theorem le_s {R : List Int32} {i : Nat} (h : i < R.length) : le_ (R.take (i + 1)) = if R.getD i 0 < le_ (R.take i) then R.getD i 0 else le_ (R.take i) := by
  unfold le_
  rw [tk_s h, List.foldl_append]
  rfl
theorem mx_s {R : List Int32} {i : Nat} (h : i < R.length) : mx_ (R.take (i + 1)) = if mx_ (R.take i) < R.getD i 0 then R.getD i 0 else mx_ (R.take i) := by
  unfold mx_
  rw [tk_s h, List.foldl_append]
  rfl
/-- those whose bit b is v -/
def wi_ (R : List Int32) (b : Nat) (v : Bool) : List Int32 := R.filter (fun x => hb_ x (nI b) == v)
theorem wi_s {R : List Int32} {i b : Nat} {v : Bool} (h : i < R.length) : wi_ (R.take (i + 1)) b v = wi_ (R.take i) b v ++ if hb_ (R.getD i 0) (nI b) = v then [R.getD i 0] else [] := by
  unfold wi_
  rw [tk_s h, List.filter_append]
  congr 1
  generalize R.getD i 0 = z
  cases hc : hb_ z (nI b) <;> cases v <;> simp [List.filter, hc]
theorem wi_t (R : List Int32) (b : Nat) : (wi_ R b true).length = on_ R b := by
  unfold wi_ on_
  congr 2
  funext x
  cases hb_ x (nI b) <;> rfl
theorem wi_len (R : List Int32) (b : Nat) : (wi_ R b false).length + (wi_ R b true).length = R.length := by
  unfold wi_
  induction R with
  | nil => rfl
  | cons x t ih =>
    cases hc : hb_ x (nI b) <;> simp [List.filter, hc] at ih ⊢ <;> omega
theorem wi_f (R : List Int32) (b : Nat) : (wi_ R b false).length = R.length - on_ R b := by
  have h1 := wi_len R b
  have h2 := wi_t R b
  omega
theorem wi_tk (R : List Int32) (i b : Nat) (v : Bool) : (wi_ (R.take i) b v).length ≤ (wi_ R b v).length := by
  have h : (R.take i).Sublist R := List.take_sublist ..
  exact (h.filter _).length_le
theorem rn_wi {R : List Int32} {b : Nat} {v : Bool} (h : rn_ R) : rn_ (wi_ R b v) := fun x hx => h x (List.mem_filter.mp hx).1
/-- a row that is being filled -/
def pad_ (X : List Int32) (n : Nat) : List Int32 := X ++ List.replicate (n - X.length) 0
theorem pad_0 {n : Nat} : List.replicate n (0 : Int32) = pad_ [] n := by simp [pad_]
theorem pad_len {X : List Int32} {n : Nat} (h : X.length ≤ n) : (pad_ X n).length = n := by simp [pad_]; omega
theorem pad_all {X : List Int32} {n : Nat} (h : X.length = n) : pad_ X n = X := by simp [pad_, h]
theorem pad_set {X : List Int32} {n : Nat} {x : Int32} (h : X.length < n) : (pad_ X n).set X.length x = pad_ (X ++ [x]) n := by
  unfold pad_
  obtain ⟨k, hk⟩ : ∃ k, n - X.length = k + 1 := ⟨n - X.length - 1, by omega⟩
  rw [hk, List.replicate_succ, List.set_append_right (h := by omega), Nat.sub_self, List.set_cons_zero, List.length_append, List.length_singleton, show n - (X.length + 1) = k by omega, List.append_assoc]
  rfl
/-- where a name stands in a row; the row's length where it doesn't -/
def ix9 : List Int32 → Int32 → Nat
  | [], _ => 0
  | y :: t, x => if y = x then 0 else ix9 t x + 1
theorem ix9_le : ∀ (R : List Int32) (x : Int32), ix9 R x ≤ R.length
  | [], _ => Nat.le_refl _
  | y :: t, x => by
    rw [ix9]; split
    · exact Nat.zero_le _
    · exact Nat.succ_le_succ (ix9_le t x)
theorem ix9_eq : ∀ (R : List Int32) (x : Int32) (k : Nat), k ≤ R.length → (∀ j, j < k → R.getD j 0 ≠ x) → (k < R.length → R.getD k 0 = x) → ix9 R x = k
  | [], x, k, hk, _, _ => by simp at hk; subst hk; rfl
  | y :: t, x, 0, _, _, h2 => by
    rw [ix9, if_pos (by simpa using h2 (by simp))]
  | y :: t, x, k + 1, hk, h1, h2 => by
    rw [ix9, if_neg (by simpa using h1 0 (by omega)), ix9_eq t x k (by simpa using hk) (fun j hj => by simpa using h1 (j + 1) (by omega)) (fun hk2 => by simpa using h2 (by simpa using hk2))]
def fdx_ (R : List Int32) (x : Int32) : Int32 := if ix9 R x < R.length then nI (ix9 R x) else -1
theorem h_P0 {D : va_G} {H : Heap} : va_P D vwCl [] H := fun k q hk => by simp at hk
theorem h_pick {D : va_G} {w xs : va_W} {H : Heap} {i : Nat} {q : Nat × va_E} (hP : va_P D vwCl (w ++ xs) H) (hi : xs[i]? = some q) : va_P D vwCl [q] H := fun k p hk => by
  have hz : k < 1 := (List.getElem?_eq_some_iff.mp hk).1
  rw [show k = 0 by omega] at hk
  cases hk
  exact hP _ _ (h_xi hi)
theorem h_suf {D : va_G} {w xs : va_W} {H : Heap} (hP : va_P D vwCl (w ++ xs) H) : va_P D vwCl xs H := fun k q hk => hP _ q (h_xi hk)
theorem h_prf {D : va_G} {w xs : va_W} {H : Heap} (hP : va_P D vwCl (w ++ xs) H) : va_P D vwCl w H := fun k q hk => hP k q (by rw [List.getElem?_append_left (List.getElem?_eq_some_iff.mp hk).1]; exact hk)
theorem h_D0 {A : Nat → Prop} : va_D A [] := ⟨fun i j p q h => by simp at h, fun k q h => by simp at h⟩
