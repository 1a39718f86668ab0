/-! the law's own woods: cells written, cells put in another's place -/
theorem h_sub {D : va_G} {A : Nat → Prop} {w0 xs ys : va_W} {H : Heap} (hP : va_P D vwCl (w0 ++ xs) H) (hD : va_D A (w0 ++ xs)) (is : List Nat) (hn : va_nd is = true) (hs : is.map (fun i => xs[i]?) = ys.map some) : va_P D vwCl (w0 ++ ys) H ∧ va_D A (w0 ++ ys) := by
  have key : ∀ (k : Nat) (q : Nat × va_E), ys[k]? = some q → ∃ i, is[k]? = some i ∧ xs[i]? = some q := by
    intro k q hk
    have h1 : (is.map (fun i => xs[i]?))[k]? = some (some q) := by rw [hs, List.getElem?_map, hk]; rfl
    rw [List.getElem?_map] at h1
    cases hi : is[k]? with
    | none => rw [hi] at h1; cases h1
    | some i => rw [hi] at h1; exact ⟨i, rfl, Option.some.inj h1⟩
  have hl : ∀ (k : Nat) (q : Nat × va_E), w0[k]? = some q → (w0 ++ xs)[k]? = some q := fun k q hq => by rw [List.getElem?_append_left (List.getElem?_eq_some_iff.mp hq).1]; exact hq
  have hDx : va_D A xs := ⟨fun i j p q hi hj e => by have := hD.1 _ _ p q (h_xi hi) (h_xi hj) e; omega, fun k q hq => hD.2 _ q (h_xi hq)⟩
  refine ⟨(h_prf hP).app (fun k q hq => ?_), va_D.app ⟨fun i j p q hi hj e => hD.1 i j p q (hl i p hi) (hl j q hj) e, fun k q hq => hD.2 k q (hl k q hq)⟩ (hDx.sub is hn hs) (fun i j p q hi hj e => ?_)⟩
  · obtain ⟨i, -, h2⟩ := key k q hq
    exact h_suf hP i q h2
  · obtain ⟨i2, -, h2⟩ := key j q hj
    have h3 := hD.1 _ _ p q (hl i p hi) (h_xi h2) e
    have := (List.getElem?_eq_some_iff.mp hi).1
    omega
theorem h_out_ne {D : va_G} {q : Nat → Nat} {o z a : Nat} (h : z < o ∨ o + 1 < z) : h_out D (va_up q z a) o = h_out D q o := by
  unfold h_out
  refine congrArg (fun f => (.inl (g_cA D, 2, .inr (.inr (.inr (.inr f)))) : va_E)) (funext fun j => ?_)
  by_cases hj : j < 2
  · rw [if_pos hj, if_pos hj, va_up_ne _ _ (by omega)]
  · rw [if_neg hj, if_neg hj]
theorem h_SWnx {D : va_G} {q : Nat → Nat} {N M : Nat → List Int32} {w : Nat} {ys : va_W} (hw : w ≤ 1) : (h_SW D q N M ++ ys)[3 + w]? = some (q (3 + w), h_row D (N w)) := by
  rcases (show w = 0 ∨ w = 1 by omega) with rfl | rfl <;> rfl
theorem h_SWmx {D : va_G} {q : Nat → Nat} {N M : Nat → List Int32} {w : Nat} {ys : va_W} (hw : w ≤ 1) : (h_SW D q N M ++ ys)[5 + w]? = some (q (5 + w), h_row D (M w)) := by
  rcases (show w = 0 ∨ w = 1 by omega) with rfl | rfl <;> rfl
theorem h_SWsm {D : va_G} {q : Nat → Nat} {N M : Nat → List Int32} {w : Nat} {R : List Int32} (hw : w ≤ 1) : (h_SW D q N M).set (5 + w) (q (5 + w), h_row D R) = h_SW D q N (va_up M w R) := by
  rcases (show w = 0 ∨ w = 1 by omega) with rfl | rfl <;> rfl
/-- another row of names -/
theorem h_SWun {D : va_G} {A : Nat → Prop} {q : Nat → Nat} {N M : Nat → List Int32} {w a : Nat} {R : List Int32} {w0 : va_W} {H : Heap} (hw : w ≤ 1) (hP : va_P D vwCl (w0 ++ (h_SW D q N M ++ [(a, h_row D R)]).set 1 (q 1, h_out D (va_up q (3 + w) a) 3)) H) (hD : va_D A (w0 ++ (h_SW D q N M ++ [(a, h_row D R)]).set 1 (q 1, h_out D (va_up q (3 + w) a) 3))) : va_P D vwCl (w0 ++ h_SW D (va_up q (3 + w) a) (va_up N w R) M) H ∧ va_D A (w0 ++ h_SW D (va_up q (3 + w) a) (va_up N w R) M) := by
  have e : h_out D (va_up q (3 + w) a) 5 = h_out D q 5 := h_out_ne (by omega)
  rcases (show w = 0 ∨ w = 1 by omega) with rfl | rfl
  · exact h_sub hP hD [0, 1, 2, 7, 4, 5, 6] rfl (by unfold h_SW; rw [e]; rfl)
  · exact h_sub hP hD [0, 1, 2, 3, 7, 5, 6] rfl (by unfold h_SW; rw [e]; rfl)
theorem h_SWum {D : va_G} {A : Nat → Prop} {q : Nat → Nat} {N M : Nat → List Int32} {w a : Nat} {R : List Int32} {w0 : va_W} {H : Heap} (hw : w ≤ 1) (hP : va_P D vwCl (w0 ++ (h_SW D q N M ++ [(a, h_row D R)]).set 2 (q 2, h_out D (va_up q (5 + w) a) 5)) H) (hD : va_D A (w0 ++ (h_SW D q N M ++ [(a, h_row D R)]).set 2 (q 2, h_out D (va_up q (5 + w) a) 5))) : va_P D vwCl (w0 ++ h_SW D (va_up q (5 + w) a) N (va_up M w R)) H ∧ va_D A (w0 ++ h_SW D (va_up q (5 + w) a) N (va_up M w R)) := by
  have e : h_out D (va_up q (5 + w) a) 3 = h_out D q 3 := h_out_ne (by omega)
  rcases (show w = 0 ∨ w = 1 by omega) with rfl | rfl
  · exact h_sub hP hD [0, 1, 2, 3, 4, 7, 6] rfl (by unfold h_SW; rw [e]; rfl)
  · exact h_sub hP hD [0, 1, 2, 3, 4, 5, 7] rfl (by unfold h_SW; rw [e]; rfl)
theorem fdx_neg {R : List Int32} {x : Int32} (hR : R.length < 2 ^ 31) (h : fdx_ R x < 0) : ¬ ix9 R x < R.length := fun q => by
  rw [fdx_, if_pos q] at h
  exact absurd h (nI_pos (by omega))
theorem fdx_pos {R : List Int32} {x : Int32} (h : ¬ fdx_ R x < 0) : ix9 R x < R.length ∧ fdx_ R x = nI (ix9 R x) := by
  by_cases q : ix9 R x < R.length
  · exact ⟨q, by rw [fdx_, if_pos q]⟩
  · rw [fdx_, if_neg q] at h; exact absurd (by decide) h
theorem h_cpyR {R : List Int32} {D : va_G} : (.inl (g_cI D, (List.replicate (R.length + 1) (0 : Int32)).length, .inl (va_cpy (fun j => R.getD j 0) (fun j => (List.replicate (R.length + 1) (0 : Int32)).getD j 0) 0 0 R.length)) : va_E) = h_row D (R ++ [0]) := by
  unfold h_row
  have e1 : (List.replicate (R.length + 1) (0 : Int32)).length = (R ++ [0]).length := by simp
  rw [e1]
  refine congrArg (fun f => (.inl (g_cI D, (R ++ [0]).length, .inl f) : va_E)) (funext fun j => ?_)
  unfold va_cpy
  by_cases h : j < R.length
  · rw [if_pos ⟨Nat.zero_le _, by omega⟩]
    simp only [List.getD_eq_getElem?_getD, Nat.zero_add, Nat.sub_zero, List.getElem?_append_left h]
  · rw [if_neg (by omega)]
    simp only [List.getD_eq_getElem?_getD, List.getElem?_append_right (Nat.not_lt.mp h), List.getElem?_replicate]
    by_cases h2 : j = R.length
    · subst h2; simp
    · rw [List.getElem?_eq_none (by simp; omega)]
      split <;> rfl
theorem set_last {R : List Int32} {x : Int32} : (R ++ [0]).set R.length x = R ++ [x] := by simp
theorem er_getD {R : List Int32} {k i : Nat} : (R.eraseIdx k).getD i 0 = if i < k then R.getD i 0 else R.getD (i + 1) 0 := by
  simp only [List.getD_eq_getElem?_getD, List.getElem?_eraseIdx]
  split <;> rfl
def pN_ (N : Nat → List Int32) (w : Nat) (x : Int32) : Nat → List Int32 := if ix9 (N w) x < (N w).length then N else va_up N w (N w ++ [x])
def pM_ (N M : Nat → List Int32) (w : Nat) (x y : Int32) : Nat → List Int32 := if ix9 (N w) x < (N w).length then va_up M w ((M w).set (ix9 (N w) x) y) else va_up M w (M w ++ [y])
