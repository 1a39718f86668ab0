theorem mr_cut {Ls : Nat → g_L} {S N Z : Nat → Int32} {w k : Nat} (h : mr_ Ls S N Z) (hw : w ≤ 1) (hk : k ≤ (Ls w).length) : mr_ (ul_ (ul_ Ls w ((Ls w).take k)) (1 - w) ((Ls w).drop k)) (upd (upd S w (nI k)) (1 - w) (nI ((Ls w).length - k))) (va_cpy N N (24 * w + k) (24 * (1 - w)) ((Ls w).length - k)) (va_cpy Z Z (24 * w + k) (24 * (1 - w)) ((Ls w).length - k)) := by
  intro v hv
  obtain ⟨a1, a2, a3⟩ := h w hw
  have fd : ∀ j, fn_ ((Ls w).drop k) j = fn_ (Ls w) (k + j) := fun j => by unfold fn_; simp [List.getD_eq_getElem?_getD, List.getElem?_drop]
  have gd : ∀ j, gn_ ((Ls w).drop k) j = gn_ (Ls w) (k + j) := fun j => by unfold gn_; simp [List.getD_eq_getElem?_getD, List.getElem?_drop]
  by_cases e : v = w
  · subst e
    rw [ul_ne (by omega), ul_at, upd_ne (by omega), upd_at, List.length_take, Nat.min_eq_left hk]
    refine ⟨rfl, by omega, fun j hj => ?_⟩
    rw [fn_take hj, gn_take hj]
    unfold va_cpy
    rw [if_neg (by omega), if_neg (by omega)]
    exact a3 j (by omega)
  · have e2 : v = 1 - w := by omega
    subst e2
    rw [ul_at, upd_at, List.length_drop]
    refine ⟨rfl, by omega, fun j hj => ?_⟩
    rw [fd, gd]
    unfold va_cpy
    rw [if_pos (by omega), if_pos (by omega), show 24 * w + k + (24 * (1 - w) + j - 24 * (1 - w)) = 24 * w + (k + j) by omega]
    exact a3 (k + j) (by omega)
theorem ct_take {S : g_L} {a : Nat} (h : vL_ S) : ∀ c, a + c ≤ S.length → ct_ S [] a c = (S.drop a).take c
  | 0, _ => by simp [ct_]
  | c + 1, hc => by
    have hM : ((S.drop a).take c).length = c := by rw [List.length_take, List.length_drop]; omega
    have hf : ∀ j, j < c → fn_ ((S.drop a).take c) j = fn_ S (a + j) := fun j hj => by
      rw [fn_take hj]; unfold fn_; simp [List.getD_eq_getElem?_getD, List.getElem?_drop]
    have hr : rk_ ((S.drop a).take c) (fn_ S (a + c)) = c := rk_eq (by omega) (fun j hj => by rw [hf j hj]; exact vL_mono h (by omega) (by omega)) (fun q => by omega)
    rw [ct_, ct_take h c (by omega)]
    unfold st_
    rw [hr, if_neg (by rw [fn_out (by omega)]; exact fun q => vL_ne h (a + c) (by omega) q.symm)]
    have e1 : ((S.drop a).take c).take c = (S.drop a).take c := List.take_of_length_le (by omega)
    have e2 : ((S.drop a).take c).drop c = [] := List.drop_of_length_le (by omega)
    rw [e1, e2, List.take_succ, List.getElem?_drop, List.getElem?_eq_getElem (show a + c < S.length by omega)]
    unfold fn_ gn_
    simp [List.getD_eq_getElem?_getD, List.getElem?_eq_getElem (show a + c < S.length by omega)]
theorem ct_drop {S T : g_L} {a : Nat} (h : vL_ S) (ha : a ≤ S.length) (hT : T.length = 0) : ct_ S T a (S.length - a) = S.drop a := by
  rw [List.eq_nil_of_length_eq_zero hT, ct_take h _ (by omega), List.take_of_length_le (by simp)]
