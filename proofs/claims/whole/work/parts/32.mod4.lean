theorem mr_set {Ls : Nat → g_L} {S N Z : Nat → Int32} {w : Nat} {x y : Int32} (h : mr_ Ls S N Z) (hw : w ≤ 1) (hx : x ≠ -1) (hf : fn_ (Ls w) (rk_ (Ls w) x) = x) : mr_ (ul_ Ls w (st_ (Ls w) x y)) S N (upd Z (24 * w + rk_ (Ls w) x) y) := by
  have hk := fn_in hf hx
  intro v hv
  obtain ⟨a1, a2, a3⟩ := h v hv
  have hw24 := (h w hw).2.1
  by_cases e : v = w
  · subst e
    have el : (st_ (Ls v) x y).length = (Ls v).length := by rw [st_len, if_pos hf]
    unfold ul_
    rw [if_pos rfl, el]
    refine ⟨a1, a2, fun j hj => ?_⟩
    unfold st_
    rw [if_pos hf, fn_set hk, gn_set hk]
    by_cases c : j = rk_ (Ls v) x
    · subst c
      rw [if_pos rfl, if_pos rfl, upd_at]
      exact ⟨(a3 _ hj).1.trans hf, rfl⟩
    · rw [if_neg c, if_neg c, upd_ne (by omega)]
      exact a3 j hj
  · unfold ul_
    rw [if_neg e]
    refine ⟨a1, a2, fun j hj => ?_⟩
    rw [upd_ne (by omega)]
    exact a3 j hj
