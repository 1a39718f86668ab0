/-! THE WOODS BEHIND A CALL ARE VALID -/
theorem vC_ul {Ls : Nat → g_L} {w : Nat} {L : g_L} (h : vC_ Ls) (hL : vL_ L) (h24 : L.length ≤ 24) : vC_ (ul_ Ls w L) := fun v hv => by
  unfold ul_
  split
  · exact ⟨hL, h24⟩
  · exact h v hv
theorem vL_take {L : g_L} {k : Nat} (h : vL_ L) : vL_ (L.take k) := by
  have hl : (L.take k).length ≤ L.length := by rw [List.length_take]; omega
  have hk : (L.take k).length ≤ k := by rw [List.length_take]; omega
  refine ⟨fun j hj => ?_, fun j hj => ?_, fun j hj => ?_⟩
  · rw [fn_take (by omega), fn_take (by omega)]; exact h.1 j (by omega)
  · rw [fn_take (by omega)]; exact h.2.1 j (by omega)
  · rw [gn_take (by omega)]; exact h.2.2 j (by omega)
theorem fn_drop {L : g_L} {k j : Nat} : fn_ (L.drop k) j = fn_ L (k + j) := by unfold fn_; simp [List.getD_eq_getElem?_getD, List.getElem?_drop]
theorem gn_drop {L : g_L} {k j : Nat} : gn_ (L.drop k) j = gn_ L (k + j) := by unfold gn_; simp [List.getD_eq_getElem?_getD, List.getElem?_drop]
theorem vL_drop {L : g_L} {k : Nat} (h : vL_ L) : vL_ (L.drop k) := by
  have hl : (L.drop k).length = L.length - k := List.length_drop ..
  refine ⟨fun j hj => ?_, fun j hj => ?_, fun j hj => ?_⟩
  · rw [fn_drop, fn_drop]; exact h.1 (k + j) (by omega)
  · rw [fn_drop]; exact h.2.1 (k + j) (by omega)
  · rw [gn_drop]; exact h.2.2 (k + j) (by omega)
theorem er_c {c : Prop} [Decidable c] {a b : Nat} (hb : b ≠ 0) (h : (if c then a else b) = 0) : c ∧ a = 0 := by
  by_cases hc : c
  · rw [if_pos hc] at h; exact ⟨hc, h⟩
  · rw [if_neg hc] at h; exact absurd h hb
theorem er_d {c : Prop} [Decidable c] {a : Nat} (ha : a ≠ 0) (h : (if c then a else 0) = 0) : ¬ c := fun hc => by
  rw [if_pos hc] at h; exact ha h
theorem vC_put {Ls : Nat → g_L} {w : Nat} {name mi : Int32} (h : vC_ Ls) (hw : w ≤ 1) (he : er_put Ls (nI w) name mi = 0) : vC_ (ul_ Ls w (st_ (Ls w) name mi)) := by
  unfold er_put at he
  obtain ⟨-, he⟩ := er_c (by decide) he
  obtain ⟨⟨hn, hm⟩, he⟩ := er_c (by decide) he
  have he := er_d (by decide) he
  rw [wl_n hw] at he
  obtain ⟨hv, h24⟩ := h w hw
  have hnm := nm_le hn
  refine vC_ul h (vL_st hv hnm.1 hnm.2 (Int32.not_lt.mp hm.1) (Int32.not_lt.mp hm.2)) ?_
  rw [st_len]
  split
  · exact h24
  · next q =>
    have := (mo_not hv (ne_m1 hnm.1)).mpr q
    exact Nat.lt_of_not_le (fun z => he ⟨this, z⟩)
theorem vC_take {Ls : Nat → g_L} {w k : Nat} (h : vC_ Ls) (hw : w ≤ 1) : vC_ (ul_ Ls w ((Ls w).eraseIdx k)) :=
  vC_ul h (vL_er (h w hw).1) (Nat.le_trans (List.length_eraseIdx_le ..) (h w hw).2)
theorem vC_merge {Ls : Nat → g_L} {w r : Nat} (h : vC_ Ls) (hw : w ≤ 1) (he : er_merge Ls (nI w) (nI r) = 0) : vC_ (ul_ (ul_ Ls w []) (1 - w) (mg_ r (Ls w) (Ls (1 - w)) (Ls w).length)) := by
  unfold er_merge at he
  obtain ⟨-, he⟩ := er_c (by decide) he
  have he := er_d (by decide) he
  rw [wl_n hw, ot_n hw] at he
  have hv := h w hw
  have ho := h (1 - w) (by omega)
  have hs := mg_size (r := r) hv.1 ho.1 (Ls w).length (Nat.le_refl _)
  exact vC_ul (vC_ul h vL_nil (by simp)) (vL_mg hv.1 ho.1 _ (Nat.le_refl _)) (by omega)
theorem vC_cut {Ls : Nat → g_L} {w k : Nat} (h : vC_ Ls) (hw : w ≤ 1) (hk : k ≤ (Ls w).length) (ho : (Ls (1 - w)).length = 0) : vC_ (ul_ (ul_ Ls w ((Ls w).take k)) (1 - w) (ct_ (Ls w) (Ls (1 - w)) k ((Ls w).length - k))) := by
  obtain ⟨hv, h24⟩ := h w hw
  rw [ct_drop hv hk ho]
  refine vC_ul (vC_ul h (vL_take hv) ?_) (vL_drop hv) ?_
  · rw [List.length_take]; omega
  · rw [List.length_drop]; omega
theorem vC_turn {Ls : Nat → g_L} {w : Nat} {b : Int32} (h : vC_ Ls) (hw : w ≤ 1) (hb : nm1_ b) : vC_ (ul_ Ls w (cb_ (Ls w) b (Ls w).length)) := by
  obtain ⟨hv, h24⟩ := h w hw
  have hnb := nm_le hb
  exact vC_ul h (vL_cb hv hnb.1 hnb.2 _ (Nat.le_refl _)) (by rw [cb_sz hv hnb.1 hnb.2 _ (Nat.le_refl _)]; exact h24)
