theorem it_no {L : g_L} {x : Int32} (h : L.length ≤ rk_ L x) (hx : x ≠ -1) : ¬ fn_ L (rk_ L x) = x := fun q => absurd (fn_in q hx) (by omega)
theorem g_and1 (x : Int32) : x &&& 1 = 0 ∨ x &&& 1 = 1 := by
  have h : (x &&& 1).toBitVec = BitVec.setWidth 32 (BitVec.ofBool (x.toBitVec.getLsbD 0)) := by
    rw [Int32.toBitVec_and]; exact BitVec.and_one_eq_setWidth_ofBool_getLsbD
  cases hb : x.toBitVec.getLsbD 0
  · rw [hb] at h; exact Or.inl (Int32.toBitVec_inj.mp (by rw [h]; rfl))
  · rw [hb] at h; exact Or.inr (Int32.toBitVec_inj.mp (by rw [h]; rfl))
theorem hb_f {x b : Int32} (h : (x >>> (b &&& 31)) &&& nI 1 = 0) : hb_ x b = false := by
  refine decide_eq_false (fun q => ?_)
  have e : (x >>> (b &&& 31)) &&& 1 = 0 := h
  rw [q] at e; exact absurd e (by decide)
theorem hb_t {x b : Int32} (h : ¬ (x >>> (b &&& 31)) &&& nI 1 = 0) : hb_ x b = true :=
  decide_eq_true ((g_and1 _).resolve_left h)
abbrev rp_ (d : Nat) : Room := { frames := d + 12, cells := 0, slots := 0, locals := 300 + 25 * d }
theorem pt_leaf2 {f : Nat → Int32} {T : Nat → Nat → Int32} {s a c q b d : Nat} (hc : c = 1) : pM_ f (p6_ T s a (a + c) q) s (tr_ f (d + 1) a c q b) := by
  subst hc; exact pt_leaf
theorem lk_row {Ls : Nat → g_L} {S N Z R : Nat → Int32} {w : Nat} (h : mr_ Ls S N Z) (hw : w ≤ 1) : ∀ j, j < (Ls w).length → va_cpy N R (24 * w) 0 (Ls w).length j = fn_ (Ls w) j := fun j hj => by
  unfold va_cpy
  rw [if_pos ⟨Nat.zero_le _, by omega⟩, Nat.sub_zero]
  exact h.N hw hj
theorem lk_row2 {Ls : Nat → g_L} {S N Z R : Nat → Int32} {w k : Nat} (h : mr_ Ls S N Z) (hw : w ≤ 1) (hk : k < (Ls w).length) : ∀ j, j < ((Ls w).eraseIdx k).length → va_cpy N (va_cpy N R (24 * w) 0 k) (24 * w + k + 1) k (((Ls w).eraseIdx k).length - k) j = fn_ ((Ls w).eraseIdx k) j := fun j hj => by
  have hel := List.length_eraseIdx_of_lt hk
  rw [fn_erase]
  unfold va_cpy
  by_cases c : j < k
  · rw [if_neg (by omega), if_pos (by omega), if_pos c, Nat.sub_zero]
    exact h.N hw (by omega)
  · rw [if_pos (by omega), if_neg c, show 24 * w + k + 1 + (j - k) = 24 * w + (j + 1) by omega]
    exact h.N hw (by omega)
theorem vL_er {L : g_L} {k : Nat} (h : vL_ L) : vL_ (L.eraseIdx k) := by
  by_cases hk : k < L.length
  · have hel := List.length_eraseIdx_of_lt hk
    refine ⟨fun j hj => ?_, fun j hj => ?_, fun j hj => ?_⟩
    · rw [fn_erase, fn_erase]
      by_cases c : j + 1 < k
      · rw [if_pos (by omega), if_pos c]; exact h.1 j (by omega)
      · by_cases c2 : j < k
        · rw [if_pos c2, if_neg c]; exact vL_mono h (by omega) (by omega)
        · rw [if_neg c2, if_neg c]; exact h.1 (j + 1) (by omega)
    · rw [fn_erase]; split
      · exact h.2.1 j (by omega)
      · exact h.2.1 (j + 1) (by omega)
    · rw [gn_erase]; split
      · exact h.2.2 j (by omega)
      · exact h.2.2 (j + 1) (by omega)
  · rw [List.eraseIdx_of_length_le (Nat.not_lt.mp hk)]; exact h
