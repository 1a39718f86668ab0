/-! PURE: of the woods (rows of whole, taken anew) -/
def in_ (L : g_L) (z : Int32) : Prop := ∃ j, j < L.length ∧ fn_ L j = z
theorem mo_not {M : g_L} {x : Int32} (hv : vL_ M) (hx : x ≠ -1) : mo_ M x = -1 ↔ ¬ fn_ M (rk_ M x) = x := by
  unfold mo_
  by_cases e : fn_ M (rk_ M x) = x
  · rw [if_pos e]
    exact ⟨fun h => absurd h (ne_m1 (hv.2.2 _ (fn_in e hx)).1), fun h => absurd e h⟩
  · rw [if_neg e]; exact ⟨fun _ => e, fun _ => rfl⟩
theorem vL_er {L : g_L} {k : Nat} (h : vL_ L) : vL_ (L.eraseIdx k) := by
  by_cases hk : k < L.length
  · have hel := List.length_eraseIdx_of_lt hk
    refine ⟨fun j hj => ?_, fun j hj => ?_, fun j hj => ?_⟩
    · rw [fn_erase, fn_erase]
      by_cases c : j + 1 < k
      · rw [if_pos (by omega), if_pos c]; exact h.1 j (by omega)
      · by_cases c2 : j < k
        · rw [if_pos c2, if_neg c]; exact vL_mono h (by omega) (by omega)
        · rw [if_neg c2, if_neg c]; exact h.1 (j + 1) (by omega)
    · rw [fn_erase]; split
      · exact h.2.1 j (by omega)
      · exact h.2.1 (j + 1) (by omega)
    · rw [gn_erase]; split
      · exact h.2.2 j (by omega)
      · exact h.2.2 (j + 1) (by omega)
  · rw [List.eraseIdx_of_length_le (Nat.not_lt.mp hk)]; exact h
theorem rk_self {L : g_L} (h : vL_ L) {j : Nat} (hj : j < L.length) : rk_ L (fn_ L j) = j :=
  rk_eq (Nat.le_of_lt hj) (fun _ hi => vL_mono h hi hj) (fun _ => Int32.lt_irrefl)
theorem in_rk {L : g_L} (h : vL_ L) {z : Int32} (hi : in_ L z) : fn_ L (rk_ L z) = z := by
  obtain ⟨j, hj, e⟩ := hi
  rw [← e, rk_self h hj]
theorem rk_in {L : g_L} {z : Int32} (hz : z ≠ -1) (h : fn_ L (rk_ L z) = z) : in_ L z := ⟨_, fn_in h hz, h⟩
theorem in_st {L : g_L} {x y z : Int32} (hx : x ≠ -1) : in_ (st_ L x y) z ↔ z = x ∨ in_ L z := by
  have hk := rk_le L x
  by_cases hf : fn_ L (rk_ L x) = x
  · have hlt := fn_in hf hx
    have el : (st_ L x y).length = L.length := by rw [st_len, if_pos hf]
    have ef : ∀ j, fn_ (st_ L x y) j = fn_ L j := fun j => by
      unfold st_; rw [if_pos hf, fn_set hlt]
      split
      · next c => rw [c, hf]
      · rfl
    constructor
    · rintro ⟨j, hj, e⟩
      rw [ef] at e
      exact Or.inr ⟨j, by omega, e⟩
    · rintro (e | ⟨j, hj, e⟩)
      · exact ⟨rk_ L x, by omega, by rw [ef, hf, e]⟩
      · exact ⟨j, by omega, by rw [ef, e]⟩
  · have el : (st_ L x y).length = L.length + 1 := by rw [st_len, if_neg hf]
    have ef : ∀ j, fn_ (st_ L x y) j = if j < rk_ L x then fn_ L j else if j = rk_ L x then x else fn_ L (j - 1) := fun j => by
      unfold st_; rw [if_neg hf, fn_ins hk]
    constructor
    · rintro ⟨j, hj, e⟩
      rw [ef] at e
      by_cases c : j < rk_ L x
      · rw [if_pos c] at e; exact Or.inr ⟨j, by omega, e⟩
      · rw [if_neg c] at e
        by_cases d : j = rk_ L x
        · rw [if_pos d] at e; exact Or.inl e.symm
        · rw [if_neg d] at e; exact Or.inr ⟨j - 1, by omega, e⟩
    · rintro (e | ⟨j, hj, e⟩)
      · exact ⟨rk_ L x, by omega, by rw [ef, if_neg (by omega), if_pos rfl, e]⟩
      · by_cases c : j < rk_ L x
        · exact ⟨j, by omega, by rw [ef, if_pos c, e]⟩
        · exact ⟨j + 1, by omega, by rw [ef, if_neg (by omega), if_neg (by omega), Nat.add_sub_cancel, e]⟩
theorem in_nil {z : Int32} : ¬ in_ [] z := fun ⟨_, h, _⟩ => absurd h (Nat.not_lt_zero _)
theorem mo_ok {L : g_L} {x : Int32} (h : vL_ L) (hx : x ≠ -1) : mo_ L x = -1 ∨ 0 ≤ mo_ L x ∧ mo_ L x ≤ 999 := by
  unfold mo_
  split
  · next e => exact Or.inr (h.2.2 _ (fn_in e hx))
  · exact Or.inl rfl
theorem mgm_ok {r : Nat} {a b : Int32} (ha : 0 ≤ a ∧ a ≤ 999) (hb : b = -1 ∨ 0 ≤ b ∧ b ≤ 999) : 0 ≤ mgm_ r a b ∧ mgm_ r a b ≤ 999 := by
  unfold mgm_
  split
  · exact ha
  · next hn =>
    have hb := hb.resolve_left hn
    split
    · exact ha
    · exact hb
    · split
      · exact ⟨by decide, by decide⟩
      · next c =>
        refine ⟨?_, Int32.not_lt.mp c⟩
        obtain ⟨x, hx, rfl⟩ := i32_nat (n := 999) ha.1 ha.2 (by decide)
        obtain ⟨y, hy, rfl⟩ := i32_nat (n := 999) hb.1 hb.2 (by decide)
        rw [nI_add]
        exact Int32.not_lt.mp (nI_pos (by omega))
    · split
      · exact hb
      · exact ha
theorem vL_mg {r : Nat} {S T : g_L} (hS : vL_ S) (hT : vL_ T) : ∀ k, k ≤ S.length → vL_ (mg_ r S T k)
  | 0, _ => hT
  | k + 1, hk => by
    have ih := vL_mg (r := r) hS hT k (by omega)
    have hm := mgm_ok (r := r) (hS.2.2 k hk) (mo_ok ih (vL_ne hS k hk))
    exact vL_st ih (hS.2.1 k hk).1 (hS.2.1 k hk).2 hm.1 hm.2
theorem in_mg {r : Nat} {S T : g_L} {z : Int32} (hS : vL_ S) : ∀ k, k ≤ S.length → (in_ (mg_ r S T k) z ↔ in_ T z ∨ ∃ j, j < k ∧ fn_ S j = z)
  | 0, _ => ⟨fun h => Or.inl h, fun h => h.elim id (fun ⟨_, h, _⟩ => absurd h (Nat.not_lt_zero _))⟩
  | k + 1, hk => by
    rw [mg_, in_st (vL_ne hS k hk), in_mg hS k (by omega)]
    constructor
    · rintro (e | h | ⟨j, hj, e⟩)
      · exact Or.inr ⟨k, by omega, e.symm⟩
      · exact Or.inl h
      · exact Or.inr ⟨j, by omega, e⟩
    · rintro (h | ⟨j, hj, e⟩)
      · exact Or.inr (Or.inl h)
      · rcases Nat.lt_succ_iff_lt_or_eq.mp hj with q | q
        · exact Or.inr (Or.inr ⟨j, q, e⟩)
        · rw [q] at e; exact Or.inl e.symm
theorem mg_in {r : Nat} {S T : g_L} (hS : vL_ S) (hT : vL_ T) {k : Nat} (hk : k < S.length) : fn_ (mg_ r S T k) (rk_ (mg_ r S T k) (fn_ S k)) = fn_ S k ↔ fn_ T (rk_ T (fn_ S k)) = fn_ S k := by
  have hv := vL_mg (r := r) hS hT k (by omega)
  have hne := vL_ne hS k hk
  constructor
  · intro h
    rcases (in_mg hS k (by omega)).mp (rk_in hne h) with q | ⟨j, hj, e⟩
    · exact in_rk hT q
    · have := vL_mono hS hj hk
      rw [e] at this; exact absurd this Int32.lt_irrefl
  · intro h
    exact in_rk hv ((in_mg hS k (by omega)).mpr (Or.inl (rk_in hne h)))
theorem mg_size {r : Nat} {S T : g_L} (hS : vL_ S) (hT : vL_ T) : ∀ k, k ≤ S.length → (mg_ r S T k).length + cm_ S T k = T.length + k
  | 0, _ => rfl
  | k + 1, hk => by
    have ih := mg_size (r := r) hS hT k (by omega)
    rw [mg_, st_len, cm_]
    by_cases c : fn_ T (rk_ T (fn_ S k)) = fn_ S k
    · rw [if_pos ((mg_in hS hT hk).mpr c), if_neg (mt (mo_not hT (vL_ne hS k hk)).mp (not_not_intro c))]; omega
    · rw [if_neg (mt (mg_in hS hT hk).mp c), if_pos ((mo_not hT (vL_ne hS k hk)).mpr c)]; omega
theorem xor_inj {x y b : Int32} (h : x ^^^ b = y ^^^ b) : x = y := by
  have := congrArg (fun z => z ^^^ b) h
  simpa [Int32.xor_assoc] using this
theorem in_cb {L : g_L} {b z : Int32} (h : vL_ L) (g0 : 0 ≤ b) (g1 : b ≤ 65535) : ∀ k, k ≤ L.length → (in_ (cb_ L b k) z ↔ ∃ j, j < k ∧ fn_ L j ^^^ b = z)
  | 0, _ => ⟨fun q => absurd q in_nil, fun ⟨_, q, _⟩ => absurd q (Nat.not_lt_zero _)⟩
  | k + 1, hk => by
    rw [cb_, in_st (ne_m1 (xor_ok (h.2.1 k (by omega)).1 (h.2.1 k (by omega)).2 g0 g1).1), in_cb h g0 g1 k (by omega)]
    constructor
    · rintro (e | ⟨j, hj, e⟩)
      · exact ⟨k, by omega, e.symm⟩
      · exact ⟨j, by omega, e⟩
    · rintro ⟨j, hj, e⟩
      rcases Nat.lt_succ_iff_lt_or_eq.mp hj with q | q
      · exact Or.inr ⟨j, q, e⟩
      · rw [q] at e; exact Or.inl e.symm
theorem cb_no {L : g_L} {b : Int32} (h : vL_ L) (g0 : 0 ≤ b) (g1 : b ≤ 65535) {k : Nat} (hk : k < L.length) : ¬ fn_ (cb_ L b k) (rk_ (cb_ L b k) (fn_ L k ^^^ b)) = fn_ L k ^^^ b := by
  intro q
  obtain ⟨j, hj, e⟩ := (in_cb h g0 g1 k (by omega)).mp (rk_in (ne_m1 (xor_ok (h.2.1 k hk).1 (h.2.1 k hk).2 g0 g1).1) q)
  have := vL_mono h hj hk
  rw [xor_inj e] at this
  exact absurd this Int32.lt_irrefl
theorem cb_sz {L : g_L} {b : Int32} (h : vL_ L) (g0 : 0 ≤ b) (g1 : b ≤ 65535) : ∀ k, k ≤ L.length → (cb_ L b k).length = k
  | 0, _ => rfl
  | k + 1, hk => by rw [cb_, st_len, if_neg (cb_no h g0 g1 (by omega)), cb_sz h g0 g1 k (by omega)]
theorem vL_take {L : g_L} {k : Nat} (h : vL_ L) : vL_ (L.take k) := by
  have hl : (L.take k).length ≤ L.length := by rw [List.length_take]; omega
  have hk : (L.take k).length ≤ k := by rw [List.length_take]; omega
  refine ⟨fun j hj => ?_, fun j hj => ?_, fun j hj => ?_⟩
  · rw [fn_take (by omega), fn_take (by omega)]; exact h.1 j (by omega)
  · rw [fn_take (by omega)]; exact h.2.1 j (by omega)
  · rw [gn_take (by omega)]; exact h.2.2 j (by omega)
theorem fn_drop {L : g_L} {k j : Nat} : fn_ (L.drop k) j = fn_ L (k + j) := by unfold fn_; simp [List.getD_eq_getElem?_getD, List.getElem?_drop]
theorem gn_drop {L : g_L} {k j : Nat} : gn_ (L.drop k) j = gn_ L (k + j) := by unfold gn_; simp [List.getD_eq_getElem?_getD, List.getElem?_drop]
theorem vL_drop {L : g_L} {k : Nat} (h : vL_ L) : vL_ (L.drop k) := by
  have hl : (L.drop k).length = L.length - k := List.length_drop ..
  refine ⟨fun j hj => ?_, fun j hj => ?_, fun j hj => ?_⟩
  · rw [fn_drop, fn_drop]; exact h.1 (k + j) (by omega)
  · rw [fn_drop]; exact h.2.1 (k + j) (by omega)
  · rw [gn_drop]; exact h.2.2 (k + j) (by omega)
theorem ct_take {S : g_L} {a : Nat} (h : vL_ S) : ∀ c, a + c ≤ S.length → ct_ S [] a c = (S.drop a).take c
  | 0, _ => by simp [ct_]
  | c + 1, hc => by
    have hM : ((S.drop a).take c).length = c := by rw [List.length_take, List.length_drop]; omega
    have hf : ∀ j, j < c → fn_ ((S.drop a).take c) j = fn_ S (a + j) := fun j hj => by
      rw [fn_take hj]; unfold fn_; simp [List.getD_eq_getElem?_getD, List.getElem?_drop]
    have hr : rk_ ((S.drop a).take c) (fn_ S (a + c)) = c := rk_eq (by omega) (fun j hj => by rw [hf j hj]; exact vL_mono h (by omega) (by omega)) (fun q => by omega)
    rw [ct_, ct_take h c (by omega)]
    unfold st_
    rw [hr, if_neg (by rw [fn_out (by omega)]; exact fun q => vL_ne h (a + c) (by omega) q.symm)]
    have e1 : ((S.drop a).take c).take c = (S.drop a).take c := List.take_of_length_le (by omega)
    have e2 : ((S.drop a).take c).drop c = [] := List.drop_of_length_le (by omega)
    rw [e1, e2, List.take_succ, List.getElem?_drop, List.getElem?_eq_getElem (show a + c < S.length by omega)]
    unfold fn_ gn_
    simp [List.getD_eq_getElem?_getD, List.getElem?_eq_getElem (show a + c < S.length by omega)]
theorem ct_drop {S T : g_L} {a : Nat} (h : vL_ S) (ha : a ≤ S.length) (hT : T.length = 0) : ct_ S T a (S.length - a) = S.drop a := by
  rw [List.eq_nil_of_length_eq_zero hT, ct_take h _ (by omega), List.take_of_length_le (by simp)]
theorem vC_ul {Ls : Nat → g_L} {w : Nat} {L : g_L} (h : vC_ Ls) (hL : vL_ L) (h24 : L.length ≤ 24) : vC_ (ul_ Ls w L) := fun v hv => by
  unfold ul_
  split
  · exact ⟨hL, h24⟩
  · exact h v hv
theorem er_c {c : Prop} [Decidable c] {a b : Nat} (hb : b ≠ 0) (h : (if c then a else b) = 0) : c ∧ a = 0 := by
  by_cases hc : c
  · rw [if_pos hc] at h; exact ⟨hc, h⟩
  · rw [if_neg hc] at h; exact absurd h hb
theorem er_d {c : Prop} [Decidable c] {a : Nat} (ha : a ≠ 0) (h : (if c then a else 0) = 0) : ¬ c := fun hc => by
  rw [if_pos hc] at h; exact ha h
theorem vC_put {Ls : Nat → g_L} {w : Nat} {name mi : Int32} (h : vC_ Ls) (hw : w ≤ 1) (he : er_put Ls (nI w) name mi = 0) : vC_ (ul_ Ls w (st_ (Ls w) name mi)) := by
  unfold er_put at he
  obtain ⟨-, he⟩ := er_c (by decide) he
  obtain ⟨⟨hn, hm⟩, he⟩ := er_c (by decide) he
  have he := er_d (by decide) he
  rw [wl_n hw] at he
  obtain ⟨hv, h24⟩ := h w hw
  have hnm := nm_le hn
  refine vC_ul h (vL_st hv hnm.1 hnm.2 (Int32.not_lt.mp hm.1) (Int32.not_lt.mp hm.2)) ?_
  rw [st_len]
  split
  · exact h24
  · next q =>
    have := (mo_not hv (ne_m1 hnm.1)).mpr q
    exact Nat.lt_of_not_le (fun z => he ⟨this, z⟩)
theorem vC_take {Ls : Nat → g_L} {w k : Nat} (h : vC_ Ls) (hw : w ≤ 1) : vC_ (ul_ Ls w ((Ls w).eraseIdx k)) :=
  vC_ul h (vL_er (h w hw).1) (Nat.le_trans (List.length_eraseIdx_le ..) (h w hw).2)
theorem vC_merge {Ls : Nat → g_L} {w r : Nat} (h : vC_ Ls) (hw : w ≤ 1) (he : er_merge Ls (nI w) (nI r) = 0) : vC_ (ul_ (ul_ Ls w []) (1 - w) (mg_ r (Ls w) (Ls (1 - w)) (Ls w).length)) := by
  unfold er_merge at he
  obtain ⟨-, he⟩ := er_c (by decide) he
  have he := er_d (by decide) he
  rw [wl_n hw, ot_n hw] at he
  have hv := h w hw
  have ho := h (1 - w) (by omega)
  have hs := mg_size (r := r) hv.1 ho.1 (Ls w).length (Nat.le_refl _)
  exact vC_ul (vC_ul h vL_nil (by simp)) (vL_mg hv.1 ho.1 _ (Nat.le_refl _)) (by omega)
theorem vC_cut {Ls : Nat → g_L} {w k : Nat} (h : vC_ Ls) (hw : w ≤ 1) (hk : k ≤ (Ls w).length) (ho : (Ls (1 - w)).length = 0) : vC_ (ul_ (ul_ Ls w ((Ls w).take k)) (1 - w) (ct_ (Ls w) (Ls (1 - w)) k ((Ls w).length - k))) := by
  obtain ⟨hv, h24⟩ := h w hw
  rw [ct_drop hv hk ho]
  refine vC_ul (vC_ul h (vL_take hv) ?_) (vL_drop hv) ?_
  · rw [List.length_take]; omega
  · rw [List.length_drop]; omega
theorem vC_turn {Ls : Nat → g_L} {w : Nat} {b : Int32} (h : vC_ Ls) (hw : w ≤ 1) (hb : nm1_ b) : vC_ (ul_ Ls w (cb_ (Ls w) b (Ls w).length)) := by
  obtain ⟨hv, h24⟩ := h w hw
  have hnb := nm_le hb
  exact vC_ul h (vL_cb hv hnb.1 hnb.2 _ (Nat.le_refl _)) (by rw [cb_sz hv hnb.1 hnb.2 _ (Nat.le_refl _)]; exact h24)
theorem ul_at {Ls : Nat → g_L} {w : Nat} {L : g_L} : ul_ Ls w L w = L := if_pos rfl
theorem ul_ne {Ls : Nat → g_L} {w v : Nat} {L : g_L} (h : v ≠ w) : ul_ Ls w L v = Ls v := if_neg h
