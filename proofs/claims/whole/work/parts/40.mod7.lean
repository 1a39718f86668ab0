/-! PURE: the reference's way to both woods' names -/
def uk_ (U : g_L) (m : Nat) : Int32 := if m < U.length then fn_ U m else nI 65536
def on_ (A : g_L) (u : Int32) : Int32 := if rk_ A u < A.length then fn_ A (rk_ A u) else nI 65536
def lu_ (A B U : g_L) : Prop := vL_ A ∧ vL_ B ∧ vL_ U ∧ (∀ z, in_ A z → in_ U z) ∧ (∀ z, in_ B z → in_ U z) ∧ ∀ z, in_ U z → in_ A z ∨ in_ B z
theorem lu_.a {A B U : g_L} (h : lu_ A B U) : vL_ A := h.1
theorem lu_.b {A B U : g_L} (h : lu_ A B U) : vL_ B := h.2.1
theorem lu_.u {A B U : g_L} (h : lu_ A B U) : vL_ U := h.2.2.1
theorem lu_.inA {A B U : g_L} (h : lu_ A B U) : ∀ z, in_ A z → in_ U z := h.2.2.2.1
theorem lu_.inB {A B U : g_L} (h : lu_ A B U) : ∀ z, in_ B z → in_ U z := h.2.2.2.2.1
theorem lu_.out {A B U : g_L} (h : lu_ A B U) : ∀ z, in_ U z → in_ A z ∨ in_ B z := h.2.2.2.2.2
theorem lu_.sw {A B U : g_L} (h : lu_ A B U) : lu_ B A U := ⟨h.b, h.a, h.u, h.inB, h.inA, fun z q => (h.out z q).symm⟩
theorem lu_bo {A B : g_L} (ha : vL_ A) (hb : vL_ B) : lu_ A B (bo_ A B) := ⟨ha, hb, vL_bo ha hb, fun _ h => (in_bo ha hb).mpr (Or.inl h), fun _ h => (in_bo ha hb).mpr (Or.inr h), fun _ h => (in_bo ha hb).mp h⟩
theorem fn_big {L : g_L} (h : vL_ L) {j : Nat} (hj : j < L.length) : fn_ L j < nI 65536 := Int32.lt_of_le_of_lt (h.2.1 j hj).2 (by decide)
theorem rk_big {L : g_L} (h : vL_ L) : rk_ L (nI 65536) = L.length := rk_eq (Nat.le_refl _) (fun _ hj => fn_big h hj) (fun q => absurd q (Nat.lt_irrefl _))
theorem uk_in {U : g_L} {m : Nat} (h : m < U.length) : uk_ U m = fn_ U m := if_pos h
theorem lu_go {A B U : g_L} (h : lu_ A B U) {m : Nat} (hm : m ≤ U.length) (hg : rk_ A (uk_ U m) < A.length ∨ rk_ B (uk_ U m) < B.length) : m < U.length := by
  rcases Nat.lt_or_ge m U.length with q | q
  · exact q
  · have e : uk_ U m = nI 65536 := if_neg (by omega)
    rw [e, rk_big h.a, rk_big h.b] at hg
    omega
theorem lu_rk {A : g_L} {z : Int32} (h : vL_ A) (hz : in_ A z) : rk_ A z < A.length := by
  obtain ⟨j, hj, e⟩ := hz
  rw [← e, rk_self h hj]; exact hj
theorem lu_end {A B U : g_L} (h : lu_ A B U) {m : Nat} (hm : m ≤ U.length) (h1 : A.length ≤ rk_ A (uk_ U m)) (h2 : B.length ≤ rk_ B (uk_ U m)) : m = U.length := by
  rcases Nat.lt_or_ge m U.length with q | q
  · rw [uk_in q] at h1 h2
    rcases h.out _ ⟨m, q, rfl⟩ with z | z
    · have := lu_rk h.a z; omega
    · have := lu_rk h.b z; omega
  · omega
theorem on_ge {A U : g_L} (hU : vL_ U) {m : Nat} (hm : m < U.length) : fn_ U m ≤ on_ A (fn_ U m) := by
  unfold on_
  split
  · next q => exact Int32.not_lt.mp (rk_at A _ q)
  · exact Int32.le_of_lt (fn_big hU hm)
theorem on_in {A : g_L} {u : Int32} (h : vL_ A) (hi : in_ A u) : on_ A u = u := by
  unfold on_
  rw [if_pos (lu_rk h hi), in_rk h hi]
theorem on_eq {A U : g_L} (hA : vL_ A) (hU : vL_ U) {m : Nat} (hm : m < U.length) : on_ A (fn_ U m) = fn_ U m ↔ fn_ A (rk_ A (fn_ U m)) = fn_ U m := by
  unfold on_
  split
  · exact Iff.rfl
  · next q =>
    constructor
    · intro e; have := fn_big hU hm; rw [← e] at this; exact absurd this Int32.lt_irrefl
    · intro e; rw [fn_out (by omega)] at e; exact absurd e.symm (vL_ne hU m hm)
theorem lu_min {A B U : g_L} (h : lu_ A B U) {m : Nat} (hm : m < U.length) : (if on_ B (uk_ U m) < on_ A (uk_ U m) then on_ B (uk_ U m) else on_ A (uk_ U m)) = fn_ U m := by
  rw [uk_in hm]
  have ga := on_ge (A := A) h.u hm
  have gb := on_ge (A := B) h.u hm
  rcases h.out _ ⟨m, hm, rfl⟩ with z | z
  · rw [on_in h.a z, if_neg (Int32.not_lt.mpr gb)]
  · rw [on_in h.b z]
    split
    · rfl
    · next q => exact Int32.le_antisymm (Int32.not_lt.mp q) ga
theorem lu_up {U : g_L} (hU : vL_ U) {m : Nat} (hm : m < U.length) : fn_ U m < uk_ U (m + 1) := by
  unfold uk_
  split
  · next q => exact hU.1 m q
  · exact fn_big hU hm
theorem lu_no {U : g_L} (hU : vL_ U) {m : Nat} {z : Int32} (hm : m < U.length) (hz : in_ U z) (hl : fn_ U m < z) : ¬ z < uk_ U (m + 1) := by
  obtain ⟨q, hq, rfl⟩ := hz
  have hqm : m < q := by
    rcases Nat.lt_trichotomy m q with c | c | c
    · exact c
    · subst c; exact absurd hl Int32.lt_irrefl
    · exact absurd (Int32.lt_trans hl (vL_mono hU c hm)) Int32.lt_irrefl
  unfold uk_
  rw [if_pos (by omega)]
  rcases Nat.eq_or_lt_of_le (show m + 1 ≤ q by omega) with c | c
  · rw [c]; exact Int32.lt_irrefl
  · exact fun k => absurd (Int32.lt_trans k (vL_mono hU c hq)) Int32.lt_irrefl
theorem lu_adv {A B U : g_L} (h : lu_ A B U) {m : Nat} (hm : m < U.length) : rk_ A (uk_ U (m + 1)) = rk_ A (uk_ U m) + if fn_ A (rk_ A (uk_ U m)) = uk_ U m then 1 else 0 := by
  rw [uk_in hm]
  have hup := lu_up h.u hm
  have hle := rk_le A (fn_ U m)
  by_cases c : fn_ A (rk_ A (fn_ U m)) = fn_ U m
  · rw [if_pos c]
    have hlt := fn_in c (vL_ne h.u m hm)
    refine rk_eq (by omega) (fun j hj => ?_) (fun q => ?_)
    · rcases Nat.lt_succ_iff_lt_or_eq.mp hj with z | z
      · exact Int32.lt_trans (rk_lt A _ j z) hup
      · rw [z, c]; exact hup
    · refine lu_no h.u hm (h.inA _ ⟨_, q, rfl⟩) ?_
      have := h.a.1 _ q
      rw [c] at this; exact this
  · rw [if_neg c, Nat.add_zero]
    refine rk_eq hle (fun j hj => Int32.lt_trans (rk_lt A _ j hj) hup) (fun q => ?_)
    refine lu_no h.u hm (h.inA _ ⟨_, q, rfl⟩) ?_
    exact Int32.not_le.mp (fun k => c (Int32.le_antisymm k (Int32.not_lt.mp (rk_at A _ q))))
theorem lu_1 {A B U : g_L} (h : lu_ A B U) {m : Nat} (hm : m < U.length) (hc : on_ A (uk_ U m) ≤ on_ B (uk_ U m)) : rk_ A (uk_ U m) + 1 = rk_ A (uk_ U (m + 1)) := by
  have hmn := lu_min h hm
  rw [if_neg (Int32.not_lt.mpr hc), uk_in hm] at hmn
  rw [lu_adv h hm, uk_in hm, if_pos ((on_eq h.a h.u hm).mp hmn)]
theorem lu_0 {A B U : g_L} (h : lu_ A B U) {m : Nat} (hm : m < U.length) (hc : on_ B (uk_ U m) < on_ A (uk_ U m)) : rk_ A (uk_ U m) + 0 = rk_ A (uk_ U (m + 1)) := by
  have hmn := lu_min h hm
  rw [if_pos hc, uk_in hm] at hmn
  rw [uk_in hm, hmn] at hc
  rw [lu_adv h hm, uk_in hm, if_neg (fun e => by rw [(on_eq h.a h.u hm).mpr e] at hc; exact absurd hc Int32.lt_irrefl)]
theorem lu_st {A B U : g_L} (h : lu_ A B U) : rk_ A (uk_ U 0) = 0 := by
  refine rk_eq (Nat.zero_le _) (fun j hj => absurd hj (Nat.not_lt_zero _)) (fun q => ?_)
  obtain ⟨j, hj, e⟩ := h.inA _ ⟨0, q, rfl⟩
  rw [← e]
  unfold uk_
  rw [if_pos (by omega)]
  rcases Nat.eq_zero_or_pos j with c | c
  · rw [c]; exact Int32.lt_irrefl
  · exact fun k => absurd (Int32.lt_trans k (vL_mono h.u c hj)) Int32.lt_irrefl
