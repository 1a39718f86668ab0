theorem mr_set {Ls : Nat → g_L} {S N Z : Nat → Int32} {w : Nat} {x y : Int32} (h : mr_ Ls S N Z) (hw : w ≤ 1) (hx : x ≠ -1) (hf : fn_ (Ls w) (rk_ (Ls w) x) = x) : mr_ (ul_ Ls w (st_ (Ls w) x y)) S N (upd Z (24 * w + rk_ (Ls w) x) y) := by
  have hk := fn_in hf hx
  intro v hv
  obtain ⟨a1, a2, a3⟩ := h v hv
  have hw24 := (h w hw).2.1
  by_cases e : v = w
  · subst e
    have el : (st_ (Ls v) x y).length = (Ls v).length := by rw [st_len, if_pos hf]
    unfold ul_
    rw [if_pos rfl, el]
    refine ⟨a1, a2, fun j hj => ?_⟩
    unfold st_
    rw [if_pos hf, fn_set hk, gn_set hk]
    by_cases c : j = rk_ (Ls v) x
    · subst c
      rw [if_pos rfl, if_pos rfl, upd_at]
      exact ⟨(a3 _ hj).1.trans hf, rfl⟩
    · rw [if_neg c, if_neg c, upd_ne (by omega)]
      exact a3 j hj
  · unfold ul_
    rw [if_neg e]
    refine ⟨a1, a2, fun j hj => ?_⟩
    rw [upd_ne (by omega)]
    exact a3 j hj
/-! PURE: which names stand in a wood -/
def in_ (L : g_L) (z : Int32) : Prop := ∃ j, j < L.length ∧ fn_ L j = z
theorem rk_self {L : g_L} (h : vL_ L) {j : Nat} (hj : j < L.length) : rk_ L (fn_ L j) = j :=
  rk_eq (Nat.le_of_lt hj) (fun _ hi => vL_mono h hi hj) (fun _ => Int32.lt_irrefl)
theorem in_rk {L : g_L} (h : vL_ L) {z : Int32} (hi : in_ L z) : fn_ L (rk_ L z) = z := by
  obtain ⟨j, hj, e⟩ := hi
  rw [← e, rk_self h hj]
theorem rk_in {L : g_L} {z : Int32} (hz : z ≠ -1) (h : fn_ L (rk_ L z) = z) : in_ L z := ⟨_, fn_in h hz, h⟩
theorem in_st {L : g_L} {x y z : Int32} (hx : x ≠ -1) : in_ (st_ L x y) z ↔ z = x ∨ in_ L z := by
  have hk := rk_le L x
  by_cases hf : fn_ L (rk_ L x) = x
  · have hlt := fn_in hf hx
    have el : (st_ L x y).length = L.length := by rw [st_len, if_pos hf]
    have ef : ∀ j, fn_ (st_ L x y) j = fn_ L j := fun j => by
      unfold st_; rw [if_pos hf, fn_set hlt]
      split
      · next c => rw [c, hf]
      · rfl
    constructor
    · rintro ⟨j, hj, e⟩
      rw [ef] at e
      exact Or.inr ⟨j, by omega, e⟩
    · rintro (e | ⟨j, hj, e⟩)
      · exact ⟨rk_ L x, by omega, by rw [ef, hf, e]⟩
      · exact ⟨j, by omega, by rw [ef, e]⟩
  · have el : (st_ L x y).length = L.length + 1 := by rw [st_len, if_neg hf]
    have ef : ∀ j, fn_ (st_ L x y) j = if j < rk_ L x then fn_ L j else if j = rk_ L x then x else fn_ L (j - 1) := fun j => by
      unfold st_; rw [if_neg hf, fn_ins hk]
    constructor
    · rintro ⟨j, hj, e⟩
      rw [ef] at e
      by_cases c : j < rk_ L x
      · rw [if_pos c] at e; exact Or.inr ⟨j, by omega, e⟩
      · rw [if_neg c] at e
        by_cases d : j = rk_ L x
        · rw [if_pos d] at e; exact Or.inl e.symm
        · rw [if_neg d] at e; exact Or.inr ⟨j - 1, by omega, e⟩
    · rintro (e | ⟨j, hj, e⟩)
      · exact ⟨rk_ L x, by omega, by rw [ef, if_neg (by omega), if_pos rfl, e]⟩
      · by_cases c : j < rk_ L x
        · exact ⟨j, by omega, by rw [ef, if_pos c, e]⟩
        · exact ⟨j + 1, by omega, by rw [ef, if_neg (by omega), if_neg (by omega), Nat.add_sub_cancel, e]⟩
theorem in_nil {z : Int32} : ¬ in_ [] z := fun ⟨_, h, _⟩ => absurd h (Nat.not_lt_zero _)
theorem in_sa {L M : g_L} {z : Int32} (hM : vL_ M) : ∀ k, k ≤ M.length → (in_ (sa_ L M k) z ↔ in_ L z ∨ ∃ j, j < k ∧ fn_ M j = z)
  | 0, _ => ⟨fun h => Or.inl h, fun h => h.elim id (fun ⟨_, h, _⟩ => absurd h (Nat.not_lt_zero _))⟩
  | k + 1, hk => by
    rw [sa_, in_st (vL_ne hM k hk), in_sa hM k (by omega)]
    constructor
    · rintro (e | h | ⟨j, hj, e⟩)
      · exact Or.inr ⟨k, by omega, e.symm⟩
      · exact Or.inl h
      · exact Or.inr ⟨j, by omega, e⟩
    · rintro (h | ⟨j, hj, e⟩)
      · exact Or.inr (Or.inl h)
      · rcases Nat.lt_succ_iff_lt_or_eq.mp hj with q | q
        · exact Or.inr (Or.inr ⟨j, q, e⟩)
        · rw [q] at e; exact Or.inl e.symm
theorem in_bo {A B : g_L} {z : Int32} (ha : vL_ A) (hb : vL_ B) : in_ (bo_ A B) z ↔ in_ A z ∨ in_ B z := by
  unfold bo_
  rw [in_sa hb _ (Nat.le_refl _), in_sa ha _ (Nat.le_refl _)]
  constructor
  · rintro ((h | h) | h)
    · exact absurd h in_nil
    · exact Or.inl h
    · exact Or.inr h
  · rintro (h | h)
    · exact Or.inl (Or.inr h)
    · exact Or.inr h
/-! the merged wood -/
theorem mo_ok {L : g_L} {x : Int32} (h : vL_ L) (hx : x ≠ -1) : mo_ L x = -1 ∨ 0 ≤ mo_ L x ∧ mo_ L x ≤ 999 := by
  unfold mo_
  split
  · next e => exact Or.inr (h.2.2 _ (fn_in e hx))
  · exact Or.inl rfl
theorem mgm_ok {r : Nat} {a b : Int32} (ha : 0 ≤ a ∧ a ≤ 999) (hb : b = -1 ∨ 0 ≤ b ∧ b ≤ 999) : 0 ≤ mgm_ r a b ∧ mgm_ r a b ≤ 999 := by
  unfold mgm_
  split
  · exact ha
  · next hn =>
    have hb := hb.resolve_left hn
    split
    · exact ha
    · exact hb
    · split
      · exact ⟨by decide, by decide⟩
      · next c =>
        refine ⟨?_, Int32.not_lt.mp c⟩
        obtain ⟨x, hx, rfl⟩ := i32_nat (n := 999) ha.1 ha.2 (by decide)
        obtain ⟨y, hy, rfl⟩ := i32_nat (n := 999) hb.1 hb.2 (by decide)
        rw [nI_add]
        exact Int32.not_lt.mp (nI_pos (by omega))
    · split
      · exact hb
      · exact ha
theorem vL_mg {r : Nat} {S T : g_L} (hS : vL_ S) (hT : vL_ T) : ∀ k, k ≤ S.length → vL_ (mg_ r S T k)
  | 0, _ => hT
  | k + 1, hk => by
    have ih := vL_mg (r := r) hS hT k (by omega)
    have hm := mgm_ok (r := r) (hS.2.2 k hk) (mo_ok ih (vL_ne hS k hk))
    exact vL_st ih (hS.2.1 k hk).1 (hS.2.1 k hk).2 hm.1 hm.2
theorem in_mg {r : Nat} {S T : g_L} {z : Int32} (hS : vL_ S) : ∀ k, k ≤ S.length → (in_ (mg_ r S T k) z ↔ in_ T z ∨ ∃ j, j < k ∧ fn_ S j = z)
  | 0, _ => ⟨fun h => Or.inl h, fun h => h.elim id (fun ⟨_, h, _⟩ => absurd h (Nat.not_lt_zero _))⟩
  | k + 1, hk => by
    rw [mg_, in_st (vL_ne hS k hk), in_mg hS k (by omega)]
    constructor
    · rintro (e | h | ⟨j, hj, e⟩)
      · exact Or.inr ⟨k, by omega, e.symm⟩
      · exact Or.inl h
      · exact Or.inr ⟨j, by omega, e⟩
    · rintro (h | ⟨j, hj, e⟩)
      · exact Or.inr (Or.inl h)
      · rcases Nat.lt_succ_iff_lt_or_eq.mp hj with q | q
        · exact Or.inr (Or.inr ⟨j, q, e⟩)
        · rw [q] at e; exact Or.inl e.symm
theorem mg_in {r : Nat} {S T : g_L} (hS : vL_ S) (hT : vL_ T) {k : Nat} (hk : k < S.length) : fn_ (mg_ r S T k) (rk_ (mg_ r S T k) (fn_ S k)) = fn_ S k ↔ fn_ T (rk_ T (fn_ S k)) = fn_ S k := by
  have hv := vL_mg (r := r) hS hT k (by omega)
  have hne := vL_ne hS k hk
  constructor
  · intro h
    rcases (in_mg hS k (by omega)).mp (rk_in hne h) with q | ⟨j, hj, e⟩
    · exact in_rk hT q
    · have := vL_mono hS hj hk
      rw [e] at this; exact absurd this Int32.lt_irrefl
  · intro h
    exact in_rk hv ((in_mg hS k (by omega)).mpr (Or.inl (rk_in hne h)))
theorem mg_size {r : Nat} {S T : g_L} (hS : vL_ S) (hT : vL_ T) : ∀ k, k ≤ S.length → (mg_ r S T k).length + cm_ S T k = T.length + k
  | 0, _ => rfl
  | k + 1, hk => by
    have ih := mg_size (r := r) hS hT k (by omega)
    rw [mg_, st_len, cm_]
    by_cases c : fn_ T (rk_ T (fn_ S k)) = fn_ S k
    · rw [if_pos ((mg_in hS hT hk).mpr c), if_neg (mt (mo_not hT (vL_ne hS k hk)).mp (not_not_intro c))]; omega
    · rw [if_neg (mt (mg_in hS hT hk).mp c), if_pos ((mo_not hT (vL_ne hS k hk)).mpr c)]; omega
theorem cm_mono {S T : g_L} : ∀ d k, cm_ S T (k + d) ≤ cm_ S T k + d
  | 0, _ => Nat.le_refl _
  | d + 1, k => by
    have := cm_mono (S := S) (T := T) d k
    rw [show k + (d + 1) = (k + d) + 1 by omega, cm_]
    split <;> omega
theorem mg_room {r : Nat} {S T : g_L} (hS : vL_ S) (hT : vL_ T) {k : Nat} (hk : k < S.length) (h : S.length + T.length - cm_ S T S.length ≤ 24) (hn : ¬ fn_ (mg_ r S T k) (rk_ (mg_ r S T k) (fn_ S k)) = fn_ S k) : (mg_ r S T k).length < 24 := by
  have a := mg_size (r := r) hS hT (k + 1) hk
  have b := cm_mono (S := S) (T := T) (S.length - (k + 1)) (k + 1)
  rw [show k + 1 + (S.length - (k + 1)) = S.length by omega] at b
  have e : (mg_ r S T (k + 1)).length = (mg_ r S T k).length + 1 := by rw [mg_, st_len, if_neg hn]
  omega
theorem mg_new {r : Nat} {S T M : g_L} {i : Nat} (hB : M = mg_ r S T i) (hq : mo_ M (fn_ S i) = -1) : st_ M (fn_ S i) (gn_ S i) = mg_ r S T (i + 1) := by
  subst hB; rw [mg_]; unfold mgm_; rw [if_pos hq]
theorem mg_old {r : Nat} {S T M : g_L} {i : Nat} (hB : M = mg_ r S T i) (hq : fn_ M (rk_ M (fn_ S i)) = fn_ S i) : st_ M (fn_ S i) (mgm_ r (gn_ S i) (gn_ M (rk_ M (fn_ S i)))) = mg_ r S T (i + 1) := by
  subst hB; rw [mg_, mo_, if_pos hq]
/-! both woods' common names, counted from either side -/
def su_ (f : Nat → Nat) : Nat → Nat
  | 0 => 0
  | n + 1 => su_ f n + f n
theorem su_add (f g : Nat → Nat) : ∀ n, su_ (fun i => f i + g i) n = su_ f n + su_ g n
  | 0 => rfl
  | n + 1 => by rw [su_, su_, su_, su_add f g n]; omega
theorem su_z : ∀ n, su_ (fun _ => 0) n = 0
  | 0 => rfl
  | n + 1 => by rw [su_, su_z n]
theorem su_cg {f g : Nat → Nat} : ∀ n, (∀ i, i < n → f i = g i) → su_ f n = su_ g n
  | 0, _ => rfl
  | n + 1, h => by rw [su_, su_, su_cg n (fun i hi => h i (by omega)), h n (by omega)]
theorem su_comm (g : Nat → Nat → Nat) (m : Nat) : ∀ n, su_ (fun i => su_ (g i) m) n = su_ (fun j => su_ (fun i => g i j) n) m
  | 0 => (su_z m).symm
  | n + 1 => by
    rw [su_, su_comm g m n]
    exact (su_add _ _ m).symm
theorem su_pt {x : Int32} {B : g_L} (hB : vL_ B) : ∀ m, m ≤ B.length → su_ (fun j => if fn_ B j = x then 1 else 0) m = if rk_ B x < m ∧ fn_ B (rk_ B x) = x then 1 else 0
  | 0, _ => by rw [if_neg (by omega)]; rfl
  | m + 1, hm => by
    rw [su_, su_pt hB m (by omega)]
    by_cases c : fn_ B m = x
    · have e : rk_ B x = m := by rw [← c, rk_self hB (by omega)]
      rw [e, if_neg (by omega), if_pos c, if_pos ⟨by omega, c⟩]
    · rw [if_neg c]
      by_cases d : rk_ B x < m ∧ fn_ B (rk_ B x) = x
      · rw [if_pos d, if_pos ⟨by omega, d.2⟩]
      · rw [if_neg d, if_neg]
        rintro ⟨q1, q2⟩
        rcases Nat.lt_or_eq_of_le (Nat.le_of_lt_succ q1) with q | q
        · exact d ⟨q, q2⟩
        · rw [q] at q2; exact c q2
theorem cm_su {A B : g_L} (hA : vL_ A) (hB : vL_ B) : ∀ n, n ≤ A.length → cm_ A B n = su_ (fun i => su_ (fun j => if fn_ B j = fn_ A i then 1 else 0) B.length) n
  | 0, _ => rfl
  | n + 1, hn => by
    have hne := vL_ne hA n hn
    rw [cm_, su_, cm_su hA hB n (by omega), su_pt hB _ (Nat.le_refl _)]
    by_cases c : fn_ B (rk_ B (fn_ A n)) = fn_ A n
    · rw [if_neg (mt (mo_not hB hne).mp (not_not_intro c)), if_pos ⟨fn_in c hne, c⟩]
    · rw [if_pos ((mo_not hB hne).mpr c), if_neg (fun q => c q.2)]
theorem cm_sym {A B : g_L} (hA : vL_ A) (hB : vL_ B) : cm_ A B A.length = cm_ B A B.length := by
  rw [cm_su hA hB _ (Nat.le_refl _), cm_su hB hA _ (Nat.le_refl _), su_comm]
  refine su_cg _ (fun j _ => su_cg _ (fun i _ => ?_))
  by_cases c : fn_ B j = fn_ A i
  · rw [if_pos c, if_pos c.symm]
  · rw [if_neg c, if_neg (fun e => c e.symm)]
theorem cm_w {Ls : Nat → g_L} {w : Nat} (hC : vC_ Ls) (hw : w ≤ 1) : cm_ (Ls 0) (Ls 1) (Ls 0).length = cm_ (Ls w) (Ls (1 - w)) (Ls w).length := by
  rcases (show w = 0 ∨ w = 1 by omega) with rfl | rfl
  · rfl
  · exact cm_sym (hC 0 (by decide)).1 (hC 1 (by decide)).1
theorem ul_at {Ls : Nat → g_L} {w : Nat} {L : g_L} : ul_ Ls w L w = L := if_pos rfl
theorem ul_ne {Ls : Nat → g_L} {w v : Nat} {L : g_L} (h : v ≠ w) : ul_ Ls w L v = Ls v := if_neg h
theorem mr_ext {Ls Ls' : Nat → g_L} {S N Z : Nat → Int32} (h : mr_ Ls S N Z) (he : ∀ v, v ≤ 1 → Ls' v = Ls v) : mr_ Ls' S N Z := fun v hv => by
  rw [he v hv]; exact h v hv
theorem mr_clear {Ls : Nat → g_L} {S N Z : Nat → Int32} {w : Nat} (h : mr_ Ls S N Z) (hw : w ≤ 1) : mr_ (ul_ Ls w []) (upd S w (nI 0)) N Z := fun v hv => by
  by_cases e : v = w
  · subst e; rw [ul_at, upd_at]; exact ⟨rfl, by simp, fun j hj => absurd hj (by simp)⟩
  · rw [ul_ne e, upd_ne e]; exact h v hv
