/-! PURE: a part of a wood's names, in its order; rows that hold the same names -/
def sg_ (f : Nat → Int32) (a c : Nat) : List Int32 := (List.range c).map (fun j => f (a + j))
theorem sg_len {f : Nat → Int32} {a c : Nat} : (sg_ f a c).length = c := by simp [sg_]
theorem sg_mem {f : Nat → Int32} {a c : Nat} {x : Int32} : x ∈ sg_ f a c ↔ ∃ j, j < c ∧ f (a + j) = x := by simp [sg_]
theorem sg_app {f : Nat → Int32} {a c1 c2 : Nat} : sg_ f a c1 ++ sg_ f (a + c1) c2 = sg_ f a (c1 + c2) := by
  unfold sg_
  rw [List.range_add, List.map_append, List.map_map]
  congr 1
  apply List.map_congr_left
  intro j _
  show f (a + c1 + j) = f (a + (c1 + j))
  rw [Nat.add_assoc]
/-- names between two names that have the same bits above k -/
theorem q_mid {x y z k : Nat} (h1 : x ≤ z) (h2 : z ≤ y) (he : ∀ i, k < i → x.testBit i = y.testBit i) : z / 2 ^ (k + 1) = x / 2 ^ (k + 1) := by
  have e : x / 2 ^ (k + 1) = y / 2 ^ (k + 1) := by
    apply Nat.eq_of_testBit_eq
    intro i
    rw [Nat.testBit_div_two_pow, Nat.testBit_div_two_pow]
    exact he _ (by omega)
  have a1 : x / 2 ^ (k + 1) ≤ z / 2 ^ (k + 1) := Nat.div_le_div_right h1
  have a2 : z / 2 ^ (k + 1) ≤ y / 2 ^ (k + 1) := Nat.div_le_div_right h2
  omega
theorem q_bit {x z k i : Nat} (h : z / 2 ^ (k + 1) = x / 2 ^ (k + 1)) (hi : k < i) : z.testBit i = x.testBit i := by
  have := congrArg (fun u => u.testBit (i - (k + 1))) h
  simp only [Nat.testBit_div_two_pow] at this
  rwa [show i - (k + 1) + (k + 1) = i by omega] at this
theorem q_up {u z k : Nat} (h : u ≤ z) (hq : z / 2 ^ (k + 1) = u / 2 ^ (k + 1)) (hu : u.testBit k = true) : z.testBit k = true := by
  rw [Nat.testBit_eq_decide_div_mod_eq, decide_eq_true_eq] at hu ⊢
  have e1 : u / 2 ^ (k + 1) = u / 2 ^ k / 2 := by rw [Nat.pow_succ, Nat.div_div_eq_div_mul]
  have e2 : z / 2 ^ (k + 1) = z / 2 ^ k / 2 := by rw [Nat.pow_succ, Nat.div_div_eq_div_mul]
  have a1 : u / 2 ^ k ≤ z / 2 ^ k := Nat.div_le_div_right h
  omega
/-- what parts a part -/
theorem sg_top {L : g_L} (h : vL_ L) {a c : Nat} (hc : 2 ≤ c) (hac : a + c ≤ L.length) : ∃ k, k < 16 ∧ fub_ (fn_ L a) (fn_ L (a + c - 1)) = nI k ∧ (∀ j, j < ms_ (fn_ L) a c → hb_ (fn_ L (a + j)) (nI k) = false) ∧ (∀ j, ms_ (fn_ L) a c ≤ j → j < c → hb_ (fn_ L (a + j)) (nI k) = true) ∧ ∀ i, k < i → i < 16 → ∀ j, j < c → hb_ (fn_ L (a + j)) (nI i) = hb_ (fn_ L a) (nI i) := by
  obtain ⟨x, hx, ex⟩ := vL_nat h (show a < L.length by omega)
  obtain ⟨y, hy, ey⟩ := vL_nat h (show a + c - 1 < L.length by omega)
  have hlt : x < y := by
    have := vL_mono h (show a < a + c - 1 by omega) (by omega)
    rw [ex, ey] at this
    exact g_lt this (by omega) (by omega)
  obtain ⟨k, hk, e, k1, k2⟩ := fub_bit hlt hy
  obtain ⟨t1, t2, t3⟩ := b_top hlt k1 k2
  have mid : ∀ j, j < c → ∃ z, z ≤ 65535 ∧ fn_ L (a + j) = nI z ∧ x ≤ z ∧ z ≤ y ∧ z / 2 ^ (k + 1) = x / 2 ^ (k + 1) := by
    intro j hj
    obtain ⟨z, hz, ez⟩ := vL_nat h (show a + j < L.length by omega)
    have h1 : x ≤ z := by
      by_cases j0 : j = 0
      · subst j0; rw [Nat.add_zero, ex] at ez; exact Nat.le_of_eq (g_eq ez (by omega) (by omega))
      · have := vL_mono h (show a < a + j by omega) (by omega)
        rw [ex, ez] at this
        exact Nat.le_of_lt (g_lt this (by omega) (by omega))
    have h2 : z ≤ y := by
      by_cases j0 : j = c - 1
      · subst j0; rw [show a + (c - 1) = a + c - 1 by omega, ey] at ez; exact Nat.le_of_eq (g_eq ez (by omega) (by omega)).symm
      · have := vL_mono h (show a + j < a + c - 1 by omega) (by omega)
        rw [ey, ez] at this
        exact Nat.le_of_lt (g_lt this (by omega) (by omega))
    exact ⟨z, hz, ez, h1, h2, q_mid h1 h2 t3⟩
  have hms : ms_ (fn_ L) a c = sp_ (fn_ L) (nI k) a c := by unfold ms_; rw [ex, ey, e]
  refine ⟨k, hk, by rw [ex, ey]; exact e, fun j hj => ?_, fun j h1 h2 => ?_, fun i hi hi16 j hj => ?_⟩
  · rw [hms] at hj; exact sp_no _ _ _ _ j hj
  · rw [hms] at h1
    have hy1 := sp_yes (fn_ L) (nI k) c a (by omega)
    obtain ⟨u, hu, eu, u1, u2, u3⟩ := mid _ (show sp_ (fn_ L) (nI k) a c < c by omega)
    obtain ⟨z, hz, ez, z1, z2, z3⟩ := mid j h2
    rw [eu, b_hb (by omega) (by omega)] at hy1
    rw [ez, b_hb (by omega) (by omega)]
    refine q_up ?_ (by rw [z3, u3]) hy1
    by_cases e9 : sp_ (fn_ L) (nI k) a c = j
    · rw [e9, ez] at eu; exact Nat.le_of_eq (g_eq eu (by omega) (by omega)).symm
    · have := vL_mono h (show a + sp_ (fn_ L) (nI k) a c < a + j by omega) (by omega)
      rw [eu, ez] at this
      exact Nat.le_of_lt (g_lt this (by omega) (by omega))
  · obtain ⟨z, hz, ez, z1, z2, z3⟩ := mid j hj
    rw [ez, ex, b_hb (by omega) (by omega), b_hb (by omega) (by omega)]
    exact q_bit z3 hi
theorem fl_no {α : Type} {p : α → Bool} : ∀ (l : List α), (∀ x ∈ l, p x = false) → l.filter p = []
  | [], _ => rfl
  | x :: t, h => by rw [List.filter_cons, if_neg (by rw [h x List.mem_cons_self]; decide), fl_no t (fun y hy => h y (List.mem_cons_of_mem _ hy))]
theorem fl_all {α : Type} {p : α → Bool} : ∀ (l : List α), (∀ x ∈ l, p x = true) → l.filter p = l
  | [], _ => rfl
  | x :: t, h => by rw [List.filter_cons, if_pos (h x List.mem_cons_self), fl_all t (fun y hy => h y (List.mem_cons_of_mem _ hy))]
/-- the two sides -/
theorem sg_wi {L : g_L} {a c k : Nat} (hm : ms_ (fn_ L) a c ≤ c) (h1 : ∀ j, j < ms_ (fn_ L) a c → hb_ (fn_ L (a + j)) (nI k) = false) (h2 : ∀ j, ms_ (fn_ L) a c ≤ j → j < c → hb_ (fn_ L (a + j)) (nI k) = true) : wi_ (sg_ (fn_ L) a c) k false = sg_ (fn_ L) a (ms_ (fn_ L) a c) ∧ wi_ (sg_ (fn_ L) a c) k true = sg_ (fn_ L) (a + ms_ (fn_ L) a c) (c - ms_ (fn_ L) a c) := by
  have e : sg_ (fn_ L) a c = sg_ (fn_ L) a (ms_ (fn_ L) a c) ++ sg_ (fn_ L) (a + ms_ (fn_ L) a c) (c - ms_ (fn_ L) a c) := by rw [sg_app, show ms_ (fn_ L) a c + (c - ms_ (fn_ L) a c) = c by omega]
  unfold wi_
  rw [e, List.filter_append, List.filter_append]
  constructor
  · rw [fl_all _ (fun x hx => ?_), fl_no _ (fun x hx => ?_), List.append_nil]
    · obtain ⟨j, hj, rfl⟩ := sg_mem.mp hx
      rw [Nat.add_assoc, h2 _ (by omega) (by omega)]; rfl
    · obtain ⟨j, hj, rfl⟩ := sg_mem.mp hx
      rw [h1 j hj]; rfl
  · rw [fl_no _ (fun x hx => ?_), fl_all _ (fun x hx => ?_), List.nil_append]
    · obtain ⟨j, hj, rfl⟩ := sg_mem.mp hx
      rw [Nat.add_assoc, h2 _ (by omega) (by omega)]; rfl
    · obtain ⟨j, hj, rfl⟩ := sg_mem.mp hx
      rw [h1 j hj]; rfl
theorem on_pm {R S : List Int32} (h : R.Perm S) (b : Nat) : on_ R b = on_ S b := (h.filter _).length_eq
theorem wi_pm {R S : List Int32} (h : R.Perm S) (b : Nat) (v : Bool) : (wi_ R b v).Perm (wi_ S b v) := h.filter _
theorem bf_pm {R S : List Int32} (h : R.Perm S) : ∀ k, bf_ R k = bf_ S k
  | 0 => rfl
  | k + 1 => by rw [bf_, bf_, on_pm h, h.length_eq, bf_pm h k]
theorem bt_pm {R S : List Int32} (h : R.Perm S) : bt_ R = bt_ S := bf_pm h 16
theorem bf_top {R : List Int32} {k : Nat} (hk : 0 < on_ R k ∧ on_ R k < R.length) (hi : ∀ i, k < i → i < 16 → ¬ (0 < on_ R i ∧ on_ R i < R.length)) : ∀ m, k < m → m ≤ 16 → bf_ R m = nI k
  | 0, h, _ => absurd h (Nat.not_lt_zero _)
  | m + 1, h, h2 => by
    rw [bf_]
    by_cases e : m = k
    · subst e; rw [if_pos hk]
    · rw [if_neg (hi m (by omega) (by omega)), bf_top hk hi m (by omega) (by omega)]
theorem bt_sg {L : g_L} (h : vL_ L) {a c : Nat} (hc : 1 ≤ c) (hac : a + c ≤ L.length) : bt_ (sg_ (fn_ L) a c) = fub_ (fn_ L a) (fn_ L (a + c - 1)) := by
  by_cases h2 : 2 ≤ c
  · obtain ⟨k, hk, e, t1, t2, t3⟩ := sg_top h h2 hac
    obtain ⟨m1, m2⟩ := gs_of h a c h2 hac
    rw [e]
    have hw := (sg_wi (Nat.le_of_lt m2) t1 t2).2
    have hon : on_ (sg_ (fn_ L) a c) k = c - ms_ (fn_ L) a c := by rw [← wi_t, hw, sg_len]
    refine bf_top (by rw [hon, sg_len]; omega) (fun i hi hi16 => ?_) 16 hk (Nat.le_refl _)
    rw [sg_len]
    unfold on_
    cases hb : hb_ (fn_ L a) (nI i) with
    | true =>
      rw [fl_all _ (fun x hx => by obtain ⟨j, hj, rfl⟩ := sg_mem.mp hx; rw [t3 i hi hi16 j hj]; exact hb), sg_len]; omega
    | false =>
      rw [fl_no _ (fun x hx => by obtain ⟨j, hj, rfl⟩ := sg_mem.mp hx; rw [t3 i hi hi16 j hj]; exact hb)]; simp
  · have e1 : c = 1 := by omega
    subst e1
    have e : fub_ (fn_ L a) (fn_ L (a + 1 - 1)) = -1 := by rw [show a + 1 - 1 = a by omega, fub_, if_pos (by simp)]
    rw [e]
    rcases bt_r (sg_ (fn_ L) a 1) with q | ⟨b, -, -, b1, b2⟩
    · exact q
    · rw [sg_len] at b2; omega
theorem le_r : ∀ (R : List Int32) (v : Int32), R.foldl (fun a x => if x < a then x else a) v ≤ v ∧ (∀ x ∈ R, R.foldl (fun a x => if x < a then x else a) v ≤ x) ∧ (R.foldl (fun a x => if x < a then x else a) v = v ∨ R.foldl (fun a x => if x < a then x else a) v ∈ R)
  | [], v => ⟨Int32.le_refl _, fun x hx => by simp at hx, Or.inl rfl⟩
  | y :: t, v => by
    obtain ⟨h1, h2, h3⟩ := le_r t (if y < v then y else v)
    rw [List.foldl_cons]
    generalize t.foldl (fun a x => if x < a then x else a) (if y < v then y else v) = r at h1 h2 h3 ⊢
    by_cases hyv : y < v
    · rw [if_pos hyv] at h1 h3
      refine ⟨Int32.le_trans h1 (Int32.le_of_lt hyv), fun x hx => ?_, Or.inr ?_⟩
      · rcases List.mem_cons.mp hx with rfl | q
        · exact h1
        · exact h2 x q
      · rcases h3 with rfl | q
        · exact List.mem_cons_self
        · exact List.mem_cons_of_mem _ q
    · rw [if_neg hyv] at h1 h3
      refine ⟨h1, fun x hx => ?_, ?_⟩
      · rcases List.mem_cons.mp hx with rfl | q
        · exact Int32.le_trans h1 (Int32.not_lt.mp hyv)
        · exact h2 x q
      · rcases h3 with rfl | q
        · exact Or.inl rfl
        · exact Or.inr (List.mem_cons_of_mem _ q)
theorem mx_r : ∀ (R : List Int32) (v : Int32), v ≤ R.foldl (fun a x => if a < x then x else a) v ∧ (∀ x ∈ R, x ≤ R.foldl (fun a x => if a < x then x else a) v) ∧ (R.foldl (fun a x => if a < x then x else a) v = v ∨ R.foldl (fun a x => if a < x then x else a) v ∈ R)
  | [], v => ⟨Int32.le_refl _, fun x hx => by simp at hx, Or.inl rfl⟩
  | y :: t, v => by
    obtain ⟨h1, h2, h3⟩ := mx_r t (if v < y then y else v)
    rw [List.foldl_cons]
    generalize t.foldl (fun a x => if a < x then x else a) (if v < y then y else v) = r at h1 h2 h3 ⊢
    by_cases hyv : v < y
    · rw [if_pos hyv] at h1 h3
      refine ⟨Int32.le_trans (Int32.le_of_lt hyv) h1, fun x hx => ?_, Or.inr ?_⟩
      · rcases List.mem_cons.mp hx with rfl | q
        · exact h1
        · exact h2 x q
      · rcases h3 with rfl | q
        · exact List.mem_cons_self
        · exact List.mem_cons_of_mem _ q
    · rw [if_neg hyv] at h1 h3
      refine ⟨h1, fun x hx => ?_, ?_⟩
      · rcases List.mem_cons.mp hx with rfl | q
        · exact Int32.le_trans (Int32.not_lt.mp hyv) h1
        · exact h2 x q
      · rcases h3 with rfl | q
        · exact Or.inl rfl
        · exact Or.inr (List.mem_cons_of_mem _ q)
theorem le_is {R : List Int32} {x : Int32} (hx : x ∈ R) (h : ∀ y ∈ R, x ≤ y) (h9 : x < nI 99999) : le_ R = x := by
  obtain ⟨h1, h2, h3⟩ := le_r R (nI 99999)
  rcases h3 with q | q
  · have := h2 x hx
    rw [q] at this
    exact absurd (Int32.lt_of_lt_of_le h9 this) Int32.lt_irrefl
  · exact Int32.le_antisymm (h2 x hx) (h _ q)
theorem mx_is {R : List Int32} {x : Int32} (hx : x ∈ R) (h : ∀ y ∈ R, y ≤ x) (h9 : -1 < x) : mx_ R = x := by
  obtain ⟨h1, h2, h3⟩ := mx_r R (-1)
  rcases h3 with q | q
  · have := h2 x hx
    rw [q] at this
    exact absurd (Int32.lt_of_lt_of_le h9 this) Int32.lt_irrefl
  · exact Int32.le_antisymm (h _ q) (h2 x hx)
theorem vL_le {L : g_L} (h : vL_ L) {i j : Nat} (hij : i ≤ j) (hj : j < L.length) : fn_ L i ≤ fn_ L j := by
  by_cases e : i = j
  · subst e; exact Int32.le_refl _
  · exact Int32.le_of_lt (vL_mono h (by omega) hj)
theorem le_sg {L : g_L} (h : vL_ L) {R : List Int32} {a c : Nat} (hR : R.Perm (sg_ (fn_ L) a c)) (hc : 1 ≤ c) (hac : a + c ≤ L.length) : le_ R = fn_ L a := by
  refine le_is (hR.mem_iff.mpr (sg_mem.mpr ⟨0, by omega, rfl⟩)) (fun y hy => ?_) (Int32.lt_of_le_of_lt (h.2.1 a (by omega)).2 (by decide))
  obtain ⟨j, hj, rfl⟩ := sg_mem.mp (hR.mem_iff.mp hy)
  exact vL_le h (by omega) (by omega)
theorem mx_sg {L : g_L} (h : vL_ L) {R : List Int32} {a c : Nat} (hR : R.Perm (sg_ (fn_ L) a c)) (hc : 1 ≤ c) (hac : a + c ≤ L.length) : mx_ R = fn_ L (a + c - 1) := by
  refine mx_is (hR.mem_iff.mpr (sg_mem.mpr ⟨c - 1, by omega, by congr 1; omega⟩)) (fun y hy => ?_) (Int32.lt_of_lt_of_le (by decide) (h.2.1 (a + c - 1) (by omega)).1)
  obtain ⟨j, hj, rfl⟩ := sg_mem.mp (hR.mem_iff.mp hy)
  exact vL_le h (by omega) (by omega)
/-! the sign at a place, of a row of names -/
def SG_ (L : g_L) (p : Nat) (R : List Int32) (ah : Nat) : Prop := ∃ a b, (tN_ (fn_ L) L.length)[p]? = some (a, R.length, ah, b) ∧ R.Perm (sg_ (fn_ L) a R.length)
theorem tb_at {L : g_L} {p j : Nat} {nd : g_Nd} (h : (tN_ (fn_ L) L.length)[p]? = some nd) : tb_ L j p = tv_ (fn_ L) nd p j := by
  rw [tb_, List.getD_eq_getElem?_getD, h]; rfl
theorem nd_ok {L : g_L} (h : vL_ L) {p : Nat} {nd : g_Nd} (hp : (tN_ (fn_ L) L.length)[p]? = some nd) : 1 ≤ nd.2.1 ∧ nd.1 + nd.2.1 ≤ L.length ∧ nd.2.2.1 + nd.2.1 ≤ L.length ∧ p + 2 * nd.2.1 ≤ 2 * L.length ∧ (2 ≤ nd.2.1 → (tN_ (fn_ L) L.length)[p + 1]? = some (nd.1, ms_ (fn_ L) nd.1 nd.2.1, nd.2.2.1 + 1, nd.2.1 - ms_ (fn_ L) nd.1 nd.2.1) ∧ (tN_ (fn_ L) L.length)[p + 2 * ms_ (fn_ L) nd.1 nd.2.1]? = some (nd.1 + ms_ (fn_ L) nd.1 nd.2.1, nd.2.1 - ms_ (fn_ L) nd.1 nd.2.1, nd.2.2.1 + 1, ms_ (fn_ L) nd.1 nd.2.1)) := by
  obtain ⟨b1, b2, b3, b4, b5, b6, b7⟩ := tr_node (gs_of h) L.length 0 L.length 0 0 (tN_pos hp) (Nat.le_refl _) (by omega) p nd hp
  exact ⟨b1, by omega, by omega, by omega, b7⟩
theorem SG_tel {L : g_L} (h : vL_ L) {p ah : Nat} {R : List Int32} (hs : SG_ L p R ah) : p < zs_ L.length ∧ 1 ≤ R.length ∧ p + 2 * R.length ≤ 2 * L.length ∧ tel_ (tb_ L) 0 p = bt_ R ∧ tel_ (tb_ L) 1 p = nI R.length ∧ tel_ (tb_ L) 2 p = le_ R ∧ tel_ (tb_ L) 3 p = mx_ R ∧ tel_ (tb_ L) 6 p = nI ah ∧ (bt_ R = -1 → R.length = 1 ∧ tel_ (tb_ L) 4 p = -1 ∧ tel_ (tb_ L) 5 p = -1) ∧ ∀ b, b < 16 → bt_ R = nI b → tel_ (tb_ L) 4 p = nI (p + 1) ∧ tel_ (tb_ L) 5 p = nI (p + 2 * (wi_ R b false).length) ∧ SG_ L (p + 1) (wi_ R b false) (ah + 1) ∧ SG_ L (p + 2 * (wi_ R b false).length) (wi_ R b true) (ah + 1) ∧ (wi_ R b false).length < R.length ∧ (wi_ R b true).length < R.length := by
  obtain ⟨a, b0, hp, hR⟩ := hs
  obtain ⟨n1, n2, n3, n4, n5⟩ := nd_ok h hp
  dsimp only at n1 n2 n3 n4 n5
  have hbt : bt_ R = fub_ (fn_ L a) (fn_ L (a + R.length - 1)) := by rw [bt_pm hR, bt_sg h n1 n2]
  refine ⟨by rw [← tN_len (gs_of h)]; exact ix_some hp, n1, n4, ?_, ?_, ?_, ?_, ?_, fun hb => ?_, fun b hb16 hb => ?_⟩
  · rw [tel_, tb_at hp, tv_, hbt]
  · rw [tel_, tb_at hp, tv_]
  · rw [tel_, tb_at hp, tv_, le_sg h hR n1 n2]
  · rw [tel_, tb_at hp, tv_, mx_sg h hR n1 n2]
  · rw [tel_, tb_at hp, tv_]
    · intro q; cases q
    · intro q; cases q
    · intro q; cases q
    · intro q; cases q
    · intro q; cases q
    · intro q; cases q
  · have h1 : ¬ 2 ≤ R.length := fun h2 => by
      obtain ⟨k, hk, e, -⟩ := sg_top h h2 n2
      rw [hbt, e] at hb
      have q := nI_pos (show k < 2 ^ 31 by omega)
      rw [hb] at q
      exact q (by decide)
    refine ⟨by omega, ?_, ?_⟩
    · rw [tel_, tb_at hp, tv_, if_neg h1]
    · rw [tel_, tb_at hp, tv_, if_neg h1]
  · have h2 : 2 ≤ R.length := by
      rcases Nat.lt_or_ge R.length 2 with q | q
      · rw [hbt, show a + R.length - 1 = a by omega, fub_, if_pos (by simp)] at hb
        have q2 := nI_pos (show b < 2 ^ 31 by omega)
        rw [← hb] at q2
        exact absurd (by decide) q2
      · exact q
    obtain ⟨k, hk, e, t1, t2, -⟩ := sg_top h h2 n2
    have hkb : k = b := g_eq (by rw [← e, ← hbt, hb]) (by omega) (by omega)
    subst hkb
    obtain ⟨m1, m2⟩ := gs_of h a R.length h2 n2
    obtain ⟨w1, w2⟩ := sg_wi (Nat.le_of_lt m2) t1 t2
    have p1 := wi_pm hR k false
    have p2 := wi_pm hR k true
    rw [w1] at p1
    rw [w2] at p2
    have l1 : (wi_ R k false).length = ms_ (fn_ L) a R.length := by rw [p1.length_eq, sg_len]
    have l2 : (wi_ R k true).length = R.length - ms_ (fn_ L) a R.length := by rw [p2.length_eq, sg_len]
    obtain ⟨d1, d2⟩ := n5 h2
    refine ⟨?_, ?_, ⟨a, _, by rw [l1]; exact d1, by rw [l1]; exact p1⟩, ⟨a + ms_ (fn_ L) a R.length, _, by rw [l1, l2]; exact d2, by rw [l2]; exact p2⟩, by omega, by omega⟩
    · rw [tel_, tb_at hp, tv_, if_pos h2]
    · rw [tel_, tb_at hp, tv_, if_pos h2, l1]
theorem SG_0 {L : g_L} (h : vL_ L) {R : List Int32} (hR : R.Perm (L.map Prod.fst)) (h0 : 0 < R.length) : SG_ L 0 R 0 := by
  have hl : R.length = L.length := by rw [hR.length_eq, List.length_map]
  refine ⟨0, 0, ?_, ?_⟩
  · rw [hl]; exact tr_hd (by omega)
  · rw [hl]
    have e : sg_ (fn_ L) 0 L.length = L.map Prod.fst := by
      apply List.ext_getElem
      · simp [sg_]
      · intro i h1 h2
        simp only [sg_, List.getElem_map, List.getElem_range, Nat.zero_add]
        have hi : i < L.length := by simpa [sg_] using h1
        unfold fn_
        rw [List.getD_eq_getElem?_getD, List.getElem?_eq_getElem hi]
        rfl
    rw [e]; exact hR
