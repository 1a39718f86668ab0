/-! PURE AND STATE: the reference -/
def g_Mf (D : va_G) (σ : Nat → va_E) (th rs sg : Int32) (S N Q R : Nat → Int32) (T : Nat → Nat → Int32) : Prop := σ 20 = .inr (3, [.int th, .ref (ad_ D 21), .ref (ad_ D 22), .ref (ad_ D 23), .ref (ad_ D 24), .int rs, .int sg, .ref (ad_ D 25), .ref (ad_ D 26), .ref (ad_ D 27), .ref (ad_ D 28), .ref (ad_ D 29), .ref (ad_ D 30)]) ∧ σ 21 = .inl (g_cI D, 2, .inl S) ∧ σ 22 = .inl (g_cI D, 48, .inl N) ∧ σ 23 = .inl (g_cI D, 48, .inl Q) ∧ σ 24 = .inl (g_cI D, 48, .inl R) ∧ σ 25 = .inl (g_cI D, 96, .inl (T 0)) ∧ σ 26 = .inl (g_cI D, 96, .inl (T 1)) ∧ σ 27 = .inl (g_cI D, 96, .inl (T 2)) ∧ σ 28 = .inl (g_cI D, 96, .inl (T 3)) ∧ σ 29 = .inl (g_cI D, 96, .inl (T 4)) ∧ σ 30 = .inl (g_cI D, 96, .inl (T 5))
theorem g_Mf.off {D : va_G} {σ σ' : Nat → va_E} {lo hi : Nat} {th rs sg : Int32} {S N Q R : Nat → Int32} {T : Nat → Nat → Int32} (h : g_Mf D σ th rs sg S N Q R T) (ho : g_off lo hi σ σ') (hd : 30 < lo ∨ hi < 20) : g_Mf D σ' th rs sg S N Q R T := by
  obtain ⟨h0, h1, h2, h3, h4, h5, h6, h7, h8, h9, h10⟩ := h
  exact ⟨ho.at0 h0 (by omega), ho.at0 h1 (by omega), ho.at0 h2 (by omega), ho.at0 h3 (by omega), ho.at0 h4 (by omega), ho.at0 h5 (by omega), ho.at0 h6 (by omega), ho.at0 h7 (by omega), ho.at0 h8 (by omega), ho.at0 h9 (by omega), ho.at0 h10 (by omega)⟩
def mr_ (Ls : Nat → g_L) (S N Q : Nat → Int32) : Prop := ∀ w, w ≤ 1 → S w = nI (Ls w).length ∧ (Ls w).length ≤ 24 ∧ ∀ j, j < (Ls w).length → N (24 * w + j) = fn_ (Ls w) j ∧ Q (24 * w + j) = gn_ (Ls w) j
theorem mr_.S {Ls : Nat → g_L} {S N Q : Nat → Int32} (h : mr_ Ls S N Q) {w : Nat} (hw : w ≤ 1) : S w = nI (Ls w).length := (h w hw).1
theorem mr_.N {Ls : Nat → g_L} {S N Q : Nat → Int32} (h : mr_ Ls S N Q) {w j : Nat} (hw : w ≤ 1) (hj : j < (Ls w).length) : N (24 * w + j) = fn_ (Ls w) j := ((h w hw).2.2 j hj).1
theorem mr_.Q {Ls : Nat → g_L} {S N Q : Nat → Int32} (h : mr_ Ls S N Q) {w j : Nat} (hw : w ≤ 1) (hj : j < (Ls w).length) : Q (24 * w + j) = gn_ (Ls w) j := ((h w hw).2.2 j hj).2
/-- the reference with these woods -/
def g_MM (D : va_G) (σ : Nat → va_E) (th : Int32) (Ls : Nat → g_L) : Prop := ∃ (rs sg : Int32) (S N Q R : Nat → Int32) (T : Nat → Nat → Int32), g_Mf D σ th rs sg S N Q R T ∧ mr_ Ls S N Q
theorem cpy_up {N : Nat → Int32} {k m q : Nat} : va_cpy N N k (k + 1) m q = if k < q ∧ q ≤ k + m then N (q - 1) else N q := by
  unfold va_cpy
  by_cases h : k < q ∧ q ≤ k + m
  · rw [if_pos (by omega), if_pos h]; congr 1; omega
  · rw [if_neg (by omega), if_neg h]
theorem cpy_dn {N : Nat → Int32} {k m q : Nat} : va_cpy N N (k + 1) k m q = if k ≤ q ∧ q < k + m then N (q + 1) else N q := by
  unfold va_cpy
  by_cases h : k ≤ q ∧ q < k + m
  · rw [if_pos h, if_pos h]; congr 1; omega
  · rw [if_neg h, if_neg h]
theorem mr_ins {Ls : Nat → g_L} {S N Q : Nat → Int32} {w : Nat} {x y : Int32} (h : mr_ Ls S N Q) (hw : w ≤ 1) (hf : ¬ fn_ (Ls w) (rk_ (Ls w) x) = x) (hl : (Ls w).length < 24) :
    mr_ (ul_ Ls w (st_ (Ls w) x y)) (upd S w (nI ((Ls w).length + 1))) (upd (va_cpy N N (24 * w + rk_ (Ls w) x) (24 * w + rk_ (Ls w) x + 1) ((Ls w).length - rk_ (Ls w) x)) (24 * w + rk_ (Ls w) x) x) (upd (va_cpy Q Q (24 * w + rk_ (Ls w) x) (24 * w + rk_ (Ls w) x + 1) ((Ls w).length - rk_ (Ls w) x)) (24 * w + rk_ (Ls w) x) y) := by
  have hk := rk_le (Ls w) x
  intro v hv
  obtain ⟨a1, a2, a3⟩ := h v hv
  by_cases e : v = w
  · subst e
    have el : (st_ (Ls v) x y).length = (Ls v).length + 1 := by rw [st_len, if_neg hf]
    unfold ul_
    rw [if_pos rfl, el, upd_at]
    refine ⟨rfl, by omega, fun j hj => ?_⟩
    have e1 : fn_ (st_ (Ls v) x y) j = if j < rk_ (Ls v) x then fn_ (Ls v) j else if j = rk_ (Ls v) x then x else fn_ (Ls v) (j - 1) := by
      unfold st_; rw [if_neg hf, fn_ins hk]
    have e2 : gn_ (st_ (Ls v) x y) j = if j < rk_ (Ls v) x then gn_ (Ls v) j else if j = rk_ (Ls v) x then y else gn_ (Ls v) (j - 1) := by
      unfold st_; rw [if_neg hf, gn_ins hk]
    rw [e1, e2]
    unfold upd
    rw [cpy_up, cpy_up]
    by_cases c1 : j < rk_ (Ls v) x
    · have z1 : ¬ 24 * v + j = 24 * v + rk_ (Ls v) x := by omega
      have z2 : ¬ (24 * v + rk_ (Ls v) x < 24 * v + j ∧ 24 * v + j ≤ 24 * v + rk_ (Ls v) x + ((Ls v).length - rk_ (Ls v) x)) := by omega
      rw [if_neg z1, if_neg z1, if_neg z2, if_neg z2, if_pos c1, if_pos c1]
      exact a3 j (by omega)
    · by_cases c2 : j = rk_ (Ls v) x
      · have z1 : 24 * v + j = 24 * v + rk_ (Ls v) x := by omega
        rw [if_pos z1, if_pos z1, if_neg c1, if_neg c1, if_pos c2, if_pos c2]; exact ⟨rfl, rfl⟩
      · have z1 : ¬ 24 * v + j = 24 * v + rk_ (Ls v) x := by omega
        have z2 : 24 * v + rk_ (Ls v) x < 24 * v + j ∧ 24 * v + j ≤ 24 * v + rk_ (Ls v) x + ((Ls v).length - rk_ (Ls v) x) := by omega
        rw [if_neg z1, if_neg z1, if_pos z2, if_pos z2, if_neg c1, if_neg c1, if_neg c2, if_neg c2, show 24 * v + j - 1 = 24 * v + (j - 1) by omega]
        exact a3 (j - 1) (by omega)
  · unfold ul_
    rw [if_neg e, upd_ne e]
    refine ⟨a1, a2, fun j hj => ?_⟩
    have z0 : 24 * v + j ≠ 24 * w + rk_ (Ls w) x := by omega
    have z2 : ¬ (24 * w + rk_ (Ls w) x < 24 * v + j ∧ 24 * v + j ≤ 24 * w + rk_ (Ls w) x + ((Ls w).length - rk_ (Ls w) x)) := by omega
    rw [upd_ne z0, upd_ne z0, cpy_up, cpy_up, if_neg z2, if_neg z2]
    exact a3 j hj
theorem mr_del {Ls : Nat → g_L} {S N Q : Nat → Int32} {w k : Nat} (h : mr_ Ls S N Q) (hw : w ≤ 1) (hk : k < (Ls w).length) :
    mr_ (ul_ Ls w ((Ls w).eraseIdx k)) (upd S w (nI ((Ls w).length - 1))) (va_cpy N N (24 * w + k + 1) (24 * w + k) ((Ls w).length - k - 1)) (va_cpy Q Q (24 * w + k + 1) (24 * w + k) ((Ls w).length - k - 1)) := by
  intro v hv
  obtain ⟨a1, a2, a3⟩ := h v hv
  by_cases e : v = w
  · subst e
    unfold ul_
    rw [if_pos rfl, List.length_eraseIdx_of_lt hk, upd_at]
    refine ⟨rfl, by omega, fun j hj => ?_⟩
    rw [fn_erase, gn_erase, cpy_dn, cpy_dn]
    by_cases c1 : j < k
    · have z2 : ¬ (24 * v + k ≤ 24 * v + j ∧ 24 * v + j < 24 * v + k + ((Ls v).length - k - 1)) := by omega
      rw [if_neg z2, if_neg z2, if_pos c1, if_pos c1]; exact a3 j (by omega)
    · have z2 : 24 * v + k ≤ 24 * v + j ∧ 24 * v + j < 24 * v + k + ((Ls v).length - k - 1) := by omega
      rw [if_pos z2, if_pos z2, if_neg c1, if_neg c1]; exact a3 (j + 1) (by omega)
  · unfold ul_
    rw [if_neg e, upd_ne e]
    refine ⟨a1, a2, fun j hj => ?_⟩
    have hw24 := (h w hw).2.1
    have z2 : ¬ (24 * w + k ≤ 24 * v + j ∧ 24 * v + j < 24 * w + k + ((Ls w).length - k - 1)) := by omega
    rw [cpy_dn, cpy_dn, if_neg z2, if_neg z2]
    exact a3 j hj
theorem mo_not {M : g_L} {x : Int32} (hv : vL_ M) (hx : x ≠ -1) : mo_ M x = -1 ↔ ¬ fn_ M (rk_ M x) = x := by
  unfold mo_
  by_cases e : fn_ M (rk_ M x) = x
  · rw [if_pos e]
    exact ⟨fun h => absurd h (ne_m1 (hv.2.2 _ (fn_in e hx)).1), fun h => absurd e h⟩
  · rw [if_neg e]; exact ⟨fun _ => e, fun _ => rfl⟩
/-- the top bit of u, as fub_ tells it -/
def tp_ (u : Int32) : Int32 := if u = 0 then -1 else nI (fo_ u 0 8)
theorem tp_fub {x y : Int32} : tp_ (x ^^^ y) = fub_ x y := rfl
theorem nz_k {u k : Nat} (hu : u < 65536) (h1 : 2 ^ k ≤ u) (h2 : u < 2 ^ (k + 1)) : fo_ (nI u) 0 8 = k := by
  have h0 : 0 < u := Nat.lt_of_lt_of_le (Nat.two_pow_pos k) h1
  obtain ⟨l1, l2, -⟩ := fo_log h0 hu
  have a1 : fo_ (nI u) 0 8 < k + 1 := (Nat.pow_lt_pow_iff_right (by decide)).mp (Nat.lt_of_le_of_lt l1 h2)
  have a2 : k < fo_ (nI u) 0 8 + 1 := (Nat.pow_lt_pow_iff_right (by decide)).mp (Nat.lt_of_le_of_lt h1 l2)
  omega
/-- the tables of the reference -/
def mv_ (f : Nat → Int32) (nd : g_Nd) (p j : Nat) : Int32 := match j with
  | 0 => fub_ (f nd.1) (f (nd.1 + nd.2.1 - 1))
  | 1 => nI nd.1
  | 2 => nI (nd.1 + nd.2.1)
  | 3 => if 2 ≤ nd.2.1 then nI (p + 1) else -1
  | 4 => if 2 ≤ nd.2.1 then nI (p + 2 * ms_ f nd.1 nd.2.1) else -1
  | _ => nI nd.2.2.1
def cu_ (T : Nat → Nat → Int32) (j0 s : Nat) (x : Int32) : Nat → Nat → Int32 := fun j => if j = j0 then upd (T j) s x else T j
theorem cu_at {T : Nat → Nat → Int32} {j s : Nat} {x : Int32} : cu_ T j s x j s = x := by unfold cu_; rw [if_pos rfl, upd_at]
theorem cu_ne {T : Nat → Nat → Int32} {j j' s p : Nat} {x : Int32} (h : j' ≠ j) : cu_ T j s x j' p = T j' p := by unfold cu_; rw [if_neg h]
theorem cu_pt {T : Nat → Nat → Int32} {j j' s p : Nat} {x : Int32} (h : p ≠ s) : cu_ T j s x j' p = T j' p := by
  unfold cu_; split
  · exact upd_ne h
  · rfl
def p6_ (T : Nat → Nat → Int32) (s a e q : Nat) : Nat → Nat → Int32 := cu_ (cu_ (cu_ (cu_ (cu_ (cu_ T 1 s (nI a)) 2 s (nI e)) 5 s (nI q)) 0 s (-1)) 3 s (-1)) 4 s (-1)
theorem p6_pt {T : Nat → Nat → Int32} {s a e q j p : Nat} (h : p ≠ s) : p6_ T s a e q j p = T j p := by
  unfold p6_
  rw [cu_pt h, cu_pt h, cu_pt h, cu_pt h, cu_pt h, cu_pt h]
def pM_ (f : Nat → Int32) (T : Nat → Nat → Int32) (s : Nat) (X : List g_Nd) : Prop := ∀ i nd, X[i]? = some nd → ∀ j, j < 6 → T j (s + i) = mv_ f nd (s + i) j
theorem j6 {j : Nat} (h : j < 6) : j = 0 ∨ j = 1 ∨ j = 2 ∨ j = 3 ∨ j = 4 ∨ j = 5 := by omega
theorem pt_leaf {f : Nat → Int32} {T : Nat → Nat → Int32} {s a q b : Nat} : pM_ f (p6_ T s a (a + 1) q) s [(a, 1, q, b)] := by
  intro i nd hi j hj
  cases i with
  | succ i => simp at hi
  | zero =>
    cases hi
    rcases j6 hj with rfl | rfl | rfl | rfl | rfl | rfl
    · show p6_ T s a (a + 1) q 0 s = _
      unfold p6_
      rw [cu_ne (by decide), cu_ne (by decide), cu_at, mv_]
      show (-1 : Int32) = fub_ (f a) (f (a + 1 - 1))
      rw [Nat.add_sub_cancel]; unfold fub_; rw [if_pos (by simp)]
    · show p6_ T s a (a + 1) q 1 s = _
      unfold p6_
      rw [cu_ne (by decide), cu_ne (by decide), cu_ne (by decide), cu_ne (by decide), cu_ne (by decide), cu_at]; rfl
    · show p6_ T s a (a + 1) q 2 s = _
      unfold p6_
      rw [cu_ne (by decide), cu_ne (by decide), cu_ne (by decide), cu_ne (by decide), cu_at]; rfl
    · show p6_ T s a (a + 1) q 3 s = _
      unfold p6_
      rw [cu_ne (by decide), cu_at]; rfl
    · show p6_ T s a (a + 1) q 4 s = _
      unfold p6_
      rw [cu_at]; rfl
    · show p6_ T s a (a + 1) q 5 s = _
      unfold p6_
      rw [cu_ne (by decide), cu_ne (by decide), cu_ne (by decide), cu_at]; rfl
theorem pt_node {f : Nat → Int32} {T T2 T3 : Nat → Nat → Int32} {s a c q b m : Nat} {X Y : List g_Nd} (hc : 2 ≤ c) (hm : ms_ f a c = m) (hm1 : 1 ≤ m) (hX : X.length = 2 * m - 1)
    (h2 : pM_ f T2 (s + 1) X) (k2 : ∀ j, j < 6 → ∀ p, p < s + 1 → T2 j p = cu_ (p6_ T s a (a + c) q) 0 s (fub_ (f a) (f (a + c - 1))) j p)
    (h3 : pM_ f T3 (s + 2 * m) Y) (k3 : ∀ j, j < 6 → ∀ p, p < s + 2 * m → T3 j p = cu_ T2 3 s (nI (s + 1)) j p) :
    pM_ f (cu_ T3 4 s (nI (s + 2 * m))) s ((a, c, q, b) :: (X ++ Y)) ∧ ∀ j, j < 6 → ∀ p, p < s → cu_ T3 4 s (nI (s + 2 * m)) j p = T j p := by
  have base : ∀ j, j < 6 → j ≠ 3 → T3 j s = cu_ (p6_ T s a (a + c) q) 0 s (fub_ (f a) (f (a + c - 1))) j s := fun j hj h => by
    rw [k3 j hj s (by omega), cu_ne h, k2 j hj s (by omega)]
  refine ⟨fun i nd hi j hj => ?_, fun j hj p hp => ?_⟩
  · cases i with
    | zero =>
      cases hi
      rcases j6 hj with rfl | rfl | rfl | rfl | rfl | rfl
      · show cu_ T3 4 s (nI (s + 2 * m)) 0 s = _
        rw [cu_ne (by decide), base 0 hj (by decide), cu_at]; rfl
      · show cu_ T3 4 s (nI (s + 2 * m)) 1 s = _
        rw [cu_ne (by decide), base 1 hj (by decide), cu_ne (by decide)]
        unfold p6_
        rw [cu_ne (by decide), cu_ne (by decide), cu_ne (by decide), cu_ne (by decide), cu_ne (by decide), cu_at]; rfl
      · show cu_ T3 4 s (nI (s + 2 * m)) 2 s = _
        rw [cu_ne (by decide), base 2 hj (by decide), cu_ne (by decide)]
        unfold p6_
        rw [cu_ne (by decide), cu_ne (by decide), cu_ne (by decide), cu_ne (by decide), cu_at]; rfl
      · show cu_ T3 4 s (nI (s + 2 * m)) 3 s = _
        rw [cu_ne (by decide), k3 3 hj s (by omega), cu_at, mv_, if_pos hc]
      · show cu_ T3 4 s (nI (s + 2 * m)) 4 s = _
        rw [cu_at, mv_, if_pos hc, hm]; rfl
      · show cu_ T3 4 s (nI (s + 2 * m)) 5 s = _
        rw [cu_ne (by decide), base 5 hj (by decide), cu_ne (by decide)]
        unfold p6_
        rw [cu_ne (by decide), cu_ne (by decide), cu_ne (by decide), cu_at]; rfl
    | succ i =>
      rw [cu_pt (by omega)]
      by_cases hil : i < X.length
      · rw [ix_l hil] at hi
        rw [k3 j hj _ (by omega), cu_pt (by omega)]
        have := h2 i nd hi j hj
        rw [show s + 1 + i = s + (i + 1) by omega] at this
        exact this
      · rw [ix_r (by omega)] at hi
        have := h3 _ nd hi j hj
        rw [show s + 2 * m + (i - X.length) = s + (i + 1) by omega] at this
        exact this
  · rw [cu_pt (by omega), k3 j hj p (by omega), cu_pt (by omega), k2 j hj p (by omega), cu_pt (by omega), p6_pt (by omega)]
def mB_ (f : Nat → Int32) (n : Nat) (T : Nat → Nat → Int32) : Prop := pM_ f T 0 (tN_ f n)
theorem mr_.N0 {Ls : Nat → g_L} {S N Q : Nat → Int32} (h : mr_ Ls S N Q) {j : Nat} (hj : j < (Ls 0).length) : N j = fn_ (Ls 0) j := by
  have := h.N (w := 0) (by decide) hj
  rw [Nat.mul_zero, Nat.zero_add] at this
  exact this
theorem mr_.N1 {Ls : Nat → g_L} {S N Q : Nat → Int32} (h : mr_ Ls S N Q) {j : Nat} (hj : j < (Ls 1).length) : N (24 + j) = fn_ (Ls 1) j := h.N (w := 1) (by decide) hj
theorem g_pp1 {c : Prop} [Decidable c] (h : ¬ (if c then (1 : Int32) else 0) = 0) : c := by
  by_cases hc : c
  · exact hc
  · rw [if_neg hc] at h; exact absurd rfl h
theorem g_pp0 {c : Prop} [Decidable c] (h : (if c then (1 : Int32) else 0) = 0) : ¬ c := fun hc => by
  rw [if_pos hc] at h; exact absurd h (by decide)
def nz_ (u : Nat) : Nat := if u = 0 then 32 else 31 - fo_ (nI u) 0 8
theorem nz_fin {u a i : Nat} (hu : u < 65536) (h1 : 1 ≤ i) (h4 : i < 4) (hi : i = u / 2 ^ a) (ha : a ≤ 30) : 31 - a - i / 2 = nz_ u := by
  have hp : 0 < 2 ^ a := Nat.two_pow_pos a
  have hne : u ≠ 0 := by
    intro e; rw [e, Nat.zero_div] at hi; omega
  have l1 : i * 2 ^ a ≤ u := by rw [hi]; exact Nat.div_mul_le_self u _
  have l2 : u < (i + 1) * 2 ^ a := by
    have := Nat.lt_succ_self (u / 2 ^ a)
    rw [← hi] at this
    exact (Nat.div_lt_iff_lt_mul hp).mp (by rw [← hi]; exact Nat.lt_succ_self i)
  rw [nz_, if_neg hne]
  rcases (show i = 1 ∨ i = 2 ∨ i = 3 by omega) with e | e | e
  · subst e
    rw [nz_k hu (k := a) (by omega) (by rw [Nat.pow_succ]; omega)]; omega
  · subst e
    rw [nz_k hu (k := a + 1) (by rw [Nat.pow_succ]; omega) (by rw [Nat.pow_succ, Nat.pow_succ]; omega)]
    omega
  · subst e
    rw [nz_k hu (k := a + 1) (by rw [Nat.pow_succ]; omega) (by rw [Nat.pow_succ, Nat.pow_succ]; omega)]
    omega
theorem tp_nz {u : Nat} (hu : u < 65536) : nI 31 - nI (nz_ u) = tp_ (nI u) := by
  unfold nz_ tp_
  by_cases h : u = 0
  · rw [if_pos h, if_pos (by rw [h]; rfl)]; decide
  · obtain ⟨-, -, l3⟩ := fo_log (Nat.pos_of_ne_zero h) hu
    rw [if_neg h, if_neg (show ¬ nI u = 0 from fun e => h (g_eq (b := 0) e (by omega) (by decide))), pk_sub (by omega)]
    congr 1
    omega
theorem xor_nat {x y : Int32} (h0 : 0 ≤ x ∧ x ≤ 65535) (h1 : 0 ≤ y ∧ y ≤ 65535) : ∃ u : Nat, u < 65536 ∧ x ^^^ y = nI u := by
  obtain ⟨a, ha, rfl⟩ := i32_nat (n := 65535) h0.1 h0.2 (by decide)
  obtain ⟨c, hc, rfl⟩ := i32_nat (n := 65535) h1.1 h1.2 (by decide)
  exact ⟨a ^^^ c, Nat.xor_lt_two_pow (n := 16) (by omega) (by omega), b_xor a c⟩
