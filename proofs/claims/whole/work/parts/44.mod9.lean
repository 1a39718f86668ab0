theorem fub_ne {L : g_L} (hv : vL_ L) : ∀ a c, 2 ≤ c → a + c ≤ L.length → fub_ (fn_ L a) (fn_ L (a + c - 1)) ≠ -1 := fun a c hc hac => by
  obtain ⟨k, hk, e, -⟩ := dp_ hv hc hac
  rw [e]; exact ne_m1 (Int32.not_lt.mp (nI_pos (by omega)))
theorem fub_self {f : Nat → Int32} {a : Nat} : fub_ (f a) (f (a + 1 - 1)) = -1 := by
  rw [Nat.add_sub_cancel]; unfold fub_; rw [if_pos (by simp)]
theorem ap_tr {f : Nat → Int32} {n : Nat} (hg : gs_ f n) {B A : Nat → Int32} (hfu : ∀ a c, 2 ≤ c → a + c ≤ n → fub_ (f a) (f (a + c - 1)) ≠ -1) : ∀ (k a c q b s : Nat), 1 ≤ c → c ≤ k → a + c ≤ n → (∀ i nd, (tr_ f k a c q b)[i]? = some nd → B (s + i) = fub_ (f nd.1) (f (nd.1 + nd.2.1 - 1)) ∧ A (s + i) = nI nd.2.2.1) → ap_ B A (s + (2 * c - 1)) = ap_ B A s + nI (dS_ f k a c q)
  | 0, a, c, q, b, s, h1, h2, _, _ => absurd h1 (by omega)
  | k + 1, a, c, q, b, s, h1, h2, h3, hB => by
    obtain ⟨h0, h0'⟩ := hB 0 (a, c, q, b) (tr_hd (by omega))
    by_cases hc : 2 ≤ c
    · obtain ⟨m1, m2⟩ := hg a c hc h3
      have hX := tr_len hg k a (ms_ f a c) (q + 1) (c - ms_ f a c) m1 (by omega) (by omega)
      have p1 := ap_tr hg hfu k a (ms_ f a c) (q + 1) (c - ms_ f a c) (s + 1) m1 (by omega) (by omega) (fun i nd hi => by
        have := hB (i + 1) nd (by rw [tr_, if_pos hc, ix_l (ix_some hi)]; exact hi)
        rw [show s + (i + 1) = s + 1 + i by omega] at this; exact this)
      have p2 := ap_tr hg hfu k (a + ms_ f a c) (c - ms_ f a c) (q + 1) (ms_ f a c) (s + 2 * ms_ f a c) (by omega) (by omega) (by omega) (fun i nd hi => by
        have := hB (i + 2 * ms_ f a c) nd (by rw [tr_, if_pos hc, show i + 2 * ms_ f a c = (i + 2 * ms_ f a c - 1) + 1 by omega, ix_r (by omega), show i + 2 * ms_ f a c - 1 - (tr_ f k a (ms_ f a c) (q + 1) (c - ms_ f a c)).length = i by omega]; exact hi)
        rw [show s + (i + 2 * ms_ f a c) = s + 2 * ms_ f a c + i by omega] at this; exact this)
      have p0 : ap_ B A (s + 1) = ap_ B A s := by
        rw [ap_]; rw [Nat.add_zero] at h0; rw [h0]; exact if_neg (hfu a c hc h3)
      rw [show s + (2 * c - 1) = s + 2 * ms_ f a c + (2 * (c - ms_ f a c) - 1) by omega, p2, show s + 2 * ms_ f a c = s + 1 + (2 * ms_ f a c - 1) by omega, p1, p0, dS_, if_pos hc, ← nI_add, Int32.add_assoc]
    · have e : c = 1 := by omega
      subst e
      rw [show s + (2 * 1 - 1) = s + 1 from rfl, dS_, if_neg hc, ap_]
      rw [Nat.add_zero] at h0 h0'
      rw [h0, h0']
      exact if_pos fub_self
def bf_ (v : Nat → Nat) (f : Nat → Int32) (a : Nat) (p : Int32 × Int32) : Nat → Int32 × Int32
  | 0 => p
  | c + 1 => if (bf_ v f a p c).2 < nI (v (a + c)) then (f (a + c), nI (v (a + c))) else bf_ v f a p c
theorem bf_cg {v w : Nat → Nat} {f : Nat → Int32} {a : Nat} {p : Int32 × Int32} : ∀ c, (∀ j, a ≤ j → j < a + c → v j = w j) → bf_ v f a p c = bf_ w f a p c
  | 0, _ => rfl
  | c + 1, h => by rw [bf_, bf_, bf_cg c (fun j h1 h2 => h j h1 (by omega)), h (a + c) (by omega) (by omega)]
theorem bf_app {v : Nat → Nat} {f : Nat → Int32} {a m : Nat} {p : Int32 × Int32} : ∀ d, bf_ v f a p (m + d) = bf_ v f (a + m) (bf_ v f a p m) d
  | 0 => rfl
  | d + 1 => by
    rw [show m + (d + 1) = (m + d) + 1 by omega, bf_, bf_, bf_app d, Nat.add_assoc]
theorem bs_tr {f : Nat → Int32} {n : Nat} (hg : gs_ f n) {T : Nat → Nat → Int32} (hfu : ∀ a c, 2 ≤ c → a + c ≤ n → fub_ (f a) (f (a + c - 1)) ≠ -1) : ∀ (k a c q b s : Nat), 1 ≤ c → c ≤ k → a + c ≤ n → (∀ i nd, (tr_ f k a c q b)[i]? = some nd → T 0 (s + i) = fub_ (f nd.1) (f (nd.1 + nd.2.1 - 1)) ∧ T 3 (s + i) = f nd.1 ∧ T 7 (s + i) + T 8 (s + i) = nI (nd.2.2.1 + nd.2.2.2)) → bs_ T (s + (2 * c - 1)) = bf_ (sv_ f k a c q b) f a (bs_ T s) c
  | 0, a, c, q, b, s, h1, h2, _, _ => absurd h1 (by omega)
  | k + 1, a, c, q, b, s, h1, h2, h3, hB => by
    obtain ⟨h0, h03, h078⟩ := hB 0 (a, c, q, b) (tr_hd (by omega))
    rw [Nat.add_zero] at h0 h03 h078
    by_cases hc : 2 ≤ c
    · obtain ⟨m1, m2⟩ := hg a c hc h3
      have hX := tr_len hg k a (ms_ f a c) (q + 1) (c - ms_ f a c) m1 (by omega) (by omega)
      have p1 := bs_tr hg hfu k a (ms_ f a c) (q + 1) (c - ms_ f a c) (s + 1) m1 (by omega) (by omega) (fun i nd hi => by
        have := hB (i + 1) nd (by rw [tr_, if_pos hc, ix_l (ix_some hi)]; exact hi)
        rw [show s + (i + 1) = s + 1 + i by omega] at this; exact this)
      have p2 := bs_tr hg hfu k (a + ms_ f a c) (c - ms_ f a c) (q + 1) (ms_ f a c) (s + 2 * ms_ f a c) (by omega) (by omega) (by omega) (fun i nd hi => by
        have := hB (i + 2 * ms_ f a c) nd (by rw [tr_, if_pos hc, show i + 2 * ms_ f a c = (i + 2 * ms_ f a c - 1) + 1 by omega, ix_r (by omega), show i + 2 * ms_ f a c - 1 - (tr_ f k a (ms_ f a c) (q + 1) (c - ms_ f a c)).length = i by omega]; exact hi)
        rw [show s + (i + 2 * ms_ f a c) = s + 2 * ms_ f a c + i by omega] at this; exact this)
      have p0 : bs_ T (s + 1) = bs_ T s := by
        rw [bs_, h0]; exact if_neg (fun z => hfu a c hc h3 z.1)
      have hsv : ∀ j, sv_ f (k + 1) a c q b j = if j < a + ms_ f a c then sv_ f k a (ms_ f a c) (q + 1) (c - ms_ f a c) j else sv_ f k (a + ms_ f a c) (c - ms_ f a c) (q + 1) (ms_ f a c) j := fun j => by rw [sv_, if_pos hc]
      rw [show s + (2 * c - 1) = s + 2 * ms_ f a c + (2 * (c - ms_ f a c) - 1) by omega, p2, show s + 2 * ms_ f a c = s + 1 + (2 * ms_ f a c - 1) by omega, p1, p0]
      have e := bf_app (v := sv_ f (k + 1) a c q b) (f := f) (a := a) (m := ms_ f a c) (p := bs_ T s) (c - ms_ f a c)
      rw [show ms_ f a c + (c - ms_ f a c) = c by omega] at e
      rw [e, bf_cg (v := sv_ f (k + 1) a c q b) (w := sv_ f k a (ms_ f a c) (q + 1) (c - ms_ f a c)) (ms_ f a c) (fun j _ h => by rw [hsv, if_pos h]), bf_cg (v := sv_ f (k + 1) a c q b) (w := sv_ f k (a + ms_ f a c) (c - ms_ f a c) (q + 1) (ms_ f a c)) (c - ms_ f a c) (fun j h _ => by rw [hsv, if_neg (by omega)])]
    · have e : c = 1 := by omega
      subst e
      rw [show s + (2 * 1 - 1) = s + 1 from rfl, bf_, bf_, Nat.add_zero, sv_, if_neg hc, bs_, h0, h03, h078]
      by_cases z : (bs_ T s).2 < nI (q + b)
      · rw [if_pos ⟨fub_self, z⟩, if_pos z]; rfl
      · rw [if_neg (fun w => z w.2), if_neg z]
/-- the reference's way to the best village to give up -/
def md_ (P f : Nat → Int32) : Nat → Int32 × Int32
  | 0 => (-1, 0)
  | k + 1 => if (md_ P f k).1 ≠ -1 ∧ ¬ P k < (md_ P f k).2 then md_ P f k else (f k, P k)
abbrev aP_ (L : g_L) : Int32 := ap_ (tb_ L 0) (tb_ L 7) (zs_ L.length)
theorem aP_dS {L : g_L} (hv : vL_ L) (h0 : L.length ≠ 0) : aP_ L = nI (dS_ (fn_ L) L.length 0 L.length 0) := by
  have := ap_tr (gs_of hv) (B := tb_ L 0) (A := tb_ L 7) (fub_ne hv) L.length 0 L.length 0 0 0 (by omega) (Nat.le_refl _) (by omega) (fun i nd hi => by
    rw [Nat.zero_add]; exact ⟨tb_T hv i nd hi 0 (by decide), tb_T hv i nd hi 7 (by decide)⟩)
  unfold aP_ zs_
  rw [if_neg h0]
  rw [Nat.zero_add] at this
  rw [this]
  exact Int32.zero_add _
theorem aP_er {L : g_L} {i : Nat} (hv : vL_ L) (hi : i < L.length) : ∃ x, x ≤ dS_ (fn_ L) L.length 0 L.length 0 ∧ sv_ (fn_ L) L.length 0 L.length 0 0 i = x ∧ aP_ (L.eraseIdx i) = nI (dS_ (fn_ L) L.length 0 L.length 0 - x) := by
  have hel := List.length_eraseIdx_of_lt hi
  refine ⟨_, ?_, rfl, ?_⟩
  · by_cases h2 : 2 ≤ L.length
    · have := dS_er hv hi L.length (L.length - 1) 0 L.length 0 0 h2 (Nat.le_refl _) (Nat.le_refl _) (by omega) (Nat.zero_le _) (by omega)
      omega
    · have e : L.length = 1 := by omega
      rw [e, sv_, if_neg (by omega)]; exact Nat.zero_le _
  · by_cases h2 : 2 ≤ L.length
    · have := dS_er hv hi L.length (L.length - 1) 0 L.length 0 0 h2 (Nat.le_refl _) (Nat.le_refl _) (by omega) (Nat.zero_le _) (by omega)
      rw [aP_dS (vL_er hv) (by omega), hel]
      congr 1; omega
    · have e : L.length = 1 := by omega
      have e0 : (L.eraseIdx i).length = 0 := by omega
      unfold aP_
      rw [e0, e, dS_, if_neg (by omega), Nat.zero_sub]; rfl
theorem adv_eq {L : g_L} (hv : vL_ L) (h48 : L.length ≤ 48) : (bs_ (tb_ L) (zs_ L.length)).1 = (md_ (fun k => aP_ (L.eraseIdx k)) (fn_ L) L.length).1 := by
  by_cases h0 : L.length = 0
  · rw [h0]; rfl
  have hb := bs_tr (gs_of hv) (T := tb_ L) (fub_ne hv) L.length 0 L.length 0 0 0 (by omega) (Nat.le_refl _) (by omega) (fun i nd hi => by
    rw [Nat.zero_add]
    refine ⟨tb_T hv i nd hi 0 (by decide), tb_T hv i nd hi 3 (by decide), ?_⟩
    rw [tb_T hv i nd hi 7 (by decide), tb_T hv i nd hi 8 (by decide)]
    exact nI_add _ _)
  rw [Nat.zero_add] at hb
  have hz : zs_ L.length = 2 * L.length - 1 := by unfold zs_; rw [if_neg h0]
  rw [hz, hb]
  have hC := dS_le (gs_of hv) L.length L.length 0 L.length 0 (by omega) (Nat.le_refl _) (by omega) (by omega)
  have hC2 : L.length * L.length ≤ 48 * 48 := Nat.mul_le_mul h48 h48
  have key : ∀ k, k ≤ L.length → k = 0 ∨ ∃ x, x ≤ dS_ (fn_ L) L.length 0 L.length 0 ∧ (bf_ (sv_ (fn_ L) L.length 0 L.length 0 0) (fn_ L) 0 (bs_ (tb_ L) 0) k).2 = nI x ∧ (md_ (fun k => aP_ (L.eraseIdx k)) (fn_ L) k).2 = nI (dS_ (fn_ L) L.length 0 L.length 0 - x) ∧ (bf_ (sv_ (fn_ L) L.length 0 L.length 0 0) (fn_ L) 0 (bs_ (tb_ L) 0) k).1 = (md_ (fun k => aP_ (L.eraseIdx k)) (fn_ L) k).1 ∧ (md_ (fun k => aP_ (L.eraseIdx k)) (fn_ L) k).1 ≠ -1 := by
    intro k
    induction k with
    | zero => exact fun _ => Or.inl rfl
    | succ k ih =>
      intro hk
      obtain ⟨y, hy, ey, ep⟩ := aP_er hv (show k < L.length by omega)
      refine Or.inr ?_
      rcases ih (by omega) with q | ⟨x, hx, e1, e2, e3, e4⟩
      · subst q
        refine ⟨y, hy, ?_⟩
        rw [bf_, Nat.zero_add, ey]
        have c1 : (bf_ (sv_ (fn_ L) L.length 0 L.length 0 0) (fn_ L) 0 (bs_ (tb_ L) 0) 0).2 < nI y := Int32.lt_of_lt_of_le (show (-1 : Int32) < 0 by decide) (Int32.not_lt.mp (nI_pos (by omega)))
        rw [if_pos c1]
        have c2 : md_ (fun k => aP_ (L.eraseIdx k)) (fn_ L) (0 + 1) = (fn_ L 0, aP_ (L.eraseIdx 0)) := by
          rw [md_]; exact if_neg (fun z => z.1 rfl)
        rw [c2]
        exact ⟨rfl, ep, rfl, vL_ne hv 0 (by omega)⟩
      · rw [bf_, Nat.zero_add, ey, e1]
        have c2 : md_ (fun k => aP_ (L.eraseIdx k)) (fn_ L) (k + 1) = if (md_ (fun k => aP_ (L.eraseIdx k)) (fn_ L) k).1 ≠ -1 ∧ ¬ aP_ (L.eraseIdx k) < (md_ (fun k => aP_ (L.eraseIdx k)) (fn_ L) k).2 then md_ (fun k => aP_ (L.eraseIdx k)) (fn_ L) k else (fn_ L k, aP_ (L.eraseIdx k)) := by rw [md_]
        rw [c2, e2, ep]
        by_cases c : x < y
        · rw [if_pos (nI_lt c (by omega)), if_neg (fun z => z.2 (nI_lt (by omega) (by omega)))]
          exact ⟨y, hy, rfl, rfl, rfl, vL_ne hv k (by omega)⟩
        · rw [if_neg (nI_nlt (by omega) (by omega)), if_pos ⟨e4, nI_nlt (by omega) (by omega)⟩]
          exact ⟨x, hx, e1, e2, e3, e4⟩
  rcases key L.length (Nat.le_refl _) with q | ⟨x, -, -, -, e, -⟩
  · exact absurd q h0
  · exact e
