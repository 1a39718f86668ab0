/-! PURE: what FingerPosts answers -/
abbrev ix_ (i g : Int32) : Prop := ¬ i < 0 ∧ ¬ g < i
theorem ix_nat {i : Int32} {g : Nat} (h : ix_ i (nI g)) (hg : g < 2 ^ 31) : ∃ w : Nat, w ≤ g ∧ i = nI w := by
  obtain ⟨w, hw, rfl⟩ := nI_of h.1
  exact ⟨w, Nat.not_lt.mp (mt (fun q => nI_lt q hw) h.2), rfl⟩
theorem ix_of {w g : Nat} (h : w ≤ g) (hg : g < 2 ^ 31) : ix_ (nI w) (nI g) := ⟨nI_pos (by omega), nI_nlt h hg⟩
theorem ne_m1 {x : Int32} (h : 0 ≤ x) : x ≠ -1 := by
  intro e; rw [e] at h; exact absurd h (by decide)
theorem vL_ne {L : g_L} (h : vL_ L) : ∀ j, j < L.length → fn_ L j ≠ -1 := fun j hj => ne_m1 (h.2.1 j hj).1
theorem i32_lt_of {x y : Int32} (h1 : ¬ x < y) (h2 : ¬ x = y) : y < x := by
  rw [Int32.lt_iff_toInt_lt] at h1 ⊢
  have : x.toInt ≠ y.toInt := fun e => h2 (Int32.toInt_inj.mp e)
  omega
theorem vL_st {L : g_L} {x y : Int32} (h : vL_ L) (hx0 : 0 ≤ x) (hx1 : x ≤ 65535) (hy0 : 0 ≤ y) (hy1 : y ≤ 999) : vL_ (st_ L x y) := by
  have hk := rk_le L x
  by_cases hf : fn_ L (rk_ L x) = x
  · have hlt := fn_in hf (ne_m1 hx0)
    have e1 : ∀ j, fn_ (st_ L x y) j = fn_ L j := by
      intro j; unfold st_; rw [if_pos hf, fn_set hlt]; split
      · next e => rw [e]; exact hf.symm
      · rfl
    have e2 : ∀ j, gn_ (st_ L x y) j = if j = rk_ L x then y else gn_ L j := by
      intro j; unfold st_; rw [if_pos hf, gn_set hlt]
    have el : (st_ L x y).length = L.length := by rw [st_len, if_pos hf]
    unfold vL_
    simp only [e1, e2, el]
    refine ⟨h.1, h.2.1, fun j hj => ?_⟩
    split
    · exact ⟨hy0, hy1⟩
    · exact h.2.2 j hj
  · have e1 : ∀ j, fn_ (st_ L x y) j = if j < rk_ L x then fn_ L j else if j = rk_ L x then x else fn_ L (j - 1) := by
      intro j; unfold st_; rw [if_neg hf, fn_ins hk]
    have e2 : ∀ j, gn_ (st_ L x y) j = if j < rk_ L x then gn_ L j else if j = rk_ L x then y else gn_ L (j - 1) := by
      intro j; unfold st_; rw [if_neg hf, gn_ins hk]
    have el : (st_ L x y).length = L.length + 1 := by rw [st_len, if_neg hf]
    unfold vL_
    simp only [e1, e2, el]
    refine ⟨fun j hj => ?_, fun j hj => ?_, fun j hj => ?_⟩
    · by_cases c1 : j + 1 < rk_ L x
      · rw [if_pos (by omega), if_pos c1]; exact h.1 j (by omega)
      · by_cases c2 : j + 1 = rk_ L x
        · rw [if_pos (by omega), if_neg c1, if_pos c2]; exact rk_lt L x j (by omega)
        · by_cases c3 : j = rk_ L x
          · rw [if_neg (by omega), if_pos c3, if_neg c1, if_neg c2, show j + 1 - 1 = rk_ L x by omega]
            exact i32_lt_of (rk_at L x (by omega)) hf
          · rw [if_neg (by omega), if_neg c3, if_neg c1, if_neg c2]
            have := h.1 (j - 1) (by omega)
            rw [show j - 1 + 1 = j + 1 - 1 by omega] at this
            exact this
    · split
      · exact h.2.1 j (by omega)
      · split
        · exact ⟨hx0, hx1⟩
        · exact h.2.1 (j - 1) (by omega)
    · split
      · exact h.2.2 j (by omega)
      · split
        · exact ⟨hy0, hy1⟩
        · exact h.2.2 (j - 1) (by omega)
theorem vL_nil : vL_ [] := ⟨fun j h => absurd h (by simp), fun j h => absurd h (by simp), fun j h => absurd h (by simp)⟩
theorem vL_sa {L M : g_L} (h : vL_ L) (hM : vL_ M) : ∀ k, k ≤ M.length → vL_ (sa_ L M k)
  | 0, _ => h
  | k + 1, hk => vL_st (vL_sa h hM k (by omega)) (hM.2.1 k (by omega)).1 (hM.2.1 k (by omega)).2 (hM.2.2 k (by omega)).1 (hM.2.2 k (by omega)).2
def bo_ (A B : g_L) : g_L := sa_ (sa_ [] A A.length) B B.length
theorem vL_bo {A B : g_L} (ha : vL_ A) (hb : vL_ B) : vL_ (bo_ A B) := vL_sa (vL_sa vL_nil ha _ (Nat.le_refl _)) hb _ (Nat.le_refl _)
theorem bo_len {A B : g_L} : (bo_ A B).length ≤ A.length + B.length := by
  have h1 := sa_len [] A A.length
  have h2 := sa_len (sa_ [] A A.length) B B.length
  unfold bo_
  simp only [List.length_nil] at h1
  omega
theorem xor_ok {x b : Int32} (h0 : 0 ≤ x) (h1 : x ≤ 65535) (g0 : 0 ≤ b) (g1 : b ≤ 65535) : 0 ≤ x ^^^ b ∧ x ^^^ b ≤ 65535 := by
  obtain ⟨a, ha, rfl⟩ := i32_nat (n := 65535) h0 h1 (by decide)
  obtain ⟨c, hc, rfl⟩ := i32_nat (n := 65535) g0 g1 (by decide)
  rw [b_xor]
  have hu : a ^^^ c < 65536 := Nat.xor_lt_two_pow (n := 16) (by omega) (by omega)
  exact ⟨nI_pos' (by omega), nI_le (b := 65535) (by omega) (by decide)⟩
theorem vL_cb {L : g_L} {b : Int32} (h : vL_ L) (g0 : 0 ≤ b) (g1 : b ≤ 65535) : ∀ k, k ≤ L.length → vL_ (cb_ L b k)
  | 0, _ => vL_nil
  | k + 1, hk => vL_st (vL_cb h g0 g1 k (by omega)) (xor_ok (h.2.1 k (by omega)).1 (h.2.1 k (by omega)).2 g0 g1).1 (xor_ok (h.2.1 k (by omega)).1 (h.2.1 k (by omega)).2 g0 g1).2 (h.2.2 k (by omega)).1 (h.2.2 k (by omega)).2
/-- the table of signs of a wood -/
def tb_ (L : g_L) (j q : Nat) : Int32 := tv_ (fn_ L) ((tN_ (fn_ L) L.length).getD q (0, 0, 0, 0)) q j
theorem tB_eq {L : g_L} {T : Nat → Nat → Int32} (hv : vL_ L) (h : tB_ (fn_ L) L.length T) : ∀ q, q < zs_ L.length → ∀ j, j < 9 → T j q = tb_ L j q := by
  intro q hq j hj
  rw [← tN_len (gs_of hv)] at hq
  have e := List.getElem?_eq_getElem hq
  rw [h q _ e j hj, tb_, List.getD_eq_getElem?_getD, e]
  rfl
def co_ (L : g_L) (sz : Nat) (T : Nat → Nat → Int32) (w : Nat) : Int32 := match w with
  | 0 => nI L.length
  | 1 => nI (pc_ (T 0) sz)
  | 2 => lg_ (T 7) sz
  | 3 => ap_ (T 0) (T 7) sz
  | 4 => hs_ L 0 L.length
  | 5 => pb_ (T 0) sz
  | _ => sm_ L 0 (L.length - 0)
def cn_ (L : g_L) (w : Nat) : Int32 := co_ L (zs_ L.length) (tb_ L) w
theorem pc_cg {B C : Nat → Int32} : ∀ n, (∀ q, q < n → B q = C q) → pc_ B n = pc_ C n
  | 0, _ => rfl
  | n + 1, h => by rw [pc_, pc_, pc_cg n (fun q hq => h q (by omega)), h n (by omega)]
theorem pb_cg {B C : Nat → Int32} : ∀ n, (∀ q, q < n → B q = C q) → pb_ B n = pb_ C n
  | 0, _ => rfl
  | n + 1, h => by rw [pb_, pb_, pb_cg n (fun q hq => h q (by omega)), h n (by omega)]
theorem lg_cg {B C : Nat → Int32} : ∀ n, (∀ q, q < n → B q = C q) → lg_ B n = lg_ C n
  | 0, _ => rfl
  | n + 1, h => by rw [lg_, lg_, lg_cg n (fun q hq => h q (by omega)), h n (by omega)]
theorem ap_cg {B C A E : Nat → Int32} : ∀ n, (∀ q, q < n → B q = C q) → (∀ q, q < n → A q = E q) → ap_ B A n = ap_ C E n
  | 0, _, _ => rfl
  | n + 1, h, h2 => by rw [ap_, ap_, ap_cg n (fun q hq => h q (by omega)) (fun q hq => h2 q (by omega)), h n (by omega), h2 n (by omega)]
theorem bs_cg {T U : Nat → Nat → Int32} : ∀ n, (∀ q, q < n → ∀ j, j < 9 → T j q = U j q) → bs_ T n = bs_ U n
  | 0, _ => rfl
  | n + 1, h => by
    rw [bs_, bs_, bs_cg n (fun q hq => h q (by omega)), h n (by omega) 0 (by decide), h n (by omega) 7 (by decide), h n (by omega) 8 (by decide), h n (by omega) 3 (by decide)]
theorem co_cg {L : g_L} {sz : Nat} {T U : Nat → Nat → Int32} (h : ∀ q, q < sz → ∀ j, j < 9 → T j q = U j q) (w : Nat) : co_ L sz T w = co_ L sz U w := by
  unfold co_
  rw [pc_cg sz (fun q hq => h q hq 0 (by decide)), lg_cg sz (fun q hq => h q hq 7 (by decide)), ap_cg sz (fun q hq => h q hq 0 (by decide)) (fun q hq => h q hq 7 (by decide)), pb_cg sz (fun q hq => h q hq 0 (by decide))]
theorem tel_cg {sz p : Nat} {T U : Nat → Nat → Int32} (hp : p < sz) (h : ∀ q, q < sz → ∀ j, j < 9 → T j q = U j q) (w : Nat) : tel_ T w p = tel_ U w p := by
  unfold tel_
  rw [h p hp 0 (by decide), h p hp 2 (by decide), h p hp 3 (by decide), h p hp 4 (by decide), h p hp 5 (by decide), h p hp 6 (by decide), h p hp 7 (by decide)]
theorem wk_cg {sz : Nat} {T U : Nat → Nat → Int32} {x : Int32} (hsz : sz ≤ 95) (hc : ch_ sz T) (h : ∀ q, q < sz → ∀ j, j < 9 → T j q = U j q) : ∀ (k p : Nat), p < sz → wk_ T x k p = wk_ U x k p
  | 0, _, _ => rfl
  | k + 1, p, hp => by
    rw [wk_, wk_, ← h p hp 0 (by decide), ← h p hp 5 (by decide), ← h p hp 6 (by decide)]
    split
    · rfl
    · next hn =>
      obtain ⟨l, r, e5, e6, b5, b6⟩ := hc p hp hn
      refine wk_cg hsz hc h k _ ?_
      rw [e5, e6, nI_clamp (by omega), nI_clamp (by omega)]
      split
      · exact b6
      · exact b5
theorem tw_cg {sz : Nat} {T U : Nat → Nat → Int32} {x : Int32} (h0 : 0 < sz) (hsz : sz ≤ 95) (hc : ch_ sz T) (h : ∀ q, q < sz → ∀ j, j < 9 → T j q = U j q) (w : Nat) : tw_ T x w = tw_ U x w := by
  have e := wk_cg (x := x) hsz hc h 16 0 h0
  have hl := wk_lt (x := x) hsz hc 16 0 h0
  unfold tw_
  rw [← e, h _ hl 7 (by decide), h _ hl 3 (by decide)]
theorem tv_post {f : Nat → Int32} {nd : g_Nd} {q : Nat} (h1 : 1 ≤ nd.2.1) (h : ¬ tv_ f nd q 0 = -1) : 2 ≤ nd.2.1 := by
  rcases Nat.lt_or_ge nd.2.1 2 with c | c
  · refine absurd ?_ h
    have e : nd.1 + nd.2.1 - 1 = nd.1 := by omega
    rw [tv_, e]
    unfold fub_
    rw [if_pos (by simp)]
  · exact c
/-- the sides of posts stand in the row -/
theorem tB_ch {L : g_L} {T : Nat → Nat → Int32} (hv : vL_ L) (h : tB_ (fn_ L) L.length T) : ch_ (zs_ L.length) T := by
  intro p hp hn
  have hg := gs_of hv
  rw [← tN_len hg] at hp ⊢
  have e := List.getElem?_eq_getElem hp
  generalize (tN_ (fn_ L) L.length)[p] = nd at e
  obtain ⟨n1, n2, n3, n4, n5, n6, n7⟩ := tr_node hg L.length 0 L.length 0 0 (tN_pos e) (Nat.le_refl _) (by omega) p nd e
  rw [h p nd e 0 (by decide)] at hn
  have hc := tv_post n1 hn
  obtain ⟨d1, d2⟩ := n7 hc
  refine ⟨p + 1, p + 2 * ms_ (fn_ L) nd.1 nd.2.1, ?_, ?_, ix_some d1, ix_some d2⟩
  · rw [h p nd e 5 (by decide), tv_, if_pos hc]
  · rw [h p nd e 6 (by decide), tv_, if_pos hc]
theorem zs_pos {n : Nat} (h : 0 < n) : 0 < zs_ n := by unfold zs_; rw [if_neg (by omega)]; omega
/-! the mean path -/
theorem ap_nat {f : Nat → Int32} {n : Nat} (hg : gs_ f n) {B A : Nat → Int32} (hA : ∀ q nd, (tN_ f n)[q]? = some nd → A q = nI nd.2.2.1) : ∀ k, k ≤ zs_ n → ∃ s, s ≤ k * (n - 1) ∧ ap_ B A k = nI s
  | 0, _ => ⟨0, by omega, rfl⟩
  | k + 1, hk => by
    obtain ⟨s, hs, e⟩ := ap_nat hg hA k (by omega)
    have hm : (k + 1) * (n - 1) = k * (n - 1) + (n - 1) := by rw [Nat.add_mul, Nat.one_mul]
    rw [ap_, e]
    split
    · have hlt : k < (tN_ f n).length := by rw [tN_len hg]; omega
      have en := List.getElem?_eq_getElem hlt
      generalize (tN_ f n)[k] = nd at en
      obtain ⟨n1, n2, n3, n4, n5, -⟩ := tr_node hg n 0 n 0 0 (tN_pos en) (Nat.le_refl _) (by omega) k nd en
      rw [hA k nd en, nI_add]
      exact ⟨s + nd.2.2.1, by omega, rfl⟩
    · exact ⟨s, by omega, rfl⟩
def me_ (L : g_L) : UInt64 := if L.length = 0 then FP.dconst0 else FP.ddiv (FP.i2d (ap_ (tb_ L 0) (tb_ L 7) (zs_ L.length))) (FP.i2d (nI L.length))
theorem me_num {L : g_L} {T : Nat → Nat → Int32} (hv : vL_ L) (h0 : L.length ≠ 0) (h24 : L.length ≤ 24) (h : tB_ (fn_ L) L.length T) : vf_n64 (FP.ddiv (FP.i2d (ap_ (T 0) (T 7) (zs_ L.length))) (FP.i2d (nI L.length))) := by
  obtain ⟨s, hs, e⟩ := ap_nat (gs_of hv) (B := T 0) (A := T 7) (fun q nd hq => h q nd hq 7 (by decide)) (zs_ L.length) (Nat.le_refl _)
  rw [e]
  refine fl_dec (by omega) h24 ?_
  unfold zs_ at hs
  rw [if_neg h0] at hs
  omega
/-! the other answers -/
def mgm_ (r : Nat) (a b : Int32) : Int32 := if b = -1 then a else match r with
  | 0 => a
  | 1 => b
  | 2 => if nI 999 < a + b then nI 999 else a + b
  | _ => if b < a then b else a
def mg_ (r : Nat) (S T : g_L) : Nat → g_L
  | 0 => T
  | k + 1 => st_ (mg_ r S T k) (fn_ S k) (mgm_ r (gn_ S k) (mo_ (mg_ r S T k) (fn_ S k)))
theorem mg_len (r : Nat) (S T : g_L) : ∀ k, (mg_ r S T k).length ≤ T.length + k
  | 0 => Nat.le_refl _
  | k + 1 => Nat.le_trans st_len_le (Nat.succ_le_succ (mg_len r S T k))
def ct_ (S T : g_L) (a : Nat) : Nat → g_L
  | 0 => T
  | c + 1 => st_ (ct_ S T a c) (fn_ S (a + c)) (gn_ S (a + c))
theorem ct_len (S T : g_L) (a : Nat) : ∀ k, (ct_ S T a k).length ≤ T.length + k
  | 0 => Nat.le_refl _
  | k + 1 => Nat.le_trans st_len_le (Nat.succ_le_succ (ct_len S T a k))
def ra_ (L : g_L) (lo hi : Int32) (w : Nat) : Int32 := match w with
  | 0 => nI (rk_ L (hi + nI 1)) - nI (rk_ L lo)
  | 1 => sm_ L (rk_ L lo) (rk_ L (hi + nI 1) - rk_ L lo)
  | 2 => hs_ L (rk_ L lo) (rk_ L (hi + nI 1))
  | _ => mm_ L (rk_ L lo) (rk_ L (hi + nI 1) - rk_ L lo)
def dg_ (d : Int64) (x : Int32) : Int64 := d * 31 + x.toInt64
def dc_ (L : g_L) (d : Int64) : Nat → Int64
  | 0 => d
  | k + 1 => dg_ (dc_ L d k) (cn_ L k)
def d1_ (L : g_L) (p : Nat) (d : Int64) : Nat → Int64
  | 0 => d
  | w + 1 => dg_ (d1_ L p d w) (tel_ (tb_ L) w p)
def ds_ (L : g_L) (d : Int64) : Nat → Int64
  | 0 => d
  | p + 1 => d1_ L p (ds_ L d p) 7
def dm_ (L : g_L) (d : Int64) : Nat → Int64
  | 0 => d
  | k + 1 => dg_ (dm_ L d k) (gn_ L k)
def dw_ (L : g_L) (d : Int64) : Int64 := dm_ L (ds_ L (dg_ (dc_ L d 7) (fa_ L L.length)) (zs_ L.length)) L.length
def di_ (A B : g_L) : Int64 := dc_ (bo_ A B) (dw_ B (dw_ A 1747)) 4
/-! the class's whole state -/
def g_C (D : va_G) (σ : Nat → va_E) (Ls : Nat → g_L) : Prop := σ 0 = .inr (2, [.ref (ad_ D 1), .ref (ad_ D 4), .ref (ad_ D 7), .ref (ad_ D 10)]) ∧ g_V D σ 1 (Ls 0) ∧ g_V D σ 4 (Ls 1) ∧ (∃ Lc, g_V D σ 7 Lc) ∧ ∃ sz T, g_S D σ sz T
/-- both woods are valid, at most 24 villages each -/
def vC_ (Ls : Nat → g_L) : Prop := ∀ w, w ≤ 1 → vL_ (Ls w) ∧ (Ls w).length ≤ 24
def ul_ (Ls : Nat → g_L) (w : Nat) (L : g_L) : Nat → g_L := fun j => if j = w then L else Ls j
theorem g_C.wood {D : va_G} {σ : Nat → va_E} {Ls : Nat → g_L} {w : Nat} (h : g_C D σ Ls) (hw : w ≤ 1) : g_V D σ (1 + 3 * w) (Ls w) := by
  rcases (show w = 0 ∨ w = 1 by omega) with rfl | rfl
  · exact h.2.1
  · exact h.2.2.1
theorem g_C.wood2 {D : va_G} {σ : Nat → va_E} {Ls : Nat → g_L} {w : Nat} (h : g_C D σ Ls) (hw : w ≤ 1) : g_V D σ (4 - 3 * w) (Ls (1 - w)) := by
  rcases (show w = 0 ∨ w = 1 by omega) with rfl | rfl
  · exact h.2.2.1
  · exact h.2.1
theorem g_off.at0 {σ σ' : Nat → va_E} {lo hi k : Nat} {e : va_E} (ho : g_off lo hi σ σ') (h : σ k = e) (hk : k < lo ∨ hi < k) : σ' k = e := (ho k hk).trans h
theorem g_C.signs {D : va_G} {σ σ' : Nat → va_E} {Ls : Nat → g_L} {sz : Nat} {T : Nat → Nat → Int32} (h : g_C D σ Ls) (ho : g_off 10 19 σ σ') (hs : g_S D σ' sz T) : g_C D σ' Ls := by
  obtain ⟨h0, h1, h2, ⟨Lc, h3⟩, -⟩ := h
  exact ⟨ho.at0 h0 (by decide), h1.off ho (by decide), h2.off ho (by decide), ⟨Lc, h3.off ho (by decide)⟩, sz, T, hs⟩
theorem g_C.both {D : va_G} {σ σ' : Nat → va_E} {Ls : Nat → g_L} {L : g_L} (h : g_C D σ Ls) (ho : g_off 7 9 σ σ') (hv : g_V D σ' 7 L) : g_C D σ' Ls := by
  obtain ⟨h0, h1, h2, -, sz, T, h4⟩ := h
  exact ⟨ho.at0 h0 (by decide), h1.off ho (by decide), h2.off ho (by decide), ⟨L, hv⟩, sz, T, h4.off ho (by decide)⟩
theorem g_C.upd {D : va_G} {σ σ' : Nat → va_E} {Ls : Nat → g_L} {L : g_L} {w : Nat} (h : g_C D σ Ls) (hw : w ≤ 1) (ho : g_off (1 + 3 * w) (1 + 3 * w + 2) σ σ') (hv : g_V D σ' (1 + 3 * w) L) : g_C D σ' (ul_ Ls w L) := by
  obtain ⟨h0, h1, h2, ⟨Lc, h3⟩, sz, T, h4⟩ := h
  rcases (show w = 0 ∨ w = 1 by omega) with rfl | rfl
  · exact ⟨ho.at0 h0 (by decide), hv, h2.off ho (by decide), ⟨Lc, h3.off ho (by decide)⟩, sz, T, h4.off ho (by decide)⟩
  · exact ⟨ho.at0 h0 (by decide), h1.off ho (by decide), hv, ⟨Lc, h3.off ho (by decide)⟩, sz, T, h4.off ho (by decide)⟩
theorem g_C.two {D : va_G} {σ σ' : Nat → va_E} {Ls : Nat → g_L} {L M : g_L} {w : Nat} (h : g_C D σ Ls) (hw : w ≤ 1) (ho : g_off 1 6 σ σ') (hv : g_V D σ' (1 + 3 * w) L) (hv2 : g_V D σ' (4 - 3 * w) M) : g_C D σ' (ul_ (ul_ Ls w L) (1 - w) M) := by
  obtain ⟨h0, h1, h2, ⟨Lc, h3⟩, sz, T, h4⟩ := h
  rcases (show w = 0 ∨ w = 1 by omega) with rfl | rfl
  · exact ⟨ho.at0 h0 (by decide), hv, hv2, ⟨Lc, h3.off ho (by decide)⟩, sz, T, h4.off ho (by decide)⟩
  · exact ⟨ho.at0 h0 (by decide), hv2, hv, ⟨Lc, h3.off ho (by decide)⟩, sz, T, h4.off ho (by decide)⟩
/-! what each call refuses: 0 nothing, 1 .. 3 the exception's place in the list of the law's catches -/
def wl_ (Ls : Nat → g_L) (wood : Int32) : g_L := if wood = 0 then Ls 0 else Ls 1
theorem wl_n {Ls : Nat → g_L} {w : Nat} (h : w ≤ 1) : wl_ Ls (nI w) = Ls w := by
  rcases (show w = 0 ∨ w = 1 by omega) with rfl | rfl
  · rfl
  · rfl
