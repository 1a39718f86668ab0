/-! PURE: signs, turns, cuts -/
/-- at a village's place -/
theorem sg_leaf {L : g_L} (h : vL_ L) (h48 : L.length ≤ 48) {pl : Nat} (hp : pl < zs_ L.length) (hb : tel_ (tb_ L) 0 pl < 0) : tel_ (tb_ L) 1 pl = nI 1 ∧ tel_ (tb_ L) 2 pl = tel_ (tb_ L) 3 pl ∧ nm1_ (tel_ (tb_ L) 2 pl) ∧ tw_ (tb_ L) (tel_ (tb_ L) 2 pl) 0 = tel_ (tb_ L) 6 pl := by
  rw [← tN_len (gs_of h)] at hp
  have e := List.getElem?_eq_getElem hp
  generalize (tN_ (fn_ L) L.length)[pl] = nd at e
  obtain ⟨n1, n2, n3, n4, n5⟩ := nd_ok h e
  have hc : ¬ 2 ≤ nd.2.1 := fun hc => by
    obtain ⟨t, ht, et, -⟩ := sg_top h hc n2
    have e0 : tel_ (tb_ L) 0 pl = nI t := by rw [tel_, tb_at e]; exact et
    rw [e0] at hb
    exact nI_pos (by omega) hb
  have e1 : nd.2.1 = 1 := by omega
  have hd := dp_of h e e1
  have t2 : tel_ (tb_ L) 2 pl = fn_ L nd.1 := by rw [tel_, tb_at e]; rfl
  have t3 : tel_ (tb_ L) 3 pl = fn_ L nd.1 := by rw [tel_, tb_at e]; show fn_ L (nd.1 + nd.2.1 - 1) = _; rw [show nd.1 + nd.2.1 - 1 = nd.1 by omega]
  refine ⟨?_, by rw [t2, t3], by rw [t2]; exact nm_fn h hd.2, ?_⟩
  · rw [tel_, tb_at e]; show nI nd.2.1 = _; rw [e1]
  · rw [t2, (tw_at h h48 hd.2).1, hd.1]
    show _ = tb_ L 7 pl
    rw [tb_at e]; rfl
/-- at a post's place -/
theorem sg_post {L : g_L} (h : vL_ L) {pl : Nat} (hp : pl < zs_ L.length) (hb : ¬ tel_ (tb_ L) 0 pl < 0) : ∃ lo hi : Nat, lo < zs_ L.length ∧ hi < zs_ L.length ∧ tel_ (tb_ L) 4 pl = nI lo ∧ tel_ (tb_ L) 5 pl = nI hi ∧ tel_ (tb_ L) 1 lo + tel_ (tb_ L) 1 hi = tel_ (tb_ L) 1 pl ∧ tel_ (tb_ L) 2 lo = tel_ (tb_ L) 2 pl ∧ tel_ (tb_ L) 3 hi = tel_ (tb_ L) 3 pl ∧ tel_ (tb_ L) 3 lo < tel_ (tb_ L) 2 hi ∧ tel_ (tb_ L) 0 lo < tel_ (tb_ L) 0 pl ∧ tel_ (tb_ L) 0 hi < tel_ (tb_ L) 0 pl ∧ tel_ (tb_ L) 6 lo = tel_ (tb_ L) 6 pl + nI 1 ∧ tel_ (tb_ L) 6 hi = tel_ (tb_ L) 6 pl + nI 1 ∧ nm1_ (tel_ (tb_ L) 2 pl) ∧ nm1_ (tel_ (tb_ L) 3 pl) ∧ fub_ (tel_ (tb_ L) 2 pl) (tel_ (tb_ L) 3 pl) = tel_ (tb_ L) 0 pl := by
  have hz := tN_len (gs_of h)
  rw [← hz] at hp ⊢
  have e := List.getElem?_eq_getElem hp
  generalize (tN_ (fn_ L) L.length)[pl] = nd at e
  obtain ⟨a, c, q, b⟩ := nd
  obtain ⟨n1, n2, n3, n4, n5⟩ := nd_ok h e
  dsimp only at n1 n2 n3 n4 n5
  have t0 : tel_ (tb_ L) 0 pl = fub_ (fn_ L a) (fn_ L (a + c - 1)) := by rw [tel_, tb_at e]; rfl
  have hc : 2 ≤ c := by
    rcases Nat.lt_or_ge c 2 with z | z
    · rw [t0, show a + c - 1 = a by omega, fub_, if_pos (by simp)] at hb
      exact absurd (by decide) hb
    · exact z
  obtain ⟨t, ht, et, p1, p2, -⟩ := sg_top h hc n2
  obtain ⟨m1, m2⟩ := gs_of h a c hc n2
  obtain ⟨d1, d2⟩ := n5 hc
  have hcb : ∀ a' c', ((a' = a ∧ c' = ms_ (fn_ L) a c) ∨ (a' = a + ms_ (fn_ L) a c ∧ c' = c - ms_ (fn_ L) a c)) → 1 ≤ c' → a' + c' ≤ L.length → fub_ (fn_ L a') (fn_ L (a' + c' - 1)) < nI t := by
    intro a' c' hs hc1 hac'
    by_cases hc2 : 2 ≤ c'
    · obtain ⟨t', ht', e', -⟩ := sg_top h hc2 hac'
      have := ch_bit h hc n2 et ht hs hc2 e' ht'
      rw [e']
      exact nI_lt (by omega) (by omega)
    · rw [show a' + c' - 1 = a' by omega, fub_, if_pos (by simp)]
      exact Int32.lt_of_lt_of_le (by decide) (nI_pos' (show t < 2 ^ 31 by omega))
  have q6 : tel_ (tb_ L) 6 pl = nI q := by show tb_ L 7 pl = _; rw [tb_at e]; rfl
  have a1 : tel_ (tb_ L) 0 (pl + 1) < nI t := by rw [tel_, tb_at d1]; exact hcb a (ms_ (fn_ L) a c) (Or.inl ⟨rfl, rfl⟩) m1 (by omega)
  have a2 : tel_ (tb_ L) 0 (pl + 2 * ms_ (fn_ L) a c) < nI t := by rw [tel_, tb_at d2]; exact hcb (a + ms_ (fn_ L) a c) (c - ms_ (fn_ L) a c) (Or.inr ⟨rfl, rfl⟩) (by omega) (by omega)
  refine ⟨pl + 1, pl + 2 * ms_ (fn_ L) a c, ix_some d1, ix_some d2, ?_, ?_, ?_, ?_, ?_, ?_, ?_, ?_, ?_, ?_, ?_, ?_, ?_⟩
  · rw [tel_, tb_at e, tv_, if_pos hc]
  · rw [tel_, tb_at e, tv_, if_pos hc]
  · have e1 : tel_ (tb_ L) 1 (pl + 1) = nI (ms_ (fn_ L) a c) := by rw [tel_, tb_at d1]; rfl
    have e2 : tel_ (tb_ L) 1 (pl + 2 * ms_ (fn_ L) a c) = nI (c - ms_ (fn_ L) a c) := by rw [tel_, tb_at d2]; rfl
    have e3 : tel_ (tb_ L) 1 pl = nI c := by rw [tel_, tb_at e]; rfl
    rw [e1, e2, e3, nI_add, show ms_ (fn_ L) a c + (c - ms_ (fn_ L) a c) = c by omega]
  · have e1 : tel_ (tb_ L) 2 (pl + 1) = fn_ L a := by rw [tel_, tb_at d1]; rfl
    have e2 : tel_ (tb_ L) 2 pl = fn_ L a := by rw [tel_, tb_at e]; rfl
    rw [e1, e2]
  · have e1 : tel_ (tb_ L) 3 (pl + 2 * ms_ (fn_ L) a c) = fn_ L (a + ms_ (fn_ L) a c + (c - ms_ (fn_ L) a c) - 1) := by rw [tel_, tb_at d2]; rfl
    have e2 : tel_ (tb_ L) 3 pl = fn_ L (a + c - 1) := by rw [tel_, tb_at e]; rfl
    rw [e1, e2, show a + ms_ (fn_ L) a c + (c - ms_ (fn_ L) a c) - 1 = a + c - 1 by omega]
  · rw [tel_, tel_, tb_at d1, tb_at d2]
    show fn_ L (a + ms_ (fn_ L) a c - 1) < fn_ L (a + ms_ (fn_ L) a c)
    exact vL_mono h (by omega) (by omega)
  · rw [t0, et]; exact a1
  · rw [t0, et]; exact a2
  · rw [q6]; show tb_ L 7 _ = _; rw [tb_at d1, nI_add]; rfl
  · rw [q6]; show tb_ L 7 _ = _; rw [tb_at d2, nI_add]; rfl
  · rw [tel_, tb_at e]; exact nm_fn h (show a < L.length by omega)
  · rw [tel_, tb_at e]; exact nm_fn h (show a + c - 1 < L.length by omega)
  · rw [t0, tel_, tel_, tb_at e, tb_at e]; rfl
/-! turns -/
theorem hb_xor {x b : Int32} {t : Nat} (hx : nm1_ x) (hb : nm1_ b) (ht : t < 16) : hb_ (x ^^^ b) (nI t) = (hb_ x (nI t) != hb_ b (nI t)) := by
  obtain ⟨a, ha, rfl⟩ := nm_nat hx
  obtain ⟨c, hc, rfl⟩ := nm_nat hb
  have hu : a ^^^ c < 65536 := Nat.xor_lt_two_pow (n := 16) (by omega) (by omega)
  rw [b_xor, b_hb (by omega) (by omega), b_hb (by omega) (by omega), b_hb (by omega) (by omega), Nat.testBit_xor]
theorem wi_xor {R : List Int32} {b : Int32} {t : Nat} {v : Bool} (hR : rn_ R) (hb : nm1_ b) (ht : t < 16) : wi_ (R.map (· ^^^ b)) t v = (wi_ R t (v != hb_ b (nI t))).map (· ^^^ b) := by
  unfold wi_
  rw [List.filter_map]
  congr 1
  apply List.filter_congr
  intro x hx
  show (hb_ (x ^^^ b) (nI t) == v) = _
  rw [hb_xor (hR x hx) hb ht]
  cases hb_ x (nI t) <;> cases hb_ b (nI t) <;> cases v <;> rfl
theorem on_xor {R : List Int32} {b : Int32} {t : Nat} (hR : rn_ R) (hb : nm1_ b) (ht : t < 16) : on_ (R.map (· ^^^ b)) t = if hb_ b (nI t) then R.length - on_ R t else on_ R t := by
  rw [← wi_t, wi_xor hR hb ht, List.length_map]
  cases hb_ b (nI t)
  · rw [if_neg (by decide)]; exact wi_t R t
  · rw [if_pos rfl]; exact wi_f R t
theorem bf_xor {R : List Int32} {b : Int32} (hR : rn_ R) (hb : nm1_ b) : ∀ k, k ≤ 16 → bf_ (R.map (· ^^^ b)) k = bf_ R k
  | 0, _ => rfl
  | k + 1, hk => by
    rw [bf_, bf_, on_xor hR hb (by omega), List.length_map, bf_xor hR hb k (by omega)]
    have := on_le R k
    by_cases hc : 0 < on_ R k ∧ on_ R k < R.length
    · rw [if_pos hc, if_pos (by split <;> omega)]
    · rw [if_neg hc, if_neg (by split <;> omega)]
theorem pth_xor {b : Int32} (hb : nm1_ b) : ∀ (k : Nat) (R : List Int32), rn_ R → (pth_ k (R.map (· ^^^ b))).1 = (pth_ k R).1 ∧ (pth_ k (R.map (· ^^^ b))).2.1 = (pth_ k R).2.1
  | 0, _, _ => ⟨rfl, rfl⟩
  | k + 1, R, hR => by
    have e : bt_ (R.map (· ^^^ b)) = bt_ R := bf_xor hR hb 16 (Nat.le_refl _)
    rcases bt_r R with hn | ⟨t, ht, et, -⟩
    · rw [pth_n hn, pth_n (e.trans hn)]; exact ⟨rfl, rfl⟩
    · rw [pth_b et ht, pth_b (e.trans et) ht, wi_xor hR hb ht, wi_xor hR hb ht, List.length_map]
      cases hb_ b (nI t)
      · obtain ⟨x1, x2⟩ := pth_xor hb k (wi_ R t false) (rn_wi hR)
        obtain ⟨y1, y2⟩ := pth_xor hb k (wi_ R t true) (rn_wi hR)
        show 1 + max (pth_ k ((wi_ R t false).map (· ^^^ b))).1 (pth_ k ((wi_ R t true).map (· ^^^ b))).1 = _ ∧ R.length + (pth_ k ((wi_ R t false).map (· ^^^ b))).2.1 + (pth_ k ((wi_ R t true).map (· ^^^ b))).2.1 = _
        rw [x1, x2, y1, y2]
        exact ⟨rfl, rfl⟩
      · obtain ⟨x1, x2⟩ := pth_xor hb k (wi_ R t false) (rn_wi hR)
        obtain ⟨y1, y2⟩ := pth_xor hb k (wi_ R t true) (rn_wi hR)
        show 1 + max (pth_ k ((wi_ R t true).map (· ^^^ b))).1 (pth_ k ((wi_ R t false).map (· ^^^ b))).1 = _ ∧ R.length + (pth_ k ((wi_ R t true).map (· ^^^ b))).2.1 + (pth_ k ((wi_ R t false).map (· ^^^ b))).2.1 = _
        rw [x1, x2, y1, y2]
        exact ⟨by rw [Nat.max_comm], by show R.length + _ + _ = R.length + _ + _; omega⟩
theorem rn_L {L : g_L} (h : vL_ L) : rn_ (L.map Prod.fst) := fun x hx => by
  obtain ⟨j, hj, rfl⟩ := fn_mem hx
  exact nm_fn h hj
theorem cb_cn {L : g_L} {b : Int32} (h : vL_ L) (h24 : L.length ≤ 24) (hb : nm1_ b) : cn_ (cb_ L b L.length) 0 = nI L.length ∧ cn_ (cb_ L b L.length) 2 = cn_ L 2 ∧ cn_ (cb_ L b L.length) 3 = cn_ L 3 := by
  have g := nm_le hb
  have hv := vL_cb h g.1 g.2 L.length (Nat.le_refl _)
  have hl := cb_sz h g.1 g.2 L.length (Nat.le_refl _)
  have hx := (xz_pm h (List.Perm.refl L) g.1 g.2).map Prod.fst
  have e : (xz_ L b).map Prod.fst = (L.map Prod.fst).map (· ^^^ b) := by unfold xz_; rw [List.map_map, List.map_map]; rfl
  rw [e] at hx
  obtain ⟨a0, -, a2, a3, -⟩ := cn_row hv (by omega) hx (k := 25) (by simp; omega) (by decide)
  obtain ⟨-, -, b2, b3, -⟩ := cn_row h (by omega) (List.Perm.refl (L.map Prod.fst)) (k := 25) (by simp; omega) (by decide)
  obtain ⟨p1, p2⟩ := pth_xor hb 25 (L.map Prod.fst) (rn_L h)
  exact ⟨by rw [a0]; simp, by rw [a2, b2, p1], by rw [a3, b3, p2]⟩
theorem xz_xz {L : g_L} {b : Int32} : xz_ (xz_ L b) b = L := by
  unfold xz_
  rw [List.map_map]
  conv => rhs; rw [← List.map_id L]
  apply List.map_congr_left
  intro p _
  show (p.1 ^^^ b ^^^ b, p.2) = p
  rw [Int32.xor_assoc, Int32.xor_self, Int32.xor_zero]
theorem cb_cb {L : g_L} {b : Int32} (h : vL_ L) (hb : nm1_ b) : cb_ (cb_ L b L.length) b (cb_ L b L.length).length = L := by
  have g := nm_le hb
  have hv := vL_cb h g.1 g.2 L.length (Nat.le_refl _)
  have p1 := xz_pm h (List.Perm.refl L) g.1 g.2
  have p2 := xz_pm hv p1 g.1 g.2
  rw [xz_xz] at p2
  exact vL_pm (vL_cb hv g.1 g.2 _ (Nat.le_refl _)) h p2.symm
/-! cuts -/
theorem sp_in {L : g_L} {x y : Int32} {k : Nat} : (x, y) ∈ L ↔ (x, y) ∈ L.take k ∨ (x, y) ∈ L.drop k := by
  conv => lhs; rw [← List.take_append_drop k L]
  exact List.mem_append
theorem sp_dj {L : g_L} (h : vL_ L) {k : Nat} {x y z : Int32} (h1 : (x, y) ∈ L.take k) (h2 : (x, z) ∈ L.drop k) : False := by
  obtain ⟨i, hi, e1⟩ := List.getElem_of_mem h1
  obtain ⟨j, hj, e2⟩ := List.getElem_of_mem h2
  rw [List.length_take] at hi
  rw [List.length_drop] at hj
  rw [List.getElem_take] at e1
  rw [List.getElem_drop] at e2
  exact nd_ne (vL_nd h) (show i < L.length by omega) (show k + j < L.length by omega) (by omega) (by rw [e1, e2])
/-- two parts of a wood with no name in common, merged -/
theorem mg_sp {r : Nat} {L A B : g_L} (h : vL_ L) (hA : vL_ A) (hB : vL_ B) (hin : ∀ x y, (x, y) ∈ L ↔ (x, y) ∈ A ∨ (x, y) ∈ B) (hdj : ∀ x y z, (x, y) ∈ A → (x, z) ∈ B → False) : mg_ r A B A.length = L ∧ cm_ A B A.length = 0 := by
  have hmo : ∀ x z, (x, z) ∈ A → mo_ B x = -1 := fun x z hz => mo_no hB (ne_m1 (vL_okP hA _ hz).1) (fun hm => by
    obtain ⟨y, hy⟩ := mem_fst.mp hm
    exact hdj x z y hz hy)
  constructor
  · rw [mg_P _ (Nat.le_refl _), List.take_length]
    refine vL_ext (vL_mgP A B (vL_okP hA) hB) h (fun x y => ?_)
    rw [mgP_mem A B (vL_okP hA) hB (vL_nd hA), hin]
    constructor
    · rintro (⟨z, hz, e⟩ | ⟨-, q⟩)
      · rw [hmo x z hz, mgm_n] at e
        rw [e]; exact Or.inl hz
      · exact Or.inr q
    · rintro (q | q)
      · exact Or.inl ⟨y, q, by rw [hmo x y q, mgm_n]⟩
      · refine Or.inr ⟨fun hm => ?_, q⟩
        obtain ⟨z, hz⟩ := mem_fst.mp hm
        exact hdj x z y hz q
  · have : ∀ k, k ≤ A.length → cm_ A B k = 0 := by
      intro k
      induction k with
      | zero => intro _; rfl
      | succ k ih =>
        intro hk
        have hm : (fn_ A k, gn_ A k) ∈ A := by
          have hk2 : k < A.length := by omega
          have e : A[k] = (fn_ A k, gn_ A k) := by unfold fn_ gn_; rw [List.getD_eq_getElem?_getD, List.getElem?_eq_getElem hk2]; rfl
          rw [← e]; exact List.getElem_mem hk2
        rw [cm_, ih (by omega), hmo _ _ hm, if_pos rfl]
    exact this _ (Nat.le_refl _)
theorem sa_mg {T S : g_L} : ∀ k, sa_ T S k = mg_ 0 S T k
  | 0 => rfl
  | k + 1 => by
    rw [sa_, mg_, sa_mg k]
    congr 1
    unfold mgm_
    split <;> rfl
theorem bo_sp {L A B : g_L} (h : vL_ L) (hA : vL_ A) (hB : vL_ B) (hin : ∀ x y, (x, y) ∈ L ↔ (x, y) ∈ A ∨ (x, y) ∈ B) (hdj : ∀ x y z, (x, y) ∈ A → (x, z) ∈ B → False) : bo_ A B = L := by
  have e1 : sa_ [] A A.length = A := by
    rw [sa_mg]
    exact (mg_sp hA hA vL_nil (fun x y => by simp) (fun x y z _ q => by simp at q)).1
  unfold bo_
  rw [e1, sa_mg]
  exact (mg_sp h hB hA (fun x y => by rw [hin, or_comm]) (fun x y z q1 q2 => hdj x z y q2 q1)).1
theorem cut_bk {r : Nat} {L : g_L} (h : vL_ L) {k : Nat} : mg_ r (L.drop k) (L.take k) (L.drop k).length = L ∧ cm_ (L.drop k) (L.take k) (L.drop k).length = 0 ∧ bo_ (L.take k) (L.drop k) = L ∧ bo_ (L.drop k) (L.take k) = L := by
  obtain ⟨m1, m2⟩ := mg_sp (r := r) h (vL_drop (k := k) h) (vL_take (k := k) h) (fun x y => by rw [sp_in (k := k), or_comm]) (fun x y z q1 q2 => sp_dj h q2 q1)
  exact ⟨m1, m2, bo_sp h (vL_take h) (vL_drop h) (fun x y => sp_in) (fun x y z q1 q2 => sp_dj h q1 q2), bo_sp h (vL_drop h) (vL_take h) (fun x y => by rw [sp_in (k := k), or_comm]) (fun x y z q1 q2 => sp_dj h q2 q1)⟩
theorem cut_hi {L : g_L} (h : vL_ L) {x : Int32} (hk : rk_ L x < L.length) : x ≤ fn_ (L.drop (rk_ L x)) 0 := by
  rw [fn_drop, Nat.add_zero]
  exact Int32.not_lt.mp (rk_at L x hk)
theorem cut_lo {L : g_L} {x : Int32} (hk : 0 < rk_ L x) : fn_ (L.take (rk_ L x)) (rk_ L x - 1) < x := by
  rw [fn_take (by omega)]
  exact rk_lt L x _ (by omega)
