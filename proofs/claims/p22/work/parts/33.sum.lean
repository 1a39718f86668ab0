/-! PURE: a number compared with itself -/
theorem dc_self {x : UInt64} (h : vf_n64 x) : Op.cmpValue (FP.dcmp x x) .l = 0 := by
  have hd : FP.Core.decode FP.Core.b64 x.toNat ≠ .nan := by
    intro e
    have h2 : x.toNat &&& 0x7fffffffffffffff ≤ 0x7ff0000000000000 := by
      have := UInt64.le_iff_toNat_le.mp h
      simpa using this
    rw [show (0x7fffffffffffffff : Nat) = 2 ^ 63 - 1 from rfl, Nat.and_two_pow_sub_one_eq_mod] at h2
    unfold FP.Core.decode at e
    split at e
    · next h3 =>
      split at e
      · cases e
      · next h4 =>
        have h5 : x.toNat / 4503599627370496 % 2048 = 2047 := h3
        have h6 : ¬ x.toNat % 4503599627370496 = 0 := h4
        omega
    · split at e <;> cases e
  have hc : FP.dcmp x x = some .eq := by
    show FP.Core.order (FP.Core.decode FP.Core.b64 x.toNat) (FP.Core.decode FP.Core.b64 x.toNat) = some .eq
    generalize FP.Core.decode FP.Core.b64 x.toNat = d at hd ⊢
    cases d with
    | nan => exact absurd rfl hd
    | inf s => simp [FP.Core.order]
    | fin s c q => simp [FP.Core.order]
  rw [hc]
  rfl
/-! PURE: sums over the tree -/
def fo9 {α β : Type} (op : β → β → β) (e : β) (g : α → β) : List α → β
  | [] => e
  | x :: t => op (g x) (fo9 op e g t)
theorem fo9_app {α β : Type} {op : β → β → β} {e : β} {g : α → β} (ha : ∀ x y z, op (op x y) z = op x (op y z)) (he : ∀ x, op e x = x) : ∀ (A B : List α), fo9 op e g (A ++ B) = op (fo9 op e g A) (fo9 op e g B)
  | [], B => (he _).symm
  | x :: t, B => by rw [List.cons_append, fo9, fo9, fo9_app ha he t B, ha]
theorem fo9_pm {α β : Type} {op : β → β → β} {e : β} {g : α → β} (ha : ∀ x y z, op (op x y) z = op x (op y z)) (hc : ∀ x y, op x y = op y x) {A B : List α} (h : A.Perm B) : fo9 op e g A = fo9 op e g B := by
  induction h with
  | nil => rfl
  | cons x _ ih => rw [fo9, fo9, ih]
  | swap x y l => rw [fo9, fo9, fo9, fo9, ← ha, ← ha, hc (g y)]
  | trans _ _ h1 h2 => exact h1.trans h2
theorem fo9_tk {α β : Type} {op : β → β → β} {e : β} {g : α → β} (ha : ∀ x y z, op (op x y) z = op x (op y z)) (he : ∀ x, op e x = x) (her : ∀ x, op x e = x) {X : List α} {k : Nat} (hk : k < X.length) : fo9 op e g (X.take (k + 1)) = op (fo9 op e g (X.take k)) (g X[k]) := by
  rw [List.take_succ_eq_append_getElem hk, fo9_app ha he]
  show op _ (op _ e) = _
  rw [her]
def lgX (X : List g_Nd) : Nat := fo9 max 0 (fun nd => nd.2.2.1) X
def apX (X : List g_Nd) : Nat := fo9 (· + ·) 0 (fun nd => if 2 ≤ nd.2.1 then 0 else nd.2.2.1) X
def pcX (X : List g_Nd) : Nat := fo9 (· + ·) 0 (fun nd => if 2 ≤ nd.2.1 then 1 else 0) X
def pbX (f : Nat → Int32) (X : List g_Nd) : Int32 := fo9 (· ||| ·) 0 (fun nd => if 2 ≤ nd.2.1 then nI 1 <<< (fub_ (f nd.1) (f (nd.1 + nd.2.1 - 1)) &&& 31) else 0) X
theorem or_as (x y z : Int32) : x ||| y ||| z = x ||| (y ||| z) := Int32.or_assoc x y z
theorem or_0l (x : Int32) : 0 ||| x = x := Int32.zero_or
theorem or_0r (x : Int32) : x ||| 0 = x := Int32.or_zero
theorem mx_as (x y z : Nat) : max (max x y) z = max x (max y z) := Nat.max_assoc x y z
theorem mx_0l (x : Nat) : max 0 x = x := Nat.zero_max x
theorem mx_0r (x : Nat) : max x 0 = x := Nat.max_zero x
/-- the whole tree of a part, beside its row -/
theorem tr_sum {L : g_L} (h : vL_ L) : ∀ (j k a c q b : Nat) (R : List Int32), 1 ≤ c → c ≤ j → c ≤ k → a + c ≤ L.length → R.Perm (sg_ (fn_ L) a c) → lgX (tr_ (fn_ L) j a c q b) = q + (pth_ k R).1 ∧ apX (tr_ (fn_ L) j a c q b) = q * c + (pth_ k R).2.1 ∧ pcX (tr_ (fn_ L) j a c q b) = c - 1 ∧ pbX (fn_ L) (tr_ (fn_ L) j a c q b) = (pth_ k R).2.2
  | 0, k, a, c, q, b, R, h1, h2, _, _, _ => absurd h1 (by omega)
  | j + 1, 0, a, c, q, b, R, h1, _, h3, _, _ => absurd h1 (by omega)
  | j + 1, k + 1, a, c, q, b, R, h1, h2, h3, hac, hR => by
    have hl : R.length = c := by rw [hR.length_eq, sg_len]
    have hbt : bt_ R = fub_ (fn_ L a) (fn_ L (a + c - 1)) := by rw [bt_pm hR, bt_sg h h1 hac]
    rw [tr_]
    by_cases hc : 2 ≤ c
    · rw [if_pos hc]
      obtain ⟨t, ht, e, t1, t2, -⟩ := sg_top h hc hac
      obtain ⟨m1, m2⟩ := gs_of h a c hc hac
      obtain ⟨w1, w2⟩ := sg_wi (Nat.le_of_lt m2) t1 t2
      have p1 := wi_pm hR t false
      have p2 := wi_pm hR t true
      rw [w1] at p1
      rw [w2] at p2
      obtain ⟨a1, a2, a3, a4⟩ := tr_sum h j k a (ms_ (fn_ L) a c) (q + 1) (c - ms_ (fn_ L) a c) _ m1 (by omega) (by omega) (by omega) p1
      obtain ⟨b1, b2, b3, b4⟩ := tr_sum h j k (a + ms_ (fn_ L) a c) (c - ms_ (fn_ L) a c) (q + 1) (ms_ (fn_ L) a c) _ (by omega) (by omega) (by omega) (by omega) p2
      rw [pth_b (hbt.trans e) ht]
      generalize tr_ (fn_ L) j a (ms_ (fn_ L) a c) (q + 1) (c - ms_ (fn_ L) a c) = X at a1 a2 a3 a4 ⊢
      generalize tr_ (fn_ L) j (a + ms_ (fn_ L) a c) (c - ms_ (fn_ L) a c) (q + 1) (ms_ (fn_ L) a c) = Y at b1 b2 b3 b4 ⊢
      generalize pth_ k (wi_ R t false) = x at a1 a2 a4 ⊢
      generalize pth_ k (wi_ R t true) = y at b1 b2 b4 ⊢
      unfold lgX apX pcX pbX at *
      refine ⟨?_, ?_, ?_, ?_⟩
      · rw [fo9, fo9_app mx_as mx_0l, a1, b1]
        show max q (max (q + 1 + x.1) (q + 1 + y.1)) = q + (1 + max x.1 y.1)
        omega
      · rw [fo9, fo9_app Nat.add_assoc Nat.zero_add, a2, b2]
        show (if 2 ≤ c then 0 else q) + ((q + 1) * ms_ (fn_ L) a c + x.2.1 + ((q + 1) * (c - ms_ (fn_ L) a c) + y.2.1)) = q * c + (R.length + x.2.1 + y.2.1)
        rw [if_pos hc, hl]
        have e1 : (q + 1) * ms_ (fn_ L) a c + (q + 1) * (c - ms_ (fn_ L) a c) = (q + 1) * c := by rw [← Nat.mul_add]; congr 1; omega
        have e2 : (q + 1) * c = q * c + c := by rw [Nat.add_mul, Nat.one_mul]
        omega
      · rw [fo9, fo9_app Nat.add_assoc Nat.zero_add, a3, b3]
        show (if 2 ≤ c then 1 else 0) + (ms_ (fn_ L) a c - 1 + (c - ms_ (fn_ L) a c - 1)) = c - 1
        rw [if_pos hc]
        omega
      · rw [fo9, fo9_app or_as or_0l, a4, b4]
        show (if 2 ≤ c then nI 1 <<< (fub_ (fn_ L a) (fn_ L (a + c - 1)) &&& 31) else 0) ||| (x.2.2 ||| y.2.2) = nI 1 <<< (nI t &&& 31) ||| x.2.2 ||| y.2.2
        rw [if_pos hc, e, or_as]
    · rw [if_neg hc]
      have e1 : c = 1 := by omega
      subst e1
      have hbn : bt_ R = -1 := by rw [hbt, show a + 1 - 1 = a by omega, fub_, if_pos (by simp)]
      rw [pth_n hbn]
      refine ⟨?_, ?_, ?_, ?_⟩
      · show max q 0 = q + 0; omega
      · show (if 2 ≤ 1 then 0 else q) + 0 = q * 1 + 0; simp
      · show (if 2 ≤ 1 then 1 else 0) + 0 = 1 - 1; simp
      · show (if 2 ≤ 1 then _ else (0 : Int32)) ||| 0 = 0; simp
/-- the table's own sums -/
theorem tb_sum {L : g_L} (h : vL_ L) (h24 : L.length ≤ 48) : ∀ k, k ≤ (tN_ (fn_ L) L.length).length → lg_ (tb_ L 7) k = nI (lgX ((tN_ (fn_ L) L.length).take k)) ∧ ap_ (tb_ L 0) (tb_ L 7) k = nI (apX ((tN_ (fn_ L) L.length).take k)) ∧ pc_ (tb_ L 0) k = pcX ((tN_ (fn_ L) L.length).take k) ∧ pb_ (tb_ L 0) k = pbX (fn_ L) ((tN_ (fn_ L) L.length).take k) ∧ lgX ((tN_ (fn_ L) L.length).take k) ≤ L.length
  | 0, _ => ⟨rfl, rfl, rfl, rfl, Nat.zero_le _⟩
  | k + 1, hk => by
    obtain ⟨i1, i2, i3, i4, i5⟩ := tb_sum h h24 k (by omega)
    have hlt : k < (tN_ (fn_ L) L.length).length := by omega
    have en := List.getElem?_eq_getElem hlt
    obtain ⟨n1, n2, n3, n4, n5⟩ := nd_ok h en
    have hpost : (tb_ L 0 k = -1) ↔ ¬ 2 ≤ ((tN_ (fn_ L) L.length)[k]).2.1 := by
      rw [tb_at en]
      constructor
      · intro e h2
        obtain ⟨t, ht, et, -⟩ := sg_top h h2 n2
        have e3 : nI t = -1 := et.symm.trans e
        have q := nI_pos (show t < 2 ^ 31 by omega)
        rw [e3] at q
        exact q (by decide)
      · intro h2
        show fub_ _ _ = -1
        rw [show ((tN_ (fn_ L) L.length)[k]).1 + ((tN_ (fn_ L) L.length)[k]).2.1 - 1 = ((tN_ (fn_ L) L.length)[k]).1 by omega, fub_, if_pos (by simp)]
    have e7 : tb_ L 7 k = nI ((tN_ (fn_ L) L.length)[k]).2.2.1 := by rw [tb_at en]; rfl
    have e0 : tb_ L 0 k = fub_ (fn_ L ((tN_ (fn_ L) L.length)[k]).1) (fn_ L (((tN_ (fn_ L) L.length)[k]).1 + ((tN_ (fn_ L) L.length)[k]).2.1 - 1)) := by rw [tb_at en]; rfl
    unfold lgX apX pcX pbX at *
    rw [fo9_tk mx_as mx_0l mx_0r hlt, fo9_tk Nat.add_assoc Nat.zero_add Nat.add_zero hlt, fo9_tk Nat.add_assoc Nat.zero_add Nat.add_zero hlt, fo9_tk or_as or_0l or_0r hlt]
    refine ⟨?_, ?_, ?_, ?_, ?_⟩
    · rw [lg_, i1, e7]
      exact im_n (by omega) (by omega)
    · rw [ap_, i2, e7]
      by_cases hc : 2 ≤ ((tN_ (fn_ L) L.length)[k]).2.1
      · rw [if_neg (fun e => hpost.mp e hc), if_pos hc]; rfl
      · rw [if_pos (hpost.mpr hc), if_neg hc, nI_add]
    · rw [pc_, i3]
      by_cases hc : 2 ≤ ((tN_ (fn_ L) L.length)[k]).2.1
      · rw [if_neg (fun e => hpost.mp e hc), if_pos hc]
      · rw [if_pos (hpost.mpr hc), if_neg hc]
    · rw [pb_, i4]
      by_cases hc : 2 ≤ ((tN_ (fn_ L) L.length)[k]).2.1
      · rw [if_neg (fun e => hpost.mp e hc), if_pos hc, e0]; rfl
      · rw [if_pos (hpost.mpr hc), if_neg hc, or_0r]
    · omega
theorem sg_map {L : g_L} : sg_ (fn_ L) 0 L.length = L.map Prod.fst := by
  apply List.ext_getElem
  · simp [sg_]
  · intro i h1 h2
    simp only [sg_, List.getElem_map, List.getElem_range, Nat.zero_add]
    have hi : i < L.length := by simpa [sg_] using h1
    unfold fn_
    rw [List.getD_eq_getElem?_getD, List.getElem?_eq_getElem hi]
    rfl
/-- what is told of a wood, by a row of its names in any order -/
theorem cn_row {L : g_L} (h : vL_ L) (h24 : L.length ≤ 48) {R : List Int32} (hR : R.Perm (L.map Prod.fst)) {k : Nat} (hk : R.length ≤ k) (hk1 : 1 ≤ k) : cn_ L 0 = nI R.length ∧ cn_ L 1 = nI (R.length - 1) ∧ cn_ L 2 = nI (pth_ k R).1 ∧ cn_ L 3 = nI (pth_ k R).2.1 ∧ cn_ L 4 = (if R.length = 0 then 0 else nI 15 - bt_ R) ∧ cn_ L 5 = (pth_ k R).2.2 := by
  have hl : R.length = L.length := by rw [hR.length_eq, List.length_map]
  by_cases h0 : L.length = 0
  · have e : L = [] := List.length_eq_zero_iff.mp h0
    subst e
    have e2 : R = [] := List.length_eq_zero_iff.mp hl
    subst e2
    obtain ⟨j, rfl⟩ : ∃ j, k = j + 1 := ⟨k - 1, by omega⟩
    have hb : bt_ [] = -1 := by rcases bt_r [] with q | ⟨b, -, -, b1, b2⟩; exact q; simp at b2
    rw [pth_n hb]
    exact ⟨rfl, rfl, rfl, rfl, rfl, rfl⟩
  · have hR2 : R.Perm (sg_ (fn_ L) 0 L.length) := by rw [sg_map]; exact hR
    obtain ⟨s1, s2, s3, s4⟩ := tr_sum h L.length k 0 L.length 0 0 R (by omega) (Nat.le_refl _) (by omega) (by omega) hR2
    obtain ⟨t1, t2, t3, t4, -⟩ := tb_sum h h24 _ (Nat.le_refl _)
    rw [List.take_length] at t1 t2 t3 t4
    rw [tN_len (gs_of h)] at t1 t2 t3 t4
    refine ⟨by rw [hl]; rfl, ?_, ?_, ?_, ?_, ?_⟩
    · show nI (pc_ (tb_ L 0) (zs_ L.length)) = _
      rw [t3, s3, hl]
    · show lg_ (tb_ L 7) (zs_ L.length) = _
      rw [t1, s1, Nat.zero_add]
    · show ap_ (tb_ L 0) (tb_ L 7) (zs_ L.length) = _
      rw [t2, s2, Nat.zero_mul, Nat.zero_add]
    · show hs_ L 0 L.length = _
      rw [hs_, if_pos (by omega), if_neg (by omega), bt_pm hR2, bt_sg h (by omega) (by omega), Nat.zero_add]
    · show pb_ (tb_ L 0) (zs_ L.length) = _
      rw [t4, s4]
theorem me_ok {L : g_L} (h : vL_ L) (h24 : L.length ≤ 24) (h0 : L.length ≠ 0) : vf_n64 (me_ L) := by
  rw [me_, if_neg h0]
  refine me_num h h0 h24 (fun q nd hq j _ => tb_at hq)
/-! PURE: rows beside each other -/
def mi_ (M : List Int32) : Int32 := fo9 (· + ·) 0 id M
theorem ia_as (x y z : Int32) : x + y + z = x + (y + z) := Int32.add_assoc x y z
theorem ia_0 (x : Int32) : 0 + x = x := Int32.zero_add x
theorem ia_r (x : Int32) : x + 0 = x := Int32.add_zero x
theorem ia_c (x y : Int32) : x + y = y + x := Int32.add_comm x y
theorem mi_s {M : List Int32} {i : Nat} (h : i < M.length) : mi_ (M.take (i + 1)) = mi_ (M.take i) + M.getD i 0 := by
  unfold mi_
  rw [fo9_tk ia_as ia_0 ia_r h, List.getD_eq_getElem?_getD, List.getElem?_eq_getElem h]
  rfl
theorem sm_mi {L : g_L} : ∀ k, k ≤ L.length → sm_ L 0 k = mi_ ((L.map Prod.snd).take k)
  | 0, _ => rfl
  | k + 1, hk => by
    rw [sm_, sm_mi k (by omega), mi_s (by rw [List.length_map]; omega), Nat.zero_add]
    congr 1
    unfold gn_
    simp only [List.getD_eq_getElem?_getD, List.getElem?_map, List.getElem?_eq_getElem (show k < L.length by omega)]
    rfl
theorem cn_6 {L : g_L} {M : List Int32} (hM : M.Perm (L.map Prod.snd)) : cn_ L 6 = mi_ M := by
  show sm_ L 0 (L.length - 0) = _
  rw [sm_mi _ (by omega), tk_all (by rw [List.length_map]; omega)]
  exact fo9_pm ia_as ia_c hM.symm
theorem mo_mem {L : g_L} (h : vL_ L) {x y : Int32} (hm : (x, y) ∈ L) : mo_ L x = y := by
  obtain ⟨j, hj, e⟩ := List.getElem_of_mem hm
  have ef : fn_ L j = x := by unfold fn_; rw [List.getD_eq_getElem?_getD, List.getElem?_eq_getElem hj, e]; rfl
  have eg : gn_ L j = y := by unfold gn_; rw [List.getD_eq_getElem?_getD, List.getElem?_eq_getElem hj, e]; rfl
  have hr : rk_ L x = j := rk_eq (by omega) (fun i hi => by rw [← ef]; exact vL_mono h hi hj) (fun _ => by rw [ef]; exact Int32.lt_irrefl)
  rw [mo_, hr, if_pos ef, eg]
/-- the law's rows hold the class's woods -/
def SR_ (Ls : Nat → g_L) (N M : Nat → List Int32) : Prop := ∀ w, w ≤ 1 → (M w).length = (N w).length ∧ ((N w).zip (M w)).Perm (Ls w)
theorem SR_N {Ls : Nat → g_L} {N M : Nat → List Int32} (h : SR_ Ls N M) {w : Nat} (hw : w ≤ 1) : (N w).Perm ((Ls w).map Prod.fst) := by
  obtain ⟨h1, h2⟩ := h w hw
  have := h2.map Prod.fst
  rwa [List.map_fst_zip (by omega)] at this
theorem SR_M {Ls : Nat → g_L} {N M : Nat → List Int32} (h : SR_ Ls N M) {w : Nat} (hw : w ≤ 1) : (M w).Perm ((Ls w).map Prod.snd) := by
  obtain ⟨h1, h2⟩ := h w hw
  have := h2.map Prod.snd
  rwa [List.map_snd_zip (by omega)] at this
theorem SR_len {Ls : Nat → g_L} {N M : Nat → List Int32} (h : SR_ Ls N M) {w : Nat} (hw : w ≤ 1) : (N w).length = (Ls w).length := by rw [(SR_N h hw).length_eq, List.length_map]
theorem SR_mo {Ls : Nat → g_L} {N M : Nat → List Int32} (hv : vC_ Ls) (h : SR_ Ls N M) {w k : Nat} (hw : w ≤ 1) (hk : k < (N w).length) : mo_ (Ls w) ((N w).getD k 0) = (M w).getD k 0 := by
  obtain ⟨h1, h2⟩ := h w hw
  refine mo_mem (hv w hw).1 (h2.mem_iff.mp ?_)
  have hz : k < ((N w).zip (M w)).length := by rw [List.length_zip]; omega
  have e : ((N w).zip (M w))[k] = ((N w).getD k 0, (M w).getD k 0) := by
    rw [List.getElem_zip]
    simp only [List.getD_eq_getElem?_getD, List.getElem?_eq_getElem hk, List.getElem?_eq_getElem (show k < (M w).length by omega)]
    rfl
  rw [← e]
  exact List.getElem_mem hz
theorem fn_mem {L : g_L} {x : Int32} (h : x ∈ L.map Prod.fst) : ∃ j, j < L.length ∧ fn_ L j = x := by
  rw [← sg_map] at h
  obtain ⟨j, hj, e⟩ := sg_mem.mp h
  rw [Nat.zero_add] at e
  exact ⟨j, hj, e⟩
theorem nm_fn {L : g_L} (h : vL_ L) {j : Nat} (hj : j < L.length) : nm1_ (fn_ L j) := ⟨Int32.not_lt.mpr (h.2.1 j hj).1, Int32.not_lt.mpr (h.2.1 j hj).2⟩
theorem SR_rn {Ls : Nat → g_L} {N M : Nat → List Int32} (hv : vC_ Ls) (h : SR_ Ls N M) {w : Nat} (hw : w ≤ 1) : rn_ (N w) := fun x hx => by
  obtain ⟨j, hj, rfl⟩ := fn_mem ((SR_N h hw).mem_iff.mp hx)
  exact nm_fn (hv w hw).1 hj
