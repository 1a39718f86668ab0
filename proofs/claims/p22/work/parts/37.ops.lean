/-! PURE: the law's own woods, as pairs in any order, beside the class's -/
theorem pm_er {α : Type} : ∀ (l : List α) (i : Nat) (h : i < l.length), l.Perm (l[i] :: l.eraseIdx i)
  | [], i, h => absurd h (Nat.not_lt_zero i)
  | x :: t, 0, _ => List.Perm.refl _
  | x :: t, i + 1, h => ((pm_er t i (by simpa using h)).cons x).trans (List.Perm.swap _ _ _)
theorem pm_set {α : Type} (a : α) : ∀ (l : List α) (i : Nat), i < l.length → (l.set i a).Perm (a :: l.eraseIdx i)
  | [], i, h => absurd h (Nat.not_lt_zero i)
  | x :: t, 0, _ => List.Perm.refl _
  | x :: t, i + 1, h => ((pm_set a t i (by simpa using h)).cons x).trans (List.Perm.swap _ _ _)
abbrev g_Z : Type := Nat → g_L
def nZ (Z : g_Z) (w : Nat) : List Int32 := (Z w).map Prod.fst
def mZ (Z : g_Z) (w : Nat) : List Int32 := (Z w).map Prod.snd
def SZ_ (Ls : Nat → g_L) (Z : g_Z) : Prop := ∀ w, w ≤ 1 → (Z w).Perm (Ls w)
theorem zip_ms : ∀ (l : g_L), (l.map Prod.fst).zip (l.map Prod.snd) = l
  | [] => rfl
  | p :: t => by simp [zip_ms t]
theorem SZ_R {Ls : Nat → g_L} {Z : g_Z} (h : SZ_ Ls Z) : SR_ Ls (nZ Z) (mZ Z) := fun w hw => ⟨by simp [nZ, mZ], by unfold nZ mZ; rw [zip_ms]; exact h w hw⟩
theorem nZ_len {Z : g_Z} {w : Nat} : (nZ Z w).length = (Z w).length := by simp [nZ]
theorem mZ_len {Z : g_Z} {w : Nat} : (mZ Z w).length = (Z w).length := by simp [mZ]
theorem SZ_len {Ls : Nat → g_L} {Z : g_Z} (h : SZ_ Ls Z) {w : Nat} (hw : w ≤ 1) : (Z w).length = (Ls w).length := (h w hw).length_eq
theorem nZ_up {Z : g_Z} {w : Nat} {L : g_L} : va_up (nZ Z) w (L.map Prod.fst) = nZ (va_up Z w L) := by
  funext v; unfold nZ va_up; split <;> rfl
theorem mZ_up {Z : g_Z} {w : Nat} {L : g_L} : va_up (mZ Z) w (L.map Prod.snd) = mZ (va_up Z w L) := by
  funext v; unfold mZ va_up; split <;> rfl
theorem up_at {α : Type} {f : Nat → α} {w : Nat} {x : α} : va_up f w x w = x := va_up_self f w x
theorem up_ot {α : Type} {f : Nat → α} {w : Nat} {x : α} (hw : w ≤ 1) : va_up f w x (1 - w) = f (1 - w) := va_up_ne f x (by omega)
theorem up_ot2 {α : Type} {f : Nat → α} {w : Nat} {x : α} (hw : w ≤ 1) : va_up f (1 - w) x w = f w := va_up_ne f x (by omega)
theorem SZ_up {Ls : Nat → g_L} {Z : g_Z} {w : Nat} {L L2 : g_L} (h : SZ_ Ls Z) (hp : L.Perm L2) : SZ_ (ul_ Ls w L2) (va_up Z w L) := fun v hv => by
  unfold ul_ va_up
  split
  · exact hp
  · exact h v hv
theorem ix9_at : ∀ (R : List Int32) (x : Int32), ix9 R x < R.length → R.getD (ix9 R x) 0 = x
  | [], x, h => absurd h (Nat.not_lt_zero _)
  | y :: t, x, h => by
    rw [ix9] at h ⊢
    by_cases e : y = x
    · rw [if_pos e]; simpa using e
    · rw [if_neg e] at h ⊢
      have := ix9_at t x (by simpa using h)
      simpa using this
theorem ix9_mem {R : List Int32} {x : Int32} : ix9 R x < R.length ↔ x ∈ R := by
  constructor
  · intro h
    have := gD_mem h
    rwa [ix9_at R x h] at this
  · induction R with
    | nil => intro h; simp at h
    | cons y t ih =>
      intro h
      rw [ix9]
      by_cases e : y = x
      · rw [if_pos e]; simp
      · rw [if_neg e]
        rcases List.mem_cons.mp h with q | q
        · exact absurd q.symm e
        · have := ih q
          simp only [List.length_cons]; omega
theorem mem_fst {L : g_L} {x : Int32} : x ∈ L.map Prod.fst ↔ ∃ y, (x, y) ∈ L := by
  constructor
  · intro h
    obtain ⟨p, hp, e⟩ := List.mem_map.mp h
    exact ⟨p.2, by rw [← e]; exact hp⟩
  · rintro ⟨y, h⟩
    exact List.mem_map.mpr ⟨_, h, rfl⟩
theorem mo_no {L : g_L} (h : vL_ L) {x : Int32} (hx : x ≠ -1) (hn : x ∉ L.map Prod.fst) : mo_ L x = -1 := by
  refine (mo_not h hx).mpr (fun e => hn ?_)
  have hlt := fn_in e hx
  rw [← sg_map]
  exact sg_mem.mpr ⟨rk_ L x, hlt, by rw [Nat.zero_add]; exact e⟩
theorem rk_mem {L : g_L} (h : vL_ L) {x y : Int32} (hm : (x, y) ∈ L) : ∃ hr : rk_ L x < L.length, L[rk_ L x] = (x, y) := by
  obtain ⟨j, hj, e⟩ := List.getElem_of_mem hm
  have ef : fn_ L j = x := by unfold fn_; rw [List.getD_eq_getElem?_getD, List.getElem?_eq_getElem hj, e]; rfl
  have hr : rk_ L x = j := rk_eq (by omega) (fun i hi => by rw [← ef]; exact vL_mono h hi hj) (fun _ => by rw [ef]; exact Int32.lt_irrefl)
  exact ⟨by omega, by simp only [hr]; exact e⟩
/-- a village of the law's row -/
theorem Z_at {Z : g_L} {k : Nat} (hk : k < Z.length) : Z[k] = ((Z.map Prod.fst).getD k 0, (Z.map Prod.snd).getD k 0) := by
  simp only [List.getD_eq_getElem?_getD, List.getElem?_map, List.getElem?_eq_getElem hk]
  rfl
theorem Z_ix {Z : g_L} {x : Int32} (h : ix9 (Z.map Prod.fst) x < Z.length) : Z[ix9 (Z.map Prod.fst) x] = (x, (Z.map Prod.snd).getD (ix9 (Z.map Prod.fst) x) 0) := by
  rw [Z_at h, ix9_at _ _ (by rw [List.length_map]; exact h)]
theorem fd_y {L Z : g_L} (hv : vL_ L) (hp : Z.Perm L) {x : Int32} (h : ix9 (Z.map Prod.fst) x < Z.length) : mo_ L x = (Z.map Prod.snd).getD (ix9 (Z.map Prod.fst) x) 0 :=
  mo_mem hv (hp.mem_iff.mp (by rw [← Z_ix h]; exact List.getElem_mem h))
theorem fd_n {L Z : g_L} (hv : vL_ L) (hp : Z.Perm L) {x : Int32} (hx : x ≠ -1) (h : ¬ ix9 (Z.map Prod.fst) x < Z.length) : mo_ L x = -1 := by
  refine mo_no hv hx (fun hm => h ?_)
  have := ix9_mem.mpr ((hp.map Prod.fst).mem_iff.mpr hm)
  rwa [List.length_map] at this
theorem mo_0 {L : g_L} (hv : vL_ L) {Z : g_L} (hp : Z.Perm L) {x : Int32} (h : ix9 (Z.map Prod.fst) x < Z.length) : 0 ≤ (Z.map Prod.snd).getD (ix9 (Z.map Prod.fst) x) 0 ∧ (Z.map Prod.snd).getD (ix9 (Z.map Prod.fst) x) 0 ≤ 999 := by
  have hm := hp.mem_iff.mp (List.getElem_mem h)
  rw [Z_ix h] at hm
  obtain ⟨hr, e⟩ := rk_mem hv hm
  have h3 := hv.2.2 _ hr
  unfold gn_ at h3
  rw [List.getD_eq_getElem?_getD, List.getElem?_eq_getElem hr, e] at h3
  exact h3
/-! take -/
theorem tz_pm {L Z : g_L} (hv : vL_ L) (hp : Z.Perm L) {x : Int32} (h : ix9 (Z.map Prod.fst) x < Z.length) : (Z.eraseIdx (ix9 (Z.map Prod.fst) x)).Perm (L.eraseIdx (rk_ L x)) := by
  have hm := hp.mem_iff.mp (List.getElem_mem h)
  have hz := Z_ix h
  rw [hz] at hm
  obtain ⟨hr, e⟩ := rk_mem hv hm
  have p1 := pm_er Z _ h
  have p2 := pm_er L _ hr
  rw [hz] at p1
  rw [e] at p2
  exact (p1.symm.trans (hp.trans p2)).cons_inv
/-! put -/
def pZ (Z : g_L) (x y : Int32) : g_L := if ix9 (Z.map Prod.fst) x < Z.length then Z.set (ix9 (Z.map Prod.fst) x) (x, y) else Z ++ [(x, y)]
theorem pz_pm {L Z : g_L} (hv : vL_ L) (hp : Z.Perm L) {x y : Int32} (hx : x ≠ -1) : (pZ Z x y).Perm (st_ L x y) := by
  by_cases h : ix9 (Z.map Prod.fst) x < Z.length
  · have hm := hp.mem_iff.mp (List.getElem_mem h)
    rw [Z_ix h] at hm
    obtain ⟨hr, e⟩ := rk_mem hv hm
    have hf : fn_ L (rk_ L x) = x := by unfold fn_; rw [List.getD_eq_getElem?_getD, List.getElem?_eq_getElem hr, e]; rfl
    rw [pZ, if_pos h, st_, if_pos hf]
    exact (pm_set _ _ _ h).trans (((tz_pm hv hp h).cons _).trans (pm_set _ _ _ hr).symm)
  · have hn : ¬ fn_ L (rk_ L x) = x := (mo_not hv hx).mp (fd_n hv hp hx h)
    rw [pZ, if_neg h, st_, if_neg hn]
    refine (List.perm_append_singleton _ _).trans ((hp.cons _).trans ?_)
    rw [← List.take_append_drop (rk_ L x) L]
    refine (List.perm_middle.symm).trans ?_
    rw [List.take_append_drop]
theorem pN_Z {Z : g_Z} {w : Nat} {x y : Int32} : pN_ (nZ Z) w x = nZ (va_up Z w (pZ (Z w) x y)) := by
  unfold pN_ pZ
  rw [nZ_len]
  show (if ix9 ((Z w).map Prod.fst) x < (Z w).length then nZ Z else va_up (nZ Z) w ((Z w).map Prod.fst ++ [x])) = _
  by_cases h : ix9 ((Z w).map Prod.fst) x < (Z w).length
  · rw [if_pos h, if_pos h, ← nZ_up]
    have e : ((Z w).set (ix9 ((Z w).map Prod.fst) x) (x, y)).map Prod.fst = (Z w).map Prod.fst := by
      apply List.ext_getElem
      · simp
      · intro i h1 h2
        have h3 : i < (Z w).length := by simpa using h2
        simp only [List.getElem_map, List.getElem_set]
        split
        · next e2 =>
          have := ix9_at ((Z w).map Prod.fst) x (by rw [List.length_map]; exact h)
          rw [e2, List.getD_eq_getElem?_getD, List.getElem?_eq_getElem h2] at this
          simpa using this.symm
        · rfl
    rw [e]
    funext v
    unfold va_up
    split
    · next e3 => rw [e3]; rfl
    · rfl
  · rw [if_neg h, if_neg h, ← nZ_up, List.map_append]; rfl
theorem pM_Z {Z : g_Z} {w : Nat} {x y : Int32} : pM_ (nZ Z) (mZ Z) w x y = mZ (va_up Z w (pZ (Z w) x y)) := by
  unfold pM_ pZ
  rw [nZ_len]
  show (if ix9 ((Z w).map Prod.fst) x < (Z w).length then va_up (mZ Z) w (((Z w).map Prod.snd).set (ix9 ((Z w).map Prod.fst) x) y) else va_up (mZ Z) w ((Z w).map Prod.snd ++ [y])) = _
  by_cases h : ix9 ((Z w).map Prod.fst) x < (Z w).length
  · rw [if_pos h, if_pos h, ← mZ_up, List.map_set]
  · rw [if_neg h, if_neg h, ← mZ_up, List.map_append]; rfl
theorem er_map {α β : Type} (f : α → β) : ∀ (l : List α) (k : Nat), (l.map f).eraseIdx k = (l.eraseIdx k).map f
  | [], _ => rfl
  | x :: t, 0 => rfl
  | x :: t, k + 1 => by
    show f x :: (t.map f).eraseIdx k = f x :: (t.eraseIdx k).map f
    rw [er_map f t k]
theorem tN_Z {Z : g_Z} {w k : Nat} : va_up (nZ Z) w ((nZ Z w).eraseIdx k) = nZ (va_up Z w ((Z w).eraseIdx k)) := by
  rw [← nZ_up, ← er_map]; rfl
theorem tM_Z {Z : g_Z} {w k : Nat} : va_up (mZ Z) w ((mZ Z w).eraseIdx k) = mZ (va_up Z w ((Z w).eraseIdx k)) := by
  rw [← mZ_up, ← er_map]; rfl
/-! turn -/
def xz_ (Z : g_L) (b : Int32) : g_L := Z.map (fun p => (p.1 ^^^ b, p.2))
theorem st_new {L : g_L} {x y : Int32} (h : ¬ fn_ L (rk_ L x) = x) : (st_ L x y).Perm ((x, y) :: L) := by
  rw [st_, if_neg h]
  refine List.perm_middle.trans ?_
  rw [List.take_append_drop]
theorem cb_pm {L : g_L} {b : Int32} (h : vL_ L) (g0 : 0 ≤ b) (g1 : b ≤ 65535) : ∀ k, k ≤ L.length → (xz_ (L.take k) b).Perm (cb_ L b k)
  | 0, _ => List.Perm.refl _
  | k + 1, hk => by
    have ih := cb_pm h g0 g1 k (by omega)
    rw [cb_]
    refine List.Perm.trans ?_ (st_new (cb_no h g0 g1 (show k < L.length by omega))).symm
    have e : xz_ (L.take (k + 1)) b = xz_ (L.take k) b ++ [(fn_ L k ^^^ b, gn_ L k)] := by
      unfold xz_
      rw [List.take_succ_eq_append_getElem (by omega), List.map_append]
      unfold fn_ gn_
      simp [List.getD_eq_getElem?_getD, List.getElem?_eq_getElem (show k < L.length by omega)]
    rw [e]
    exact (List.perm_append_singleton _ _).trans (ih.cons _)
theorem xz_pm {L Z : g_L} {b : Int32} (h : vL_ L) (hp : Z.Perm L) (g0 : 0 ≤ b) (g1 : b ≤ 65535) : (xz_ Z b).Perm (cb_ L b L.length) := by
  have := cb_pm h g0 g1 L.length (Nat.le_refl _)
  rw [List.take_length] at this
  exact (hp.map _).trans this
/-! merge -/
def mgP (r : Nat) (T : g_L) : g_L → g_L
  | [] => T
  | p :: P => mgP r (st_ T p.1 (mgm_ r p.2 (mo_ T p.1))) P
theorem mgP_app {r : Nat} : ∀ (P P2 : g_L) (T : g_L), mgP r T (P ++ P2) = mgP r (mgP r T P) P2
  | [], _, _ => rfl
  | p :: P, P2, T => mgP_app P P2 _
theorem mg_P {r : Nat} {S T : g_L} : ∀ k, k ≤ S.length → mg_ r S T k = mgP r T (S.take k)
  | 0, _ => rfl
  | k + 1, hk => by
    rw [mg_, mg_P k (by omega), List.take_succ_eq_append_getElem (by omega), mgP_app]
    show _ = st_ _ (S[k]).1 (mgm_ r (S[k]).2 (mo_ _ (S[k]).1))
    unfold fn_ gn_
    rw [List.getD_eq_getElem?_getD, List.getElem?_eq_getElem (show k < S.length by omega)]
    rfl
/-- pairs of a valid wood -/
def okP (p : Int32 × Int32) : Prop := 0 ≤ p.1 ∧ p.1 ≤ 65535 ∧ 0 ≤ p.2 ∧ p.2 ≤ 999
theorem vL_okP {L : g_L} (h : vL_ L) : ∀ p ∈ L, okP p := fun p hp => by
  obtain ⟨j, hj, e⟩ := List.getElem_of_mem hp
  have h1 := h.2.1 j hj
  have h2 := h.2.2 j hj
  unfold fn_ at h1
  unfold gn_ at h2
  rw [List.getD_eq_getElem?_getD, List.getElem?_eq_getElem hj, e] at h1 h2
  exact ⟨h1.1, h1.2, h2.1, h2.2⟩
theorem vL_mgP {r : Nat} : ∀ (P : g_L) (T : g_L), (∀ p ∈ P, okP p) → vL_ T → vL_ (mgP r T P)
  | [], T, _, h => h
  | p :: P, T, hP, h => by
    obtain ⟨a1, a2, a3, a4⟩ := hP p List.mem_cons_self
    have hm := mgm_ok (r := r) ⟨a3, a4⟩ (mo_ok h (ne_m1 a1))
    exact vL_mgP P _ (fun q hq => hP q (List.mem_cons_of_mem _ hq)) (vL_st h a1 a2 hm.1 hm.2)
theorem st_ge {L : g_L} {x y : Int32} : L.length ≤ (st_ L x y).length := by rw [st_len]; split <;> omega
theorem mgP_ge {r : Nat} : ∀ (P : g_L) (T : g_L), T.length ≤ (mgP r T P).length
  | [], T => Nat.le_refl _
  | p :: P, T => Nat.le_trans st_ge (mgP_ge P _)
/-- a sorted list's members -/
theorem st_mem {L : g_L} (h : vL_ L) {a b x y : Int32} (ha : a ≠ -1) : (x, y) ∈ st_ L a b ↔ (x = a ∧ y = b) ∨ (x ≠ a ∧ (x, y) ∈ L) := by
  by_cases hf : fn_ L (rk_ L a) = a
  · have hlt := fn_in hf ha
    have e : L[rk_ L a] = (a, gn_ L (rk_ L a)) := by
      unfold fn_ at hf
      unfold gn_
      rw [List.getD_eq_getElem?_getD, List.getElem?_eq_getElem hlt] at hf ⊢
      exact Prod.ext hf rfl
    have p1 := pm_er L _ hlt
    have p2 : (st_ L a b).Perm ((a, b) :: L.eraseIdx (rk_ L a)) := by rw [st_, if_pos hf]; exact pm_set _ _ _ hlt
    rw [e] at p1
    have hnd : ∀ z, (a, z) ∉ L.eraseIdx (rk_ L a) := by
      intro z hz
      obtain ⟨j, hj, ej⟩ := List.getElem_of_mem hz
      have ej2 : fn_ (L.eraseIdx (rk_ L a)) j = a := by unfold fn_; rw [List.getD_eq_getElem?_getD, List.getElem?_eq_getElem hj, ej]; rfl
      rw [List.length_eraseIdx_of_lt hlt] at hj
      rw [fn_erase] at ej2
      by_cases c : j < rk_ L a
      · rw [if_pos c] at ej2
        have := vL_mono h c hlt
        rw [ej2, hf] at this
        exact Int32.lt_irrefl this
      · rw [if_neg c] at ej2
        have := vL_mono h (show rk_ L a < j + 1 by omega) (show j + 1 < L.length by omega)
        rw [ej2, hf] at this
        exact Int32.lt_irrefl this
    rw [p2.mem_iff, p1.mem_iff, List.mem_cons, List.mem_cons]
    constructor
    · rintro (q | q)
      · cases q; exact Or.inl ⟨rfl, rfl⟩
      · refine Or.inr ⟨fun e2 => ?_, Or.inr q⟩
        subst e2; exact hnd y q
    · rintro (⟨rfl, rfl⟩ | ⟨hne, q⟩)
      · exact Or.inl rfl
      · rcases q with q | q
        · cases q; exact absurd rfl hne
        · exact Or.inr q
  · have hn : a ∉ L.map Prod.fst := fun hm => by
      obtain ⟨j, hj, e⟩ := fn_mem hm
      have hr : rk_ L a = j := rk_eq (by omega) (fun i hi => by rw [← e]; exact vL_mono h hi hj) (fun _ => by rw [e]; exact Int32.lt_irrefl)
      exact hf (by rw [hr, e])
    rw [(st_new hf).mem_iff, List.mem_cons]
    constructor
    · rintro (q | q)
      · cases q; exact Or.inl ⟨rfl, rfl⟩
      · refine Or.inr ⟨fun e => ?_, q⟩
        subst e; exact hn (mem_fst.mpr ⟨y, q⟩)
    · rintro (⟨rfl, rfl⟩ | ⟨-, q⟩)
      · exact Or.inl rfl
      · exact Or.inr q
theorem mo_st {L : g_L} (h : vL_ L) {a b z : Int32} (ha : a ≠ -1) (hz : z ≠ -1) (hne : z ≠ a) (hv : vL_ (st_ L a b)) : mo_ (st_ L a b) z = mo_ L z := by
  by_cases hm : z ∈ L.map Prod.fst
  · obtain ⟨y, hy⟩ := mem_fst.mp hm
    rw [mo_mem h hy, mo_mem hv ((st_mem h ha).mpr (Or.inr ⟨hne, hy⟩))]
  · rw [mo_no h hz hm]
    refine mo_no hv hz (fun hq => hm ?_)
    obtain ⟨y, hy⟩ := mem_fst.mp hq
    rcases (st_mem h ha).mp hy with ⟨e, -⟩ | ⟨-, q⟩
    · exact absurd e hne
    · exact mem_fst.mpr ⟨y, q⟩
/-- the merged wood's members -/
theorem mgP_mem {r : Nat} : ∀ (P : g_L) (T : g_L), (∀ p ∈ P, okP p) → vL_ T → (P.map Prod.fst).Nodup → ∀ x y, (x, y) ∈ mgP r T P ↔ (∃ z, (x, z) ∈ P ∧ y = mgm_ r z (mo_ T x)) ∨ (x ∉ P.map Prod.fst ∧ (x, y) ∈ T)
  | [], T, _, h, _, x, y => by simp [mgP]
  | p :: P, T, hP, h, hnd, x, y => by
    obtain ⟨a1, a2, a3, a4⟩ := hP p List.mem_cons_self
    have hm := mgm_ok (r := r) ⟨a3, a4⟩ (mo_ok h (ne_m1 a1))
    have hv := vL_st h a1 a2 hm.1 hm.2
    rw [List.map_cons, List.nodup_cons] at hnd
    rw [mgP, mgP_mem P _ (fun q hq => hP q (List.mem_cons_of_mem _ hq)) hv hnd.2 x y]
    constructor
    · rintro (⟨z, hz, e⟩ | ⟨hx, hq⟩)
      · have hxp : x ≠ p.1 := fun e2 => hnd.1 (by rw [← e2]; exact mem_fst.mpr ⟨z, hz⟩)
        have hx1 := ne_m1 (hP _ (List.mem_cons_of_mem _ hz)).1
        rw [mo_st h (ne_m1 a1) hx1 hxp hv] at e
        exact Or.inl ⟨z, List.mem_cons_of_mem _ hz, e⟩
      · rcases (st_mem h (ne_m1 a1)).mp hq with ⟨e1, e2⟩ | ⟨hne, q⟩
        · exact Or.inl ⟨p.2, by rw [e1]; exact List.mem_cons_self, by rw [e2, e1]⟩
        · exact Or.inr ⟨by rw [List.map_cons, List.mem_cons]; rintro (e | e); exact hne e; exact hx e, q⟩
    · rintro (⟨z, hz, e⟩ | ⟨hx, q⟩)
      · rcases List.mem_cons.mp hz with e3 | hz2
        · have e4 : x = p.1 := congrArg Prod.fst e3
          have e5 : z = p.2 := congrArg Prod.snd e3
          refine Or.inr ⟨by rw [e4]; exact hnd.1, (st_mem h (ne_m1 a1)).mpr (Or.inl ⟨e4, by rw [e, e5, e4]⟩)⟩
        · have hxp : x ≠ p.1 := fun e2 => hnd.1 (by rw [← e2]; exact mem_fst.mpr ⟨z, hz2⟩)
          have hx1 := ne_m1 (hP _ (List.mem_cons_of_mem _ hz2)).1
          exact Or.inl ⟨z, hz2, by rw [mo_st h (ne_m1 a1) hx1 hxp hv]; exact e⟩
      · rw [List.map_cons, List.mem_cons] at hx
        exact Or.inr ⟨fun q2 => hx (Or.inr q2), (st_mem h (ne_m1 a1)).mpr (Or.inr ⟨fun e => hx (Or.inl e), q⟩)⟩
theorem vL_pw {L : g_L} (h : vL_ L) : L.Pairwise (fun p q => p.1 < q.1) := by
  rw [List.pairwise_iff_getElem]
  intro i j hi hj hij
  have := vL_mono h hij hj
  unfold fn_ at this
  rwa [List.getD_eq_getElem?_getD, List.getElem?_eq_getElem hi, List.getD_eq_getElem?_getD, List.getElem?_eq_getElem hj] at this
theorem vL_nd {L : g_L} (h : vL_ L) : (L.map Prod.fst).Nodup := by
  rw [List.Nodup, List.pairwise_map]
  exact (vL_pw h).imp (fun hlt e => by rw [e] at hlt; exact Int32.lt_irrefl hlt)
theorem vL_nd2 {L : g_L} (h : vL_ L) : L.Nodup := (vL_pw h).imp (fun hlt e => by rw [e] at hlt; exact Int32.lt_irrefl hlt)
/-- woods with the same members are one -/
theorem vL_ext {L M : g_L} (hL : vL_ L) (hM : vL_ M) (h : ∀ x y, (x, y) ∈ L ↔ (x, y) ∈ M) : L = M := by
  refine List.Perm.eq_of_pairwise (le := fun p q => p.1 < q.1) (fun a b _ _ h1 h2 => absurd (Int32.lt_trans h1 h2) Int32.lt_irrefl) (vL_pw hL) (vL_pw hM) ?_
  exact (List.perm_ext_iff_of_nodup (vL_nd2 hL) (vL_nd2 hM)).mpr (fun p => h p.1 p.2)
theorem vL_pm {L M : g_L} (hL : vL_ L) (hM : vL_ M) (h : L.Perm M) : L = M := vL_ext hL hM (fun _ _ => h.mem_iff)
theorem mgP_pm {r : Nat} {S Z T : g_L} (hS : vL_ S) (hp : Z.Perm S) (hT : vL_ T) : mgP r T Z = mg_ r S T S.length := by
  rw [mg_P _ (Nat.le_refl _), List.take_length]
  have hZ : ∀ p ∈ Z, okP p := fun p q => vL_okP hS p (hp.mem_iff.mp q)
  refine vL_ext (vL_mgP Z T hZ hT) (vL_mgP S T (vL_okP hS) hT) (fun x y => ?_)
  rw [mgP_mem Z T hZ hT ((hp.map Prod.fst).symm.nodup (vL_nd hS)), mgP_mem S T (vL_okP hS) hT (vL_nd hS)]
  simp only [hp.mem_iff, (hp.map Prod.fst).mem_iff]
/-- how many are in both -/
def cz_ (T : g_L) (R : List Int32) : Nat := fo9 (· + ·) 0 (fun x => if mo_ T x = -1 then 0 else 1) R
theorem cz_s {T : g_L} {R : List Int32} {i : Nat} (h : i < R.length) : cz_ T (R.take (i + 1)) = cz_ T (R.take i) + if mo_ T (R.getD i 0) = -1 then 0 else 1 := by
  unfold cz_
  rw [fo9_tk Nat.add_assoc Nat.zero_add Nat.add_zero h, List.getD_eq_getElem?_getD, List.getElem?_eq_getElem h]
  rfl
theorem cz_cm {S T : g_L} : ∀ k, k ≤ S.length → cz_ T ((S.map Prod.fst).take k) = cm_ S T k
  | 0, _ => rfl
  | k + 1, hk => by
    rw [cz_s (by rw [List.length_map]; omega), cz_cm k (by omega), cm_]
    congr 2
    unfold fn_
    simp only [List.getD_eq_getElem?_getD, List.getElem?_map, List.getElem?_eq_getElem (show k < S.length by omega)]
    rfl
theorem cz_pm {S T : g_L} {R : List Int32} (hp : R.Perm (S.map Prod.fst)) : cz_ T R = cm_ S T S.length := by
  rw [← cz_cm _ (Nat.le_refl _), tk_all (by rw [List.length_map]; exact Nat.le_refl _)]
  exact fo9_pm Nat.add_assoc Nat.add_comm hp
theorem cz_le {T : g_L} : ∀ (R : List Int32), cz_ T R ≤ R.length
  | [] => Nat.le_refl _
  | x :: t => by
    have := cz_le (T := T) t
    unfold cz_ at *
    rw [fo9, List.length_cons]
    split <;> omega
/-! cut -/
theorem tk_fl {L : g_L} (h : vL_ L) {x : Int32} : L.take (rk_ L x) = L.filter (fun p => decide (p.1 < x)) ∧ L.drop (rk_ L x) = L.filter (fun p => !decide (p.1 < x)) := by
  have hk := rk_le L x
  have h1 : ∀ p ∈ L.take (rk_ L x), p.1 < x := by
    intro p hp
    obtain ⟨j, hj, e⟩ := List.getElem_of_mem hp
    rw [List.length_take] at hj
    have := rk_lt L x j (by omega)
    unfold fn_ at this
    rw [List.getD_eq_getElem?_getD, List.getElem?_eq_getElem (show j < L.length by omega)] at this
    rw [List.getElem_take] at e
    rw [← e]; exact this
  have h2 : ∀ p ∈ L.drop (rk_ L x), ¬ p.1 < x := by
    intro p hp
    obtain ⟨j, hj, e⟩ := List.getElem_of_mem hp
    rw [List.length_drop] at hj
    have h3 := rk_at L x (by omega)
    have h4 := vL_le h (show rk_ L x ≤ rk_ L x + j by omega) (by omega)
    rw [List.getElem_drop] at e
    have h5 : fn_ L (rk_ L x + j) = p.1 := by unfold fn_; rw [List.getD_eq_getElem?_getD, List.getElem?_eq_getElem (show rk_ L x + j < L.length by omega), e]; rfl
    rw [h5] at h4
    exact fun q => h3 (Int32.lt_of_le_of_lt h4 q)
  have e : L = L.take (rk_ L x) ++ L.drop (rk_ L x) := (List.take_append_drop _ _).symm
  constructor
  · conv => rhs; rw [e]
    rw [List.filter_append, fl_all _ (fun p hp => by simpa using h1 p hp), fl_no _ (fun p hp => by simpa using h2 p hp), List.append_nil]
  · conv => rhs; rw [e]
    rw [List.filter_append, fl_no _ (fun p hp => by simpa using h1 p hp), fl_all _ (fun p hp => by simpa using h2 p hp), List.nil_append]
