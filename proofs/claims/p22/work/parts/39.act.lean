/-! THE LAW'S OWN WOODS, as pairs; the class's calls that throw for sure -/
theorem z_put (l : Launch) (D : va_G) (q : Nat → Nat) (Z : g_Z) (w : Nat) (x y : Int32) (hw : w ≤ 1) (hn : (Z w).length ≤ 24) (hD0 : va_D (fun _ => True) (h_SW D q (nZ Z) (mZ Z))) : h_M l D yX3_put cX3_put 5 none m_X3_put_rm [.ref (q 0), .int (nI w), .int x, .int y] none [] (h_SW D q (nZ Z) (mZ Z)) (fun v1 w1 => v1 = none ∧ ∃ q1 : Nat → Nat, q1 0 = q 0 ∧ w1 = h_SW D q1 (nZ (va_up Z w (pZ (Z w) x y))) (mZ (va_up Z w (pZ (Z w) x y)))) := by
  have h := m_X3_put l D q (nZ Z) (mZ Z) w x y hw (by rw [nZ_len]; exact hn) (by rw [nZ_len, mZ_len]) hD0
  rw [pN_Z (y := y), pM_Z] at h
  exact h
theorem z_take (l : Launch) (D : va_G) (q : Nat → Nat) (Z : g_Z) (w : Nat) (x : Int32) (hw : w ≤ 1) (hn : (Z w).length ≤ 24) (hk9 : ix9 (nZ Z w) x < (nZ Z w).length) (hD0 : va_D (fun _ => True) (h_SW D q (nZ Z) (mZ Z))) : h_M l D yX3_take cX3_take 4 none m_X3_take_rm [.ref (q 0), .int (nI w), .int x] none [] (h_SW D q (nZ Z) (mZ Z)) (fun v1 w1 => v1 = none ∧ ∃ q1 : Nat → Nat, q1 0 = q 0 ∧ w1 = h_SW D q1 (nZ (va_up Z w ((Z w).eraseIdx (ix9 (nZ Z w) x)))) (mZ (va_up Z w ((Z w).eraseIdx (ix9 (nZ Z w) x))))) := by
  have h := m_X3_take l D q (nZ Z) (mZ Z) w x hw (by rw [nZ_len]; exact hn) (by rw [nZ_len, mZ_len]) hk9 hD0
  rw [tN_Z, tM_Z] at h
  exact h
theorem h_DT {A : Nat → Prop} {w xs : va_W} (hD : va_D A (w ++ xs)) : va_D (fun _ => True) xs := ⟨fun i j p q hi hj e => by have := hD.1 _ _ p q (h_xi hi) (h_xi hj) e; omega, fun _ _ _ => trivial⟩
theorem h_DTP {A : Nat → Prop} {w xs : va_W} (hD : va_D A (w ++ xs)) : va_D (fun _ => True) w := (h_Dprf hD).weaken (fun _ _ _ _ => trivial)
theorem g_X.E {l : Launch} {D : va_G} {y : MethodName} {cc : ByteArray} {nL : Nat} {ret : Option FieldType} {rm : Room} {av : List Value} {σ : Nat → va_E} {post : Option Value → (Nat → va_E) → Prop} {px : String → Prop} (h : g_X l D y cc nL ret rm av σ post px) (hn : ∀ v σ1, ¬ post v σ1) (hx : ∀ E, px E → E = g_E2) : g_Y l D y cc nL ret rm av σ (fun _ _ => False) (fun E σ1 => E = g_E2 ∧ σ = σ1) := by
  intro sz p e ha hc hk s m args below hf happ hP hK
  obtain ⟨n, o, h1, h2, h3, hQ⟩ := h sz p e ha hc hk s m args below hf happ hP hK
  refine ⟨n, o, h1, h2, h3, ?_⟩
  rcases hQ with ⟨⟨⟨v, σ', g1, g2, g3⟩, g4⟩, g5⟩ | ⟨q, ho, E, ce, L, ⟨hx1, hx2, hx3⟩, hr⟩
  · exact absurd g2 (hn v σ')
  · exact Or.inr ⟨q, ho, E, ce, L, ⟨σ, ⟨hx E hx1, rfl⟩, hx2, hx3⟩, hr⟩
set_option maxRecDepth 100000 in
set_option maxHeartbeats 4000000 in
theorem k_H_act : g_kH RL 83 yL_act cL_act 15 (some .boolean) [(97, 106, 109, 40), (241, 250, 253, 40), (538, 560, 561, 40), (672, 694, 695, 40), (788, 799, 802, 40)] 3 := ⟨g_mem 489 (by decide +kernel), g_mem 490 (by decide +kernel), g_mem 11 (by decide +kernel), g_mem 491 ⟨rfl, by decide +kernel⟩, ⟨by decide +kernel, by decide +kernel, by decide +kernel⟩⟩
/-! a row turned by bits, place by place -/
def xo_ (R : List Int32) (b : Int32) (i : Nat) : List Int32 := (R.take i).map (· ^^^ b) ++ R.drop i
theorem xo_0 {R : List Int32} {b : Int32} : xo_ R b 0 = R := by simp [xo_]
theorem xo_len {R : List Int32} {b : Int32} {i : Nat} : (xo_ R b i).length = R.length := by simp [xo_]; omega
theorem xo_at {R : List Int32} {b : Int32} {i : Nat} (h : i < R.length) : (xo_ R b i).getD i 0 = R.getD i 0 := by
  unfold xo_
  rw [List.getD_eq_getElem?_getD, List.getElem?_append_right (by simp; omega)]
  simp only [List.length_map, List.length_take, Nat.min_eq_left (Nat.le_of_lt h), Nat.sub_self, List.getElem?_drop, Nat.add_zero, List.getD_eq_getElem?_getD]
theorem xo_s {R : List Int32} {b : Int32} {i : Nat} (h : i < R.length) : (xo_ R b i).set i (R.getD i 0 ^^^ b) = xo_ R b (i + 1) := by
  unfold xo_
  have hd : R.drop i = R.getD i 0 :: R.drop (i + 1) := by
    rw [List.getD_eq_getElem?_getD, List.getElem?_eq_getElem h, List.drop_eq_getElem_cons h]; rfl
  rw [List.set_append_right (h := by simp; omega), tk_s h, List.map_append, List.append_assoc, hd]
  simp [Nat.min_eq_left (Nat.le_of_lt h)]
theorem xo_all {R : List Int32} {b : Int32} {i : Nat} (h : R.length ≤ i) : xo_ R b i = R.map (· ^^^ b) := by
  unfold xo_
  rw [tk_all h, List.drop_of_length_le h, List.append_nil]
theorem xN_Z {Z : g_Z} {w : Nat} {b : Int32} : va_up (nZ Z) w ((nZ Z w).map (· ^^^ b)) = nZ (va_up Z w (xz_ (Z w) b)) := by
  rw [← nZ_up]
  unfold nZ xz_
  rw [List.map_map, List.map_map]
  rfl
theorem xM_Z {Z : g_Z} {w : Nat} {b : Int32} : mZ Z = mZ (va_up Z w (xz_ (Z w) b)) := by
  funext v
  unfold mZ va_up xz_
  split
  · next e => subst e; rw [List.map_map]; rfl
  · rfl
theorem le_cb {L Z : g_L} {b : Int32} (h : vL_ L) (hp : Z.Perm L) (g0 : 0 ≤ b) (g1 : b ≤ 65535) (hn : L.length ≠ 0) : le_ ((Z.map Prod.fst).map (· ^^^ b)) = fn_ (cb_ L b L.length) 0 := by
  have hv := vL_cb h g0 g1 L.length (Nat.le_refl _)
  have hl := cb_sz h g0 g1 L.length (Nat.le_refl _)
  have hx := (xz_pm h hp g0 g1).map Prod.fst
  have e : (xz_ Z b).map Prod.fst = (Z.map Prod.fst).map (· ^^^ b) := by unfold xz_; rw [List.map_map, List.map_map]; rfl
  have e2 := sg_map (L := cb_ L b L.length)
  rw [hl] at e2
  rw [e, ← e2] at hx
  exact le_sg hv hx (by omega) (by omega)
/-! the law's cut -/
theorem nd_ne {A : g_L} (hn : (A.map Prod.fst).Nodup) {i j : Nat} (hi : i < A.length) (hj : j < A.length) (hij : i ≠ j) : (A[i]).1 ≠ (A[j]).1 := by
  intro e
  have h := List.pairwise_iff_getElem.mp hn
  have h1 : ∀ a b (ha : a < A.length) (hb : b < A.length), a < b → (A[a]).1 ≠ (A[b]).1 := fun a b ha hb hab => by
    have := h a b (by simpa using ha) (by simpa using hb) hab
    simpa using this
  rcases Nat.lt_or_gt_of_ne hij with q | q
  · exact h1 i j hi hj q e
  · exact h1 j i hj hi q e.symm
def ctB (A : g_L) (x : Int32) (j : Nat) : g_L := A.take j ++ (A.drop j).filter (fun p => decide (p.1 < x))
def ctO (A : g_L) (x : Int32) (j : Nat) : g_L := (A.drop j).filter (fun p => !decide (p.1 < x))
theorem ct_all {A : g_L} {x : Int32} {j : Nat} (h : A.length ≤ j) : ctB A x j = A ∧ ctO A x j = [] := by
  unfold ctB ctO
  rw [List.drop_of_length_le h, List.take_of_length_le h]
  simp
theorem ct_0 {A : g_L} {x : Int32} : ctB A x 0 = A.filter (fun p => decide (p.1 < x)) ∧ ctO A x 0 = A.filter (fun p => !decide (p.1 < x)) := by
  unfold ctB ctO
  simp
theorem ctB_lt {A : g_L} {x : Int32} {i : Nat} (h : i < A.length) : i < (ctB A x (i + 1)).length := by unfold ctB; rw [List.length_append, List.length_take]; omega
theorem ctB_q {A : g_L} {x : Int32} {i j : Nat} (h : i < A.length) (hj : j ≤ i) : (ctB A x (i + 1))[j]? = A[j]? := by
  unfold ctB
  rw [List.getElem?_append_left (by rw [List.length_take]; omega), List.getElem?_take_of_lt (by omega)]
theorem ctB_at {A : g_L} {x : Int32} {i : Nat} (h : i < A.length) : (ctB A x (i + 1))[i]'(ctB_lt h) = A[i] := by
  have := ctB_q (x := x) h (Nat.le_refl i)
  rw [List.getElem?_eq_getElem (ctB_lt h), List.getElem?_eq_getElem h] at this
  exact Option.some.inj this
theorem ctB_le {A : g_L} {x : Int32} {j : Nat} : (ctB A x j).length ≤ A.length := by
  unfold ctB
  have h := List.length_filter_le (fun p : Int32 × Int32 => decide (p.1 < x)) (A.drop j)
  rw [List.length_drop] at h
  rw [List.length_append, List.length_take]
  omega
theorem ct_dr {A : g_L} {i : Nat} (h : i < A.length) : A.drop i = A[i] :: A.drop (i + 1) := List.drop_eq_getElem_cons h
theorem ct_tk {A : g_L} {i : Nat} (h : i < A.length) : A.take (i + 1) = A.take i ++ [A[i]] := List.take_succ_eq_append_getElem h
theorem ct_keep {A : g_L} {x : Int32} {i : Nat} (h : i < A.length) (hx : (A[i]).1 < x) : ctB A x (i + 1) = ctB A x i ∧ ctO A x (i + 1) = ctO A x i := by
  unfold ctB ctO
  rw [ct_dr h, ct_tk h, List.filter_cons, List.filter_cons, if_pos (by simpa using hx), if_neg (by simpa using hx), List.append_assoc]
  exact ⟨rfl, rfl⟩
theorem ct_go {A : g_L} {x : Int32} {i : Nat} (h : i < A.length) (hx : ¬ (A[i]).1 < x) : (ctB A x (i + 1)).eraseIdx i = ctB A x i ∧ ctO A x i = A[i] :: ctO A x (i + 1) := by
  unfold ctB ctO
  constructor
  · rw [ct_dr h, List.filter_cons, if_neg (by simpa using hx), ct_tk h, List.append_assoc, List.eraseIdx_append_of_length_le (by rw [List.length_take]; omega)]
    rw [List.length_take, Nat.min_eq_left (Nat.le_of_lt h), Nat.sub_self]
    rfl
  · rw [ct_dr h, List.filter_cons, if_pos (by simpa using hx)]
theorem ct_ix {A : g_L} {x : Int32} {i : Nat} (hn : (A.map Prod.fst).Nodup) (h : i < A.length) : ix9 ((ctB A x (i + 1)).map Prod.fst) (A[i]).1 = i := by
  have hl := ctB_lt (x := x) h
  refine ix9_eq _ _ i (by rw [List.length_map]; omega) (fun j hj => ?_) (fun _ => ?_)
  · have hj2 : j < (ctB A x (i + 1)).length := by omega
    rw [List.getD_eq_getElem?_getD, List.getElem?_map, List.getElem?_eq_getElem hj2]
    show ((ctB A x (i + 1))[j]).1 ≠ _
    have e : (ctB A x (i + 1))[j] = A[j] := by
      have := ctB_q (x := x) h (show j ≤ i by omega)
      rw [List.getElem?_eq_getElem hj2, List.getElem?_eq_getElem (show j < A.length by omega)] at this
      exact Option.some.inj this
    rw [e]
    exact nd_ne hn (by omega) h (by omega)
  · rw [List.getD_eq_getElem?_getD, List.getElem?_map, List.getElem?_eq_getElem hl, ctB_at h]
    rfl
theorem ct_new {A : g_L} {x : Int32} {i : Nat} (hn : (A.map Prod.fst).Nodup) (h : i < A.length) : (A[i]).1 ∉ (ctO A x (i + 1)).map Prod.fst := by
  intro hm
  obtain ⟨y, hy⟩ := mem_fst.mp hm
  unfold ctO at hy
  have h2 := (List.mem_filter.mp hy).1
  obtain ⟨j, hj, e⟩ := List.getElem_of_mem h2
  rw [List.length_drop] at hj
  rw [List.getElem_drop] at e
  exact nd_ne hn h (show i + 1 + j < A.length by omega) (by omega) (congrArg Prod.fst e).symm
theorem ctO_le {A : g_L} {x : Int32} {j : Nat} : (ctO A x j).length ≤ A.length - j := by
  unfold ctO
  have h := List.length_filter_le (fun p : Int32 × Int32 => !decide (p.1 < x)) (A.drop j)
  rwa [List.length_drop] at h
theorem bk_len {n : Nat} : nI n - nI 1 = bk_ n := by
  cases n with
  | zero => decide
  | succ k => exact nI_pred k
theorem vC_take2 {Ls : Nat → g_L} {w : Nat} {x : Int32} (h : vC_ Ls) (hw : w ≤ 1) : vC_ (ul_ Ls w ((Ls w).eraseIdx (rk_ (Ls w) x))) := vC_take h hw
theorem SZ_two {Ls : Nat → g_L} {Z : g_Z} {w : Nat} {L M : g_L} (hw : w ≤ 1) (h1 : (Z w).Perm L) (h2 : (Z (1 - w)).Perm M) : SZ_ (ul_ (ul_ Ls w L) (1 - w) M) Z := fun v hv => by
  by_cases e : v = w
  · subst e; rw [ul_ne (by omega), ul_at]; exact h1
  · have e2 : v = 1 - w := by omega
    subst e2; rw [ul_at]; exact h2
theorem gd_fst {Z : g_L} {k : Nat} (hk : k < Z.length) : (Z.map Prod.fst).getD k 0 = (Z[k]).1 := by rw [Z_at hk]
theorem gd_snd {Z : g_L} {k : Nat} (hk : k < Z.length) : (Z.map Prod.snd).getD k 0 = (Z[k]).2 := by rw [Z_at hk]
