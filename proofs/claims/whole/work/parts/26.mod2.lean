theorem it_no {L : g_L} {x : Int32} (h : L.length ≤ rk_ L x) (hx : x ≠ -1) : ¬ fn_ L (rk_ L x) = x := fun q => absurd (fn_in q hx) (by omega)
theorem g_and1 (x : Int32) : x &&& 1 = 0 ∨ x &&& 1 = 1 := by
  have h : (x &&& 1).toBitVec = BitVec.setWidth 32 (BitVec.ofBool (x.toBitVec.getLsbD 0)) := by
    rw [Int32.toBitVec_and]; exact BitVec.and_one_eq_setWidth_ofBool_getLsbD
  cases hb : x.toBitVec.getLsbD 0
  · rw [hb] at h; exact Or.inl (Int32.toBitVec_inj.mp (by rw [h]; rfl))
  · rw [hb] at h; exact Or.inr (Int32.toBitVec_inj.mp (by rw [h]; rfl))
theorem hb_f {x b : Int32} (h : (x >>> (b &&& 31)) &&& nI 1 = 0) : hb_ x b = false := by
  refine decide_eq_false (fun q => ?_)
  have e : (x >>> (b &&& 31)) &&& 1 = 0 := h
  rw [q] at e; exact absurd e (by decide)
theorem hb_t {x b : Int32} (h : ¬ (x >>> (b &&& 31)) &&& nI 1 = 0) : hb_ x b = true :=
  decide_eq_true ((g_and1 _).resolve_left h)
abbrev rp_ (d : Nat) : Room := { frames := d + 12, cells := 0, slots := 0, locals := 300 + 25 * d }
theorem pt_leaf2 {f : Nat → Int32} {T : Nat → Nat → Int32} {s a c q b d : Nat} (hc : c = 1) : pM_ f (p6_ T s a (a + c) q) s (tr_ f (d + 1) a c q b) := by
  subst hc; exact pt_leaf
