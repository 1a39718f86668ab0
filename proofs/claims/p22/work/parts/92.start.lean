/-! THE START -/
def g_D1 (D : va_G) (ad : Nat → Nat) : va_G := (D.1, fun k j => if k = 200 then ad j else D.2 k j)
theorem g_D1lt {D : va_G} {ad : Nat → Nat} {k : Nat} (h : k < 200) : (g_D1 D ad).2 k = D.2 k := funext fun _ => if_neg (by omega)
theorem g_D1P {D : va_G} {ad : Nat → Nat} {ws : va_W} {H : Heap} (h : va_P D vwCl ws H) : va_P (g_D1 D ad) vwCl ws H := by
  intro k q hk
  have h2 := h k q hk
  obtain ⟨a, x⟩ := q
  cases x with
  | inl y => exact h2
  | inr o =>
    obtain ⟨r, h3, h4⟩ := h2
    have h5 : o.1 < 4 := (List.getElem?_eq_some_iff.mp h3).1
    refine ⟨r, h3, ?_⟩
    rw [g_D1lt (by omega)]
    exact h4
theorem g_D1E {D : va_G} {ad : Nat → Nat} {s : State} (h : g_EV D s) : g_EV (g_D1 D ad) s := by
  refine ⟨⟨fun k q hq => ?_, h.1.2⟩, h.2.1, h.2.2.1, fun q hq => ?_, h.2.2.2.2⟩
  · have h5 : k < 4 := (List.getElem?_eq_some_iff.mp hq).1
    rw [g_D1lt (by omega)]
    exact h.1.1 k q hq
  · have h6 := h.2.2.2.1 q hq
    unfold g_sa
    rw [g_D1lt (by decide)]
    exact h6
theorem g_Wof {D : va_G} {ws : va_W} (h : ws.length = 20) : g_W (g_D1 D (fun k => (ws.map Prod.fst).getD k 0)) (fun k => (ws.map Prod.snd).getD k (.inr (0, []))) = ws := by
  apply List.ext_getElem?
  intro i
  by_cases hi : i < 20
  · have h1 : i < ws.length := by omega
    rw [g_at hi rfl, List.getElem?_eq_getElem h1]
    simp [ad_, g_D1, h1]
  · rw [List.getElem?_eq_none (by simp [g_W]; omega), List.getElem?_eq_none (by omega)]
theorem g_str {s : State} {args : Array Value} {own tx : String} {k : Nat} (h : (Cond.stringRef own k tx).before args s = true) : ∃ a, vk_R own k tx a s := by
  have h0 : (Cond.stringRef own k tx).before #[] s = true := by
    simp only [Cond.before, Cond.holds, Cond.value] at h ⊢
    exact h
  have h1 := h0
  simp only [Cond.before, Cond.holds, Cond.value] at h1
  cases hc : s.vm.findClass own with
  | none => simp [hc] at h1
  | some cur =>
    obtain ⟨_, _, _, a, -, -, -, -, -, hev⟩ := Cond.stringRef_spec hc h0
    exact ⟨a, h0, hev⟩
theorem g_arr {s : State} {args : Array Value} {ty : FieldType} (h : (Cond.arrayClass ty).before args s = true) : ∃ cA : ClassId, ArrOfT s cA ty ∧ s.vm.findClass ("[" ++ ty.toString) = some cA := by
  obtain ⟨cA, kA, comp, e1, e2, e3⟩ := Cond.arrayClass_spec h
  exact ⟨cA, fun n z => ⟨fun k h => (by cases h), kA, e2, comp, e3⟩, e1⟩
set_option maxHeartbeats 4000000 in
set_option maxRecDepth 100000 in
theorem g_EVs {s : State} {args : Array Value} (hts0 : ∀ w ∈ lw_tbl, w.before args s = true) (hg : (Jvm.Cond.and given_1 narrow_1).before args s = true) : ∃ D : va_G, g_EV D s := by
  have hts : ∀ w ∈ g_WA, w.before args s = true := fun w hw => hts0 w (List.mem_filter.mp hw).1
  obtain ⟨c0, i0, h0⟩ := u_known (C := RX0) (T := TX0) (N := 10) (n := 10) hts g_inX0 (hts _ (g_mem 51 (by decide +kernel)))
  obtain ⟨c1, i1, h1⟩ := u_known (C := RX1) (T := TX1) (N := 3) (n := 3) hts g_inX1 (hts _ (g_mem 34 (by decide +kernel)))
  obtain ⟨c2, i2, h2⟩ := u_known (C := RX2) (T := TX2) (N := 4) (n := 4) hts g_inX2 (hts _ (g_mem 26 (by decide +kernel)))
  obtain ⟨c3, i3, h3⟩ := u_known (C := RX3) (T := TX3) (N := 2) (n := 2) hts g_inX3 (hts _ (g_mem 550 (by decide +kernel)))
  obtain ⟨cI, aI, nI9⟩ := g_arr (ty := .int) (hts _ (g_mem 49 (by decide +kernel)))
  have hO : (Cond.arrayOver (.array .int)).before args s = true := hts0 _ (List.mem_of_getElem? (i := 556) (by decide +kernel))
  obtain ⟨comp, cA, kA, hcomp, hidx, hkA, hkindA, hnameA⟩ := arrayOverA_spec hO
  have e9 : comp = cI := Option.some.inj (hcomp.symm.trans nI9)
  subst e9
  obtain ⟨s0, hs0⟩ := g_str (own := RX2) (k := 182) (tx := "there is no such number") (hts0 _ (List.mem_of_getElem? (i := 151) (by decide +kernel)))
  obtain ⟨s1, hs1⟩ := g_str (own := RX2) (k := 186) (tx := "that is not a name") (hts0 _ (List.mem_of_getElem? (i := 270) (by decide +kernel)))
  obtain ⟨s2, hs2⟩ := g_str (own := RX2) (k := 188) (tx := "these are not miles") (hts0 _ (List.mem_of_getElem? (i := 544) (by decide +kernel)))
  obtain ⟨s3, hs3⟩ := g_str (own := RX2) (k := 190) (tx := "the wood has no village") (hts0 _ (List.mem_of_getElem? (i := 286) (by decide +kernel)))
  obtain ⟨s4, hs4⟩ := g_str (own := RX2) (k := 53) (tx := "the wood is full") (hts0 _ (List.mem_of_getElem? (i := 545) (by decide +kernel)))
  obtain ⟨s5, hs5⟩ := g_str (own := RX2) (k := 62) (tx := "there is no such village") (hts0 _ (List.mem_of_getElem? (i := 513) (by decide +kernel)))
  obtain ⟨s6, hs6⟩ := g_str (own := RX2) (k := 77) (tx := "these are too many for one wood") (hts0 _ (List.mem_of_getElem? (i := 222) (by decide +kernel)))
  obtain ⟨s7, hs7⟩ := g_str (own := RX2) (k := 92) (tx := "the other wood has a village") (hts0 _ (List.mem_of_getElem? (i := 277) (by decide +kernel)))
  refine ⟨(fun k => if k = 0 then c0 else if k = 1 then c1 else if k = 2 then c2 else if k = 3 then c3 else if k = 10 then comp else cA, fun k => if k = 0 then i0 else if k = 1 then i1 else if k = 2 then i2 else if k = 3 then i3 else fun j => if j = 182 then s0 else if j = 186 then s1 else if j = 188 then s2 else if j = 190 then s3 else if j = 53 then s4 else if j = 62 then s5 else if j = 77 then s6 else if j = 92 then s7 else 0), ⟨fun k q hq => ?_, fun k q hq => ?_⟩, fun w hw => word_at (State.WarmedH.refl s) (g_good hw) (hts w hw), fun w hw => ?_, fun q hq => ?_, ⟨kA, hkA, hkindA, hnameA⟩⟩
  · match k, hq with
    | 0, hq => cases hq; exact h0
    | 1, hq => cases hq; exact h1
    | 2, hq => cases hq; exact h2
    | 3, hq => cases hq; exact h3
    | k + 4, hq => simp [vwCl] at hq
  · match k, hq with
    | 0, hq => cases hq; exact ⟨aI, nI9⟩
    | k + 1, hq => simp [g_tys] at hq
  · simp only [g_NL, List.mem_cons, List.not_mem_nil, or_false] at hw
    rcases hw with rfl | rfl | rfl | rfl | rfl | rfl | rfl | rfl | rfl | rfl | rfl | rfl | rfl | rfl | rfl | rfl | rfl
    · exact va_Nw.of rfl (hts0 _ (List.mem_of_getElem? (i := 310) (by decide +kernel)))
    · exact va_Nw.of rfl (hts0 _ (List.mem_of_getElem? (i := 315) (by decide +kernel)))
    · exact va_Nw.of rfl (hts0 _ (List.mem_of_getElem? (i := 194) (by decide +kernel)))
    · exact va_Nw.of rfl (hts0 _ (List.mem_of_getElem? (i := 317) (by decide +kernel)))
    · exact va_Nw.of rfl (hts0 _ (List.mem_of_getElem? (i := 324) (by decide +kernel)))
    · exact va_Nw.of rfl (hts0 _ (List.mem_of_getElem? (i := 353) (by decide +kernel)))
    · exact va_Nw.of rfl (hts0 _ (List.mem_of_getElem? (i := 246) (by decide +kernel)))
    · exact va_Nw.of rfl (hts0 _ (List.mem_of_getElem? (i := 35) (by decide +kernel)))
    · exact va_Nw.of rfl (hts0 _ (List.mem_of_getElem? (i := 52) (by decide +kernel)))
    · exact va_Nw.of rfl (hts0 _ (List.mem_of_getElem? (i := 551) (by decide +kernel)))
    · exact va_Nw.of rfl (hts0 _ (List.mem_of_getElem? (i := 523) (by decide +kernel)))
    · exact va_Nw.of rfl (hts0 _ (List.mem_of_getElem? (i := 112) (by decide +kernel)))
    · exact va_Nw.of rfl (hts0 _ (List.mem_of_getElem? (i := 263) (by decide +kernel)))
    · exact va_Nw.of rfl (hts0 _ (List.mem_of_getElem? (i := 215) (by decide +kernel)))
    · exact va_Nw.of rfl (hts0 _ (List.mem_of_getElem? (i := 114) (by decide +kernel)))
    · exact va_Nw.of rfl (hts0 _ (List.mem_of_getElem? (i := 116) (by decide +kernel)))
    · exact va_Nw.of rfl (hts0 _ (List.mem_of_getElem? (i := 118) (by decide +kernel)))
  · simp only [g_SL, List.mem_cons, List.not_mem_nil, or_false] at hq
    rcases hq with rfl | rfl | rfl | rfl | rfl | rfl | rfl | rfl
    · exact hs0
    · exact hs1
    · exact hs2
    · exact hs3
    · exact hs4
    · exact hs5
    · exact hs6
    · exact hs7
set_option maxRecDepth 100000 in
theorem g_EZs {s : State} {args : Array Value} {A : Nat → Prop} (hts0 : ∀ w ∈ lw_tbl, w.before args s = true) (hg : (Jvm.Cond.and given_1 narrow_1).before args s = true) (hA : ∀ a : Nat, a < s.heap.size → ¬ A a) : g_EZ A s s.heap :=
  ⟨vx_Zqof (hts0 _ (List.mem_of_getElem? (i := 137) (by decide +kernel))) (hts0 _ (List.mem_of_getElem? (i := 16) (by decide +kernel))) (flat_of_before _ hg _ (by decide +kernel)) hA, vx_Zqof (hts0 _ (List.mem_of_getElem? (i := 139) (by decide +kernel))) (hts0 _ (List.mem_of_getElem? (i := 16) (by decide +kernel))) (flat_of_before _ hg _ (by decide +kernel)) hA⟩
