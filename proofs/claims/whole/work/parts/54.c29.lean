theorem and31 (x : Int32) : ∃ k : Nat, k < 32 ∧ x &&& nI 31 = nI k := by
  refine ⟨x.toBitVec.toNat % 32, Nat.mod_lt _ (by decide), ?_⟩
  apply Int32.toBitVec_inj.mp
  apply BitVec.eq_of_toNat_eq
  rw [Int32.toBitVec_and, BitVec.toNat_and, show (nI 31).toBitVec.toNat = 2 ^ 5 - 1 from by decide, Nat.and_two_pow_sub_one_eq_mod]
  have h : x.toBitVec.toNat % 32 < 32 := Nat.mod_lt _ (by decide)
  show x.toBitVec.toNat % 2 ^ 5 = (BitVec.ofNat 32 (x.toBitVec.toNat % 32)).toNat
  rw [BitVec.toNat_ofNat, Nat.mod_eq_of_lt (show x.toBitVec.toNat % 32 < 2 ^ 32 by omega)]
theorem lw_end {L i : Nat} (hL : L ≤ 2560) (hi : i ≤ 2560) : (nI L - nI 5 < nI i) ↔ L < i + 5 := by
  rw [Int32.lt_iff_toInt_lt, pk_sub_toInt (by omega) (by decide), nI_toInt (by omega)]
  omega
set_option maxHeartbeats 4000000 in
set_option maxRecDepth 100000 in
theorem lw_loop {p : Program} {l : Launch} {e : Env} {s : State} {m : MethodId} {args : Array Value} {below : List Frame} {meth : Method} {c : Code} {Q : State → Prop} (hst : l.stackTraces = false) {D : va_G} (hAD : g_AD D) (hx : p.tables.exec = Jvm.exec) (hb : c.code = cL_law) (hml : c.maxLocals = 9) (hown : s.vm.findClass RL = some m.cls) (hts : ∀ w ∈ g_WA, w.before args s = true) (hE : g_EV D s) (hZ : g_EZ (g_A D s.heap.size) s s.heap) {b L : Nat} {xs : Nat → Int32} (hX : va_X b L xs s s.heap) (hbl : b < s.heap.size) (hbA : ¬ g_A D s.heap.size b) (hL : L ≤ 2560)
    (kend : ∀ (H : Heap) (locs : List Loc) (cells slots : Nat) (ls : Array Slot), cells ≤ 20000 → slots ≤ 100000 → va_S (g_A D s.heap.size) s.heap H locs → ls.size = 9 → W p l e room_1 s m args below meth c H locs cells slots Q (F0 m 1442 ls [.int (nI 1)])) :
    ∀ (fuel t : Nat) (σ : Nat → va_E) (Ls : Nat → g_L) (H : Heap) (locs : List Loc) (cells slots : Nat) (ls : Array Slot), 513 - t < fuel → t ≤ 512 → 5 * t ≤ L → cells ≤ 1000 + 12 * t → slots ≤ 10000 + 108 * t → g_I9 D σ Ls → va_P D vwCl (g_W D σ) H → va_S (g_A D s.heap.size) s.heap H locs → lv_has ls 9 [(1, .ref (ad_ D 0)), (2, .ref (ad_ D 20)), (3, .ref (ad_ D 31)), (4, .ref (ad_ D 32)), (0, .ref b), (5, .int (nI (5 * t)))] → W p l e room_1 s m args below meth c H locs cells slots Q (F0 m 28 ls []) := by
  intro fuel
  induction fuel with
  | zero => intro t σ Ls H locs cells slots ls hf; exact absurd hf (Nat.not_lt_zero _)
  | succ fuel ih =>
    intro t σ Ls H locs cells slots ls hf ht htL hcs hsl hI hP hS hl
    refine lv_iload hx hb dL_law_28 (lv_at hl 5 rfl) ?_
    refine lv_aload_n hx hb dL_law_30 rfl (lv_at hl 4 rfl) ?_
    refine va_slen hx hb hX hbl hbA hS dL_law_31 ?_
    refine lv_iconst (v := nI 5) hx hb dL_law_32 (by decide) ?_
    refine lv_isub hx hb dL_law_33 ?_
    refine lv_icmp_gt (tgt := 1441) hx hb dL_law_34 (by decide) (fun _ => ?_) (fun h34 => ?_)
    · refine lv_iconst (v := nI 1) hx hb dL_law_1441 (by decide) ?_
      exact kend H locs cells slots ls (by omega) (by omega) hS hl.1
    · have hi5 : 5 * t + 5 ≤ L := Nat.not_lt.mp (fun q => h34 ((lw_end hL (by omega)).mpr q))
      refine lv_aload_n hx hb dL_law_37 rfl (lv_at hl 4 rfl) ?_
      refine lv_iload hx hb dL_law_38 (lv_at hl 5 rfl) ?_
      refine va_sld hx hb hX hbl hbA hS (i := nI (5 * t)) (vp_in_nI (by omega) (by omega)) dL_law_40 ?_
      refine lv_bipush (v := nI 31) hx hb dL_law_41 (by decide) ?_
      refine lv_iand hx hb dL_law_43 ?_
      obtain ⟨k9, hk9, ek9⟩ := and31 (xs (nI (5 * t)).toNatClampNeg)
      refine g_top (y := nI k9) ek9 ?_
      have K9 : ∀ (σ9 : Nat → va_E) (Ls9 : Nat → g_L) (H : Heap) (locs : List Loc) (ls : Array Slot), g_I9 D σ9 Ls9 → va_P D vwCl (g_W D σ9) H → va_S (g_A D s.heap.size) s.heap H locs → lv_has ls 9 [(1, .ref (ad_ D 0)), (2, .ref (ad_ D 20)), (3, .ref (ad_ D 31)), (4, .ref (ad_ D 32)), (0, .ref b), (5, .int (nI (5 * t)))] → W p l e room_1 s m args below meth c H locs (cells + 12) (slots + 108) Q (F0 m 1435 ls []) := by
        intro σ9 Ls9 H locs ls hI hP hS hl
        refine lv_iinc (v := nI (5 * (t + 1))) (lv' := [(5, .int (nI (5 * (t + 1)))), (1, .ref (ad_ D 0)), (2, .ref (ad_ D 20)), (3, .ref (ad_ D 31)), (4, .ref (ad_ D 32)), (0, .ref b)]) hx hb dL_law_1435 hl (k := 5) rfl (by show nI (5 * t) + nI 5 = _; rw [nI_add, Nat.mul_add]) (by decide) rfl (fun ls hl => ?_)
        refine lv_goto (tgt := 28) hx hb dL_law_1438 (by decide) ?_
        exact ih (t + 1) σ9 Ls9 H locs _ _ ls (by omega) (by omega) (by omega) (by omega) (by omega) hI hP hS (lv_sub hl [1, 2, 3, 4, 5, 0] rfl)
      by_cases hk : 18 < k9
      · refine lv_tableOut (x := nI k9) (tgt := 1435) hx hb dL_law_44 (Or.inr (by rw [nI_toInt (by omega)]; omega)) (by decide) ?_
        refine W.widen (k := cells + 12) (n := slots + 108) (by omega) (by omega) ?_
        exact K9 σ Ls H locs ls hI hP hS hl
      · rcases (show k9 = 0 ∨ k9 = 1 ∨ k9 = 2 ∨ k9 = 3 ∨ k9 = 4 ∨ k9 = 5 ∨ k9 = 6 ∨ k9 = 7 ∨ k9 = 8 ∨ k9 = 9 ∨ k9 = 10 ∨ k9 = 11 ∨ k9 = 12 ∨ k9 = 13 ∨ k9 = 14 ∨ k9 = 15 ∨ k9 = 16 ∨ k9 = 17 ∨ k9 = 18 by omega) with rfl | rfl | rfl | rfl | rfl | rfl | rfl | rfl | rfl | rfl | rfl | rfl | rfl | rfl | rfl | rfl | rfl | rfl | rfl
        · refine lv_tableIn (x := nI 0) (off := 92) (tgt := 136) hx hb dL_law_44 (by decide) (by decide) rfl (by decide) ?_
          exact lc_put hst hAD hI hx hb hml hown hts hE hZ hX hbl hbA hi5 hL hP hS hl (by omega) (by omega) K9
        · refine lv_tableIn (x := nI 1) (off := 172) (tgt := 216) hx hb dL_law_44 (by decide) (by decide) rfl (by decide) ?_
          exact lc_take hst hAD hI hx hb hml hown hts hE hZ hX hbl hbA hi5 hL hP hS hl (by omega) (by omega) K9
        · refine lv_tableIn (x := nI 2) (off := 240) (tgt := 284) hx hb dL_law_44 (by decide) (by decide) rfl (by decide) ?_
          exact lc_merge hst hAD hI hx hb hml hown hts hE hZ hX hbl hbA hi5 hL hP hS hl (by omega) (by omega) K9
        · refine lv_tableIn (x := nI 3) (off := 308) (tgt := 352) hx hb dL_law_44 (by decide) (by decide) rfl (by decide) ?_
          exact lc_cut hst hAD hI hx hb hml hown hts hE hZ hX hbl hbA hi5 hL hP hS hl (by omega) (by omega) K9
        · refine lv_tableIn (x := nI 4) (off := 376) (tgt := 420) hx hb dL_law_44 (by decide) (by decide) rfl (by decide) ?_
          exact lc_turn hst hAD hI hx hb hml hown hts hE hZ hX hbl hbA hi5 hL hP hS hl (by omega) (by omega) K9
        · refine lv_tableIn (x := nI 5) (off := 444) (tgt := 488) hx hb dL_law_44 (by decide) (by decide) rfl (by decide) ?_
          exact lc_miles hst hAD hI hx hb hml hown hts hE hZ hX hbl hbA hi5 hL hP hS hl (by omega) (by omega) K9
        · refine lv_tableIn (x := nI 6) (off := 512) (tgt := 556) hx hb dL_law_44 (by decide) (by decide) rfl (by decide) ?_
          exact lc_count hst hAD hI hx hb hml hown hts hE hZ hX hbl hbA hi5 hL hP hS hl (by omega) (by omega) K9
        · refine lv_tableIn (x := nI 7) (off := 580) (tgt := 624) hx hb dL_law_44 (by decide) (by decide) rfl (by decide) ?_
          exact lc_sign hst hAD hI hx hb hml hown hts hE hZ hX hbl hbA hi5 hL hP hS hl (by omega) (by omega) K9
        · refine lv_tableIn (x := nI 8) (off := 660) (tgt := 704) hx hb dL_law_44 (by decide) (by decide) rfl (by decide) ?_
          exact lc_walk hst hAD hI hx hb hml hown hts hE hZ hX hbl hbA hi5 hL hP hS hl (by omega) (by omega) K9
        · refine lv_tableIn (x := nI 9) (off := 740) (tgt := 784) hx hb dL_law_44 (by decide) (by decide) rfl (by decide) ?_
          exact lc_step hst hAD hI hx hb hml hown hts hE hZ hX hbl hbA hi5 hL hP hS hl (by omega) (by omega) K9
        · refine lv_tableIn (x := nI 10) (off := 836) (tgt := 880) hx hb dL_law_44 (by decide) (by decide) rfl (by decide) ?_
          exact lc_at hst hAD hI hx hb hml hown hts hE hZ hX hbl hbA hi5 hL hP hS hl (by omega) (by omega) K9
        · refine lv_tableIn (x := nI 11) (off := 904) (tgt := 948) hx hb dL_law_44 (by decide) (by decide) rfl (by decide) ?_
          exact lc_range hst hAD hI hx hb hml hown hts hE hZ hX hbl hbA hi5 hL hP hS hl (by omega) (by omega) K9
        · refine lv_tableIn (x := nI 12) (off := 996) (tgt := 1040) hx hb dL_law_44 (by decide) (by decide) rfl (by decide) ?_
          exact lc_near hst hAD hI hx hb hml hown hts hE hZ hX hbl hbA hi5 hL hP hS hl (by omega) (by omega) K9
        · refine lv_tableIn (x := nI 13) (off := 1064) (tgt := 1108) hx hb dL_law_44 (by decide) (by decide) rfl (by decide) ?_
          exact lc_far hst hAD hI hx hb hml hown hts hE hZ hX hbl hbA hi5 hL hP hS hl (by omega) (by omega) K9
        · refine lv_tableIn (x := nI 14) (off := 1120) (tgt := 1164) hx hb dL_law_44 (by decide) (by decide) rfl (by decide) ?_
          exact lc_unlike hst hAD hI hx hb hml hown hts hE hZ hX hbl hbA hi5 hL hP hS hl (by omega) (by omega) K9
        · refine lv_tableIn (x := nI 15) (off := 1188) (tgt := 1232) hx hb dL_law_44 (by decide) (by decide) rfl (by decide) ?_
          exact lc_would hst hAD hI hx hb hml hown hts hE hZ hX hbl hbA hi5 hL hP hS hl (by omega) (by omega) K9
        · refine lv_tableIn (x := nI 16) (off := 1244) (tgt := 1288) hx hb dL_law_44 (by decide) (by decide) rfl (by decide) ?_
          exact lc_advise hst hAD hI hx hb hml hown hts hE hZ hX hbl hbA hi5 hL hP hS hl (by omega) (by omega) K9
        · refine lv_tableIn (x := nI 17) (off := 1300) (tgt := 1344) hx hb dL_law_44 (by decide) (by decide) rfl (by decide) ?_
          exact lc_mean hst hAD hI hx hb hml hown hts hE hZ hX hbl hbA hi5 hL hP hS hl (by omega) (by omega) K9
        · refine lv_tableIn (x := nI 18) (off := 1377) (tgt := 1421) hx hb dL_law_44 (by decide) (by decide) rfl (by decide) ?_
          exact lc_digest hst hAD hI hx hb hml hown hts hE hZ hX hbl hbA hi5 hL hP hS hl (by omega) (by omega) K9
