/-! the mean path is a number -/
theorem fl_1 : ∀ s, s < 1 → FP.ddiv (FP.i2d (nI s)) (FP.i2d (nI 1)) &&& 0x7fffffffffffffff ≤ 0x7ff0000000000000 := by decide +kernel
theorem fl_2 : ∀ s, s < 4 → FP.ddiv (FP.i2d (nI s)) (FP.i2d (nI 2)) &&& 0x7fffffffffffffff ≤ 0x7ff0000000000000 := by decide +kernel
theorem fl_3 : ∀ s, s < 11 → FP.ddiv (FP.i2d (nI s)) (FP.i2d (nI 3)) &&& 0x7fffffffffffffff ≤ 0x7ff0000000000000 := by decide +kernel
theorem fl_4 : ∀ s, s < 22 → FP.ddiv (FP.i2d (nI s)) (FP.i2d (nI 4)) &&& 0x7fffffffffffffff ≤ 0x7ff0000000000000 := by decide +kernel
theorem fl_5 : ∀ s, s < 37 → FP.ddiv (FP.i2d (nI s)) (FP.i2d (nI 5)) &&& 0x7fffffffffffffff ≤ 0x7ff0000000000000 := by decide +kernel
theorem fl_6 : ∀ s, s < 56 → FP.ddiv (FP.i2d (nI s)) (FP.i2d (nI 6)) &&& 0x7fffffffffffffff ≤ 0x7ff0000000000000 := by decide +kernel
theorem fl_7 : ∀ s, s < 79 → FP.ddiv (FP.i2d (nI s)) (FP.i2d (nI 7)) &&& 0x7fffffffffffffff ≤ 0x7ff0000000000000 := by decide +kernel
theorem fl_8 : ∀ s, s < 106 → FP.ddiv (FP.i2d (nI s)) (FP.i2d (nI 8)) &&& 0x7fffffffffffffff ≤ 0x7ff0000000000000 := by decide +kernel
theorem fl_9 : ∀ s, s < 137 → FP.ddiv (FP.i2d (nI s)) (FP.i2d (nI 9)) &&& 0x7fffffffffffffff ≤ 0x7ff0000000000000 := by decide +kernel
theorem fl_10 : ∀ s, s < 172 → FP.ddiv (FP.i2d (nI s)) (FP.i2d (nI 10)) &&& 0x7fffffffffffffff ≤ 0x7ff0000000000000 := by decide +kernel
theorem fl_11 : ∀ s, s < 211 → FP.ddiv (FP.i2d (nI s)) (FP.i2d (nI 11)) &&& 0x7fffffffffffffff ≤ 0x7ff0000000000000 := by decide +kernel
theorem fl_12 : ∀ s, s < 254 → FP.ddiv (FP.i2d (nI s)) (FP.i2d (nI 12)) &&& 0x7fffffffffffffff ≤ 0x7ff0000000000000 := by decide +kernel
theorem fl_13 : ∀ s, s < 301 → FP.ddiv (FP.i2d (nI s)) (FP.i2d (nI 13)) &&& 0x7fffffffffffffff ≤ 0x7ff0000000000000 := by decide +kernel
theorem fl_14 : ∀ s, s < 352 → FP.ddiv (FP.i2d (nI s)) (FP.i2d (nI 14)) &&& 0x7fffffffffffffff ≤ 0x7ff0000000000000 := by decide +kernel
theorem fl_15 : ∀ s, s < 407 → FP.ddiv (FP.i2d (nI s)) (FP.i2d (nI 15)) &&& 0x7fffffffffffffff ≤ 0x7ff0000000000000 := by decide +kernel
theorem fl_16 : ∀ s, s < 466 → FP.ddiv (FP.i2d (nI s)) (FP.i2d (nI 16)) &&& 0x7fffffffffffffff ≤ 0x7ff0000000000000 := by decide +kernel
theorem fl_17 : ∀ s, s < 529 → FP.ddiv (FP.i2d (nI s)) (FP.i2d (nI 17)) &&& 0x7fffffffffffffff ≤ 0x7ff0000000000000 := by decide +kernel
theorem fl_18 : ∀ s, s < 596 → FP.ddiv (FP.i2d (nI s)) (FP.i2d (nI 18)) &&& 0x7fffffffffffffff ≤ 0x7ff0000000000000 := by decide +kernel
theorem fl_19 : ∀ s, s < 667 → FP.ddiv (FP.i2d (nI s)) (FP.i2d (nI 19)) &&& 0x7fffffffffffffff ≤ 0x7ff0000000000000 := by decide +kernel
theorem fl_20 : ∀ s, s < 742 → FP.ddiv (FP.i2d (nI s)) (FP.i2d (nI 20)) &&& 0x7fffffffffffffff ≤ 0x7ff0000000000000 := by decide +kernel
theorem fl_21 : ∀ s, s < 821 → FP.ddiv (FP.i2d (nI s)) (FP.i2d (nI 21)) &&& 0x7fffffffffffffff ≤ 0x7ff0000000000000 := by decide +kernel
theorem fl_22 : ∀ s, s < 904 → FP.ddiv (FP.i2d (nI s)) (FP.i2d (nI 22)) &&& 0x7fffffffffffffff ≤ 0x7ff0000000000000 := by decide +kernel
theorem fl_23 : ∀ s, s < 991 → FP.ddiv (FP.i2d (nI s)) (FP.i2d (nI 23)) &&& 0x7fffffffffffffff ≤ 0x7ff0000000000000 := by decide +kernel
theorem fl_24 : ∀ s, s < 1082 → FP.ddiv (FP.i2d (nI s)) (FP.i2d (nI 24)) &&& 0x7fffffffffffffff ≤ 0x7ff0000000000000 := by decide +kernel
theorem fl_dec {n s : Nat} (h0 : 1 ≤ n) (hn : n ≤ 24) (hs : s < (2 * n - 1) * (n - 1) + 1) : vf_n64 (FP.ddiv (FP.i2d (nI s)) (FP.i2d (nI n))) := by
  unfold vf_n64
  rcases (show n = 1 ∨ n = 2 ∨ n = 3 ∨ n = 4 ∨ n = 5 ∨ n = 6 ∨ n = 7 ∨ n = 8 ∨ n = 9 ∨ n = 10 ∨ n = 11 ∨ n = 12 ∨ n = 13 ∨ n = 14 ∨ n = 15 ∨ n = 16 ∨ n = 17 ∨ n = 18 ∨ n = 19 ∨ n = 20 ∨ n = 21 ∨ n = 22 ∨ n = 23 ∨ n = 24 by omega) with rfl | rfl | rfl | rfl | rfl | rfl | rfl | rfl | rfl | rfl | rfl | rfl | rfl | rfl | rfl | rfl | rfl | rfl | rfl | rfl | rfl | rfl | rfl | rfl
  · exact fl_1 s hs
  · exact fl_2 s hs
  · exact fl_3 s hs
  · exact fl_4 s hs
  · exact fl_5 s hs
  · exact fl_6 s hs
  · exact fl_7 s hs
  · exact fl_8 s hs
  · exact fl_9 s hs
  · exact fl_10 s hs
  · exact fl_11 s hs
  · exact fl_12 s hs
  · exact fl_13 s hs
  · exact fl_14 s hs
  · exact fl_15 s hs
  · exact fl_16 s hs
  · exact fl_17 s hs
  · exact fl_18 s hs
  · exact fl_19 s hs
  · exact fl_20 s hs
  · exact fl_21 s hs
  · exact fl_22 s hs
  · exact fl_23 s hs
  · exact fl_24 s hs
