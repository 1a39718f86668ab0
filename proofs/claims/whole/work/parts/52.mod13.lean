/-! THE LAW'S TURN -/
theorem g_rmC {x : Nat} (h : x ≤ 600000) : x ≤ room_1.cells := Nat.le_trans h (Nat.le_of_ble_eq_true rfl)
theorem g_rmS {x : Nat} (h : x ≤ 6500000) : x ≤ room_1.slots := Nat.le_trans h (Nat.le_of_ble_eq_true rfl)
def g_I9 (D : va_G) (σ : Nat → va_E) (Ls : Nat → g_L) : Prop := g_C D σ Ls ∧ vC_ Ls ∧ (∃ th, g_MM D σ th Ls) ∧ (∃ f, σ 31 = .inl (g_cL D, 1, .inr (.inl f))) ∧ ∃ f, σ 32 = .inl (g_cD D, 1, .inr (.inr (.inr (.inl f))))
theorem wl_keep {D : va_G} {σ σ1 : Nat → va_E} {Ls : Nat → g_L} {er : Nat} {f8 : Nat → Int64} {OK : Int32 → (Nat → va_E) → Prop} (hO : σ 31 = .inl (g_cL D, 1, .inr (.inl f8)))
    (h : (er = 0 ∧ ∃ (r9 : Int32) (σ2 : Nat → va_E), OK r9 σ2 ∧ g_off 0 19 σ σ2 ∧ σ1 = va_up σ2 31 (.inl (g_cL D, 1, .inr (.inl (vp_updL f8 0 r9.toInt64))))) ∨ (er ≠ 0 ∧ g_C D σ1 Ls ∧ g_off 0 19 σ σ1)) :
    (∀ k, 20 ≤ k → k ≤ 30 → σ1 k = σ k) ∧ (∃ f, σ1 31 = .inl (g_cL D, 1, .inr (.inl f))) ∧ σ1 32 = σ 32 := by
  rcases h with ⟨-, r9, σ2, -, ho, rfl⟩ | ⟨-, -, ho⟩
  · refine ⟨fun k h1 h2 => ?_, ⟨_, g_ups⟩, ?_⟩
    · rw [g_upn (ho k (by omega)) (by omega)]
    · rw [g_upn (ho 32 (by omega)) (by decide)]
  · exact ⟨fun k h1 h2 => ho k (by omega), ⟨f8, (ho 31 (by omega)).trans hO⟩, ho 32 (by omega)⟩
theorem g_Mf.keep {D : va_G} {σ σ' : Nat → va_E} {th rs sg : Int32} {S N Q R : Nat → Int32} {T : Nat → Nat → Int32} (h : g_Mf D σ th rs sg S N Q R T) (hk : ∀ k, 20 ≤ k → k ≤ 30 → σ' k = σ k) : g_Mf D σ' th rs sg S N Q R T := by
  obtain ⟨h0, h1, h2, h3, h4, h5, h6, h7, h8, h9, h10⟩ := h
  exact ⟨(hk 20 (by decide) (by decide)).trans h0, (hk 21 (by decide) (by decide)).trans h1, (hk 22 (by decide) (by decide)).trans h2, (hk 23 (by decide) (by decide)).trans h3, (hk 24 (by decide) (by decide)).trans h4, (hk 25 (by decide) (by decide)).trans h5, (hk 26 (by decide) (by decide)).trans h6, (hk 27 (by decide) (by decide)).trans h7, (hk 28 (by decide) (by decide)).trans h8, (hk 29 (by decide) (by decide)).trans h9, (hk 30 (by decide) (by decide)).trans h10⟩
theorem g_C.up31 {D : va_G} {σ : Nat → va_E} {Ls : Nat → g_L} {k : Nat} {e : va_E} (h : g_C D σ Ls) (hk : 19 < k) : g_C D (va_up σ k e) Ls := by
  have ho : g_off k k σ (va_up σ k e) := g_off.up g_off.rf (Nat.le_refl _) (Nat.le_refl _)
  obtain ⟨h0, h1, h2, ⟨Lc, h3⟩, sz, T, h4⟩ := h
  exact ⟨ho.at0 h0 (by omega), h1.off ho (by omega), h2.off ho (by omega), ⟨Lc, h3.off ho (by omega)⟩, sz, T, h4.off ho (by omega)⟩
theorem g_C.off {D : va_G} {σ σ' : Nat → va_E} {Ls : Nat → g_L} {lo hi : Nat} (h : g_C D σ Ls) (ho : g_off lo hi σ σ') (hl : 19 < lo) : g_C D σ' Ls := by
  obtain ⟨h0, h1, h2, ⟨Lc, h3⟩, sz, T, h4⟩ := h
  exact ⟨ho.at0 h0 (by omega), h1.off ho (by omega), h2.off ho (by omega), ⟨Lc, h3.off ho (by omega)⟩, sz, T, h4.off ho (by omega)⟩
theorem lg_self {x : Int64} : lg_cmp x x = 0 := by
  unfold lg_cmp
  simp
theorem nI_w {a b : Nat} (h : nI a = nI b) (ha : a ≤ 1) (hb : b ≤ 1) : a = b := g_eq h (by omega) (by omega)
theorem wl_keepD {D : va_G} {σ σ1 : Nat → va_E} {Ls : Nat → g_L} {er : Nat} {f8 : Nat → UInt64} {OK : UInt64 → (Nat → va_E) → Prop} (hO : σ 32 = .inl (g_cD D, 1, .inr (.inr (.inr (.inl f8)))))
    (h : (er = 0 ∧ ∃ (r9 : UInt64) (σ2 : Nat → va_E), OK r9 σ2 ∧ g_off 0 19 σ σ2 ∧ σ1 = va_up σ2 32 (.inl (g_cD D, 1, .inr (.inr (.inr (.inl (vf_upd f8 0 r9))))))) ∨ (er ≠ 0 ∧ g_C D σ1 Ls ∧ g_off 0 19 σ σ1)) :
    (∀ k, 20 ≤ k → k ≤ 30 → σ1 k = σ k) ∧ (∃ f, σ1 32 = .inl (g_cD D, 1, .inr (.inr (.inr (.inl f))))) ∧ σ1 31 = σ 31 := by
  rcases h with ⟨-, r9, σ2, -, ho, rfl⟩ | ⟨-, -, ho⟩
  · refine ⟨fun k h1 h2 => ?_, ⟨_, g_ups⟩, ?_⟩
    · rw [g_upn (ho k (by omega)) (by omega)]
    · rw [g_upn (ho 31 (by omega)) (by decide)]
  · exact ⟨fun k h1 h2 => ho k (by omega), ⟨f8, (ho 32 (by omega)).trans hO⟩, ho 31 (by omega)⟩
section GX13
variable {p : Program} {l : Launch} {e : Env} {R : Room} {s : State} {m : MethodId} {args : Array Value} {below : List Frame} {meth : Method} {c : Code} {H : Heap} {locs : List Loc} {cells slots : Nat} {Q : State → Prop}
variable {D : va_G} {σ : Nat → va_E} {pc : Nat} {ls : Array Slot} {rest : List Value} {cc : ByteArray}
theorem g_laldO (hx : p.tables.exec = Jvm.exec) (hb : c.code = cc) (hE : g_EV D s) (hP : va_P D vwCl (g_W D σ) H) {f : Nat → Int64} (hσ : σ 31 = .inl (g_cL D, 1, .inr (.inl f))) {v : Int64} (hv : f 0 = v) (hdg : decode cc pc = .ok (.laload, 1))
    (kk : W p l e R s m args below meth c H locs cells slots Q (F0 m (pc + 1) ls (.long v :: rest))) : W p l e R s m args below meth c H locs cells slots Q (F0 m pc ls (.int (nI 0) :: .ref (ad_ D 31) :: rest)) := by
  subst hv
  exact va_lald (D := D) (tys := g_tys D) hx hb hE.1 hP 31 1 (g_at (by decide) hσ) rfl (i := nI 0) (vp_in_nI (by decide) (by decide)) hdg kk
theorem g_daldO (hx : p.tables.exec = Jvm.exec) (hb : c.code = cc) (hE : g_EV D s) (hP : va_P D vwCl (g_W D σ) H) {f : Nat → UInt64} (hσ : σ 32 = .inl (g_cD D, 1, .inr (.inr (.inr (.inl f))))) {v : UInt64} (hv : f 0 = v) (hdg : decode cc pc = .ok (.daload, 1))
    (kk : W p l e R s m args below meth c H locs cells slots Q (F0 m (pc + 1) ls (.double v :: rest))) : W p l e R s m args below meth c H locs cells slots Q (F0 m pc ls (.int (nI 0) :: .ref (ad_ D 32) :: rest)) := by
  subst hv
  exact va_dald (D := D) (tys := g_tys D) hx hb hE.1 hP 32 2 (g_at (by decide) hσ) rfl (i := nI 0) (vp_in_nI (by decide) (by decide)) hdg kk
end GX13
