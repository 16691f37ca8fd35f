def CS (C : Nat → Nat → Int32) (k : Nat) (co t s ma h : Int32) : Nat → Nat → Int32 := fun j => if j = 3 then upd (C 3) k co else if j = 4 then upd (C 4) k t else if j = 5 then upd (C 5) k s else if j = 6 then upd (C 6) k ma else if j = 7 then upd (C 7) k h else C j
theorem CS_3 {C : Nat → Nat → Int32} {k : Nat} {co t s ma h : Int32} : CS C k co t s ma h 3 = upd (C 3) k co := rfl
theorem CS_4 {C : Nat → Nat → Int32} {k : Nat} {co t s ma h : Int32} : CS C k co t s ma h 4 = upd (C 4) k t := rfl
theorem CS_5 {C : Nat → Nat → Int32} {k : Nat} {co t s ma h : Int32} : CS C k co t s ma h 5 = upd (C 5) k s := rfl
theorem CS_6 {C : Nat → Nat → Int32} {k : Nat} {co t s ma h : Int32} : CS C k co t s ma h 6 = upd (C 6) k ma := rfl
theorem CS_7 {C : Nat → Nat → Int32} {k : Nat} {co t s ma h : Int32} : CS C k co t s ma h 7 = upd (C 7) k h := rfl
theorem CS_l {C : Nat → Nat → Int32} {k j : Nat} {co t s ma h : Int32} (hj : j < 3) : CS C k co t s ma h j = C j := by
  unfold CS
  rw [if_neg (by omega), if_neg (by omega), if_neg (by omega), if_neg (by omega), if_neg (by omega)]
theorem WFc.step {n m m' k : Nat} {C : Nat → Nat → Int32} {co t s ma h : Int32} (w : WFc n m C) (ha : AccS n C co t s h) (hma : ma = 0 ∨ ma = 1) (hk : (k < m ∧ m' = m) ∨ (k = m ∧ m' = m + 1 ∧ m < 40)) : WFc n m' (CS C k co t s ma h) := by
  obtain ⟨w1, w2, w3, w4⟩ := w
  refine ⟨w1, by omega, fun i hi => ?_, fun i hi => ?_⟩
  · unfold WT
    rw [CS_l (by omega), CS_l (by omega), CS_l (by omega)]; exact w3 i hi
  · unfold WS
    rw [CS_3, CS_4, CS_5, CS_6, CS_7, CS_l (by omega)]
    by_cases e : i = k
    · rw [e, upd_s, upd_s, upd_s, upd_s, upd_s]
      obtain ⟨c, c1, c2, c3, c4, c5, c6⟩ := ha
      exact ⟨c, c1, c2, c3, c4, hma, c5, c6⟩
    · rw [upd_n _ _ e, upd_n _ _ e, upd_n _ _ e, upd_n _ _ e, upd_n _ _ e]
      exact w4 i (by omega)
theorem X_write {σ : ST} {k : Nat} {co t s ma h : Int32} (hk : k < 40) (hma : ma = 0 ∨ ma = 1) : fX2_write σ (nI k) co t s ma h = some (setA (setA (setA (setA (setA σ 3 k co) 4 k t) 5 k s) 6 k ma) 7 k h) := by
  unfold fX2_write
  simp only [ix_nI hk (show 40 < 2 ^ 31 by omega), nm_e9, nI_clamp (show k < 2 ^ 31 by omega), nar01 hma]
theorem M_lay {σ : ST} {k : Nat} {co t s ma h : Int32} (hk : k < 40) (hma : ma = 0 ∨ ma = 1) : fX6_lay σ (nI k) co t s ma h = some (setF (setA (setA (setA (setA (setA σ 3 k co) 4 k t) 5 k s) 6 k ma) 7 k h) 2 0) := by
  unfold fX6_lay fX6_lay_L37
  simp only [ix_nI hk (show 40 < 2 ^ 31 by omega), nm_e9, nI_clamp (show k < 2 ^ 31 by omega)]
  rcases hma with e | e
  · rw [e, if_pos rfl]
  · rw [e, if_neg (by decide)]
/-- step -/
theorem op_step {σ τ : ST} (hR : Rel σ τ) (co t s ma h : Int32) (hma : ma = 0 ∨ ma = 1) : ∃ r σ' τ', fX5_step σ co t s ma h = some (r, σ') ∧ fX6_step τ co t s ma h = some (r, τ') ∧ Rel σ' τ' := by
  have hR0 := hR
  obtain ⟨n, m, C, w, g, g', hX, hT, hF⟩ := hR
  have hm := w.2.1
  obtain ⟨r, e1, e2, hc⟩ := bars g g' w co t s h
  unfold fX5_step fX6_step
  rw [e1, bd_s, e2, bd_s, g.2.1, g'.2.1]
  rcases hc with ⟨hr, ha⟩ | ⟨h1, h2⟩
  · subst hr
    rw [if_pos rfl, if_pos (show (0 : Int32) ≤ 0 by decide)]
    by_cases c : m < 40
    · rw [if_pos (show nI m < 40 from nI_lt (a := m) (b := 40) c (by omega)), if_neg (show ¬ nI m = 40 by rw [show (40 : Int32) = nI 40 from by decide, nI_eq (by omega) (by omega)]; omega), nm_e9, nm_e9, nI_1, X_write c hma, bd_s, nm_e9, M_lay c hma, bd_s]
      simp only [nm_e9]
      have e3 : (setF (setA (setA (setA (setA (setA τ 3 m co) 4 m t) 5 m s) 6 m ma) 7 m h) 2 0).1 1 = nI m := g'.2.1
      rw [e3, nI_1, setF_s, nI_pred]
      have w' := w.step (m' := m + 1) (k := m) ha hma (Or.inr ⟨rfl, rfl, c⟩)
      obtain ⟨g1, g2, a0, a1, a2, a3, a4, a5, a6, a7⟩ := g
      obtain ⟨g1', g2', a0', a1', a2', a3', a4', a5', a6', a7'⟩ := g'
      refine ⟨nI m, _, _, rfl, rfl, n, m + 1, CS C m co t s ma h, w', ⟨g1, rfl, a0, a1, a2, ?_, ?_, ?_, ?_, ?_⟩, ⟨g1', rfl, a0', a1', a2', ?_, ?_, ?_, ?_, ?_⟩, hX.same rfl rfl rfl, hT.same rfl rfl rfl rfl rfl rfl rfl rfl rfl rfl rfl rfl, Or.inl ⟨rfl, rfl⟩⟩
      · rw [CS_3, ← a3]; rfl
      · rw [CS_4, ← a4]; rfl
      · rw [CS_5, ← a5]; rfl
      · rw [CS_6, ← a6]; rfl
      · rw [CS_7, ← a7]; rfl
      · rw [CS_3, ← a3']; rfl
      · rw [CS_4, ← a4']; rfl
      · rw [CS_5, ← a5']; rfl
      · rw [CS_6, ← a6']; rfl
      · rw [CS_7, ← a7']; rfl
    · rw [if_neg (show ¬ nI m < 40 from nI_nlt (a := m) (b := 40) (by omega) (by omega)), if_pos (show nI m = 40 by rw [show m = 40 by omega]; decide)]
      exact ⟨_, _, _, rfl, rfl, hR0⟩
  · rw [if_neg h1, if_neg h2]
    exact ⟨_, _, _, rfl, rfl, hR0⟩
/-- change -/
theorem op_change {σ τ : ST} (hR : Rel σ τ) (x co t s ma h : Int32) (hma : ma = 0 ∨ ma = 1) : ∃ r σ' τ', fX5_change σ x co t s ma h = some (r, σ') ∧ fX6_change τ x co t s ma h = some (r, τ') ∧ Rel σ' τ' := by
  have hR0 := hR
  obtain ⟨n, m, C, w, g, g', hX, hT, hF⟩ := hR
  have hm := w.2.1
  obtain ⟨r, e1, e2, hc⟩ := bars g g' w co t s h
  unfold fX5_change fX6_change
  rw [e1, bd_s, e2, bd_s, X_hasS g.2.1, bd_s, g'.2.1, M_in (show m < 2 ^ 30 by omega) rfl, bd_s]
  rcases hc with ⟨hr, ha⟩ | ⟨h1, h2⟩
  · subst hr
    rw [if_pos rfl, if_pos (show (0 : Int32) ≤ 0 by decide)]
    cases hx : inN x m with
    | false =>
      rw [if_pos (show b01 false = 0 from rfl), if_pos (show b01 false = 0 from rfl)]
      exact ⟨_, _, _, rfl, rfl, hR0⟩
    | true =>
      obtain ⟨k, hk, rfl⟩ := inN_of hx (by omega)
      rw [if_neg (show ¬ b01 true = 0 by decide), if_neg (show ¬ b01 true = 0 by decide), ix_nI (by omega) (by omega), ix_nI (by omega) (by omega), nm_e9, nm_e9, X_write (by omega) hma, bd_s, M_lay (by omega) hma, bd_s, nm_e9, nI_clamp (by omega)]
      have w' := w.step (m' := m) (k := k) ha hma (Or.inl ⟨hk, rfl⟩)
      obtain ⟨g1, g2, a0, a1, a2, a3, a4, a5, a6, a7⟩ := g
      obtain ⟨g1', g2', a0', a1', a2', a3', a4', a5', a6', a7'⟩ := g'
      rw [a3, a3']
      refine ⟨C 3 k, _, _, rfl, rfl, n, m, CS C k co t s ma h, w', ⟨g1, g2, a0, a1, a2, ?_, ?_, ?_, ?_, ?_⟩, ⟨g1', g2', a0', a1', a2', ?_, ?_, ?_, ?_, ?_⟩, hX.same rfl rfl rfl, hT.same rfl rfl rfl rfl rfl rfl rfl rfl rfl rfl rfl rfl, Or.inl ⟨rfl, rfl⟩⟩
      · rw [CS_3, ← a3]; rfl
      · rw [CS_4, ← a4]; rfl
      · rw [CS_5, ← a5]; rfl
      · rw [CS_6, ← a6]; rfl
      · rw [CS_7, ← a7]; rfl
      · rw [CS_3, ← a3']; rfl
      · rw [CS_4, ← a4']; rfl
      · rw [CS_5, ← a5']; rfl
      · rw [CS_6, ← a6']; rfl
      · rw [CS_7, ← a7']; rfl
  · rw [if_neg h1, if_neg h2]
    exact ⟨_, _, _, rfl, rfl, hR0⟩
