/-! ===== the class's search, piece by piece ===== -/
def XQ (σ : ST) (b : BS) : Prop :=
  σ.1 3 = nI b.2.2.2 ∧ (∀ i, i < b.2.2.2 → σ.2 8 i = nI (b.1 i)) ∧ (∀ i, i < b.2.2.2 → σ.2 9 (b.1 i) = nI (b.1 (b.2.1 i) + 1)) ∧ (∀ v, v < 43008 → bIn b v = false → σ.2 9 v = 0)
def encL (dep : Nat → Nat) (f : Nat) (x : Option Nat) : Int32 := match x with
  | none => -1
  | some i => nI (dep i + (if f < 10 then 0 else 1))
def XF (σ : ST) (b : BS) (F : Nat → Option Nat) : Prop :=
  (∀ f, f < 25 → σ.2 12 f = encL b.2.2.1 f (F f)) ∧ (∀ f i, f < 25 → F f = some i → σ.2 13 f = nI (b.1 i)) ∧ σ.1 4 = nI (numF F 25)
def cntP (ord : Nat → Nat) : Nat → Nat → Nat
  | 0, _ => 0
  | q + 1, p => cntP ord q p + (if ord q / 1024 = p then 1 else 0)
def bitS (s : Nat) : Int32 := (1 : Int32) <<< (nI s &&& 31)
def orP (ord : Nat → Nat) : Nat → Nat → Nat → Int32
  | 0, _, _ => 0
  | q + 1, p, t => if ord q / 1024 = p then orP ord q p t ||| bitS (stN (ord q) t) else orP ord q p t
def oneN (C : Nat → Nat → Int32) (w v t : Nat) : Nat :=
  if w = 0 then (if C 0 t = 0 ∧ stN v t = 1 then 1 else 0) else if w = 1 then (if C 0 t = 1 then stN v t else 0) else (if sHeld (C 0 t) (stN v t) then 1 else 0)
def valN (C : Nat → Nat → Int32) (w v : Nat) : Nat → Nat
  | 0 => 0
  | t + 1 => valN C w v t + oneN C w v t
def mxP (C : Nat → Nat → Int32) (n : Nat) (ord : Nat → Nat) (w : Nat) : Nat → Nat
  | 0 => 0
  | q + 1 => max (mxP C n ord w q) (valN C w (ord q) n)
def XS (σ : ST) (n : Nat) (C : Nat → Nat → Int32) (ord : Nat → Nat) (q : Nat) : Prop :=
  (∀ p, p < 42 → σ.2 10 p = nI (cntP ord q p)) ∧ (∀ p t, p < 42 → t < n → σ.2 11 (p * 5 + t) = orP ord q p t) ∧ σ.1 5 = nI (mxP C n ord 0 q) ∧ σ.1 6 = nI (mxP C n ord 1 q) ∧ σ.1 7 = nI (mxP C n ord 2 q)
theorem one_le {C : Nat → Nat → Int32} {w v t : Nat} : oneN C w v t ≤ 3 := by
  have := st_lt v t
  unfold oneN
  repeat' split
  all_goals omega
theorem val_le {C : Nat → Nat → Int32} {w v : Nat} : ∀ t, valN C w v t ≤ 3 * t := by
  intro t
  induction t with
  | zero => exact Nat.le_refl 0
  | succ t ih => have := one_le (C := C) (w := w) (v := v) (t := t); unfold valN; omega
theorem mxP_le {C : Nat → Nat → Int32} {n w : Nat} {ord : Nat → Nat} : ∀ q, mxP C n ord w q ≤ 3 * n := by
  intro q
  induction q with
  | zero => exact Nat.zero_le _
  | succ q ih => have := val_le (C := C) (w := w) (v := ord q) n; unfold mxP; omega
theorem cntP_le {ord : Nat → Nat} {p : Nat} : ∀ q, cntP ord q p ≤ q := by
  intro q
  induction q with
  | zero => exact Nat.le_refl 0
  | succ q ih => unfold cntP; split <;> omega
theorem mx_nI {a b : Nat} (ha : a < 2 ^ 31) (hb : b < 2 ^ 31) : mx32 (nI a) (nI b) = nI (max a b) := by
  unfold mx32
  by_cases h : a < b
  · rw [if_pos (nI_lt h hb), Nat.max_eq_right (by omega)]
  · rw [if_neg (nI_nlt (by omega) ha), Nat.max_eq_left (by omega)]
theorem i_p5 {a t : Nat} : (nI a * 5) + nI t = nI (a * 5 + t) := by
  rw [show (5 : Int32) = nI 5 from by decide, pk_mul, nI_add]
/-- only the survey's own rows have changed -/
def SmS (σ σ' : ST) : Prop := (∀ i, i ≠ 5 → i ≠ 6 → i ≠ 7 → σ'.1 i = σ.1 i) ∧ (∀ j, j ≠ 10 → j ≠ 11 → σ'.2 j = σ.2 j)
def midP (ord : Nat → Nat) (v q t p t' : Nat) : Int32 := if p = v / 1024 ∧ t' < t then orP ord q p t' ||| bitS (stN v t') else orP ord q p t'
set_option maxHeartbeats 4000000 in
theorem X_surv_loop {n m v q : Nat} {C : Nat → Nat → Int32} {ord : Nat → Nat} (w : WFc n m C) (hv : v < 43008) : ∀ (r t fuel : Nat) (σ : ST), t + r = n → r < fuel → AgX σ n m C → (∀ p t', p < 42 → t' < n → σ.2 11 (p * 5 + t') = midP ord v q t p t') →
    σ.1 5 = nI (mxP C n ord 0 q) → σ.1 6 = nI (mxP C n ord 1 q) → σ.1 7 = nI (mxP C n ord 2 q) →
    ∃ σ', fX1_survey_L32 fuel (nI (v / 1024)) (nI (v % 1024)) (nI (valN C 0 v t)) (nI (valN C 1 v t)) (nI (valN C 2 v t)) (nI t) σ = some σ' ∧ (∀ p t', p < 42 → t' < n → σ'.2 11 (p * 5 + t') = midP ord v q n p t') ∧ σ'.1 5 = nI (max (mxP C n ord 0 q) (valN C 0 v n)) ∧ σ'.1 6 = nI (max (mxP C n ord 1 q) (valN C 1 v n)) ∧ σ'.1 7 = nI (max (mxP C n ord 2 q) (valN C 2 v n)) ∧ (∀ i, i ≠ 5 → i ≠ 6 → i ≠ 7 → σ'.1 i = σ.1 i) ∧ (∀ j, j ≠ 11 → σ'.2 j = σ.2 j) := by
  obtain ⟨hn, hm, wt, ws⟩ := w
  intro r
  induction r with
  | zero =>
    intro t fuel σ ht hfu g hP h5 h6 h7
    obtain ⟨fuel, rfl⟩ : ∃ z, fuel = z + 1 := ⟨fuel - 1, by omega⟩
    have e : t = n := by omega
    subst e
    have v0 := val_le (C := C) (w := 0) (v := v) t
    have v1 := val_le (C := C) (w := 1) (v := v) t
    have v2 := val_le (C := C) (w := 2) (v := v) t
    have x0 := mxP_le (C := C) (n := t) (w := 0) (ord := ord) q
    have x1 := mxP_le (C := C) (n := t) (w := 1) (ord := ord) q
    have x2 := mxP_le (C := C) (n := t) (w := 2) (ord := ord) q
    rw [fX1_survey_L32, g.1, if_pos (nI_le (by omega) (by omega)), h5, mx_nI (by omega) (by omega), nm_e9, nm_e9, setF_n _ _ (by decide), h6, mx_nI (by omega) (by omega), nm_e9, nm_e9, setF_n _ _ (by decide), setF_n _ _ (by decide), h7, mx_nI (by omega) (by omega), nm_e9, nm_e9]
    refine ⟨_, rfl, hP, ?_, ?_, ?_, fun i i1 i2 i3 => ?_, fun j hj => rfl⟩
    · rw [setF_n _ _ (by decide), setF_n _ _ (by decide), setF_s]
    · rw [setF_n _ _ (by decide), setF_s]
    · rw [setF_s]
    · rw [setF_n _ _ i3, setF_n _ _ i2, setF_n _ _ i1]
  | succ r ih =>
    intro t fuel σ ht hfu g hP h5 h6 h7
    obtain ⟨fuel, rfl⟩ : ∃ z, fuel = z + 1 := ⟨fuel - 1, by omega⟩
    have ht5 : t < 5 := by omega
    have hp : v / 1024 < 42 := by omega
    obtain ⟨g1, g2, a0, a1, a2, a3, a4, a5, a6, a7⟩ := g
    have hi : v / 1024 * 5 + t < 210 := by omega
    rw [fX1_survey_L32, g1, if_neg (nI_ge (by omega) (by omega)), X_st (by omega) ht5, bd_s, i_p5]
    simp only [ix_nI hi (show 210 < 2 ^ 31 by omega), nm_e9, nI_clamp (show v / 1024 * 5 + t < 2 ^ 31 by omega), hP (v / 1024) t hp (show t < n by omega), st_mod ht5]
    generalize hσ : setA σ 11 (v / 1024 * 5 + t) (midP ord v q t (v / 1024) t ||| (1 : Int32) <<< (nI (stN v t) &&& 31)) = σ1
    have g' : AgX σ1 n m C := by
      rw [← hσ]
      exact ⟨g1, g2, a0, a1, a2, a3, a4, a5, a6, a7⟩
    have hP1 : ∀ p t', p < 42 → t' < n → σ1.2 11 (p * 5 + t') = midP ord v q (t + 1) p t' := by
      intro p t' hp' ht'
      rw [← hσ, setA_s]
      by_cases c : p = v / 1024 ∧ t' = t
      · rw [c.1, c.2, upd_s]
        unfold midP
        rw [if_neg (by omega), if_pos ⟨rfl, by omega⟩]
        rfl
      · rw [upd_n _ _ (by omega), hP p t' hp' ht']
        unfold midP
        by_cases d : p = v / 1024 ∧ t' < t
        · rw [if_pos d, if_pos ⟨d.1, by omega⟩]
        · rw [if_neg d, if_neg (by omega)]
    have h0 : σ1.2 0 t = 0 ∨ σ1.2 0 t = 1 := by rw [g'.2.2.1]; exact (wt t (by omega)).1
    obtain ⟨σ2, e2, q1, q2, q3, q4, q5, q6⟩ := ih (t + 1) fuel σ1 (by omega) (by omega) g' hP1 (by rw [← hσ]; exact h5) (by rw [← hσ]; exact h6) (by rw [← hσ]; exact h7)
    refine ⟨σ2, ?_, q1, q2, q3, q4, fun i i1 i2 i3 => (q5 i i1 i2 i3).trans (by rw [← hσ]; rfl), fun j hj => (q6 j hj).trans (by rw [← hσ]; exact setA_n _ _ _ hj)⟩
    rw [← e2]
    rw [X_held (by omega) ht5 h0, bd_s, st_mod ht5, X_isFile ht5, bd_s]
    unfold fX1_survey_L105 fX1_survey_L108 fX1_survey_L128
    simp only [nm_e9, X_isFile ht5, bd_s, nI_1, g'.2.2.1]
    have hs4 := st_lt v t
    have e0 : valN C 0 v (t + 1) = valN C 0 v t + oneN C 0 v t := rfl
    have e1 : valN C 1 v (t + 1) = valN C 1 v t + oneN C 1 v t := rfl
    have e2' : valN C 2 v (t + 1) = valN C 2 v t + oneN C 2 v t := rfl
    rw [e0, e1, e2', ← nI_add, ← nI_add, ← nI_add]
    generalize valN C 0 v t = A0
    generalize valN C 1 v t = A1
    generalize valN C 2 v t = A2
    unfold oneN
    generalize stN v t = s at hs4 ⊢
    rcases (wt t (by omega)).1 with e | e
    · rw [e]
      rcases s_cases hs4 with rfl | rfl | rfl | rfl
      all_goals simp [sHeld, b01, nI_0, nI_add]
      all_goals first | rfl | skip
    · rw [e]
      rcases s_cases hs4 with rfl | rfl | rfl | rfl
      all_goals simp [sHeld, b01, nI_0, nI_add]
      all_goals first | rfl | skip
