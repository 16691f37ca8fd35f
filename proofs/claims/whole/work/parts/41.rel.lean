/-! ===== the relation of the two sides, and the calls that only read ===== -/
def TrialR (σ τ : ST) : Prop := (σ.1 8 = 0 ∧ τ.1 4 = 0 ∧ σ.1 9 = 0) ∨ (σ.1 8 = 1 ∧ τ.1 4 = 1 ∧ ∃ d v nn, d ≤ 100 ∧ v < 43008 ∧ nn ≤ 5 ∧ σ.1 9 = nI d ∧ τ.1 5 = nI d ∧ (∀ i, i < d → σ.2 14 i = τ.2 12 i) ∧ σ.1 10 = τ.1 7 ∧ σ.1 11 = nI v ∧ τ.1 6 = nI v ∧ σ.1 12 = nI nn ∧ τ.1 8 = nI nn)
def FoundR (σ τ : ST) (n m : Nat) (C : Nat → Nat → Int32) : Prop := (σ.1 0 = 0 ∧ τ.1 2 = 0) ∨ (σ.1 0 = 1 ∧ τ.1 2 = 1 ∧ XAll σ n m C ∧ MB τ (bfs C m) ∧ FB τ (fnd n m C))
def RelC (σ τ : ST) (n m : Nat) (C : Nat → Nat → Int32) : Prop := WFc n m C ∧ AgX σ n m C ∧ AgM τ n m C ∧ XW σ ∧ TrialR σ τ ∧ FoundR σ τ n m C
def Rel (σ τ : ST) : Prop := ∃ n m C, RelC σ τ n m C
def z0 : ST := (fun _ => 0, fun _ _ => 0)
theorem rel_0 : Rel z0 z0 := by
  refine ⟨0, 0, fun _ _ => 0, ⟨by omega, by omega, fun i hi => by omega, fun k hk => by omega⟩, ⟨rfl, rfl, rfl, rfl, rfl, rfl, rfl, rfl, rfl, rfl⟩, ⟨rfl, rfl, rfl, rfl, rfl, rfl, rfl, rfl, rfl, rfl⟩, ⟨0, by omega, rfl, fun i hi => by omega, fun v hv hne => absurd rfl hne⟩, Or.inl ⟨rfl, rfl, rfl⟩, Or.inl ⟨rfl, rfl⟩⟩
def inN (x : Int32) (n : Nat) : Bool := decide (¬ x < 0 ∧ ¬ nI n ≤ x)
theorem inN_of {x : Int32} {n : Nat} (h : inN x n = true) (hn : n < 2 ^ 31) : ∃ j, j < n ∧ x = nI j := by
  have h1 := of_decide_eq_true h
  rcases pk_ix x hn with c | c | c
  · exact absurd c h1.1
  · exact absurd c h1.2
  · exact c
theorem inN_nI {j n : Nat} (h : j < n) (hn : n < 2 ^ 31) : inN (nI j) n = true := decide_eq_true ⟨nI_pos (by omega), nI_ge h hn⟩
theorem X_in {x : Int32} {n : Nat} : fX5_isWithin x (nI n) = some (b01 (inN x n)) := by
  unfold fX5_isWithin inN
  by_cases h1 : x < 0
  · rw [if_pos h1, decide_eq_false (fun z => z.1 h1)]; rfl
  · rw [if_neg h1]
    by_cases h2 : nI n ≤ x
    · rw [if_pos h2, decide_eq_false (fun z => z.2 h2)]; rfl
    · rw [if_neg h2, decide_eq_true ⟨h1, h2⟩]; rfl
theorem i_pred_lt {x : Int32} {n : Nat} (hn : n < 2 ^ 30) : (nI n - 1 < x) ↔ (nI n ≤ x) := by
  cases n with
  | zero =>
    rw [show nI 0 - 1 = (-1 : Int32) from by decide, show nI 0 = (0 : Int32) from by decide, Int32.lt_iff_toInt_lt, Int32.le_iff_toInt_le, show (-1 : Int32).toInt = -1 from by decide, show (0 : Int32).toInt = 0 from by decide]
    omega
  | succ k =>
    rw [nI_pred, Int32.lt_iff_toInt_lt, Int32.le_iff_toInt_le, nI_toInt (by omega), nI_toInt (by omega)]
    omega
theorem M_in {x y : Int32} {n : Nat} (hn : n < 2 ^ 30) (hy : y = nI n - 1) : fX6_in x 0 y = some (b01 (inN x n)) := by
  unfold fX6_in inN
  rw [hy]
  by_cases h1 : x < 0
  · rw [if_pos h1, decide_eq_false (fun z => z.1 h1)]; rfl
  · rw [if_neg h1]
    by_cases h2 : nI n ≤ x
    · rw [if_pos ((i_pred_lt hn).mpr h2), decide_eq_false (fun z => z.2 h2)]; rfl
    · rw [if_neg (fun z => h2 ((i_pred_lt hn).mp z)), decide_eq_true ⟨h1, h2⟩]; rfl
theorem zb_b {α : Type} {b : Bool} {k : Option α} : zb (b01 b) k = k := by
  cases b
  · exact zb_0
  · exact zb_1
theorem X_has {σ : ST} {n : Nat} (h : σ.1 1 = nI n) {x : Int32} : fX3_has σ x = some (b01 (inN x n)) := by
  unfold fX3_has
  rw [h, X_in, bd_s, zb_b]
theorem X_hasS {σ : ST} {n : Nat} (h : σ.1 2 = nI n) {x : Int32} : fX2_has σ x = some (b01 (inN x n)) := by
  unfold fX2_has
  rw [h, X_in, bd_s, zb_b]
theorem M_has {σ : ST} {n : Nat} (h : σ.1 0 = nI n) (hn : n < 2 ^ 30) {x : Int32} : fX6_isThing σ x = some (b01 (inN x n)) := by
  unfold fX6_isThing
  rw [h, M_in hn rfl, bd_s, zb_b]
theorem bf : (b01 false = 0) = True := eq_true rfl
theorem bt9 : (b01 true = 0) = False := eq_false (by decide)
/-- count -/
theorem op_count {σ τ : ST} (h : Rel σ τ) (x : Int32) : ∃ r, fX5_count σ x = some r ∧ fX6_count τ x = some r := by
  obtain ⟨n, m, C, w, g, g', -, -, hF⟩ := h
  unfold fX5_count fX6_count
  rw [g.1, g.2.1, g'.1, g'.2.1]
  have e : σ.1 0 = τ.1 2 := by
    rcases hF with ⟨a, b⟩ | ⟨a, b, -⟩
    · rw [a, b]
    · rw [a, b]
  rw [e]
  by_cases c0 : x = 0
  · rw [if_pos c0]; exact ⟨_, rfl, rfl⟩
  · rw [if_neg c0]
    by_cases c1 : x = 1
    · rw [if_pos c1]; exact ⟨_, rfl, rfl⟩
    · rw [if_neg c1]
      by_cases c2 : x = 2
      · rw [if_pos c2]
        by_cases c3 : τ.1 2 = 0
        · rw [if_pos c3]; exact ⟨_, rfl, rfl⟩
        · rw [if_neg c3]; exact ⟨_, rfl, rfl⟩
      · rw [if_neg c2]; exact ⟨_, rfl, rfl⟩
/-- told -/
theorem op_told {σ τ : ST} (h : Rel σ τ) (x y : Int32) : ∃ r, fX5_told σ x y = some r ∧ fX6_told τ x y = some r := by
  obtain ⟨n, m, C, w, g, g', -, -, hF⟩ := h
  have hm := w.2.1
  unfold fX5_told fX6_told
  rw [X_hasS g.2.1, g'.2.1, M_in (show m < 2 ^ 30 by omega) rfl, bd_s, bd_s]
  obtain ⟨g1, g2, a0, a1, a2, a3, a4, a5, a6, a7⟩ := g
  obtain ⟨g1', g2', a0', a1', a2', a3', a4', a5', a6', a7'⟩ := g'
  cases hx : inN x m with
  | false => simp only [bf, if_true]; exact ⟨_, rfl, rfl⟩
  | true =>
    obtain ⟨k, hk, e⟩ := inN_of hx (by omega)
    obtain ⟨co, hco, e3, ht, hs, h6, h7, hkp⟩ := w.2.2.2 k hk
    simp only [bt9, if_false, e, ix_nI (show k < 40 by omega) (show 40 < 2 ^ 31 by omega), nI_clamp (show k < 2 ^ 31 by omega), a3, a4, a5, a6, a7, a3', a4', a5', a6', a7']
    by_cases c0 : y = 0
    · rw [if_pos c0, if_pos c0]; exact ⟨_, rfl, rfl⟩
    · rw [if_neg c0, if_neg c0]
      by_cases c1 : y = 1
      · rw [if_pos c1, if_pos c1]; exact ⟨_, rfl, rfl⟩
      · rw [if_neg c1, if_neg c1]
        by_cases c2 : y = 2
        · rw [if_pos c2, if_pos c2]; exact ⟨_, rfl, rfl⟩
        · rw [if_neg c2, if_neg c2]
          by_cases c3 : y = 3
          · rw [if_pos c3, if_pos c3]; exact ⟨_, rfl, rfl⟩
          · rw [if_neg c3, if_neg c3]
            by_cases c4 : y = 4
            · rw [if_pos c4, if_pos c4]
              rcases h6 with e6 | e6 <;> rw [e6]
              · exact ⟨0, rfl, rfl⟩
              · exact ⟨1, rfl, rfl⟩
            · rw [if_neg c4, if_neg c4]; exact ⟨_, rfl, rfl⟩
/-- ran -/
theorem op_ran {σ τ : ST} (h : Rel σ τ) (x : Int32) : ∃ r, fX5_ran σ x = some r ∧ fX6_ran τ x = some r := by
  obtain ⟨n, m, C, w, g, g', -, hT, hF⟩ := h
  unfold fX5_ran fX6_ran
  rcases hT with ⟨t1, t2, t3⟩ | ⟨t1, t2, d, v, nn, d1, d2, d3, e1, e2, e3, e4, e5, e6, e7, e8⟩
  · rw [t2, t3, if_pos rfl, nI_lit0, X_in, bd_s]
    have : inN x 0 = false := by
      cases hx : inN x 0 with
      | false => rfl
      | true => obtain ⟨j, hj, -⟩ := inN_of hx (by omega); omega
    rw [this]
    exact ⟨_, rfl, rfl⟩
  · rw [t2, if_neg (by decide), e1, e2, X_in, bd_s, M_in (by omega) rfl, bd_s]
    cases hx : inN x d with
    | false => simp only [bf, if_true]; exact ⟨_, rfl, rfl⟩
    | true =>
      obtain ⟨k, hk, e⟩ := inN_of hx (by omega)
      simp only [bt9, if_false]
      rw [e, ix_nI (by omega) (by omega), ix_nI (by omega) (by omega), nI_clamp (by omega), e3 k hk]
      exact ⟨_, rfl, rfl⟩
/-- came -/
theorem op_came {σ τ : ST} (h : Rel σ τ) (x : Int32) : ∃ r, fX5_came σ x = some r ∧ fX6_came τ x = some r := by
  obtain ⟨n, m, C, w, g, g', -, hT, hF⟩ := h
  unfold fX5_came fX6_came
  rw [show (7 : Int32) = nI 7 from by decide, X_in, bd_s, M_in (n := 7) (by omega) (by decide), bd_s]
  cases hx : inN x 7 with
  | false => simp only [bf, if_true]; exact ⟨_, rfl, rfl⟩
  | true =>
    obtain ⟨k, hk, e⟩ := inN_of hx (by omega)
    simp only [bt9, if_false]
    rcases hT with ⟨t1, t2, t3⟩ | ⟨t1, t2, d, v, nn, d1, d2, d3, e1, e2, e3, e4, e5, e6, e7, e8⟩
    · rw [t1, t2, if_pos rfl, if_pos rfl]; exact ⟨_, rfl, rfl⟩
    · rw [t1, t2, if_neg (show ¬ (1 : Int32) = 0 by decide), if_neg (show ¬ (1 : Int32) = 0 by decide), e5, e6, e7, e8, e, X_place (by omega), bd_s, M_place (by omega), bd_s, e4]
      by_cases c0 : k = 0
      · subst c0
        rw [if_pos (by decide), if_pos (show nI 0 ≤ 1 + nI nn by rw [nI_lit1, nI_add]; exact nI_le (by omega) (by omega)), if_pos (by decide)]
        exact ⟨_, rfl, rfl⟩
      · rw [if_neg (show ¬ nI k = 0 by rw [nI_lit0, nI_eq (by omega) (by omega)]; exact c0), if_neg (show ¬ nI k = 0 by rw [nI_lit0, nI_eq (by omega) (by omega)]; exact c0)]
        by_cases c1 : k = 1
        · subst c1
          rw [if_pos (by decide), if_pos (show nI 1 ≤ 1 + nI nn by rw [nI_lit1, nI_add]; exact nI_le (by omega) (by omega)), if_pos (by decide)]
          exact ⟨_, rfl, rfl⟩
        · rw [if_neg (show ¬ nI k = 1 by rw [nI_lit1, nI_eq (by omega) (by omega)]; exact c1), if_neg (show ¬ nI k = 1 by rw [nI_lit1, nI_eq (by omega) (by omega)]; exact c1), nm_e9, show (2 : Int32) = nI 2 from by decide, pk_sub (by omega), nI_lit1, nI_add]
          by_cases c2 : nn ≤ k - 2
          · rw [if_pos (nI_le c2 (by omega)), if_neg (nI_ge (by omega) (by omega))]
            exact ⟨_, rfl, rfl⟩
          · rw [if_neg (nI_ge (by omega) (by omega)), if_pos (nI_le (by omega) (by omega)), X_all (by omega), bd_s, X_st (by omega) (by omega), bd_s, M_what (by omega) (by omega), bd_s, st_mod (by omega)]
            exact ⟨_, rfl, rfl⟩
