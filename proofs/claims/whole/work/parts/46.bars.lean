/-! ===== steps that come or change ===== -/
def refN (n : Nat) (C : Nat → Nat → Int32) (nt ns k3 : Bool) (t s h : Int32) : Int32 :=
  if nt && !inN t n then -101 else if ns && !inN s 40 then -102 else if !decide (h = -1) && !inN h 40 then -102 else if k3 && !decide (C 0 t.toNatClampNeg = 0) then -102 else 0
theorem ref_cases (n : Nat) (C : Nat → Nat → Int32) (nt ns k3 : Bool) (t s h : Int32) : (refN n C nt ns k3 t s h = 0 ∧ (nt = true → inN t n = true) ∧ (ns = true → inN s 40 = true) ∧ (h = -1 ∨ inN h 40 = true) ∧ (k3 = true → C 0 t.toNatClampNeg = 0)) ∨ (¬ refN n C nt ns k3 t s h = 0 ∧ ¬ (0 : Int32) ≤ refN n C nt ns k3 t s h) := by
  unfold refN
  cases h1 : (nt && !inN t n) with
  | true => exact Or.inr (by simp only [if_true]; decide)
  | false =>
    cases h2 : (ns && !inN s 40) with
    | true => exact Or.inr (by simp only [if_true, Bool.false_eq_true, if_false]; decide)
    | false =>
      cases h3 : (!decide (h = -1) && !inN h 40) with
      | true => exact Or.inr (by simp only [if_true, Bool.false_eq_true, if_false]; decide)
      | false =>
        cases h4 : (k3 && !decide (C 0 t.toNatClampNeg = 0)) with
        | true => exact Or.inr (by simp only [if_true, Bool.false_eq_true, if_false]; decide)
        | false =>
          refine Or.inl ⟨by simp only [Bool.false_eq_true, if_false], fun z => ?_, fun z => ?_, ?_, fun z => ?_⟩
          · rw [z] at h1; simpa using h1
          · rw [z] at h2; simpa using h2
          · by_cases c : h = -1
            · exact Or.inl c
            · right; simpa [c] using h3
          · rw [z] at h4; simpa using h4
theorem X_r72 {σ : ST} {n m : Nat} {C : Nat → Nat → Int32} (g : AgX σ n m C) (w : WFc n m C) {co t : Int32} {k3 : Bool} (hk3 : (co = 3) = (k3 = true)) (ht : k3 = true → inN t n = true) : fX5_refusalOf_L72 σ co t = some (if k3 && !decide (C 0 t.toNatClampNeg = 0) then -102 else 0) := by
  have hn := w.1
  unfold fX5_refusalOf_L72
  simp only [hk3]
  cases k3 with
  | false => rfl
  | true =>
    obtain ⟨j, hj, rfl⟩ := inN_of (ht rfl) (by omega)
    rw [if_pos rfl, X_isFile (by omega), bd_s, g.2.2.1, nI_clamp (by omega)]
    rcases (w.2.2.1 j hj).1 with e | e <;> rw [e] <;> decide
theorem M_r103 {σ : ST} {n m : Nat} {C : Nat → Nat → Int32} (g : AgM σ n m C) (w : WFc n m C) {co t : Int32} {k3 : Bool} (hk3 : (co = 3) = (k3 = true)) (ht : k3 = true → inN t n = true) : fX6_bars_L103 σ co t = some (if k3 && !decide (C 0 t.toNatClampNeg = 0) then -102 else 0) := by
  have hn := w.1
  unfold fX6_bars_L103
  simp only [hk3]
  cases k3 with
  | false => rfl
  | true =>
    obtain ⟨j, hj, rfl⟩ := inN_of (ht rfl) (by omega)
    rw [if_pos rfl, ix_nI (by omega) (by omega), g.2.2.1, nI_clamp (by omega)]
    rcases (w.2.2.1 j hj).1 with e | e <;> rw [e] <;> decide
theorem X_ref {σ : ST} {n m : Nat} {C : Nat → Nat → Int32} (g : AgX σ n m C) (w : WFc n m C) {co t s h : Int32} {nt ns k3 : Bool} (h1 : fX5_namesThing co = some (b01 nt)) (h2 : fX5_namesStep co = some (b01 ns)) (h3 : ¬ co < 0) (h4 : co ≤ 8) (hk3 : (co = 3) = (k3 = true)) (hkn : k3 = true → nt = true) : fX5_refusalOf σ co t s h = some (refN n C nt ns k3 t s h) := by
  unfold fX5_refusalOf fX5_refusalOf_L21 fX5_refusalOf_L53
  simp only [h1, h2, bd_s, X_has g.1, show (40 : Int32) = nI 40 from by decide, X_in, if_neg h3, if_pos h4, b01_0]
  unfold refN
  cases nt with
  | false =>
    have k3f : k3 = false := by
      cases k3 with
      | false => rfl
      | true => exact absurd (hkn rfl) (by decide)
    rw [X_r72 g w hk3 (fun z => by rw [k3f] at z; cases z)]
    cases ns <;> cases inN s 40 <;> by_cases c : h = -1 <;> cases inN h 40 <;> simp [c]
  | true =>
    cases ht : inN t n with
    | false => simp
    | true =>
      rw [X_r72 g w hk3 (fun _ => ht)]
      cases ns <;> cases inN s 40 <;> by_cases c : h = -1 <;> cases inN h 40 <;> simp [c]
theorem M_ref {σ : ST} {n m : Nat} {C : Nat → Nat → Int32} (g : AgM σ n m C) (w : WFc n m C) {co t s h : Int32} {nt ns k3 : Bool} (h1 : ∀ (A B : Option Int32), (((fX6_in co 0 3).bind fun r3 => if r3 = 0 then (if co = 8 then A else B) else A) = if nt then A else B)) (h2 : ∀ (A B : Option Int32), (if co = 4 then A else (if co = 5 then A else (if co = 8 then A else B))) = if ns then A else B) (h3 : fX6_in co 0 8 = some 1) (hk3 : (co = 3) = (k3 = true)) (hkn : k3 = true → nt = true) : fX6_bars σ co t s h = some (refN n C nt ns k3 t s h) := by
  have hn := w.1
  unfold fX6_bars
  rw [h1]
  unfold fX6_bars_L15 fX6_bars_L20 fX6_bars_L38
  simp only [nm_e9]
  rw [h2]
  unfold fX6_bars_L54 fX6_bars_L59 fX6_bars_L86
  simp only [nm_e9, h3, bd_s, M_has g.1 (show n < 2 ^ 30 by omega), M_in (n := 40) (y := 39) (show 40 < 2 ^ 30 by omega) (by decide), b01_0, q10, if_true, if_false]
  unfold refN
  cases nt with
  | false =>
    have k3f : k3 = false := by
      cases k3 with
      | false => rfl
      | true => exact absurd (hkn rfl) (by decide)
    rw [M_r103 g w hk3 (fun z => by rw [k3f] at z; cases z)]
    cases ns <;> cases inN s 40 <;> by_cases c : h = -1 <;> cases inN h 40 <;> simp [c]
  | true =>
    cases ht : inN t n with
    | false => simp
    | true =>
      rw [M_r103 g w hk3 (fun _ => ht)]
      cases ns <;> cases inN s 40 <;> by_cases c : h = -1 <;> cases inN h 40 <;> simp [c]
/-- what an accepted step keeps -/
def AccS (n : Nat) (C : Nat → Nat → Int32) (co t s h : Int32) : Prop := ∃ c, c < 9 ∧ co = nI c ∧ ((c ≤ 3 ∨ c = 8) → ∃ j, j < n ∧ t = nI j) ∧ ((c = 4 ∨ c = 5 ∨ c = 8) → ∃ j, j < 40 ∧ s = nI j) ∧ (h = -1 ∨ ∃ j, j < 40 ∧ h = nI j) ∧ (c = 3 → C 0 t.toNatClampNeg = 0)
theorem bars {σ τ : ST} {n m : Nat} {C : Nat → Nat → Int32} (g : AgX σ n m C) (g' : AgM τ n m C) (w : WFc n m C) (co t s h : Int32) : ∃ r, fX5_refusalOf σ co t s h = some r ∧ fX6_bars τ co t s h = some r ∧ ((r = 0 ∧ AccS n C co t s h) ∨ (¬ r = 0 ∧ ¬ (0 : Int32) ≤ r)) := by
  have hn := w.1
  -- a code out of its bounds
  have out : (co < 0 ∨ nI 9 ≤ co) → ∃ r, fX5_refusalOf σ co t s h = some r ∧ fX6_bars τ co t s h = some r ∧ ((r = 0 ∧ AccS n C co t s h) ∨ (¬ r = 0 ∧ ¬ (0 : Int32) ≤ r)) := by
    intro hc
    have i0 : (0 : Int32).toInt = 0 := by decide
    have i3 : (3 : Int32).toInt = 3 := by decide
    have i8 : (8 : Int32).toInt = 8 := by decide
    have i9 : (nI 9).toInt = 9 := by decide
    have hT : co.toInt < 0 ∨ 9 ≤ co.toInt := by
      rcases hc with z | z
      · rw [Int32.lt_iff_toInt_lt] at z; left; omega
      · rw [Int32.le_iff_toInt_le] at z; right; omega
    have ne : ∀ k : Nat, k < 9 → ¬ co = nI k := by
      intro k hk e
      rw [e, nI_toInt (by omega)] at hT
      omega
    have n4 : ¬ co = 4 := ne 4 (by omega)
    have n5 : ¬ co = 5 := ne 5 (by omega)
    have n8 : ¬ co = 8 := ne 8 (by omega)
    have a1 : fX5_actsOnThing co = some 0 := by
      unfold fX5_actsOnThing
      by_cases c : co < 0
      · rw [if_pos c]
      · rw [if_neg c, if_pos]
        rw [Int32.lt_iff_toInt_lt] at c ⊢
        omega
    have b1 : fX6_in co 0 3 = some 0 := by
      unfold fX6_in
      by_cases c : co < 0
      · rw [if_pos c]
      · rw [if_neg c, if_pos]
        rw [Int32.lt_iff_toInt_lt] at c ⊢
        omega
    have b2 : fX6_in co 0 8 = some 0 := by
      unfold fX6_in
      by_cases c : co < 0
      · rw [if_pos c]
      · rw [if_neg c, if_pos]
        rw [Int32.lt_iff_toInt_lt] at c ⊢
        omega
    refine ⟨-102, ?_, ?_, Or.inr (by decide)⟩
    · unfold fX5_refusalOf fX5_refusalOf_L21 fX5_namesThing
      rw [a1, bd_s, if_pos rfl, if_neg n8, bd_s, if_pos rfl]
      by_cases c : co < 0
      · rw [if_pos c]
      · rw [if_neg c, if_neg]
        rw [Int32.lt_iff_toInt_lt] at c
        rw [Int32.le_iff_toInt_le]
        omega
    · unfold fX6_bars fX6_bars_L20 fX6_bars_L38 fX6_bars_L59
      rw [b1, bd_s, if_pos rfl, if_neg n8, nm_e9, if_pos rfl, if_neg n4, if_neg n5, if_neg n8, nm_e9, b2, bd_s, if_pos rfl]
  rcases pk_ix co (show 9 < 2 ^ 31 by omega) with c | c | ⟨c, hc, rfl⟩
  · exact out (Or.inl c)
  · exact out (Or.inr c)
  · have fin : ∀ (nt ns k3 : Bool), fX5_refusalOf σ (nI c) t s h = some (refN n C nt ns k3 t s h) → fX6_bars τ (nI c) t s h = some (refN n C nt ns k3 t s h) → ((c ≤ 3 ∨ c = 8) → nt = true) → ((c = 4 ∨ c = 5 ∨ c = 8) → ns = true) → (c = 3 → k3 = true) → ∃ r, fX5_refusalOf σ (nI c) t s h = some r ∧ fX6_bars τ (nI c) t s h = some r ∧ ((r = 0 ∧ AccS n C (nI c) t s h) ∨ (¬ r = 0 ∧ ¬ (0 : Int32) ≤ r)) := by
      intro nt ns k3 e1 e2 f1 f2 f3
      refine ⟨_, e1, e2, ?_⟩
      rcases ref_cases n C nt ns k3 t s h with ⟨a1, a2, a3, a4, a5⟩ | z
      · refine Or.inl ⟨a1, c, hc, rfl, fun z => inN_of (a2 (f1 z)) (by omega), fun z => inN_of (a3 (f2 z)) (by omega), ?_, fun z => a5 (f3 z)⟩
        rcases a4 with z | z
        · exact Or.inl z
        · exact Or.inr (inN_of z (by omega))
      · exact Or.inr z
    rcases co_cases hc with rfl | rfl | rfl | rfl | rfl | rfl | rfl | rfl | rfl
    · exact fin true false false (X_ref g w (by decide) (by decide) (by decide) (by decide) (by rw [qN03]; simp) (fun _ => rfl)) (M_ref g' w (fun A B => rfl) (fun A B => rfl) (by decide) (by rw [qN03]; simp) (fun _ => rfl)) (by simp) (by simp) (by simp)
    · exact fin true false false (X_ref g w (by decide) (by decide) (by decide) (by decide) (by rw [qN13]; simp) (fun _ => rfl)) (M_ref g' w (fun A B => rfl) (fun A B => rfl) (by decide) (by rw [qN13]; simp) (fun _ => rfl)) (by simp) (by simp) (by simp)
    · exact fin true false false (X_ref g w (by decide) (by decide) (by decide) (by decide) (by rw [qN23]; simp) (fun _ => rfl)) (M_ref g' w (fun A B => rfl) (fun A B => rfl) (by decide) (by rw [qN23]; simp) (fun _ => rfl)) (by simp) (by simp) (by simp)
    · exact fin true false true (X_ref g w (by decide) (by decide) (by decide) (by decide) (by rw [qN33]; simp) (fun _ => rfl)) (M_ref g' w (fun A B => rfl) (fun A B => rfl) (by decide) (by rw [qN33]; simp) (fun _ => rfl)) (by simp) (by simp) (by simp)
    · exact fin false true false (X_ref g w (by decide) (by decide) (by decide) (by decide) (by rw [qN43]; simp) (fun z => by cases z)) (M_ref g' w (fun A B => rfl) (fun A B => rfl) (by decide) (by rw [qN43]; simp) (fun z => by cases z)) (by simp) (by simp) (by simp)
    · exact fin false true false (X_ref g w (by decide) (by decide) (by decide) (by decide) (by rw [qN53]; simp) (fun z => by cases z)) (M_ref g' w (fun A B => rfl) (fun A B => rfl) (by decide) (by rw [qN53]; simp) (fun z => by cases z)) (by simp) (by simp) (by simp)
    · exact fin false false false (X_ref g w (by decide) (by decide) (by decide) (by decide) (by rw [qN63]; simp) (fun z => by cases z)) (M_ref g' w (fun A B => rfl) (fun A B => rfl) (by decide) (by rw [qN63]; simp) (fun z => by cases z)) (by simp) (by simp) (by simp)
    · exact fin false false false (X_ref g w (by decide) (by decide) (by decide) (by decide) (by rw [qN73]; simp) (fun z => by cases z)) (M_ref g' w (fun A B => rfl) (fun A B => rfl) (by decide) (by rw [qN73]; simp) (fun z => by cases z)) (by simp) (by simp) (by simp)
    · exact fin true true false (X_ref g w (by decide) (by decide) (by decide) (by decide) (by rw [qN83]; simp) (fun _ => rfl)) (M_ref g' w (fun A B => rfl) (fun A B => rfl) (by decide) (by rw [qN83]; simp) (fun _ => rfl)) (by simp) (by simp) (by simp)
