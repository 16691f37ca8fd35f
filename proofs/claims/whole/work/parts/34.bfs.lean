/-! ===== the search, once, over natural numbers: (order, before, depth, how many) ===== -/
abbrev BS : Type := (Nat → Nat) × (Nat → Nat) × (Nat → Nat) × Nat
def nup (f : Nat → Nat) (k x : Nat) : Nat → Nat := fun j => if j = k then x else f j
theorem nup_s (f : Nat → Nat) (k x : Nat) : nup f k x k = x := by simp [nup]
theorem nup_n (f : Nat → Nat) {k j : Nat} (x : Nat) (h : j ≠ k) : nup f k x j = f j := by simp [nup, h]
def bIn (b : BS) (v : Nat) : Bool := (List.range b.2.2.2).any (fun i => decide (b.1 i = v))
theorem bIn_iff {b : BS} {v : Nat} : bIn b v = true ↔ ∃ i, i < b.2.2.2 ∧ b.1 i = v := by
  unfold bIn
  rw [List.any_eq_true]
  constructor
  · rintro ⟨i, hi, h⟩
    exact ⟨i, List.mem_range.mp hi, of_decide_eq_true h⟩
  · rintro ⟨i, hi, h⟩
    exact ⟨i, List.mem_range.mpr hi, decide_eq_true h⟩
theorem bIn_f {b : BS} {v : Nat} (h : bIn b v = false) : ∀ i, i < b.2.2.2 → b.1 i ≠ v := by
  intro i hi e
  have := bIn_iff.mpr ⟨i, hi, e⟩
  rw [h] at this
  cases this
def bCome (b : BS) (v p d : Nat) : BS := if bIn b v then b else (nup b.1 b.2.2.2 v, nup b.2.1 b.2.2.2 p, nup b.2.2.1 b.2.2.2 d, b.2.2.2 + 1)
def bStep (C : Nat → Nat → Int32) (m : Nat) (b : BS) (q : Nat) : BS :=
  if 40 ≤ b.1 q / 1024 then b
  else if sTwo C (b.1 q) then bCome (bCome b (sNext C m (b.1 q) false) q (b.2.2.1 q + 1)) (sNext C m (b.1 q) true) q (b.2.2.1 q + 1)
  else bCome b (sNext C m (b.1 q) false) q (b.2.2.1 q + 1)
def bRun (C : Nat → Nat → Int32) (m : Nat) : Nat → Nat → BS → BS
  | 0, _, b => b
  | f + 1, q, b => if q < b.2.2.2 then bRun C m f (q + 1) (bStep C m b q) else b
def b0 (m : Nat) : BS := (fun _ => atN m 0 0, fun _ => 0, fun _ => 0, 1)
def bfs (C : Nat → Nat → Int32) (m : Nat) : BS := bRun C m 43009 0 (b0 m)
theorem pig : ∀ (N cnt : Nat) (f : Nat → Nat), (∀ i, i < cnt → f i < N) → (∀ i j, i < cnt → j < cnt → f i = f j → i = j) → cnt ≤ N := by
  intro N
  induction N with
  | zero =>
    intro cnt f h _
    cases cnt with
    | zero => exact Nat.le_refl 0
    | succ c => exact absurd (h 0 (by omega)) (by omega)
  | succ N ih =>
    intro cnt f h hinj
    by_cases hx : ∃ i, i < cnt ∧ f i = N
    · obtain ⟨i0, hi0, e0⟩ := hx
      have := ih (cnt - 1) (fun i => if i = i0 then f (cnt - 1) else f i) (by
        intro i hi
        show (if i = i0 then f (cnt - 1) else f i) < N
        by_cases c : i = i0
        · rw [if_pos c]
          have h1 := h (cnt - 1) (by omega)
          have h2 : f (cnt - 1) ≠ N := fun e => by
            have := hinj (cnt - 1) i0 (by omega) hi0 (by rw [e, e0])
            omega
          omega
        · rw [if_neg c]
          have h1 := h i (by omega)
          have h2 : f i ≠ N := fun e => c (hinj i i0 (by omega) hi0 (by rw [e, e0]))
          omega) (by
        intro i j hi hj e
        by_cases c : i = i0
        · by_cases c2 : j = i0
          · omega
          · rw [if_pos c, if_neg c2] at e
            have := hinj (cnt - 1) j (by omega) (by omega) e
            omega
        · by_cases c2 : j = i0
          · rw [if_neg c, if_pos c2] at e
            have := hinj i (cnt - 1) (by omega) (by omega) e
            omega
          · rw [if_neg c, if_neg c2] at e
            exact hinj i j (by omega) (by omega) e)
      omega
    · have := ih cnt f (fun i hi => by
        have h1 := h i hi
        have h2 : f i ≠ N := fun e => hx ⟨i, hi, e⟩
        omega) hinj
      omega
/-- a search under way is sound -/
def BW (m : Nat) (b : BS) : Prop :=
  1 ≤ b.2.2.2 ∧ (∀ i, i < b.2.2.2 → b.1 i < 43008 ∧ (b.1 i / 1024 < m ∨ 40 ≤ b.1 i / 1024)) ∧ (∀ i j, i < b.2.2.2 → j < b.2.2.2 → b.1 i = b.1 j → i = j) ∧ b.2.1 0 = 0 ∧ b.2.2.1 0 = 0 ∧ ∀ i, 0 < i → i < b.2.2.2 → b.2.1 i < i ∧ b.2.2.1 i = b.2.2.1 (b.2.1 i) + 1
theorem BW.cnt {m : Nat} {b : BS} (h : BW m b) : b.2.2.2 ≤ 43008 := pig 43008 b.2.2.2 b.1 (fun i hi => (h.2.1 i hi).1) h.2.2.1
theorem BW.room {m v : Nat} {b : BS} (h : BW m b) (hv : v < 43008) (hn : bIn b v = false) : b.2.2.2 < 43008 := by
  have := pig 43008 (b.2.2.2 + 1) (nup b.1 b.2.2.2 v) (fun i hi => by
    by_cases c : i = b.2.2.2
    · rw [c, nup_s]; exact hv
    · rw [nup_n _ _ c]; exact (h.2.1 i (by omega)).1) (fun i j hi hj e => by
    by_cases c : i = b.2.2.2
    · by_cases c2 : j = b.2.2.2
      · omega
      · rw [c, nup_s, nup_n _ _ c2] at e
        exact absurd e.symm (bIn_f hn j (by omega))
    · by_cases c2 : j = b.2.2.2
      · rw [c2, nup_s, nup_n _ _ c] at e
        exact absurd e (bIn_f hn i (by omega))
      · rw [nup_n _ _ c, nup_n _ _ c2] at e
        exact h.2.2.1 i j (by omega) (by omega) e)
  omega
theorem bCome_t {b : BS} {v p d : Nat} (h : bIn b v = true) : bCome b v p d = b := by unfold bCome; rw [if_pos h]
theorem bCome_f {b : BS} {v p d : Nat} (h : bIn b v = false) : bCome b v p d = (nup b.1 b.2.2.2 v, nup b.2.1 b.2.2.2 p, nup b.2.2.1 b.2.2.2 d, b.2.2.2 + 1) := by unfold bCome; rw [if_neg (by rw [h]; decide)]
theorem BW.come {m v p : Nat} {b : BS} (h : BW m b) (hp : p < b.2.2.2) (hv : v < 43008 ∧ (v / 1024 < m ∨ 40 ≤ v / 1024)) : BW m (bCome b v p (b.2.2.1 p + 1)) := by
  cases hb : bIn b v with
  | true => rw [bCome_t hb]; exact h
  | false =>
    rw [bCome_f hb]
    obtain ⟨h1, h2, h3, h4, h5, h6⟩ := h
    refine ⟨by show 1 ≤ b.2.2.2 + 1; omega, ?_, ?_, ?_, ?_, ?_⟩
    · intro i hi
      show nup b.1 b.2.2.2 v i < 43008 ∧ (nup b.1 b.2.2.2 v i / 1024 < m ∨ 40 ≤ nup b.1 b.2.2.2 v i / 1024)
      by_cases c : i = b.2.2.2
      · rw [c, nup_s]; exact hv
      · rw [nup_n _ _ c]; exact h2 i (by have : i < b.2.2.2 + 1 := hi; omega)
    · intro i j hi hj e
      have hi : i < b.2.2.2 + 1 := hi
      have hj : j < b.2.2.2 + 1 := hj
      have e : nup b.1 b.2.2.2 v i = nup b.1 b.2.2.2 v j := e
      by_cases c : i = b.2.2.2
      · by_cases c2 : j = b.2.2.2
        · omega
        · rw [c, nup_s, nup_n _ _ c2] at e
          exact absurd e.symm (bIn_f hb j (by omega))
      · by_cases c2 : j = b.2.2.2
        · rw [c2, nup_s, nup_n _ _ c] at e
          exact absurd e (bIn_f hb i (by omega))
        · rw [nup_n _ _ c, nup_n _ _ c2] at e
          exact h3 i j (by omega) (by omega) e
    · show nup b.2.1 b.2.2.2 p 0 = 0
      rw [nup_n _ _ (by omega)]; exact h4
    · show nup b.2.2.1 b.2.2.2 _ 0 = 0
      rw [nup_n _ _ (by omega)]; exact h5
    · intro i h0 hi
      have hi : i < b.2.2.2 + 1 := hi
      show nup b.2.1 b.2.2.2 p i < i ∧ nup b.2.2.1 b.2.2.2 _ i = nup b.2.2.1 b.2.2.2 _ (nup b.2.1 b.2.2.2 p i) + 1
      by_cases c : i = b.2.2.2
      · rw [c, nup_s, nup_s, nup_n _ _ (by omega)]
        exact ⟨hp, rfl⟩
      · have hz := h6 i h0 (by omega)
        rw [nup_n _ _ c, nup_n _ _ c, nup_n _ _ (by omega)]
        exact hz
/-- what stays when nodes come: the old rows -/
def BG (b b' : BS) : Prop := b.2.2.2 ≤ b'.2.2.2 ∧ ∀ i, i < b.2.2.2 → b'.1 i = b.1 i ∧ b'.2.1 i = b.2.1 i ∧ b'.2.2.1 i = b.2.2.1 i
theorem BG.rf {b : BS} : BG b b := ⟨Nat.le_refl _, fun _ _ => ⟨rfl, rfl, rfl⟩⟩
theorem BG.tr {b c d : BS} (h : BG b c) (k : BG c d) : BG b d := ⟨Nat.le_trans h.1 k.1, fun i hi => by
  have h1 := h.2 i hi
  have h2 := k.2 i (by have := h.1; omega)
  exact ⟨h2.1.trans h1.1, h2.2.1.trans h1.2.1, h2.2.2.trans h1.2.2⟩⟩
theorem BG.come (b : BS) (v p d : Nat) : BG b (bCome b v p d) := by
  cases hb : bIn b v with
  | true => rw [bCome_t hb]; exact BG.rf
  | false =>
    rw [bCome_f hb]
    refine ⟨by show b.2.2.2 ≤ b.2.2.2 + 1; omega, fun i hi => ?_⟩
    exact ⟨nup_n _ _ (by omega), nup_n _ _ (by omega), nup_n _ _ (by omega)⟩
/-- new rows have the depth given -/
theorem come_dep {b : BS} {v p d i : Nat} (h1 : b.2.2.2 ≤ i) (h2 : i < (bCome b v p d).2.2.2) : (bCome b v p d).2.2.1 i = d := by
  cases hb : bIn b v with
  | true => rw [bCome_t hb] at h2 ⊢; omega
  | false =>
    rw [bCome_f hb] at h2 ⊢
    have h2 : i < b.2.2.2 + 1 := h2
    have e : i = b.2.2.2 := by omega
    show nup b.2.2.1 b.2.2.2 d i = d
    rw [e, nup_s]
theorem b0_ok {m : Nat} (hm : m ≤ 40) : BW m (b0 m) := by
  refine ⟨Nat.le_refl 1, fun i hi => at_ok hm, fun i j hi hj _ => ?_, rfl, rfl, fun i h0 hi => ?_⟩
  · have hi : i < 1 := hi
    have hj : j < 1 := hj
    omega
  · have hi : i < 1 := hi
    omega
theorem step_ok {n m q : Nat} {C : Nat → Nat → Int32} {b : BS} (w : WFc n m C) (h : BW m b) (hq : q < b.2.2.2) : BW m (bStep C m b q) ∧ BG b (bStep C m b q) ∧ ∀ i, b.2.2.2 ≤ i → i < (bStep C m b q).2.2.2 → (bStep C m b q).2.2.1 i = b.2.2.1 q + 1 := by
  unfold bStep
  by_cases c : 40 ≤ b.1 q / 1024
  · rw [if_pos c]
    exact ⟨h, BG.rf, fun i h1 h2 => by omega⟩
  · rw [if_neg c]
    have h1 := h.come hq (next_ok w (v := b.1 q) false)
    have g1 := BG.come b (sNext C m (b.1 q) false) q (b.2.2.1 q + 1)
    cases ht : sTwo C (b.1 q) with
    | false =>
      rw [if_neg (by decide)]
      exact ⟨h1, g1, fun i z1 z2 => come_dep z1 z2⟩
    | true =>
      rw [if_pos rfl]
      have g2 := BG.come (bCome b (sNext C m (b.1 q) false) q (b.2.2.1 q + 1)) (sNext C m (b.1 q) true) q (b.2.2.1 q + 1)
      have h2 := h1.come (p := q) (by have := g1.1; omega) (next_ok w (v := b.1 q) true)
      rw [(g1.2 q hq).2.2] at h2
      refine ⟨h2, g1.tr g2, fun i z1 z2 => ?_⟩
      by_cases z3 : i < (bCome b (sNext C m (b.1 q) false) q (b.2.2.1 q + 1)).2.2.2
      · rw [(g2.2 i z3).2.2]; exact come_dep z1 z3
      · exact come_dep (by omega) z2
-- findings: the first row that shows one
def shw (n : Nat) (C : Nat → Nat → Int32) (v f : Nat) : Bool :=
  if 40 ≤ v / 1024 then decide (f / 5 = v / 1024 - 40 ∧ f % 5 < n) && sHeld (C 0 (f % 5)) (stN v (f % 5))
  else decide (¬ sFault C v = 0 ∧ f = 5 * sFault C v + cT C v)
def orq (x : Option Nat) (c : Bool) (q : Nat) : Option Nat := match x with
  | some i => some i
  | none => if c then some q else none
def fIx (n : Nat) (C : Nat → Nat → Int32) (ord : Nat → Nat) : Nat → Nat → Option Nat
  | 0, _ => none
  | q + 1, f => orq (fIx n C ord q f) (shw n C (ord q) f) q
theorem fIx_congr {n : Nat} {C : Nat → Nat → Int32} {o o' : Nat → Nat} : ∀ (q : Nat), (∀ i, i < q → o' i = o i) → ∀ f, fIx n C o' q f = fIx n C o q f := by
  intro q
  induction q with
  | zero => intro _ f; rfl
  | succ q ih => intro h f; rw [fIx, fIx, ih (fun i hi => h i (by omega)) f, h q (by omega)]
theorem orq_lt {x : Option Nat} {c : Bool} {q i : Nat} (h : orq x c q = some i) : x = some i ∨ i = q := by
  unfold orq at h
  cases x with
  | some j => exact Or.inl h
  | none =>
    cases c with
    | true => exact Or.inr (Option.some.inj h).symm
    | false => cases h
theorem fIx_lt {n : Nat} {C : Nat → Nat → Int32} {o : Nat → Nat} : ∀ (q f i : Nat), fIx n C o q f = some i → i < q := by
  intro q
  induction q with
  | zero => intro f i h; cases h
  | succ q ih =>
    intro f i h
    rcases orq_lt h with e | e
    · have := ih f i e; omega
    · omega
def numF (F : Nat → Option Nat) : Nat → Nat
  | 0 => 0
  | j + 1 => numF F j + (if (F j).isSome then 1 else 0)
