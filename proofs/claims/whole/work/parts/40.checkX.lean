/-- what the class's search rows are, always: enough for them to be wiped -/
def XW (σ : ST) : Prop := ∃ r, r ≤ 43008 ∧ σ.1 3 = nI r ∧ (∀ i, i < r → ∃ v, v < 43008 ∧ σ.2 8 i = nI v) ∧ (∀ v, v < 43008 → σ.2 9 v ≠ 0 → ∃ i, i < r ∧ σ.2 8 i = nI v)
theorem X_forget_loop {r0 : Nat} (hr0 : r0 ≤ 43008) : ∀ (r i fuel : Nat) (σ : ST), i + r = r0 → r < fuel → σ.1 3 = nI r0 → (∀ i, i < r0 → ∃ v, v < 43008 ∧ σ.2 8 i = nI v) → (∀ v, v < 43008 → σ.2 9 v ≠ 0 → ∃ j, i ≤ j ∧ j < r0 ∧ σ.2 8 j = nI v) →
    ∃ σ', fX1_forget_L2 fuel (nI i) σ = some σ' ∧ (∀ v, v < 43008 → σ'.2 9 v = 0) ∧ σ'.1 3 = 0 ∧ σ'.1 4 = 0 ∧ σ'.1 5 = 0 ∧ σ'.1 6 = 0 ∧ σ'.1 7 = 0 ∧ (∀ p, p < 42 → σ'.2 10 p = 0) ∧ (∀ p, p < 210 → σ'.2 11 p = 0) ∧ (∀ f, f < 25 → σ'.2 12 f = -1) ∧ SmE σ σ' := by
  intro r
  induction r with
  | zero =>
    intro i fuel σ h hfu h3 h8 h9
    obtain ⟨fuel, rfl⟩ : ∃ z, fuel = z + 1 := ⟨fuel - 1, by omega⟩
    rw [fX1_forget_L2, h3, if_pos (nI_le (by omega) (by omega))]
    simp only [nm_e9]
    refine ⟨_, rfl, ?_, rfl, rfl, rfl, rfl, rfl, ?_, ?_, ?_, ?_, ?_⟩
    · intro v hv
      show σ.2 9 v = 0
      by_cases c : σ.2 9 v = 0
      · exact c
      · obtain ⟨j, j1, j2, -⟩ := h9 v hv c
        omega
    · intro p hp
      rw [fillA_n _ _ _ (by decide), fillA_n _ _ _ (by decide), fillA_s]
      unfold fillF
      rw [if_pos hp]
    · intro p hp
      rw [fillA_n _ _ _ (by decide), fillA_s]
      unfold fillF
      rw [if_pos hp]
    · intro f hf
      rw [fillA_s]
      unfold fillF
      rw [if_pos hf]
    · intro i i1 i2 i3 i4 i5
      rw [fillA_1, fillA_1, fillA_1, setF_n _ _ i5, setF_n _ _ i4, setF_n _ _ i3, setF_n _ _ i2, setF_n _ _ i1]
    · intro j j1 j2 j3 j4 j5 j6
      rw [fillA_n _ _ _ j5, fillA_n _ _ _ j4, fillA_n _ _ _ j3]
      rfl
  | succ r ih =>
    intro i fuel σ h hfu h3 h8 h9
    obtain ⟨fuel, rfl⟩ : ∃ z, fuel = z + 1 := ⟨fuel - 1, by omega⟩
    obtain ⟨v, hv, e8⟩ := h8 i (by omega)
    rw [fX1_forget_L2, h3, if_neg (nI_ge (by omega) (by omega)), ix_nI (by omega) (by omega), nI_clamp (by omega), e8, ix_nI hv (by omega), nI_clamp (by omega), nm_e9, nm_e9, nI_1]
    obtain ⟨σ', e, q1, q2, q3, q4, q5, q6, q7, q8, q9, q10⟩ := ih (i + 1) fuel (setA σ 9 v 0) (by omega) (by omega) h3 h8 (fun u hu hne => by
      rw [setA_s] at hne
      by_cases c : u = v
      · rw [c, upd_s] at hne; exact absurd rfl hne
      · rw [upd_n _ _ c] at hne
        obtain ⟨j, j1, j2, j3⟩ := h9 u hu hne
        refine ⟨j, ?_, j2, j3⟩
        apply Nat.lt_of_le_of_ne j1
        intro z
        rw [← z, e8, nI_eq (by omega) (by omega)] at j3
        exact c j3.symm)
    refine ⟨σ', e, q1, q2, q3, q4, q5, q6, q7, q8, q9, fun i i1 i2 i3 i4 i5 => q10.1 i i1 i2 i3 i4 i5, fun j j1 j2 j3 j4 j5 j6 => (q10.2 j j1 j2 j3 j4 j5 j6).trans (setA_n _ _ _ j2)⟩
def LV (b : BS) (q d le : Nat) : Prop := q ≤ le ∧ le ≤ b.2.2.2 ∧ (∀ i, q ≤ i → i < le → b.2.2.1 i = d) ∧ (∀ i, le ≤ i → i < b.2.2.2 → b.2.2.1 i = d + 1)
theorem dep_le {m : Nat} {b : BS} (h : BW m b) : ∀ (k i : Nat), i ≤ k → i < b.2.2.2 → b.2.2.1 i ≤ i := by
  intro k
  induction k with
  | zero =>
    intro i hi hc
    have e : i = 0 := by omega
    rw [e, h.2.2.2.2.1]
    exact Nat.le_refl 0
  | succ k ih =>
    intro i hi hc
    by_cases c : i = 0
    · rw [c, h.2.2.2.2.1]; exact Nat.le_refl 0
    · have h1 := h.2.2.2.2.2 i (by omega) hc
      have h2 := ih (b.2.1 i) (by omega) (by omega)
      omega
set_option maxHeartbeats 4000000 in
theorem X_run {n m : Nat} {C : Nat → Nat → Int32} (w : WFc n m C) : ∀ (f q : Nat) (b : BS) (σ : ST) (fu d le : Nat), f + q = 43009 → f ≤ fu → q ≤ b.2.2.2 → BW m b → LV b q d le → AgX σ n m C → XQ σ b → XF σ b (fIx n C b.1 q) → XS σ n C b.1 q →
    ∃ σ', fX1_explore_L28 fu (nI d) (nI le) (nI q) σ = some σ' ∧ XQ σ' (bRun C m f q b) ∧ XF σ' (bRun C m f q b) (fIx n C (bRun C m f q b).1 (bRun C m f q b).2.2.2) ∧ XS σ' n C (bRun C m f q b).1 (bRun C m f q b).2.2.2 ∧ SmE σ σ' := by
  intro f
  induction f with
  | zero =>
    intro q b σ fu d le h1 h2 h3 hw
    have := hw.cnt
    omega
  | succ f ih =>
    intro q b σ fu d le h1 h2 h3 hw hL g hQ hF hS
    obtain ⟨fu, rfl⟩ : ∃ z, fu = z + 1 := ⟨fu - 1, by omega⟩
    have hcnt := hw.cnt
    rw [fX1_explore_L28, hQ.1]
    by_cases hq : q < b.2.2.2
    · have hv := (hw.2.1 q hq).1
      have hpl := (hw.2.1 q hq).2
      have hm := w.2.1
      obtain ⟨hw', hG, hnd⟩ := step_ok w hw hq
      have hq' : q < 43008 := by omega
      have hdq := dep_le hw q q (Nat.le_refl q) hq
      have fl : ∀ f i, fIx n C b.1 q f = some i → i < b.2.2.2 := fun f i h => by have := fIx_lt q f i h; omega
      have fl2 : ∀ f i, fIx n C b.1 q f = some i → b.2.2.1 i < 100000 := fun f i h => by
        have h1 := fl f i h
        have := dep_le hw i i (Nat.le_refl i) h1
        omega
      -- behind the test of the level
      have main : ∀ (d' le' : Nat), d' = b.2.2.1 q → q + 1 ≤ le' → le' ≤ b.2.2.2 → (∀ i, q ≤ i → i < le' → b.2.2.1 i = d') → (∀ i, le' ≤ i → i < b.2.2.2 → b.2.2.1 i = d' + 1) →
          ∃ σ', fX1_explore_L58 (fX1_explore_L28 fu) (nI d') (nI le') (nI q) σ = some σ' ∧ XQ σ' (bRun C m f (q + 1) (bStep C m b q)) ∧ XF σ' (bRun C m f (q + 1) (bStep C m b q)) (fIx n C (bRun C m f (q + 1) (bStep C m b q)).1 (bRun C m f (q + 1) (bStep C m b q)).2.2.2) ∧ XS σ' n C (bRun C m f (q + 1) (bStep C m b q)).1 (bRun C m f (q + 1) (bStep C m b q)).2.2.2 ∧ SmE σ σ' := by
        intro d' le' hd1 hd2 hd3 hd4 hd5
        unfold fX1_explore_L58 fX1_explore_L102
        rw [ix_nI hq' (by omega), nm_e9, nI_clamp (by omega), hQ.2.1 q hq]
        obtain ⟨σ1, e1, t1, s1⟩ := X_survey g w hv hS hq'
        rw [e1, bd_s]
        have g1 := s1.e.ag g
        have hQ1 : XQ σ1 b := hQ.same (s1.1 3 (by decide) (by decide) (by decide)) (s1.2 8 (by decide) (by decide)) (s1.2 9 (by decide) (by decide))
        have hF1 : XF σ1 b (fIx n C b.1 q) := hF.same (s1.1 4 (by decide) (by decide) (by decide)) (s1.2 12 (by decide) (by decide)) (s1.2 13 (by decide) (by decide))
        have hL' : LV (bStep C m b q) (q + 1) d' le' := by
          refine ⟨hd2, Nat.le_trans hd3 hG.1, fun i i1 i2 => ?_, fun i i1 i2 => ?_⟩
          · rw [(hG.2 i (by omega)).2.2]; exact hd4 i (by omega) i2
          · by_cases c : i < b.2.2.2
            · rw [(hG.2 i c).2.2]; exact hd5 i i1 c
            · rw [hnd i (by omega) i2, hd1]
        have hT1 : XS σ1 n C (bStep C m b q).1 (q + 1) := t1.grow (fun i hi => (hG.2 i (by omega)).1)
        unfold fX0_isEnd
        rw [X_place (by omega), bd_s]
        by_cases he : 40 ≤ b.1 q / 1024
        · rw [if_neg (show ¬ nI (b.1 q / 1024) < 40 from nI_nlt (a := b.1 q / 1024) (b := 40) he (by omega)), bd_s, if_neg (by decide)]
          obtain ⟨σ2, e2, f2, s2⟩ := X_left (d := d') w g1 hv he fl2 hd1 (by omega) hF1
          rw [e2, bd_s, nm_e9, nI_1]
          have hb : bStep C m b q = b := by unfold bStep; rw [if_pos he]
          rw [hb] at hL' hT1 hG ⊢
          obtain ⟨σ3, e3, q3, f3, t3, s3⟩ := ih (q + 1) b σ2 fu d' le' (by omega) (by omega) hq hw hL' (s2.e.ag g1) (hQ1.same (s2.1 3 (by decide)) (s2.2 8 (by decide) (by decide)) (s2.2 9 (by decide) (by decide))) (f2.congr (fun f => by rw [fIx_step hG hq])) (hT1.same (fun i hi => s2.1 i (by omega)) (s2.2 10 (by decide) (by decide)) (s2.2 11 (by decide) (by decide)))
          exact ⟨σ3, e3, q3, f3, t3, s1.e.tr (s2.e.tr s3)⟩
        · have hk : b.1 q / 1024 < m := by omega
          rw [if_pos (show nI (b.1 q / 1024) < 40 from nI_lt (a := b.1 q / 1024) (b := 40) (by omega) (by omega)), bd_s, if_pos rfl]
          obtain ⟨σ2, e2, q2, f2, s2a, s2b⟩ := X_go (d := d') w g1 hQ1 hw hq hk hF1 fl fl2 hd1 (by omega)
          have s2 : SmE σ1 σ2 := ⟨fun i a1 a2 _ _ _ => s2a i a1 a2, fun j a1 a2 _ _ a5 a6 => s2b j a1 a2 a5 a6⟩
          rw [e2, bd_s, nm_e9, nI_1]
          obtain ⟨σ3, e3, q3, f3, t3, s3⟩ := ih (q + 1) (bStep C m b q) σ2 fu d' le' (by omega) (by omega) (by have := hG.1; omega) hw' hL' (s2.ag g1) q2 (f2.congr (fun f => by rw [fIx_step hG hq])) (hT1.same (fun i hi => s2a i (by omega) (by omega)) (s2b 10 (by decide) (by decide) (by decide) (by decide)) (s2b 11 (by decide) (by decide) (by decide) (by decide)))
          exact ⟨σ3, e3, q3, f3, t3, s1.e.tr (s2.tr s3)⟩
      rw [if_neg (nI_ge hq (by omega)), if_neg (show ¬ (43008 : Int32) ≤ nI q from nI_ge (a := q) (b := 43008) hq' (by omega)), bRun_s hq]
      obtain ⟨l1, l2, l3, l4⟩ := hL
      by_cases hle : q = le
      · rw [if_pos (by rw [hle])]
        simp only [nm_e9, nI_1]
        refine main (d + 1) b.2.2.2 ?_ hq (Nat.le_refl _) (fun i i1 i2 => l4 i (by omega) i2) (fun i i1 i2 => by omega)
        exact (l4 q (by omega) hq).symm
      · rw [if_neg (fun z => hle ((nI_eq (by omega) (by omega)).mp z))]
        exact main d le (l3 q (Nat.le_refl q) (by omega)).symm (by omega) l2 l3 l4
    · have e : q = b.2.2.2 := by omega
      rw [if_pos (nI_le (by omega) (by omega)), bRun_e hq]
      refine ⟨σ, rfl, hQ, ?_, ?_, SmE.rf⟩
      · rw [← e]; exact hF
      · rw [← e]; exact hS
/-- all is found, on the class's side -/
def XAll (σ : ST) (n m : Nat) (C : Nat → Nat → Int32) : Prop := XQ σ (bfs C m) ∧ XF σ (bfs C m) (fnd n m C) ∧ XS σ n C (bfs C m).1 (bfs C m).2.2.2
theorem X_explore {σ : ST} {n m : Nat} {C : Nat → Nat → Int32} (g : AgX σ n m C) (w : WFc n m C) (hX : XW σ) : ∃ σ', fX1_explore σ = some σ' ∧ XAll σ' n m C ∧ SmE σ σ' := by
  obtain ⟨r0, hr0, h3, h8, h9⟩ := hX
  obtain ⟨σ1, e1, z9, z3, z4, z5, z6, z7, z10, z11, z12, s1⟩ := X_forget_loop hr0 r0 0 FUEL σ (by omega) (by unfold FUEL; omega) h3 h8 (fun v hv hne => by
    obtain ⟨i, hi, e⟩ := h9 v hv hne
    exact ⟨i, Nat.zero_le _, hi, e⟩)
  unfold fX1_explore fX1_forget
  rw [show (fX1_forget_L2 FUEL 0 σ) = some σ1 from e1, bd_s]
  have g1 := s1.ag g
  obtain ⟨σ2, e2, q2, s2⟩ := X_first g1 w z3 z9
  cases hfn : fX0_firstNode σ1 with
  | none => rw [hfn] at e2; cases e2
  | some r8 =>
    rw [hfn, bd_s] at e2
    rw [bd_s, e2, bd_s, nm_e9, q2.1]
    have hnum : numF (fun _ => (none : Option Nat)) 25 = 0 := rfl
    obtain ⟨σ3, e3, q3, f3, t3, s3⟩ := X_run w 43009 0 (b0 m) σ2 FUEL 0 1 (by omega) (by unfold FUEL; omega) (Nat.zero_le _) (b0_ok w.2.1) ⟨by omega, Nat.le_refl 1, fun i i1 i2 => rfl, fun i i1 i2 => by have : i < 1 := i2; omega⟩ (s2.e.ag g1) q2
      ⟨fun f hf => by rw [s2.2 12 (by decide) (by decide)]; exact z12 f hf, (fun f i _ hi => by cases hi), by rw [s2.1 4 (by decide), z4]; rfl⟩
      ⟨fun p hp => by rw [s2.2 10 (by decide) (by decide)]; exact z10 p hp, fun p t hp ht => by rw [s2.2 11 (by decide) (by decide)]; exact z11 _ (by have := w.1; omega), by rw [s2.1 5 (by decide), z5]; rfl, by rw [s2.1 6 (by decide), z6]; rfl, by rw [s2.1 7 (by decide), z7]; rfl⟩
    exact ⟨σ3, e3, ⟨q3, f3, t3⟩, s1.tr (s2.e.tr s3)⟩
