theorem orq_or (x : Option Nat) (a b : Bool) (q : Nat) : orq (orq x a q) b q = orq x (a || b) q := by
  cases x <;> cases a <;> cases b <;> rfl
theorem orq_f (x : Option Nat) (q : Nat) : orq x false q = x := by cases x <;> rfl
theorem FB.congr {τ : ST} {F G : Nat → Option Nat} (h : FB τ F) (e : ∀ f, f < 25 → F f = G f) : FB τ G := fun f hf => by rw [h f hf, e f hf]
/-- nothing but the findings' row has changed -/
def SmF (τ τ' : ST) : Prop := τ'.1 = τ.1 ∧ ∀ j, j ≠ 11 → τ'.2 j = τ.2 j
theorem SmF.sm {τ τ' : ST} (h : SmF τ τ') : SmM τ τ' := ⟨fun i _ => by rw [h.1], fun j _ _ _ h4 => h.2 j h4⟩
theorem SmF.mb {τ τ' : ST} {b : BS} (h : SmF τ τ') (k : MB τ b) : MB τ' b := by
  obtain ⟨h1, h2, h3, h4, h5⟩ := k
  refine ⟨by rw [h.1]; exact h1, ?_, ?_, ?_, ?_⟩
  · rw [h.2 8 (by decide)]; exact h2
  · rw [h.2 9 (by decide)]; exact h3
  · rw [h.2 9 (by decide)]; exact h4
  · rw [h.2 10 (by decide)]; exact h5
def endC (C : Nat → Nat → Int32) (v t f : Nat) : Bool := decide (f / 5 = v / 1024 - 40 ∧ f % 5 < t) && sHeld (C 0 (f % 5)) (stN v (f % 5))
theorem endC_s0 {C : Nat → Nat → Int32} {v t f : Nat} (h : sHeld (C 0 t) (stN v t) = false) : endC C v (t + 1) f = endC C v t f := by
  unfold endC
  by_cases c : f % 5 = t
  · rw [c, h, Bool.and_false, Bool.and_false]
  · have e : (f / 5 = v / 1024 - 40 ∧ f % 5 < t + 1) = (f / 5 = v / 1024 - 40 ∧ f % 5 < t) := by
      apply propext
      constructor
      · rintro ⟨h1, h2⟩; exact ⟨h1, by omega⟩
      · rintro ⟨h1, h2⟩; exact ⟨h1, by omega⟩
    simp only [e]
theorem endC_s1 {C : Nat → Nat → Int32} {v t f : Nat} (ht : t < 5) (h : sHeld (C 0 t) (stN v t) = true) : endC C v (t + 1) f = (endC C v t f || decide (f = 5 * (v / 1024 - 40) + t)) := by
  unfold endC
  by_cases c : f % 5 = t
  · rw [c, h, Bool.and_true, Bool.and_true]
    by_cases d : f / 5 = v / 1024 - 40
    · rw [decide_eq_true (show f / 5 = v / 1024 - 40 ∧ t < t + 1 from ⟨d, by omega⟩), decide_eq_true (show f = 5 * (v / 1024 - 40) + t by omega), Bool.or_true]
    · rw [decide_eq_false (fun z => d z.1), decide_eq_false (fun z => d z.1), decide_eq_false (by omega), Bool.or_false]
  · have e : (f / 5 = v / 1024 - 40 ∧ f % 5 < t + 1) = (f / 5 = v / 1024 - 40 ∧ f % 5 < t) := by
      apply propext
      constructor
      · rintro ⟨h1, h2⟩; exact ⟨h1, by omega⟩
      · rintro ⟨h1, h2⟩; exact ⟨h1, by omega⟩
    rw [decide_eq_false (show ¬ f = 5 * (v / 1024 - 40) + t by omega), Bool.or_false]
    simp only [e]
theorem M_end {n m v q : Nat} {C : Nat → Nat → Int32} {F : Nat → Option Nat} {k60 : Int32 → ST → Option (Int32 × ST)} (w : WFc n m C) (hv : v < 43008) (hk : 40 ≤ v / 1024) (hq : q < 43008) (hFl : ∀ f i, F f = some i → i < 43008) :
    ∀ (r t : Nat) (τ : ST) (fuel : Nat), t + r = n → r < fuel → AgM τ n m C → FB τ (fun f => orq (F f) (endC C v t f) q) → ∃ τ', fX6_check_L86 k60 fuel (nI q) (nI v) (nI t) τ = fX6_check_L180 k60 (nI q) τ' ∧ FB τ' (fun f => orq (F f) (endC C v n f) q) ∧ SmF τ τ' := by
  obtain ⟨hn, hm, wt, ws⟩ := w
  intro r
  induction r with
  | zero =>
    intro t τ fuel ht hfu g hF
    obtain ⟨fuel, rfl⟩ : ∃ z, fuel = z + 1 := ⟨fuel - 1, by omega⟩
    rw [fX6_check_L86, g.1, if_pos (nI_le (by omega) (by omega))]
    have e : t = n := by omega
    rw [e] at hF
    exact ⟨τ, rfl, hF, rfl, fun _ _ => rfl⟩
  | succ r ih =>
    intro t τ fuel ht hfu g hF
    obtain ⟨fuel, rfl⟩ : ∃ z, fuel = z + 1 := ⟨fuel - 1, by omega⟩
    have g' := g
    obtain ⟨g1, g2, a0, a1, a2, a3, a4, a5, a6, a7⟩ := g
    have h0 : τ.2 0 t = 0 ∨ τ.2 0 t = 1 := by rw [a0]; exact (wt t (by omega)).1
    rw [fX6_check_L86, g1, if_neg (nI_ge (by omega) (by omega)), M_held (by omega) (by omega) h0, bd_s, a0]
    unfold fX6_check_L116
    simp only [nm_e9, nI_1]
    cases hh : sHeld (C 0 t) (stN v t) with
    | false =>
      rw [if_pos (show b01 false = 0 from rfl)]
      exact ih (t + 1) τ fuel (by omega) (by omega) g' (hF.congr (fun f _ => by rw [endC_s0 hh]))
    | true =>
      rw [if_neg (show ¬ b01 true = 0 by decide), M_place (by omega), bd_s, show (40 : Int32) = nI 40 from by decide, pk_sub (by omega)]
      obtain ⟨τ1, e1, f1, s1, s2⟩ := M_tell (q := q) (kd := v / 1024 - 40) (t := t) hF (fun f i hi => by
        rcases orq_lt hi with z | z
        · exact hFl f i z
        · omega) (by omega) (by omega) hq
      rw [e1, bd_s]
      have g1' : AgM τ1 n m C := SmM.ag (SmF.sm ⟨s1, s2⟩) g'
      obtain ⟨τ2, e2, f2, s3, s4⟩ := ih (t + 1) τ1 fuel (by omega) (by omega) g1' (f1.congr (fun f _ => by rw [orq_or, endC_s1 (by omega) hh]))
      exact ⟨τ2, e2, f2, s3.trans s1, fun j hj => (s4 j hj).trans (s2 j hj)⟩
theorem endC_0 {C : Nat → Nat → Int32} {v f : Nat} : endC C v 0 f = false := by
  unfold endC
  rw [decide_eq_false (by omega), Bool.false_and]
theorem shw_end {n v f : Nat} {C : Nat → Nat → Int32} (h : 40 ≤ v / 1024) : shw n C v f = endC C v n f := by
  unfold shw endC
  rw [if_pos h]
theorem M_150 {n m q : Nat} {C : Nat → Nat → Int32} {b : BS} {τ : ST} {k60 : Int32 → ST → Option (Int32 × ST)} (w : WFc n m C) (g : AgM τ n m C) (hB : MB τ b) (hw : BW m b) (hq : q < b.2.2.2) (hk : b.1 q / 1024 < m) : ∃ τ', fX6_check_L150 k60 (nI q) (nI (b.1 q)) τ = fX6_check_L180 k60 (nI q) τ' ∧ MB τ' (bStep C m b q) ∧ SmM τ τ' ∧ τ'.2 11 = τ.2 11 := by
  have hv := (hw.2.1 q hq).1
  have hm := w.2.1
  have hn0 := next_ok w (v := b.1 q) false
  have hn1 := next_ok w (v := b.1 q) true
  unfold fX6_check_L150 bStep
  rw [if_neg (by omega), show (0 : Int32) = b01 false from rfl, M_next g w hv hk false, bd_s]
  obtain ⟨τ1, e1, m1, s1, f1⟩ := M_come (p := q) (d := b.2.2.1 q + 1) hB hw hn0.1 rfl
  rw [e1, bd_s, M_two (s1.ag g) w hv hk, bd_s]
  cases ht : sTwo C (b.1 q) with
  | false =>
    rw [if_pos rfl, if_neg (by decide)]
    exact ⟨τ1, rfl, m1, s1, f1⟩
  | true =>
    rw [if_neg (show ¬ b01 true = b01 false by decide), if_pos rfl, show (1 : Int32) = b01 true from rfl, M_next (s1.ag g) w hv hk true, bd_s]
    obtain ⟨τ2, e2, m2, s2, f2⟩ := M_come (p := q) (d := b.2.2.1 q + 1) m1 (hw.come hq hn0) hn1.1 rfl
    rw [e2, bd_s]
    exact ⟨τ2, rfl, m2, s1.tr s2, f2.trans f1⟩
theorem bRun_s {C : Nat → Nat → Int32} {m f q : Nat} {b : BS} (h : q < b.2.2.2) : bRun C m (f + 1) q b = bRun C m f (q + 1) (bStep C m b q) := by rw [bRun, if_pos h]
theorem bRun_e {C : Nat → Nat → Int32} {m f q : Nat} {b : BS} (h : ¬ q < b.2.2.2) : bRun C m (f + 1) q b = b := by rw [bRun, if_neg h]
theorem fIx_step {n q f : Nat} {C : Nat → Nat → Int32} {b b' : BS} (h : BG b b') (hq : q < b.2.2.2) : fIx n C b'.1 (q + 1) f = orq (fIx n C b.1 q f) (shw n C (b.1 q) f) q := by
  rw [fIx, fIx_congr q (fun i hi => (h.2 i (by omega)).1), (h.2 q hq).1]
set_option maxHeartbeats 4000000 in
theorem M_run {n m : Nat} {C : Nat → Nat → Int32} (w : WFc n m C) : ∀ (f q : Nat) (b : BS) (τ : ST) (fu : Nat), f + q = 43009 → f ≤ fu → q ≤ b.2.2.2 → BW m b → AgM τ n m C → MB τ b → FB τ (fIx n C b.1 q) →
    ∃ τ', fX6_check_L60 fu (nI q) τ = fX6_check_L195 FUEL 0 0 (setF τ' 2 1) ∧ MB τ' (bRun C m f q b) ∧ FB τ' (fIx n C (bRun C m f q b).1 (bRun C m f q b).2.2.2) ∧ SmM τ τ' := by
  intro f
  induction f with
  | zero =>
    intro q b τ fu h1 h2 h3 hw
    have := hw.cnt
    omega
  | succ f ih =>
    intro q b τ fu h1 h2 h3 hw g hB hF
    obtain ⟨fu, rfl⟩ : ∃ z, fu = z + 1 := ⟨fu - 1, by omega⟩
    have hcnt := hw.cnt
    rw [fX6_check_L60, hB.1]
    by_cases hq : q < b.2.2.2
    · have hv := (hw.2.1 q hq).1
      have hpl := (hw.2.1 q hq).2
      have hm := w.2.1
      obtain ⟨hw', hG, -⟩ := step_ok w hw hq
      have hq' : q < 43008 := by omega
      have fl : ∀ f i, fIx n C b.1 q f = some i → i < 43008 := fun f i h => by have := fIx_lt q f i h; omega
      rw [if_neg (nI_ge hq (by omega)), bRun_s hq, ix_nI hq' (by omega), nm_e9, nI_clamp (by omega), hB.2.1 q hq, M_place (by omega), bd_s]
      by_cases he : 40 ≤ b.1 q / 1024
      · rw [if_neg (show ¬ nI (b.1 q / 1024) < 40 from nI_nlt (a := b.1 q / 1024) (b := 40) he (by omega))]
        obtain ⟨τ1, e1, f1, s1⟩ := M_end (q := q) (F := fIx n C b.1 q) (k60 := fX6_check_L60 fu) w hv he hq' fl n 0 τ FUEL (by omega) (by have := w.1; unfold FUEL; omega) g (hF.congr (fun f _ => by rw [endC_0, orq_f]))
        rw [show (0 : Int32) = nI 0 from by decide, e1]
        unfold fX6_check_L180
        rw [nm_e9, nI_1]
        have hb : bStep C m b q = b := by unfold bStep; rw [if_pos he]
        rw [hb] at hw' hG ⊢
        obtain ⟨τ2, e2, m2, f2, s2⟩ := ih (q + 1) b τ1 fu (by omega) (by omega) hq hw (s1.sm.ag g) (s1.mb hB) (f1.congr (fun f _ => by rw [fIx_step hG hq, shw_end he]))
        exact ⟨τ2, e2, m2, f2, s1.sm.tr s2⟩
      · have hk : b.1 q / 1024 < m := by omega
        rw [if_pos (show nI (b.1 q / 1024) < 40 from nI_lt (a := b.1 q / 1024) (b := 40) (by omega) (by omega)), M_fault g w hv hk, bd_s]
        have hin := sFault_in C (b.1 q)
        by_cases hf : sFault C (b.1 q) = 0
        · rw [hf, if_pos (by decide)]
          obtain ⟨τ1, e1, m1, s1, f1⟩ := M_150 (k60 := fX6_check_L60 fu) w g hB hw hq hk
          rw [e1]
          unfold fX6_check_L180
          rw [nm_e9, nI_1]
          obtain ⟨τ2, e2, m2, f2, s2⟩ := ih (q + 1) (bStep C m b q) τ1 fu (by omega) (by omega) (by have := hG.1; omega) hw' (s1.ag g) m1 (fun f hf' => by
            rw [f1, hF f hf', fIx_step hG hq]
            unfold shw
            rw [if_neg he, decide_eq_false (fun z => z.1 hf), orq_f])
          exact ⟨τ2, e2, m2, f2, s1.tr s2⟩
        · have hco : cCo C (b.1 q) ≤ 3 := by
            apply Nat.le_of_not_lt
            intro z
            apply hf
            unfold sFault sFl
            rw [if_neg (by omega), if_neg (by omega), if_neg (by omega), if_neg (by omega)]
          obtain ⟨co, hco9, e3, ht, -, -, -, -⟩ := w.2.2.2 _ hk
          rw [cCo_e e3 hco9] at hco
          obtain ⟨t, ht5, e4⟩ := ht (Or.inl hco)
          have ht5' : t < 5 := by have := w.1; omega
          have ect := cT_e e4 ht5'
          rw [if_neg (show ¬ nI (sFault C (b.1 q)) ≤ 0 by rw [i_le0 (by omega)]; exact hf), bd_s, ix_nI (by omega) (by omega), nI_clamp (by omega), g.2.2.2.2.2.2.1, e4]
          obtain ⟨τ1, e1, f1, s1⟩ := M_tell (q := q) (kd := sFault C (b.1 q)) (t := t) hF fl (by omega) ht5' hq'
          rw [e1, bd_s]
          have s1' : SmF τ τ1 := s1
          obtain ⟨τ2, e2, m2, s2, f2⟩ := M_150 (k60 := fX6_check_L60 fu) w (s1'.sm.ag g) (s1'.mb hB) hw hq hk
          rw [e2]
          unfold fX6_check_L180
          rw [nm_e9, nI_1]
          obtain ⟨τ3, e5, m5, f5, s5⟩ := ih (q + 1) (bStep C m b q) τ2 fu (by omega) (by omega) (by have := hG.1; omega) hw' (s2.ag (s1'.sm.ag g)) m2 (fun f hf' => by
            rw [f2, f1 f hf', fIx_step hG hq]
            show encF (orq (fIx n C b.1 q f) (decide (f = 5 * sFault C (b.1 q) + t)) q) = _
            unfold shw
            rw [if_neg he, ect]
            congr 2
            by_cases z : f = 5 * sFault C (b.1 q) + t
            · rw [decide_eq_true z, decide_eq_true ⟨hf, z⟩]
            · rw [decide_eq_false z, decide_eq_false (fun y => z y.2)])
          exact ⟨τ3, e5, m5, f5, s1'.sm.tr (s2.tr s5)⟩
    · have e : q = b.2.2.2 := by omega
      rw [if_pos (nI_le (by omega) (by omega)), bRun_e hq]
      rw [nm_e9]
      refine ⟨τ, rfl, hB, ?_, SmM.rf⟩
      rw [← e]
      exact hF
theorem M_195 {τ : ST} {F : Nat → Option Nat} (hF : FB τ F) (hFl : ∀ f i, F f = some i → i < 43008) : ∀ (r j fuel : Nat), j + r = 25 → r < fuel → fX6_check_L195 fuel (nI (numF F j)) (nI j) τ = some (nI (numF F 25), τ) := by
  intro r
  induction r with
  | zero =>
    intro j fuel h hf
    obtain ⟨fuel, rfl⟩ : ∃ z, fuel = z + 1 := ⟨fuel - 1, by omega⟩
    have e : j = 25 := by omega
    rw [fX6_check_L195, e, if_pos (by decide)]
  | succ r ih =>
    intro j fuel h hf
    obtain ⟨fuel, rfl⟩ : ∃ z, fuel = z + 1 := ⟨fuel - 1, by omega⟩
    rw [fX6_check_L195, if_neg (show ¬ (25 : Int32) ≤ nI j from nI_ge (a := j) (b := 25) (by omega) (by omega)), ix_nI (by omega) (by omega), nI_clamp (by omega), hF j (by omega)]
    unfold fX6_check_L217
    simp only [nm_e9, nI_1]
    have hn := ih (j + 1) fuel (by omega) (by omega)
    rw [numF] at hn
    cases hx : F j with
    | none =>
      rw [hx] at hn
      rw [show encF none = -1 from rfl, if_pos rfl, show (0 : Int32) = nI 0 from by decide, nI_add]
      exact hn
    | some i =>
      rw [hx] at hn
      rw [show encF (some i) = nI i from rfl, if_neg (nI_m1 (by have := hFl _ _ hx; omega))]
      exact hn
/-- the search of the configuration: what a check finds -/
def fnd (n m : Nat) (C : Nat → Nat → Int32) : Nat → Option Nat := fIx n C (bfs C m).1 (bfs C m).2.2.2
theorem bRun_ok {n m : Nat} {C : Nat → Nat → Int32} (w : WFc n m C) : ∀ (f q : Nat) (b : BS), BW m b → BW m (bRun C m f q b) := by
  intro f
  induction f with
  | zero => intro q b h; exact h
  | succ f ih =>
    intro q b h
    by_cases hq : q < b.2.2.2
    · rw [bRun_s hq]; exact ih _ _ (step_ok w h hq).1
    · rw [bRun_e hq]; exact h
theorem bfs_ok {n m : Nat} {C : Nat → Nat → Int32} (w : WFc n m C) : BW m (bfs C m) := bRun_ok w _ _ _ (b0_ok w.2.1)
theorem M_23 {n m : Nat} {C : Nat → Nat → Int32} (w : WFc n m C) : ∀ (r j fuel : Nat) (τ : ST), j + r = 25 → r < fuel → AgM τ n m C → (∀ v, v < 43008 → τ.2 10 v = 0) → (∀ f, f < j → τ.2 11 f = -1) →
    ∃ τ', fX6_check_L23 fuel (nI j) τ = fX6_check_L195 FUEL 0 0 (setF τ' 2 1) ∧ MB τ' (bfs C m) ∧ FB τ' (fnd n m C) ∧ SmM τ τ' := by
  intro r
  induction r with
  | zero =>
    intro j fuel τ h hf g hz hm1
    obtain ⟨fuel, rfl⟩ : ∃ z, fuel = z + 1 := ⟨fuel - 1, by omega⟩
    have e : j = 25 := by omega
    rw [fX6_check_L23, e, if_pos (by decide), nm_e9]
    have s0 : SmM τ (setF τ 3 0) := ⟨fun i hi => setF_n _ _ hi, fun _ _ _ _ _ => rfl⟩
    obtain ⟨τ1, e1, m1, s1, f1⟩ := M_first (s0.ag g) w (setF_s _ _ _) hz
    cases ha : fX6_at (setF τ 3 0) 0 0 with
    | none => rw [ha] at e1; cases e1
    | some r51 =>
      rw [ha, bd_s] at e1
      rw [bd_s, e1, bd_s]
      obtain ⟨τ2, e2, m2, f2, s2⟩ := M_run w 43009 0 (b0 m) τ1 FUEL (by omega) (by unfold FUEL; omega) (Nat.zero_le _) (b0_ok w.2.1) (s1.ag (s0.ag g)) m1 (fun f hf' => by
        rw [f1]
        exact hm1 f (by omega))
      exact ⟨τ2, e2, m2, f2, s0.tr (s1.tr s2)⟩
  | succ r ih =>
    intro j fuel τ h hf g hz hm1
    obtain ⟨fuel, rfl⟩ : ∃ z, fuel = z + 1 := ⟨fuel - 1, by omega⟩
    rw [fX6_check_L23, if_neg (show ¬ (25 : Int32) ≤ nI j from nI_ge (a := j) (b := 25) (by omega) (by omega)), ix_nI (by omega) (by omega), nm_e9, nm_e9, nI_1, nI_clamp (by omega)]
    have s0 : SmM τ (setA τ 11 j (-1)) := ⟨fun _ _ => rfl, fun _ _ _ _ h4 => setA_n _ _ _ h4⟩
    obtain ⟨τ1, e1, m1, f1, s1⟩ := ih (j + 1) fuel (setA τ 11 j (-1)) (by omega) (by omega) (s0.ag g) (fun v hv => by rw [setA_n _ _ _ (by decide)]; exact hz v hv) (fun f hf' => by
      rw [setA_s]
      by_cases c : f = j
      · rw [c, upd_s]
      · rw [upd_n _ _ c]; exact hm1 f (by omega))
    exact ⟨τ1, e1, m1, f1, s0.tr s1⟩
theorem M_2 {n m : Nat} {C : Nat → Nat → Int32} (w : WFc n m C) : ∀ (r j fuel : Nat) (τ : ST), j + r = 43008 → r < fuel → AgM τ n m C → (∀ v, v < j → τ.2 10 v = 0) →
    ∃ τ', fX6_check_L2 fuel (nI j) τ = fX6_check_L195 FUEL 0 0 (setF τ' 2 1) ∧ MB τ' (bfs C m) ∧ FB τ' (fnd n m C) ∧ SmM τ τ' := by
  intro r
  induction r with
  | zero =>
    intro j fuel τ h hf g hz
    obtain ⟨fuel, rfl⟩ : ∃ z, fuel = z + 1 := ⟨fuel - 1, by omega⟩
    have e : j = 43008 := by omega
    rw [fX6_check_L2, e, if_pos (by decide)]
    exact M_23 w 25 0 FUEL τ (by omega) (by unfold FUEL; omega) g (fun v hv => hz v (by omega)) (fun f hf' => by omega)
  | succ r ih =>
    intro j fuel τ h hf g hz
    obtain ⟨fuel, rfl⟩ : ∃ z, fuel = z + 1 := ⟨fuel - 1, by omega⟩
    rw [fX6_check_L2, if_neg (show ¬ (43008 : Int32) ≤ nI j from nI_ge (a := j) (b := 43008) (by omega) (by omega)), ix_nI (by omega) (by omega), nm_e9, nm_e9, nI_1, nI_clamp (by omega), nar0]
    have s0 : SmM τ (setA τ 10 j 0) := ⟨fun _ _ => rfl, fun _ _ _ h3 _ => setA_n _ _ _ h3⟩
    obtain ⟨τ1, e1, m1, f1, s1⟩ := ih (j + 1) fuel (setA τ 10 j 0) (by omega) (by omega) (s0.ag g) (fun v hv => by
      rw [setA_s]
      by_cases c : v = j
      · rw [c, upd_s]
      · rw [upd_n _ _ c]; exact hz v (by omega))
    exact ⟨τ1, e1, m1, f1, s0.tr s1⟩
theorem fnd_lt {n m : Nat} {C : Nat → Nat → Int32} (w : WFc n m C) : ∀ f i, fnd n m C f = some i → i < (bfs C m).2.2.2 := fun f i h => fIx_lt _ f i h
/-- the reference's check -/
theorem M_check {τ : ST} {n m : Nat} {C : Nat → Nat → Int32} (g : AgM τ n m C) (w : WFc n m C) : ∃ τ', fX6_check τ = some (nI (numF (fnd n m C) 25), setF τ' 2 1) ∧ MB τ' (bfs C m) ∧ FB τ' (fnd n m C) ∧ SmM τ τ' := by
  obtain ⟨τ1, e1, m1, f1, s1⟩ := M_2 w 43008 0 FUEL τ (by omega) (by unfold FUEL; omega) g (fun v hv => by omega)
  refine ⟨τ1, ?_, m1, f1, s1⟩
  unfold fX6_check
  rw [show (0 : Int32) = nI 0 from by decide, e1]
  have hl : ∀ f i, fnd n m C f = some i → i < 43008 := fun f i h => by
    have h1 := fnd_lt w f i h
    have h2 := (bfs_ok w).cnt
    omega
  have f1' : FB (setF τ1 2 1) (fnd n m C) := f1
  exact M_195 f1' hl 25 0 FUEL (by omega) (by unfold FUEL; omega)
