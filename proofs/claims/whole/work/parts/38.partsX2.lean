theorem X_survey {σ : ST} {n m q : Nat} {C : Nat → Nat → Int32} {ord : Nat → Nat} (g : AgX σ n m C) (w : WFc n m C) (hv : ord q < 43008) (hS : XS σ n C ord q) (hq : q < 43008) : ∃ σ', fX1_survey σ (nI (ord q)) = some σ' ∧ XS σ' n C ord (q + 1) ∧ SmS σ σ' := by
  obtain ⟨s1, s2, s3, s4, s5⟩ := hS
  have hp : ord q / 1024 < 42 := by omega
  have hc := cntP_le (ord := ord) (p := ord q / 1024) q
  unfold fX1_survey
  rw [X_place (by omega), bd_s, X_all (by omega), bd_s, ix_nI hp (by omega), ix_nI hp (by omega), nm_e9, nI_clamp (by omega), s1 _ hp, nI_1]
  generalize hσ : setA σ 10 (ord q / 1024) (nI (cntP ord q (ord q / 1024) + 1)) = σ1
  obtain ⟨g1, g2, a0, a1, a2, a3, a4, a5, a6, a7⟩ := g
  have g' : AgX σ1 n m C := by
    rw [← hσ]
    exact ⟨g1, g2, a0, a1, a2, a3, a4, a5, a6, a7⟩
  obtain ⟨σ2, e2, q1, q2, q3, q4, q5, q6⟩ := X_surv_loop (ord := ord) (q := q) w hv n 0 FUEL σ1 (by omega) (by have := w.1; unfold FUEL; omega) g' (fun p t' hp' ht' => by
    rw [← hσ, setA_n _ _ _ (by decide), s2 p t' hp' ht']
    unfold midP
    rw [if_neg (by omega)]) (by rw [← hσ]; exact s3) (by rw [← hσ]; exact s4) (by rw [← hσ]; exact s5)
  refine ⟨σ2, e2, ⟨fun p hp' => ?_, fun p t' hp' ht' => ?_, q2, q3, q4⟩, fun i i1 i2 i3 => (q5 i i1 i2 i3).trans (by rw [← hσ]; rfl), fun j j1 j2 => (q6 j j2).trans (by rw [← hσ]; exact setA_n _ _ _ j1)⟩
  · rw [q6 10 (by decide), ← hσ, setA_s]
    rw [cntP]
    by_cases c : ord q / 1024 = p
    · rw [if_pos c, ← c, upd_s]
    · rw [if_neg c, upd_n _ _ (fun z => c z.symm), s1 p hp']; rfl
  · rw [q1 p t' hp' ht']
    unfold midP
    rw [orP]
    by_cases c : ord q / 1024 = p
    · rw [if_pos c, if_pos ⟨c.symm, ht'⟩]
    · rw [if_neg c, if_neg (fun z => c z.1.symm)]
theorem numF_upd {F : Nat → Option Nat} {f0 q : Nat} : ∀ j, numF (fun f => orq (F f) (decide (f = f0)) q) j = numF F j + (if f0 < j ∧ (F f0).isSome = false then 1 else 0) := by
  intro j
  induction j with
  | zero => simp [numF]
  | succ j ih =>
    rw [numF, numF, ih]
    by_cases c : j = f0
    · subst c
      cases hx : F j with
      | none => simp [orq]
      | some i => simp [orq]
    · rw [decide_eq_false c, orq_f]
      by_cases d : f0 < j
      · have d' : f0 < j + 1 := by omega
        simp only [d, d', true_and]
        omega
      · have d' : ¬ f0 < j + 1 := by omega
        simp only [d, d', false_and, if_false]
        omega
theorem numF_le {F : Nat → Option Nat} : ∀ j, numF F j ≤ j := by
  intro j
  induction j with
  | zero => exact Nat.le_refl 0
  | succ j ih => unfold numF; split <;> omega
/-- only the findings' rows have changed -/
def SmN (σ σ' : ST) : Prop := (∀ i, i ≠ 4 → σ'.1 i = σ.1 i) ∧ (∀ j, j ≠ 12 → j ≠ 13 → σ'.2 j = σ.2 j)
theorem X_note {σ : ST} {b : BS} {F : Nat → Option Nat} {kd t q d : Nat} (hF : XF σ b F) (hFl : ∀ f i, F f = some i → b.2.2.1 i < 100000) (hk : kd < 5) (ht : t < 5) (hd : d = b.2.2.1 q + (if kd < 2 then 0 else 1)) (hdl : d < 100000) : ∃ σ', fX1_note σ (nI kd) (nI t) (nI (b.1 q)) (nI d) = some σ' ∧ XF σ' b (fun f => orq (F f) (decide (f = 5 * kd + t)) q) ∧ SmN σ σ' := by
  obtain ⟨h1, h2, h3⟩ := hF
  have hf : kd * 5 + t < 25 := by omega
  have ef : kd * 5 + t = 5 * kd + t := by omega
  have hnl := numF_le (F := F) 25
  unfold fX1_note
  rw [i_p5, nm_e9, ef]
  rw [ef] at hf
  simp only [ix_nI hf (show 25 < 2 ^ 31 by omega), nI_clamp (show 5 * kd + t < 2 ^ 31 by omega), nm_e9, h1 _ hf]
  have hnu := numF_upd (F := F) (f0 := 5 * kd + t) (q := q) 25
  cases hx : F (5 * kd + t) with
  | none =>
    rw [show encL b.2.2.1 (5 * kd + t) none = -1 from rfl, if_pos rfl, setA_1, setA_1, h3, nI_1]
    rw [hx, if_pos ⟨hf, rfl⟩] at hnu
    refine ⟨_, rfl, ⟨fun f hf' => ?_, fun f i hf' hi => ?_, ?_⟩, fun i hi => ?_, fun j j1 j2 => ?_⟩
    · rw [setF_2, setA_n _ _ _ (by decide), setA_s]
      show _ = encL b.2.2.1 f (orq (F f) (decide (f = 5 * kd + t)) q)
      by_cases c : f = 5 * kd + t
      · rw [c, upd_s, hx, hd]
        simp only [orq, encL, decide_true, if_true]
        congr 2
        by_cases z : kd < 2
        · rw [if_pos z, if_pos (by omega)]
        · rw [if_neg z, if_neg (by omega)]
      · rw [upd_n _ _ c, h1 f hf', decide_eq_false c, orq_f]
    · rw [setF_2, setA_s]
      have hi : orq (F f) (decide (f = 5 * kd + t)) q = some i := hi
      by_cases c : f = 5 * kd + t
      · rw [c, upd_s]
        rw [c, hx] at hi
        simp only [orq, decide_true, if_true] at hi
        rw [Option.some.inj hi]
      · rw [upd_n _ _ c, setA_n _ _ _ (by decide)]
        rw [decide_eq_false c, orq_f] at hi
        exact h2 f i hf' hi
    · rw [setF_s, hnu]
    · rw [setF_n _ _ hi]; rfl
    · rw [setF_2, setA_n _ _ _ j2, setA_n _ _ _ j1]
  | some i0 =>
    rw [show encL b.2.2.1 (5 * kd + t) (some i0) = nI (b.2.2.1 i0 + (if 5 * kd + t < 10 then 0 else 1)) from rfl, if_neg (nI_m1 (by have := hFl _ _ hx; split <;> omega))]
    rw [hx, if_neg (fun z => by cases z.2)] at hnu
    have ho : ∀ f, orq (F f) (decide (f = 5 * kd + t)) q = F f := by
      intro f
      by_cases c : f = 5 * kd + t
      · rw [c, hx]; rfl
      · rw [decide_eq_false c, orq_f]
    refine ⟨σ, rfl, ⟨fun f hf' => ?_, fun f i hf' hi => ?_, ?_⟩, fun _ _ => rfl, fun _ _ _ => rfl⟩
    · show _ = encL b.2.2.1 f (orq (F f) (decide (f = 5 * kd + t)) q)
      rw [ho, h1 f hf']
    · have hi : orq (F f) (decide (f = 5 * kd + t)) q = some i := hi
      rw [ho] at hi
      exact h2 f i hf' hi
    · rw [hnu, h3]; rfl
theorem XF.congr {σ : ST} {b : BS} {F G : Nat → Option Nat} (h : XF σ b F) (e : ∀ f, F f = G f) : XF σ b G := by
  have : F = G := funext e
  rw [← this]; exact h
theorem SmN.ag {σ σ' : ST} {n m : Nat} {C : Nat → Nat → Int32} (h : SmN σ σ') (g : AgX σ n m C) : AgX σ' n m C := by
  obtain ⟨g1, g2, a0, a1, a2, a3, a4, a5, a6, a7⟩ := g
  refine ⟨(h.1 1 (by decide)).trans g1, (h.1 2 (by decide)).trans g2, ?_, ?_, ?_, ?_, ?_, ?_, ?_, ?_⟩
  · exact (h.2 0 (by decide) (by decide)).trans a0
  · exact (h.2 1 (by decide) (by decide)).trans a1
  · exact (h.2 2 (by decide) (by decide)).trans a2
  · exact (h.2 3 (by decide) (by decide)).trans a3
  · exact (h.2 4 (by decide) (by decide)).trans a4
  · exact (h.2 5 (by decide) (by decide)).trans a5
  · exact (h.2 6 (by decide) (by decide)).trans a6
  · exact (h.2 7 (by decide) (by decide)).trans a7
theorem SmN.tr {a b c : ST} (h : SmN a b) (k : SmN b c) : SmN a c := ⟨fun i hi => (k.1 i hi).trans (h.1 i hi), fun j j1 j2 => (k.2 j j1 j2).trans (h.2 j j1 j2)⟩
theorem X_left_loop {n m q d : Nat} {C : Nat → Nat → Int32} {b : BS} {F : Nat → Option Nat} (w : WFc n m C) (hv : b.1 q < 43008) (hk : 40 ≤ b.1 q / 1024) (hFl : ∀ f i, F f = some i → b.2.2.1 i < 100000) (hd : d = b.2.2.1 q) (hdl : d < 100000) :
    ∀ (r t fuel : Nat) (σ : ST), t + r = n → r < fuel → AgX σ n m C → XF σ b (fun f => orq (F f) (endC C (b.1 q) t f) q) → ∃ σ', fX1_noteLeft_L18 fuel (nI (b.1 q)) (nI d) (nI (b.1 q / 1024 - 40)) (nI t) σ = some σ' ∧ XF σ' b (fun f => orq (F f) (endC C (b.1 q) n f) q) ∧ SmN σ σ' := by
  obtain ⟨hn, hm, wt, ws⟩ := w
  intro r
  induction r with
  | zero =>
    intro t fuel σ ht hfu g hF
    obtain ⟨fuel, rfl⟩ : ∃ z, fuel = z + 1 := ⟨fuel - 1, by omega⟩
    rw [fX1_noteLeft_L18, g.1, if_pos (nI_le (by omega) (by omega))]
    have e : t = n := by omega
    rw [e] at hF
    exact ⟨σ, rfl, hF, fun _ _ => rfl, fun _ _ _ => rfl⟩
  | succ r ih =>
    intro t fuel σ ht hfu g hF
    obtain ⟨fuel, rfl⟩ : ∃ z, fuel = z + 1 := ⟨fuel - 1, by omega⟩
    have ht5 : t < 5 := by omega
    have h0 : σ.2 0 t = 0 ∨ σ.2 0 t = 1 := by rw [g.2.2.1]; exact (wt t (by omega)).1
    rw [fX1_noteLeft_L18, g.1, if_neg (nI_ge (by omega) (by omega)), X_all (by omega), bd_s, X_held (by omega) ht5 h0, bd_s, g.2.2.1, st_mod ht5]
    unfold fX1_noteLeft_L55
    simp only [nm_e9, nI_1]
    cases hh : sHeld (C 0 t) (stN (b.1 q) t) with
    | false =>
      rw [if_pos (show b01 false = 0 from rfl)]
      exact ih (t + 1) fuel σ (by omega) (by omega) g (hF.congr (fun f => by rw [endC_s0 hh]))
    | true =>
      rw [if_neg (show ¬ b01 true = 0 by decide)]
      obtain ⟨σ1, e1, f1, s1⟩ := X_note (q := q) (kd := b.1 q / 1024 - 40) (t := t) (d := d) hF (fun f i hi => by
        rcases orq_lt hi with z | z
        · exact hFl f i z
        · rw [z, ← hd]; exact hdl) (by omega) ht5 (by rw [if_pos (by omega)]; exact hd) hdl
      rw [e1, bd_s]
      obtain ⟨σ2, e2, f2, s2⟩ := ih (t + 1) fuel σ1 (by omega) (by omega) (s1.ag g) (f1.congr (fun f => by rw [orq_or, endC_s1 ht5 hh]))
      exact ⟨σ2, e2, f2, s1.tr s2⟩
theorem X_left {σ : ST} {n m q d : Nat} {C : Nat → Nat → Int32} {b : BS} {F : Nat → Option Nat} (w : WFc n m C) (g : AgX σ n m C) (hv : b.1 q < 43008) (hk : 40 ≤ b.1 q / 1024) (hFl : ∀ f i, F f = some i → b.2.2.1 i < 100000) (hd : d = b.2.2.1 q) (hdl : d < 100000) (hF : XF σ b F) : ∃ σ', fX1_noteLeft σ (nI (b.1 q)) (nI d) = some σ' ∧ XF σ' b (fun f => orq (F f) (shw n C (b.1 q) f) q) ∧ SmN σ σ' := by
  obtain ⟨σ1, e1, f1, s1⟩ := X_left_loop (F := F) w hv hk hFl hd hdl n 0 FUEL σ (by omega) (by have := w.1; unfold FUEL; omega) g (hF.congr (fun f => by rw [endC_0, orq_f]))
  refine ⟨σ1, ?_, f1.congr (fun f => by rw [shw_end hk]), s1⟩
  unfold fX1_noteLeft fX1_noteLeft_L14
  rw [X_place (by omega), bd_s, ← e1]
  simp only [nm_e9]
  by_cases c : b.1 q / 1024 = 40
  · rw [c, if_pos (by decide)]; rfl
  · have e : b.1 q / 1024 = 41 := by omega
    rw [e, if_neg (by decide)]; rfl
