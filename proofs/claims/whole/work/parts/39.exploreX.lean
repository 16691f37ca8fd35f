def SmR (σ σ' : ST) : Prop := (∀ i, i ≠ 3 → σ'.1 i = σ.1 i) ∧ (∀ j, j ≠ 8 → j ≠ 9 → σ'.2 j = σ.2 j)
/-- only the search's rows have changed -/
def SmE (σ σ' : ST) : Prop := (∀ i, i ≠ 3 → i ≠ 4 → i ≠ 5 → i ≠ 6 → i ≠ 7 → σ'.1 i = σ.1 i) ∧ (∀ j, j ≠ 8 → j ≠ 9 → j ≠ 10 → j ≠ 11 → j ≠ 12 → j ≠ 13 → σ'.2 j = σ.2 j)
theorem SmE.rf {σ : ST} : SmE σ σ := ⟨fun _ _ _ _ _ _ => rfl, fun _ _ _ _ _ _ _ => rfl⟩
theorem SmE.tr {a b c : ST} (h : SmE a b) (k : SmE b c) : SmE a c := ⟨fun i a1 a2 a3 a4 a5 => (k.1 i a1 a2 a3 a4 a5).trans (h.1 i a1 a2 a3 a4 a5), fun j a1 a2 a3 a4 a5 a6 => (k.2 j a1 a2 a3 a4 a5 a6).trans (h.2 j a1 a2 a3 a4 a5 a6)⟩
theorem SmR.e {a b : ST} (h : SmR a b) : SmE a b := ⟨fun i a1 _ _ _ _ => h.1 i a1, fun j a1 a2 _ _ _ _ => h.2 j a1 a2⟩
theorem SmN.e {a b : ST} (h : SmN a b) : SmE a b := ⟨fun i _ a2 _ _ _ => h.1 i a2, fun j _ _ _ _ a5 a6 => h.2 j a5 a6⟩
theorem SmS.e {a b : ST} (h : SmS a b) : SmE a b := ⟨fun i _ _ a3 a4 a5 => h.1 i a3 a4 a5, fun j _ _ a3 a4 _ _ => h.2 j a3 a4⟩
theorem SmE.ag {σ σ' : ST} {n m : Nat} {C : Nat → Nat → Int32} (h : SmE σ σ') (g : AgX σ n m C) : AgX σ' n m C := by
  obtain ⟨g1, g2, a0, a1, a2, a3, a4, a5, a6, a7⟩ := g
  refine ⟨(h.1 1 (by decide) (by decide) (by decide) (by decide) (by decide)).trans g1, (h.1 2 (by decide) (by decide) (by decide) (by decide) (by decide)).trans g2, ?_, ?_, ?_, ?_, ?_, ?_, ?_, ?_⟩
  · exact (h.2 0 (by decide) (by decide) (by decide) (by decide) (by decide) (by decide)).trans a0
  · exact (h.2 1 (by decide) (by decide) (by decide) (by decide) (by decide) (by decide)).trans a1
  · exact (h.2 2 (by decide) (by decide) (by decide) (by decide) (by decide) (by decide)).trans a2
  · exact (h.2 3 (by decide) (by decide) (by decide) (by decide) (by decide) (by decide)).trans a3
  · exact (h.2 4 (by decide) (by decide) (by decide) (by decide) (by decide) (by decide)).trans a4
  · exact (h.2 5 (by decide) (by decide) (by decide) (by decide) (by decide) (by decide)).trans a5
  · exact (h.2 6 (by decide) (by decide) (by decide) (by decide) (by decide) (by decide)).trans a6
  · exact (h.2 7 (by decide) (by decide) (by decide) (by decide) (by decide) (by decide)).trans a7
theorem XQ.same {σ σ' : ST} {b : BS} (h : XQ σ b) (e : σ'.1 3 = σ.1 3) (e8 : σ'.2 8 = σ.2 8) (e9 : σ'.2 9 = σ.2 9) : XQ σ' b := by
  unfold XQ; rw [e, e8, e9]; exact h
theorem XF.same {σ σ' : ST} {b : BS} {F : Nat → Option Nat} (h : XF σ b F) (e : σ'.1 4 = σ.1 4) (e8 : σ'.2 12 = σ.2 12) (e9 : σ'.2 13 = σ.2 13) : XF σ' b F := by
  unfold XF; rw [e, e8, e9]; exact h
theorem XS.same {σ σ' : ST} {n q : Nat} {C : Nat → Nat → Int32} {ord : Nat → Nat} (h : XS σ n C ord q) (e : ∀ i, i = 5 ∨ i = 6 ∨ i = 7 → σ'.1 i = σ.1 i) (e8 : σ'.2 10 = σ.2 10) (e9 : σ'.2 11 = σ.2 11) : XS σ' n C ord q := by
  unfold XS; rw [e 5 (by omega), e 6 (by omega), e 7 (by omega), e8, e9]; exact h
theorem XF.grow {σ : ST} {b b' : BS} {F : Nat → Option Nat} (h : XF σ b F) (hG : BG b b') (hl : ∀ f i, F f = some i → i < b.2.2.2) : XF σ b' F := by
  obtain ⟨h1, h2, h3⟩ := h
  refine ⟨fun f hf => ?_, fun f i hf hi => ?_, h3⟩
  · rw [h1 f hf]
    cases hx : F f with
    | none => rfl
    | some i =>
      show nI _ = nI _
      rw [(hG.2 i (hl f i hx)).2.2]
  · rw [h2 f i hf hi, (hG.2 i (hl f i hi)).1]
theorem cntP_congr {o o' : Nat → Nat} {p : Nat} : ∀ q, (∀ i, i < q → o' i = o i) → cntP o' q p = cntP o q p := by
  intro q
  induction q with
  | zero => intro _; rfl
  | succ q ih => intro h; rw [cntP, cntP, ih (fun i hi => h i (by omega)), h q (by omega)]
theorem orP_congr {o o' : Nat → Nat} {p t : Nat} : ∀ q, (∀ i, i < q → o' i = o i) → orP o' q p t = orP o q p t := by
  intro q
  induction q with
  | zero => intro _; rfl
  | succ q ih => intro h; rw [orP, orP, ih (fun i hi => h i (by omega)), h q (by omega)]
theorem mxP_congr {o o' : Nat → Nat} {C : Nat → Nat → Int32} {n w : Nat} : ∀ q, (∀ i, i < q → o' i = o i) → mxP C n o' w q = mxP C n o w q := by
  intro q
  induction q with
  | zero => intro _; rfl
  | succ q ih => intro h; rw [mxP, mxP, ih (fun i hi => h i (by omega)), h q (by omega)]
theorem XS.grow {σ : ST} {n q : Nat} {C : Nat → Nat → Int32} {o o' : Nat → Nat} (h : XS σ n C o q) (e : ∀ i, i < q → o' i = o i) : XS σ n C o' q := by
  obtain ⟨h1, h2, h3, h4, h5⟩ := h
  refine ⟨fun p hp => by rw [h1 p hp, cntP_congr q e], fun p t hp ht => by rw [h2 p t hp ht, orP_congr q e], ?_, ?_, ?_⟩
  · rw [h3, mxP_congr q e]
  · rw [h4, mxP_congr q e]
  · rw [h5, mxP_congr q e]
theorem X_reach {σ : ST} {m v q d : Nat} {b : BS} (hQ : XQ σ b) (hw : BW m b) (hq : q < b.2.2.2) (hv : v < 43008) : ∃ σ', fX1_reach σ (nI v) (nI (b.1 q)) = some σ' ∧ XQ σ' (bCome b v q d) ∧ SmR σ σ' := by
  have hQ' := hQ
  obtain ⟨h1, h2, h3, h4⟩ := hQ
  have hc := hw.cnt
  unfold fX1_reach
  rw [ix_nI hv (by omega), nI_clamp (by omega)]
  cases hb : bIn b v with
  | true =>
    obtain ⟨i, hi, e⟩ := bIn_iff.mp hb
    have hz : ¬ σ.2 9 v = 0 := by
      rw [← e, h3 i hi]
      refine nI_ne0 (by omega) ?_
      have : b.1 (b.2.1 i) < 43008 := by
        by_cases c : i = 0
        · rw [c, hw.2.2.2.1]; exact (hw.2.1 0 hw.1).1
        · exact (hw.2.1 _ (by have := (hw.2.2.2.2.2 i (by omega) hi).1; omega)).1
      omega
    rw [if_neg hz, bCome_t hb]
    exact ⟨σ, rfl, hQ', fun _ _ => rfl, fun _ _ _ => rfl⟩
  | false =>
    have hr := hw.room hv hb
    have hu := (hw.2.1 q hq).1
    rw [if_pos (h4 v hv hb), h1, if_neg (show ¬ (43008 : Int32) ≤ nI b.2.2.2 from nI_ge (a := b.2.2.2) (b := 43008) hr (by omega)), bCome_f hb]
    simp only [ix_nI hv (show 43008 < 2 ^ 31 by omega), nm_e9, setA_1, h1, ix_nI hr (show 43008 < 2 ^ 31 by omega), nI_clamp (show b.2.2.2 < 2 ^ 31 by omega), nI_1]
    refine ⟨_, rfl, ⟨?_, ?_, ?_, ?_⟩, fun i hi => ?_, fun j j1 j2 => ?_⟩
    · rw [setF_s]
    · intro i hi
      have hi : i < b.2.2.2 + 1 := hi
      rw [setF_2, setA_s]
      show _ = nI (nup b.1 b.2.2.2 v i)
      by_cases c : i = b.2.2.2
      · rw [c, upd_s, nup_s]
      · rw [upd_n _ _ c, nup_n _ _ c, setA_n _ _ _ (by decide)]; exact h2 i (by omega)
    · intro i hi
      have hi : i < b.2.2.2 + 1 := hi
      rw [setF_2, setA_n _ _ _ (by decide), setA_s]
      show upd _ _ _ (nup b.1 b.2.2.2 v i) = nI (nup b.1 b.2.2.2 v (nup b.2.1 b.2.2.2 q i) + 1)
      by_cases c : i = b.2.2.2
      · rw [c, nup_s, nup_s, nup_n _ _ (by omega), upd_s]
      · have hne : b.1 i ≠ v := bIn_f hb i (by omega)
        have hpl : b.2.1 i < b.2.2.2 := by
          by_cases c0 : i = 0
          · rw [c0, hw.2.2.2.1]; exact hw.1
          · have := (hw.2.2.2.2.2 i (by omega) (by omega)).1; omega
        rw [nup_n _ _ c, nup_n _ _ c, nup_n _ _ (by omega), upd_n _ _ hne]
        exact h3 i (by omega)
    · intro u hu' hbu
      rw [bIn_come hb] at hbu
      have hbu2 := Bool.or_eq_false_iff.mp hbu
      have hne : u ≠ v := of_decide_eq_false hbu2.1
      rw [setF_2, setA_n _ _ _ (by decide), setA_s, upd_n _ _ hne]
      exact h4 u hu' hbu2.2
    · rw [setF_n _ _ hi]; rfl
    · rw [setF_2, setA_n _ _ _ j1, setA_n _ _ _ j2]
theorem X_first {σ : ST} {n m : Nat} {C : Nat → Nat → Int32} (g : AgX σ n m C) (w : WFc n m C) (h1 : σ.1 3 = 0) (h9 : ∀ v, v < 43008 → σ.2 9 v = 0) : ∃ σ', ((fX0_firstNode σ).bind fun r8 => fX1_reach σ r8 r8) = some σ' ∧ XQ σ' (b0 m) ∧ SmR σ σ' := by
  have hm := w.2.1
  have ha := at_ok (m := m) (v := 0) (p := 0) hm
  unfold fX0_firstNode
  rw [show (fX0_arriveAt σ 0 0) = some (nI (atN m 0 0)) from X_arr2 (p := 0) (v := 0) g.2.1 hm (by omega), bd_s, bd_s]
  unfold fX1_reach
  rw [ix_nI ha.1 (by omega), nI_clamp (by omega), h9 _ ha.1, if_pos rfl, h1, if_neg (by decide)]
  simp only [ix_nI ha.1 (show 43008 < 2 ^ 31 by omega), nm_e9, setA_1, h1, show (0 : Int32) = nI 0 from by decide, ix_nI (show 0 < 43008 by omega) (show 43008 < 2 ^ 31 by omega), nI_clamp (show 0 < 2 ^ 31 by omega), nI_1]
  refine ⟨_, rfl, ⟨?_, ?_, ?_, ?_⟩, fun i hi => ?_, fun j j1 j2 => ?_⟩
  · rw [setF_s]; rfl
  · intro i hi
    have hi : i < 1 := hi
    have e : i = 0 := by omega
    subst e
    rw [setF_2, setA_s, upd_s]; rfl
  · intro i hi
    rw [setF_2, setA_n _ _ _ (by decide), setA_s]
    show upd _ _ _ (atN m 0 0) = nI (atN m 0 0 + 1)
    rw [upd_s]
  · intro u hu hbu
    have hne : u ≠ atN m 0 0 := fun z => bIn_f hbu 0 (by show 0 < 1; omega) z.symm
    rw [setF_2, setA_n _ _ _ (by decide), setA_s, upd_n _ _ hne]
    exact h9 u hu
  · rw [setF_n _ _ hi]; rfl
  · rw [setF_2, setA_n _ _ _ j1, setA_n _ _ _ j2]
theorem X_go35 {σ : ST} {n m q : Nat} {C : Nat → Nat → Int32} {b : BS} (w : WFc n m C) (g : AgX σ n m C) (hQ : XQ σ b) (hw : BW m b) (hq : q < b.2.2.2) (hk : b.1 q / 1024 < m) : ∃ σ', fX1_goOnFrom_L35 (nI (b.1 q)) (if sFault C (b.1 q) = 0 then -1 else nI (sFault C (b.1 q))) σ = some σ' ∧ XQ σ' (bStep C m b q) ∧ SmR σ σ' := by
  have hv := (hw.2.1 q hq).1
  have hm := w.2.1
  have hn0 := next_ok w (v := b.1 q) false
  have hn1 := next_ok w (v := b.1 q) true
  unfold fX1_goOnFrom_L35 bStep
  rw [if_neg (show ¬ 40 ≤ b.1 q / 1024 by omega), show (0 : Int32) = b01 false from rfl, X_next g w hv hk false, bd_s]
  obtain ⟨σ1, e1, q1, s1⟩ := X_reach (d := b.2.2.1 q + 1) hQ hw hq hn0.1
  rw [e1, bd_s, X_two (s1.e.ag g) w hv hk, bd_s]
  cases ht : sTwo C (b.1 q) with
  | false =>
    rw [if_pos rfl, if_neg (by decide)]
    exact ⟨σ1, rfl, q1, s1⟩
  | true =>
    have hx := X_next (s1.e.ag g) w hv hk true
    rw [show b01 true = 1 from rfl] at hx
    rw [if_neg (show ¬ b01 true = b01 false by decide), if_pos rfl, hx, bd_s]
    have hG := BG.come b (sNext C m (b.1 q) false) q (b.2.2.1 q + 1)
    obtain ⟨σ2, e2, q2, s2⟩ := X_reach (q := q) (d := b.2.2.1 q + 1) q1 (hw.come hq hn0) (by have := hG.1; omega) hn1.1
    rw [(hG.2 q hq).1] at e2
    rw [e2, bd_s]
    exact ⟨σ2, rfl, q2, fun i hi => (s2.1 i hi).trans (s1.1 i hi), fun j j1 j2 => (s2.2 j j1 j2).trans (s1.2 j j1 j2)⟩
theorem X_go {σ : ST} {n m q d : Nat} {C : Nat → Nat → Int32} {b : BS} {F : Nat → Option Nat} (w : WFc n m C) (g : AgX σ n m C) (hQ : XQ σ b) (hw : BW m b) (hq : q < b.2.2.2) (hk : b.1 q / 1024 < m) (hF : XF σ b F) (hl : ∀ f i, F f = some i → i < b.2.2.2) (hFl : ∀ f i, F f = some i → b.2.2.1 i < 100000) (hd : d = b.2.2.1 q) (hdl : d + 1 < 100000) : ∃ σ', fX1_goOnFrom σ (nI (b.1 q)) (nI d) = some σ' ∧ XQ σ' (bStep C m b q) ∧ XF σ' (bStep C m b q) (fun f => orq (F f) (shw n C (b.1 q) f) q) ∧ (∀ i, i ≠ 3 → i ≠ 4 → σ'.1 i = σ.1 i) ∧ (∀ j, j ≠ 8 → j ≠ 9 → j ≠ 12 → j ≠ 13 → σ'.2 j = σ.2 j) := by
  have hv := (hw.2.1 q hq).1
  have hm := w.2.1
  have hG := (step_ok w hw hq).2.1
  have hin := sFault_in C (b.1 q)
  unfold fX1_goOnFrom
  rw [X_fault g w hv hk, bd_s]
  by_cases hf : sFault C (b.1 q) = 0
  · obtain ⟨σ1, e1, q1, s1⟩ := X_go35 w g hQ hw hq hk
    rw [if_pos (by rw [if_pos hf])]
    refine ⟨σ1, e1, q1, ?_, fun i i1 _ => s1.1 i i1, fun j j1 j2 _ _ => s1.2 j j1 j2⟩
    have hF1 := (hF.grow hG hl).same (s1.1 4 (by decide)) (s1.2 12 (by decide) (by decide)) (s1.2 13 (by decide) (by decide))
    refine hF1.congr (fun f => ?_)
    unfold shw
    rw [if_neg (by omega), decide_eq_false (fun z => z.1 hf), orq_f]
  · have hco : cCo C (b.1 q) ≤ 3 := by
      apply Nat.le_of_not_lt
      intro z
      apply hf
      unfold sFault sFl
      rw [if_neg (by omega), if_neg (by omega), if_neg (by omega), if_neg (by omega)]
    obtain ⟨co, hco9, e3, ht, -, -, -, -⟩ := w.2.2.2 _ hk
    rw [cCo_e e3 hco9] at hco
    obtain ⟨t, ht5, e4⟩ := ht (Or.inl hco)
    have ht5' : t < 5 := by have := w.1; omega
    have ect := cT_e e4 ht5'
    rw [if_neg (by rw [if_neg hf]; exact nI_m1 (by omega)), X_place (by omega), bd_s, ix_nI (by omega) (by omega), nI_clamp (by omega), g.2.2.2.2.2.2.1, e4, nI_1]
    obtain ⟨σ1, e1, f1, s1⟩ := X_note (q := q) (kd := sFault C (b.1 q)) (t := t) (d := d + 1) hF hFl (by omega) ht5' (by rw [if_neg (by omega), hd]) hdl
    rw [if_neg hf]
    rw [e1, bd_s]
    obtain ⟨σ2, e2, q2, s2⟩ := X_go35 w (s1.e.ag g) (hQ.same (s1.1 3 (by decide)) (s1.2 8 (by decide) (by decide)) (s1.2 9 (by decide) (by decide))) hw hq hk
    rw [if_neg hf] at e2
    refine ⟨σ2, e2, q2, ?_, fun i i1 i2 => (s2.1 i i1).trans (s1.1 i i2), fun j j1 j2 j3 j4 => (s2.2 j j1 j2).trans (s1.2 j j3 j4)⟩
    have hl' : ∀ f i, (fun f => orq (F f) (decide (f = 5 * sFault C (b.1 q) + t)) q) f = some i → i < b.2.2.2 := fun f i hi => by
      rcases orq_lt hi with z | z
      · exact hl f i z
      · omega
    have hF1 := (f1.grow hG hl').same (s2.1 4 (by decide)) (s2.2 12 (by decide) (by decide)) (s2.2 13 (by decide) (by decide))
    refine hF1.congr (fun f => ?_)
    unfold shw
    rw [if_neg (by omega), ect]
    congr 1
    by_cases z : f = 5 * sFault C (b.1 q) + t
    · rw [decide_eq_true z, decide_eq_true ⟨hf, z⟩]
    · rw [decide_eq_false z, decide_eq_false (fun y => z y.2)]
