theorem FoundR.same {σ σ' τ τ' : ST} {n m : Nat} {C : Nat → Nat → Int32} (h : FoundR σ τ n m C) (e0 : σ'.1 0 = σ.1 0) (e2 : τ'.1 2 = τ.1 2) (e : ∀ i, 3 ≤ i → i ≤ 7 → σ'.1 i = σ.1 i) (f : ∀ j, 8 ≤ j → j ≤ 13 → σ'.2 j = σ.2 j) (e3 : τ'.1 3 = τ.1 3) (fm : ∀ j, 8 ≤ j → j ≤ 11 → τ'.2 j = τ.2 j) : FoundR σ' τ' n m C := by
  rcases h with ⟨a, b⟩ | ⟨a, b, xa, mb, fb⟩
  · exact Or.inl ⟨e0.trans a, e2.trans b⟩
  · exact Or.inr ⟨e0.trans a, e2.trans b, xa.same e f, mb.same e3 (fun j j1 j2 => fm j j1 (by omega)), fb.same (fm 11 (by omega) (by omega))⟩
/-- run -/
theorem op_run {σ τ : ST} (h : Rel σ τ) (x y : Int32) : ∃ r σ' τ', fX5_run σ x y = some (r, σ') ∧ fX6_run τ x y = some (r, τ') ∧ Rel σ' τ' := by
  have hR := h
  obtain ⟨n, m, C, w, g, g', hX, hT, hF⟩ := h
  have hm := w.2.1
  unfold fX5_run fX6_run fX6_in
  by_cases c1 : y < 1
  · rw [if_pos c1, if_pos c1, bd_s, if_pos rfl]
    exact ⟨_, _, _, rfl, rfl, hR⟩
  · rw [if_neg c1, if_neg c1]
    by_cases c2 : y ≤ 100
    · have c2' : ¬ (100 : Int32) < y := by
        rw [Int32.lt_iff_toInt_lt]; rw [Int32.le_iff_toInt_le] at c2; omega
      rw [if_pos c2, if_neg c2', bd_s, if_neg (by decide)]
      obtain ⟨L, hL, rfl⟩ : ∃ L, L ≤ 100 ∧ y = nI L := nI_of2 (M := 100) (n := 100) (by decide) (by
        intro z
        apply c1
        rw [Int32.lt_iff_toInt_lt] at z ⊢
        have e0 : (0 : Int32).toInt = 0 := by decide
        have e1 : (1 : Int32).toInt = 1 := by decide
        omega) c2
      unfold fX4_drive
      simp only [nm_e9]
      generalize hσ : setF (setF (setF (setF σ 8 1) 9 0) 10 0) 13 x = σ1
      generalize hτ : setF (setF τ 5 0) 7 0 = τ1
      have sσ : ∀ i, i ≠ 8 → i ≠ 9 → i ≠ 10 → i ≠ 13 → σ1.1 i = σ.1 i := fun i i1 i2 i3 i4 => by rw [← hσ, setF_n _ _ i4, setF_n _ _ i3, setF_n _ _ i2, setF_n _ _ i1]
      have sσ2 : σ1.2 = σ.2 := by rw [← hσ]; rfl
      have sτ : ∀ i, i ≠ 5 → i ≠ 7 → τ1.1 i = τ.1 i := fun i i1 i2 => by rw [← hτ, setF_n _ _ i2, setF_n _ _ i1]
      have sτ2 : τ1.2 = τ.2 := by rw [← hτ]; rfl
      have g1 : AgX σ1 n m C := g.of (sσ 1 (by decide) (by decide) (by decide) (by decide)) (sσ 2 (by decide) (by decide) (by decide) (by decide)) (fun j _ => by rw [sσ2])
      have g1' : AgM τ1 n m C := g'.of (sτ 0 (by decide) (by decide)) (sτ 1 (by decide) (by decide)) (fun j _ => by rw [sτ2])
      have ha := at_ok (m := m) (v := 0) (p := 0) hm
      unfold fX0_firstNode
      rw [show (fX0_arriveAt σ1 0 0) = some (nI (atN m 0 0)) from X_arr2 (p := 0) (v := 0) g1.2.1 hm (by omega), bd_s, bd_s, show (fX6_at τ 0 0) = some (nI (atN m 0 0)) from M_at (p := 0) (v := 0) g'.2.1 hm (by omega) (by omega), bd_s]
      have g2 : AgX (setF σ1 11 (nI (atN m 0 0))) n m C := g1.of rfl rfl (fun _ _ => rfl)
      obtain ⟨σ2, τ2, v', d', q1, q2, q3, q4, q5, q6, q7, q8, q9, q10, q11⟩ := run_loop w hL L 0 (atN m 0 0) (setF σ1 11 (nI (atN m 0 0))) τ1 FUEL FUEL (by omega) (by unfold FUEL; omega) (by unfold FUEL; omega) g2 g1' ha.1 ha.2 (by rw [setF_n _ _ (by decide), ← hσ, setF_n _ _ (by decide), setF_n _ _ (by decide), setF_s]; rfl) (by rw [setF_s]) (by rw [← hτ, setF_n _ _ (by decide), setF_s]; rfl) (fun i hi => by omega) (by rw [setF_n _ _ (by decide), ← hσ, ← hτ, setF_n _ _ (by decide), setF_s, setF_s])
      have e13 : (setF σ1 11 (nI (atN m 0 0))).1 13 = x := by rw [setF_n _ _ (by decide), ← hσ, setF_s]
      rw [e13] at q2
      rw [q1, bd_s, q2]
      unfold fX6_run_L127
      simp only [nm_e9]
      have tσ : ∀ i, i ≠ 8 → i ≠ 9 → i ≠ 10 → i ≠ 11 → i ≠ 13 → σ2.1 i = σ.1 i := fun i i1 i2 i3 i4 i5 => (q10.1 i i2 i3 i4 i5).trans ((setF_n _ _ i4).trans (sσ i i1 i2 i3 i5))
      have tσ2 : ∀ j, j ≠ 14 → σ2.2 j = σ.2 j := fun j hj => (q10.2 j hj).trans (by rw [setF_2, sσ2])
      have tτ : ∀ i, i ≠ 5 → i ≠ 7 → τ2.1 i = τ.1 i := fun i i1 i2 => (q11.1 i i1 i2).trans (sτ i i1 i2)
      have tτ2 : ∀ j, j ≠ 12 → τ2.2 j = τ.2 j := fun j hj => (q11.2 j hj).trans (by rw [sτ2])
      have e8 : σ2.1 8 = 1 := by rw [q10.1 8 (by decide) (by decide) (by decide) (by decide), setF_n _ _ (by decide), ← hσ, setF_n _ _ (by decide), setF_n _ _ (by decide), setF_n _ _ (by decide), setF_s]
      have en : σ2.1 1 = nI n := (tσ 1 (by decide) (by decide) (by decide) (by decide) (by decide)).trans g.1
      have en' : τ2.1 0 = nI n := (tτ 0 (by decide) (by decide)).trans g'.1
      refine ⟨nI d', setF σ2 12 (σ2.1 1), setF (setF (setF τ2 6 (nI v')) 8 ((setF τ2 6 (nI v')).1 0)) 4 1, ?_, ?_, n, m, C, w, ?_, ?_, ?_, ?_, ?_⟩
      · rw [setF_n _ _ (by decide), q5]
      · rw [setF_n _ _ (by decide), setF_n _ _ (by decide), setF_n _ _ (by decide), q6]
      · exact g.of ((setF_n _ _ (by decide)).trans (tσ 1 (by decide) (by decide) (by decide) (by decide) (by decide))) ((setF_n _ _ (by decide)).trans (tσ 2 (by decide) (by decide) (by decide) (by decide) (by decide))) (fun j hj => tσ2 j (by omega))
      · exact g'.of (tτ 0 (by decide) (by decide)) (tτ 1 (by decide) (by decide)) (fun j hj => tτ2 j (by omega))
      · exact hX.same ((setF_n _ _ (by decide)).trans (tσ 3 (by decide) (by decide) (by decide) (by decide) (by decide))) (tσ2 8 (by decide)) (tσ2 9 (by decide))
      · refine Or.inr ⟨?_, rfl, d', v', n, q3, q4, w.1, ?_, ?_, ?_, ?_, ?_, ?_, ?_, ?_⟩
        · rw [setF_n _ _ (by decide)]; exact e8
        · rw [setF_n _ _ (by decide)]; exact q5
        · rw [setF_n _ _ (by decide), setF_n _ _ (by decide), setF_n _ _ (by decide)]; exact q6
        · exact q7
        · rw [setF_n _ _ (by decide), setF_n _ _ (by decide), setF_n _ _ (by decide), setF_n _ _ (by decide)]; exact q8
        · rw [setF_n _ _ (by decide)]; exact q9
        · rw [setF_n _ _ (by decide), setF_n _ _ (by decide), setF_s]
        · rw [setF_s]; exact en
        · rw [setF_n _ _ (by decide), setF_s, setF_n _ _ (by decide)]; exact en'
      · refine hF.same ((setF_n _ _ (by decide)).trans (tσ 0 (by decide) (by decide) (by decide) (by decide) (by decide))) ?_ (fun i i1 i2 => (setF_n _ _ (by omega)).trans (tσ i (by omega) (by omega) (by omega) (by omega) (by omega))) (fun j j1 j2 => tσ2 j (by omega)) ?_ (fun j j1 j2 => tτ2 j (by omega))
        · rw [setF_n _ _ (by decide), setF_n _ _ (by decide), setF_n _ _ (by decide)]; exact tτ 2 (by decide) (by decide)
        · rw [setF_n _ _ (by decide), setF_n _ _ (by decide), setF_n _ _ (by decide)]; exact tτ 3 (by decide) (by decide)
    · have c2' : (100 : Int32) < y := by
        rw [Int32.lt_iff_toInt_lt]; rw [Int32.le_iff_toInt_le] at c2; omega
      rw [if_neg c2, if_pos c2', bd_s, if_pos rfl]
      exact ⟨_, _, _, rfl, rfl, hR⟩
/-- clear -/
theorem op_clear {σ τ : ST} (h : Rel σ τ) : ∃ r σ' τ', fX5_clear σ = some (r, σ') ∧ fX6_clear τ = some (r, τ') ∧ Rel σ' τ' := by
  obtain ⟨n, m, C, w, g, g', hX, hT, hF⟩ := h
  unfold fX5_clear fX6_clear fX4_forget
  simp only [nm_e9, bd_s]
  rw [g.2.1, g'.2.1]
  obtain ⟨g1, g2, a0, a1, a2, a3, a4, a5, a6, a7⟩ := g
  obtain ⟨g1', g2', a0', a1', a2', a3', a4', a5', a6', a7'⟩ := g'
  refine ⟨nI m, _, _, rfl, rfl, 0, 0, C, ⟨by omega, by omega, fun i hi => by omega, fun k hk => by omega⟩, ⟨rfl, rfl, a0, a1, a2, a3, a4, a5, a6, a7⟩, ⟨rfl, rfl, a0', a1', a2', a3', a4', a5', a6', a7'⟩, hX.same rfl rfl rfl, Or.inl ⟨rfl, rfl, rfl⟩, Or.inl ⟨rfl, rfl⟩⟩
-- things that come
def CT (C : Nat → Nat → Int32) (n : Nat) (a b c : Int32) : Nat → Nat → Int32 := fun j => if j = 0 then upd (C 0) n a else if j = 1 then upd (C 1) n b else if j = 2 then upd (C 2) n c else C j
theorem CT_0 {C : Nat → Nat → Int32} {n : Nat} {a b c : Int32} : CT C n a b c 0 = upd (C 0) n a := rfl
theorem CT_1 {C : Nat → Nat → Int32} {n : Nat} {a b c : Int32} : CT C n a b c 1 = upd (C 1) n b := rfl
theorem CT_2 {C : Nat → Nat → Int32} {n : Nat} {a b c : Int32} : CT C n a b c 2 = upd (C 2) n c := rfl
theorem CT_n {C : Nat → Nat → Int32} {n j : Nat} {a b c : Int32} (h : 3 ≤ j) : CT C n a b c j = C j := by
  unfold CT
  rw [if_neg (by omega), if_neg (by omega), if_neg (by omega)]
theorem WFc.thing {n m : Nat} {C : Nat → Nat → Int32} {a b c : Int32} (w : WFc n m C) (hn : n < 5) (ha : a = 0 ∨ a = 1) (hb : b = 0 ∨ b = 1) (hc : c = -1 ∨ ∃ j, j < n ∧ c = nI j) : WFc (n + 1) m (CT C n a b c) := by
  obtain ⟨w1, w2, w3, w4⟩ := w
  refine ⟨by omega, w2, fun i hi => ?_, fun k hk => ?_⟩
  · unfold WT
    rw [CT_0, CT_1, CT_2]
    by_cases e : i = n
    · rw [e, upd_s, upd_s, upd_s]; exact ⟨ha, hb, hc⟩
    · rw [upd_n _ _ e, upd_n _ _ e, upd_n _ _ e]; exact w3 i (by omega)
  · obtain ⟨co, hco, e3, ht, hs, h6, h7, hkp⟩ := w4 k hk
    refine ⟨co, hco, by rw [CT_n (by omega)]; exact e3, fun z => ?_, fun z => ?_, by rw [CT_n (by omega)]; exact h6, by rw [CT_n (by omega)]; exact h7, fun z => ?_⟩
    · obtain ⟨t, t1, t2⟩ := ht z
      exact ⟨t, by omega, by rw [CT_n (by omega)]; exact t2⟩
    · rw [CT_n (by omega)]; exact hs z
    · obtain ⟨t, t1, t2⟩ := ht (by omega)
      have z3 := hkp z
      rw [CT_n (j := 4) (by omega), CT_0]
      rw [t2, nI_clamp (by omega)] at z3 ⊢
      rw [upd_n _ _ (by omega)]; exact z3
theorem nar01 {x : Int32} (h : x = 0 ∨ x = 1) : vp_nar .boolean x = x := by rcases h with e | e <;> rw [e] <;> rfl
/-- thing -/
theorem op_thing {σ τ : ST} (h : Rel σ τ) (x y z : Int32) (hy : y = 0 ∨ y = 1) : ∃ r σ' τ', fX5_thing σ x y z = some (r, σ') ∧ fX6_thing τ x y z = some (r, τ') ∧ Rel σ' τ' := by
  have hR := h
  obtain ⟨n, m, C, w, g, g', hX, hT, hF⟩ := h
  have hn := w.1
  -- the last road: there is room, or not
  have last : ∀ (_ : x = 0 ∨ x = 1) (_ : z = -1 ∨ ∃ j, j < n ∧ z = nI j), ∃ r σ' τ', fX5_thing_L55 x y z σ = some (r, σ') ∧ fX6_thing_L48 x y z τ = some (r, τ') ∧ Rel σ' τ' := by
    intro hx hz
    unfold fX5_thing_L55 fX6_thing_L48
    rw [g.1, g'.1]
    by_cases c : n < 5
    · rw [if_pos (show nI n < 5 from nI_lt (a := n) (b := 5) c (by omega)), if_neg (show ¬ nI n = 5 by rw [show (5 : Int32) = nI 5 from by decide, nI_eq (by omega) (by omega)]; omega)]
      unfold fX3_add
      have e1 : (setF σ 0 0).1 1 = nI n := g.1
      rw [nm_e9, e1]
      simp only [nm_e9, ix_nI c (show 5 < 2 ^ 31 by omega), nI_clamp (show n < 2 ^ 31 by omega), setA_1, e1, g'.1, nI_1, bd_s, nar01 hy]
      have w' := w.thing c hx hy hz
      obtain ⟨g1, g2, a0, a1, a2, a3, a4, a5, a6, a7⟩ := g
      obtain ⟨g1', g2', a0', a1', a2', a3', a4', a5', a6', a7'⟩ := g'
      refine ⟨nI n, _, setF (setF (setA (setA (setA τ 0 n x) 1 n y) 2 n z) 0 (nI (n + 1))) 2 0, rfl, ?_, n + 1, m, CT C n x y z, w', ⟨rfl, g2, ?_, ?_, ?_, a3, a4, a5, a6, a7⟩, ⟨rfl, g2', ?_, ?_, ?_, a3', a4', a5', a6', a7'⟩, hX.same rfl rfl rfl, hT.same rfl rfl rfl rfl rfl rfl rfl rfl rfl rfl rfl rfl, Or.inl ⟨rfl, rfl⟩⟩
      · rw [setF_n _ _ (by decide), setF_s, nI_pred]
      · rw [CT_0, ← a0]; rfl
      · rw [CT_1, ← a1]; rfl
      · rw [CT_2, ← a2]; rfl
      · rw [CT_0, ← a0']; rfl
      · rw [CT_1, ← a1']; rfl
      · rw [CT_2, ← a2']; rfl
    · have e : n = 5 := by omega
      rw [if_neg (show ¬ nI n < 5 from nI_nlt (a := n) (b := 5) (by omega) (by omega)), if_pos (show nI n = 5 by rw [e]; decide)]
      exact ⟨_, _, _, rfl, rfl, hR⟩
  have mid : ∀ (_ : z = -1 ∨ ∃ j, j < n ∧ z = nI j), ∃ r σ' τ', fX5_thing_L19 x y z σ = some (r, σ') ∧ fX6_thing_L16 x y z τ = some (r, τ') ∧ Rel σ' τ' := by
    intro hz
    unfold fX5_thing_L19 fX6_thing_L16
    rw [M_in (n := 2) (by omega) (by decide), bd_s]
    by_cases c : x = 0 ∨ x = 1
    · have hi : inN x 2 = true := by rcases c with e | e <;> rw [e] <;> decide
      have hx : (if x = 0 then (fX5_thing_L31 x y z σ) else (if x = 1 then (fX5_thing_L31 x y z σ) else (some ((-102), σ)))) = fX5_thing_L31 x y z σ := by
        rcases c with e | e
        · rw [if_pos e]
        · by_cases c0 : x = 0
          · rw [if_pos c0]
          · rw [if_neg c0, if_pos e]
      rw [hx, hi, if_neg (show ¬ b01 true = 0 by decide)]
      unfold fX5_thing_L31
      by_cases cz : z = -1
      · rw [if_pos cz, if_pos cz]; exact last c (Or.inl cz)
      · rw [if_neg cz, if_neg cz]
        rcases hz with e | ⟨j, hj, e⟩
        · exact absurd e cz
        · by_cases c1 : x = 1
          · rw [if_pos c1, if_pos c1]; exact ⟨_, _, _, rfl, rfl, hR⟩
          · rw [if_neg c1, if_neg c1, e, X_isFile (by omega), bd_s, ix_nI (by omega) (by omega), nI_clamp (by omega), g.2.2.1, g'.2.2.1]
            rw [← e]
            rcases (w.2.2.1 j hj).1 with e0 | e0
            · rw [e0, if_pos rfl, if_neg (by decide), if_neg (by decide)]; exact last c (Or.inr ⟨j, hj, e⟩)
            · rw [e0, if_pos (show (if (1 : Int32) = 0 then (1 : Int32) else 0) = 0 by decide), if_pos rfl]; exact ⟨_, _, _, rfl, rfl, hR⟩
    · have hi : inN x 2 = false := by
        cases hx : inN x 2 with
        | false => rfl
        | true =>
          obtain ⟨j, hj, e⟩ := inN_of hx (by omega)
          have : j = 0 ∨ j = 1 := by omega
          rcases this with rfl | rfl
          · exact absurd (Or.inl e) c
          · exact absurd (Or.inr e) c
      rw [if_neg (fun q => c (Or.inl q)), if_neg (fun q => c (Or.inr q)), hi, if_pos (show b01 false = 0 from rfl)]
      exact ⟨_, _, _, rfl, rfl, hR⟩
  unfold fX5_thing fX6_thing
  by_cases cz : z = -1
  · rw [if_pos cz, if_pos cz]; exact mid (Or.inl cz)
  · rw [if_neg cz, if_neg cz, X_has g.1, bd_s, M_has g'.1 (by omega), bd_s]
    cases hx : inN z n with
    | false => rw [if_pos (show b01 false = 0 from rfl), if_pos (show b01 false = 0 from rfl)]; exact ⟨_, _, _, rfl, rfl, hR⟩
    | true =>
      rw [if_neg (show ¬ b01 true = 0 by decide), if_neg (show ¬ b01 true = 0 by decide)]
      exact mid (Or.inr (inN_of hx (by omega)))
