/-! ===== what is asked of a search ===== -/
theorem XW_of {σ : ST} {m : Nat} {b : BS} (h : XQ σ b) (hw : BW m b) : XW σ := by
  refine ⟨b.2.2.2, hw.cnt, h.1, fun i hi => ⟨b.1 i, (hw.2.1 i hi).1, h.2.1 i hi⟩, fun v hv hne => ?_⟩
  cases hb : bIn b v with
  | true =>
    obtain ⟨i, hi, e⟩ := bIn_iff.mp hb
    exact ⟨i, hi, by rw [h.2.1 i hi, e]⟩
  | false => exact absurd (h.2.2.2 v hv hb) hne
theorem XW.same {σ σ' : ST} (h : XW σ) (e : σ'.1 3 = σ.1 3) (e8 : σ'.2 8 = σ.2 8) (e9 : σ'.2 9 = σ.2 9) : XW σ' := by
  unfold XW; rw [e, e8, e9]; exact h
theorem TrialR.same {σ σ' τ τ' : ST} (h : TrialR σ τ) (e8 : σ'.1 8 = σ.1 8) (e9 : σ'.1 9 = σ.1 9) (e10 : σ'.1 10 = σ.1 10) (e11 : σ'.1 11 = σ.1 11) (e12 : σ'.1 12 = σ.1 12) (e14 : σ'.2 14 = σ.2 14) (f4 : τ'.1 4 = τ.1 4) (f5 : τ'.1 5 = τ.1 5) (f6 : τ'.1 6 = τ.1 6) (f7 : τ'.1 7 = τ.1 7) (f8 : τ'.1 8 = τ.1 8) (f12 : τ'.2 12 = τ.2 12) : TrialR σ' τ' := by
  unfold TrialR; rw [e8, e9, e10, e11, e12, e14, f4, f5, f6, f7, f8, f12]; exact h
theorem XAll.same {σ σ' : ST} {n m : Nat} {C : Nat → Nat → Int32} (h : XAll σ n m C) (e : ∀ i, 3 ≤ i → i ≤ 7 → σ'.1 i = σ.1 i) (f : ∀ j, 8 ≤ j → j ≤ 13 → σ'.2 j = σ.2 j) : XAll σ' n m C :=
  ⟨h.1.same (e 3 (by omega) (by omega)) (f 8 (by omega) (by omega)) (f 9 (by omega) (by omega)), h.2.1.same (e 4 (by omega) (by omega)) (f 12 (by omega) (by omega)) (f 13 (by omega) (by omega)), h.2.2.same (fun i hi => e i (by omega) (by omega)) (f 10 (by omega) (by omega)) (f 11 (by omega) (by omega))⟩
theorem MB.same {τ τ' : ST} {b : BS} (h : MB τ b) (e : τ'.1 3 = τ.1 3) (f : ∀ j, 8 ≤ j → j ≤ 10 → τ'.2 j = τ.2 j) : MB τ' b := by
  unfold MB; rw [e, f 8 (by omega) (by omega), f 9 (by omega) (by omega), f 10 (by omega) (by omega)]; exact h
theorem FB.same {τ τ' : ST} {F : Nat → Option Nat} (h : FB τ F) (e : τ'.2 11 = τ.2 11) : FB τ' F := by
  unfold FB; rw [e]; exact h
/-- check -/
theorem op_check {σ τ : ST} (h : Rel σ τ) : ∃ r σ' τ', fX5_check σ = some (r, σ') ∧ fX6_check τ = some (r, τ') ∧ Rel σ' τ' := by
  obtain ⟨n, m, C, w, g, g', hX, hT, hF⟩ := h
  obtain ⟨τ1, e1, m1, f1, s1⟩ := M_check g' w
  have gM : AgM (setF τ1 2 1) n m C := by
    have h := s1.ag g'
    obtain ⟨g1, g2, a0, a1, a2, a3, a4, a5, a6, a7⟩ := h
    exact ⟨g1, g2, a0, a1, a2, a3, a4, a5, a6, a7⟩
  have tM : ∀ {σ' : ST}, TrialR σ' τ → TrialR σ' (setF τ1 2 1) := fun hh => hh.same rfl rfl rfl rfl rfl rfl (s1.1 4 (by decide)) (s1.1 5 (by decide)) (s1.1 6 (by decide)) (s1.1 7 (by decide)) (s1.1 8 (by decide)) (s1.2 12 (by decide) (by decide) (by decide) (by decide))
  rcases hF with ⟨z1, z2⟩ | ⟨z1, z2, xa, -, -⟩
  · obtain ⟨σ1, e2, xa, s2⟩ := X_explore g w hX
    refine ⟨nI (numF (fnd n m C) 25), setF σ1 0 1, setF τ1 2 1, ?_, e1, n, m, C, w, ?_, gM, ?_, tM ?_, Or.inr ⟨rfl, rfl, ?_, m1, f1⟩⟩
    · unfold fX5_check fX5_check_L19
      rw [z1, if_pos rfl, e2, bd_s, nm_e9, setF_n _ _ (by decide), xa.2.1.2.2]
    · obtain ⟨g1, g2, a0, a1, a2, a3, a4, a5, a6, a7⟩ := s2.ag g
      exact ⟨g1, g2, a0, a1, a2, a3, a4, a5, a6, a7⟩
    · exact (XW_of xa.1 (bfs_ok w)).same rfl rfl rfl
    · exact hT.same (s2.1 8 (by decide) (by decide) (by decide) (by decide) (by decide)) (s2.1 9 (by decide) (by decide) (by decide) (by decide) (by decide)) (s2.1 10 (by decide) (by decide) (by decide) (by decide) (by decide)) (s2.1 11 (by decide) (by decide) (by decide) (by decide) (by decide)) (s2.1 12 (by decide) (by decide) (by decide) (by decide) (by decide)) (s2.2 14 (by decide) (by decide) (by decide) (by decide) (by decide) (by decide)) rfl rfl rfl rfl rfl rfl
    · exact xa.same (fun i i1 i2 => setF_n _ _ (by omega)) (fun j _ _ => rfl)
  · refine ⟨nI (numF (fnd n m C) 25), σ, setF τ1 2 1, ?_, e1, n, m, C, w, g, gM, hX, tM hT, Or.inr ⟨z1, rfl, xa, m1, f1⟩⟩
    unfold fX5_check fX5_check_L19
    rw [z1, if_neg (by decide), xa.2.1.2.2]
def askN (n : Nat) (s0 x1 x2 : Int32) : Int32 := if inN x2 n = false then -101 else if inN x1 5 = false then -102 else if s0 = 0 then -103 else 0
theorem X_ask {σ : ST} {n : Nat} (h : σ.1 1 = nI n) {x1 x2 : Int32} : fX5_refusalOfFinding σ x1 x2 = some (askN n (σ.1 0) x1 x2) := by
  unfold fX5_refusalOfFinding askN
  rw [X_has h, bd_s, show (5 : Int32) = nI 5 from by decide, X_in, bd_s]
  cases inN x2 n <;> cases inN x1 5 <;> by_cases c : σ.1 0 = 0 <;> simp [c, b01]
theorem M_ask {τ : ST} {n : Nat} (h : τ.1 0 = nI n) (hn : n ≤ 5) {x1 x2 : Int32} : fX6_asks τ x1 x2 = some (askN n (τ.1 2) x1 x2) := by
  unfold fX6_asks askN
  rw [M_has h (by omega), bd_s, M_in (n := 5) (by omega) (by decide), bd_s]
  cases inN x2 n <;> cases inN x1 5 <;> by_cases c : τ.1 2 = 0 <;> simp [c, b01]
theorem ask_cases (n : Nat) (s0 x1 x2 : Int32) : (askN n s0 x1 x2 = 0 ∧ inN x2 n = true ∧ inN x1 5 = true ∧ ¬ s0 = 0) ∨ (¬ askN n s0 x1 x2 = 0 ∧ ¬ (0 : Int32) ≤ askN n s0 x1 x2) := by
  unfold askN
  cases inN x2 n with
  | false => refine Or.inr ?_; rw [if_pos rfl]; decide
  | true =>
    cases inN x1 5 with
    | false => refine Or.inr ?_; rw [if_neg (by decide), if_pos rfl]; decide
    | true =>
      by_cases c : s0 = 0
      · rw [if_neg (by decide), if_neg (by decide), if_pos c]; exact Or.inr (by decide)
      · rw [if_neg (by decide), if_neg (by decide), if_neg c]; exact Or.inl ⟨rfl, rfl, rfl, c⟩
theorem M_depth {τ : ST} {m : Nat} {b : BS} (hB : MB τ b) (hw : BW m b) : ∀ (k i : Nat), i ≤ k → i < b.2.2.2 → ∀ (fuel d : Nat), i < fuel → fX6_depth_L4 τ fuel (nI d) (nI i) = some (nI (d + b.2.2.1 i)) := by
  have hc := hw.cnt
  intro k
  induction k with
  | zero =>
    intro i hi hic fuel d hf
    obtain ⟨fuel, rfl⟩ : ∃ z, fuel = z + 1 := ⟨fuel - 1, by omega⟩
    have e : i = 0 := by omega
    subst e
    rw [fX6_depth_L4, ix_nI (by omega) (by omega), nI_clamp (by omega), hB.2.2.1, if_pos (by decide), hw.2.2.2.2.1]
    rfl
  | succ k ih =>
    intro i hi hic fuel d hf
    obtain ⟨fuel, rfl⟩ : ∃ z, fuel = z + 1 := ⟨fuel - 1, by omega⟩
    by_cases c : i = 0
    · subst c
      rw [fX6_depth_L4, ix_nI (by omega) (by omega), nI_clamp (by omega), hB.2.2.1, if_pos (by decide), hw.2.2.2.2.1]
      rfl
    · have hp := hw.2.2.2.2.2 i (by omega) hic
      rw [fX6_depth_L4, ix_nI (by omega) (by omega), nI_clamp (by omega), hB.2.2.2.1 i (by omega) hic, if_neg (nI_pos (by omega)), nm_e9, ix_nI (by omega) (by omega), nm_e9, nI_1, ih (b.2.1 i) (by omega) (by omega) fuel (d + 1) (by omega), hp.2]
      congr 2
      omega
theorem fIx_shw {n : Nat} {C : Nat → Nat → Int32} {o : Nat → Nat} : ∀ (q f i : Nat), fIx n C o q f = some i → shw n C (o i) f = true := by
  intro q
  induction q with
  | zero => intro f i h; cases h
  | succ q ih =>
    intro f i h
    rw [fIx] at h
    cases hx : fIx n C o q f with
    | some j =>
      rw [hx] at h
      have e : j = i := Option.some.inj h
      rw [← e]; exact ih f j hx
    | none =>
      rw [hx] at h
      cases hc : shw n C (o q) f with
      | true =>
        rw [hc] at h
        have e : q = i := Option.some.inj h
        rw [← e]; exact hc
      | false => rw [hc] at h; cases h
theorem M_long {τ : ST} {n m kd t : Nat} {C : Nat → Nat → Int32} (w : WFc n m C) (hB : MB τ (bfs C m)) (hF : FB τ (fnd n m C)) (hk : kd < 5) (ht : t < 5) : fX6_longOf τ (nI kd) (nI t) = some (encL (bfs C m).2.2.1 (5 * kd + t) (fnd n m C (5 * kd + t))) := by
  have hw := bfs_ok w
  unfold fX6_longOf
  rw [i_5, ix_nI (by omega) (by omega), nm_e9, nI_clamp (by omega), hF _ (by omega)]
  cases hx : fnd n m C (5 * kd + t) with
  | none => rw [show encF none = -1 from rfl, if_pos rfl]; rfl
  | some i =>
    have hi := fnd_lt w _ _ hx
    have hc := hw.cnt
    rw [show encF (some i) = nI i from rfl, if_neg (nI_m1 (by omega))]
    unfold fX6_depth
    rw [show (0 : Int32) = nI 0 from by decide, M_depth hB hw i i (Nat.le_refl i) hi FUEL 0 (by unfold FUEL; omega), bd_s, Nat.zero_add, nI_add, nI_1]
    show _ = some (nI _)
    by_cases c : kd < 2
    · rw [if_pos (show nI kd ≤ 1 from nI_le (a := kd) (b := 1) (by omega) (by omega)), if_pos (by omega)]
    · rw [if_neg (show ¬ nI kd ≤ 1 from nI_ge (a := 1) (b := kd) (by omega) (by omega)), if_neg (by omega)]
theorem X_long {σ : ST} {n m kd t : Nat} {C : Nat → Nat → Int32} (hA : XAll σ n m C) (hk : kd < 5) (ht : t < 5) : fX1_lengthOf σ (nI kd) (nI t) = some (encL (bfs C m).2.2.1 (5 * kd + t) (fnd n m C (5 * kd + t))) := by
  unfold fX1_lengthOf
  rw [i_p5, show kd * 5 + t = 5 * kd + t by omega, ix_nI (by omega) (by omega), nI_clamp (by omega), hA.2.1.1 _ (by omega)]
/-- found -/
theorem op_found {σ τ : ST} (h : Rel σ τ) (x y : Int32) : ∃ r, fX5_found σ x y = some r ∧ fX6_found τ x y = some r := by
  obtain ⟨n, m, C, w, g, g', hX, hT, hF⟩ := h
  have e : σ.1 0 = τ.1 2 := by
    rcases hF with ⟨a, b⟩ | ⟨a, b, -⟩
    · rw [a, b]
    · rw [a, b]
  have hn := w.1
  unfold fX5_found fX6_found
  rw [X_ask g.1, bd_s, M_ask g'.1 hn, bd_s, ← e]
  rcases ask_cases n (σ.1 0) x y with ⟨a, b1, b2, b3⟩ | ⟨a, b⟩
  · rw [a, if_pos rfl, if_pos (by decide)]
    rcases hF with ⟨z, -⟩ | ⟨-, -, xa, mb, fb⟩
    · exact absurd z b3
    · obtain ⟨t, ht, rfl⟩ := inN_of b1 (by omega)
      obtain ⟨kd, hk, rfl⟩ := inN_of b2 (by omega)
      rw [X_long xa hk (by omega), M_long w mb fb hk (by omega)]
      exact ⟨_, rfl, rfl⟩
  · rw [if_neg a, if_neg b]; exact ⟨_, rfl, rfl⟩
theorem X_isEnd {σ : ST} {v : Nat} (hv : v < 43008) : fX0_isEnd σ (nI v) = some (b01 (decide (40 ≤ v / 1024))) := by
  unfold fX0_isEnd
  rw [X_place (by omega), bd_s]
  by_cases c : 40 ≤ v / 1024
  · rw [if_neg (show ¬ nI (v / 1024) < 40 from nI_nlt (a := v / 1024) (b := 40) c (by omega)), decide_eq_true c]; rfl
  · rw [if_pos (show nI (v / 1024) < 40 from nI_lt (a := v / 1024) (b := 40) (by omega) (by omega)), decide_eq_false c]; rfl
theorem way_loop {σ τ : ST} {m j : Nat} {b : BS} (hQ : XQ σ b) (hB : MB τ b) (hw : BW m b) (hj : j < 100000) : ∀ (k i fu fu' : Nat), b.2.2.1 i = k → i < b.2.2.2 → k < fu → k < fu' → ∃ r, fX1_stepOnWay_L58 σ fu (nI j) (nI (b.1 i)) (nI k) = some r ∧ fX6_way_L66 τ fu' (nI j) (nI i) (nI k) = some r := by
  have hc := hw.cnt
  intro k
  induction k with
  | zero =>
    intro i fu fu' hd hi hf hf'
    obtain ⟨fu, rfl⟩ : ∃ z, fu = z + 1 := ⟨fu - 1, by omega⟩
    obtain ⟨fu', rfl⟩ : ∃ z, fu' = z + 1 := ⟨fu' - 1, by omega⟩
    have hv := (hw.2.1 i hi).1
    rw [fX1_stepOnWay_L58, fX6_way_L66, if_pos (nI_le (by omega) (by omega)), if_pos (nI_le (by omega) (by omega)), X_place (by omega), bd_s, ix_nI (by omega) (by omega), nI_clamp (by omega), hB.2.1 i hi, M_place (by omega), bd_s]
    exact ⟨_, rfl, rfl⟩
  | succ k ih =>
    intro i fu fu' hd hi hf hf'
    obtain ⟨fu, rfl⟩ : ∃ z, fu = z + 1 := ⟨fu - 1, by omega⟩
    obtain ⟨fu', rfl⟩ : ∃ z, fu' = z + 1 := ⟨fu' - 1, by omega⟩
    have hv := (hw.2.1 i hi).1
    have hdl := dep_le hw i i (Nat.le_refl i) hi
    rw [fX1_stepOnWay_L58, fX6_way_L66]
    by_cases c : k + 1 ≤ j
    · rw [if_pos (nI_le c (by omega)), if_pos (nI_le c (by omega)), X_place (by omega), bd_s, ix_nI (by omega) (by omega), nI_clamp (by omega), hB.2.1 i hi, M_place (by omega), bd_s]
      exact ⟨_, rfl, rfl⟩
    · have hi0 : 0 < i := by
        apply Nat.pos_of_ne_zero
        intro z
        rw [z, hw.2.2.2.2.1] at hd
        omega
      have hp := hw.2.2.2.2.2 i hi0 hi
      rw [if_neg (nI_ge (by omega) (by omega)), if_neg (nI_ge (by omega) (by omega)), ix_nI hv (by omega), nm_e9, nm_e9, nI_clamp (by omega), hQ.2.2.1 i hi, nI_pred, pk_m1, ix_nI (by omega) (by omega), nm_e9, nm_e9, nI_clamp (by omega), hB.2.2.2.1 i hi0 hi]
      exact ih (b.2.1 i) fu fu' (by omega) (by omega) (by omega) (by omega)
/-- way -/
theorem op_way {σ τ : ST} (h : Rel σ τ) (x y z : Int32) : ∃ r, fX5_way σ x y z = some r ∧ fX6_way τ x y z = some r := by
  obtain ⟨n, m, C, w, g, g', hX, hT, hF⟩ := h
  have e : σ.1 0 = τ.1 2 := by
    rcases hF with ⟨a, b⟩ | ⟨a, b, -⟩
    · rw [a, b]
    · rw [a, b]
  have hn := w.1
  unfold fX5_way fX6_way
  rw [X_ask g.1, bd_s, M_ask g'.1 hn, bd_s, ← e]
  rcases ask_cases n (σ.1 0) x y with ⟨a, b1, b2, b3⟩ | ⟨a, b⟩
  · rw [a, if_pos rfl, if_pos (by decide)]
    rcases hF with ⟨z, -⟩ | ⟨-, -, xa, mb, fb⟩
    · exact absurd z b3
    · obtain ⟨t, ht, rfl⟩ := inN_of b1 (by omega)
      obtain ⟨kd, hk, rfl⟩ := inN_of b2 (by omega)
      have hw := bfs_ok w
      have hc := hw.cnt
      have hf25 : 5 * kd + t < 25 := by omega
      unfold fX1_stepOnWay fX1_stepOnWay_L52 fX6_way_L64
      rw [X_long xa hk (by omega), M_long w mb fb hk (by omega), bd_s, bd_s]
      cases hx : fnd n m C (5 * kd + t) with
      | none =>
        rw [show encL (bfs C m).2.2.1 (5 * kd + t) none = -1 from rfl]
        have i1 : fX5_isWithin z (-1) = some 0 := by
          unfold fX5_isWithin
          by_cases c : z < 0
          · rw [if_pos c]
          · rw [if_neg c, if_pos]
            rw [Int32.lt_iff_toInt_lt, show (0 : Int32).toInt = 0 from by decide] at c
            rw [Int32.le_iff_toInt_le, show (-1 : Int32).toInt = -1 from by decide]
            omega
        have i2 : fX6_in z 0 (-1 - 1) = some 0 := by
          unfold fX6_in
          by_cases c : z < 0
          · rw [if_pos c]
          · rw [if_neg c, if_pos]
            rw [Int32.lt_iff_toInt_lt, show (0 : Int32).toInt = 0 from by decide] at c
            rw [Int32.lt_iff_toInt_lt, show ((-1 : Int32) - 1).toInt = -2 from by decide]
            omega
        rw [i1, i2, bd_s, bd_s, if_pos rfl, if_pos rfl]
        exact ⟨_, rfl, rfl⟩
      | some i =>
        have hi := fnd_lt w _ _ hx
        have hv := (hw.2.1 i hi).1
        have hdl := dep_le hw i i (Nat.le_refl i) hi
        have hsh := fIx_shw _ _ _ hx
        rw [show encL (bfs C m).2.2.1 (5 * kd + t) (some i) = nI ((bfs C m).2.2.1 i + (if 5 * kd + t < 10 then 0 else 1)) from rfl]
        have hlen : (bfs C m).2.2.1 i + (if 5 * kd + t < 10 then 0 else 1) < 100000 := by split <;> omega
        rw [X_in, bd_s, M_in (by omega) rfl, bd_s]
        cases hz : inN z ((bfs C m).2.2.1 i + (if 5 * kd + t < 10 then 0 else 1)) with
        | false => simp only [bf, if_true]; exact ⟨_, rfl, rfl⟩
        | true =>
          obtain ⟨j, hj, rfl⟩ := inN_of hz (by omega)
          simp only [bt9, if_false]
          rw [i_p5, i_5, show kd * 5 + t = 5 * kd + t by omega, ix_nI hf25 (by omega), ix_nI hf25 (by omega), nm_e9, nm_e9, nI_clamp (by omega), xa.2.1.2.1 _ i hf25 hx, fb _ hf25, hx, show encF (some i) = nI i from rfl, X_isEnd hv, bd_s]
          simp only [nm_e9]
          obtain ⟨r, r1, r2⟩ := way_loop (j := j) xa.1 mb hw (by omega) ((bfs C m).2.2.1 i) i FUEL FUEL rfl hi (by unfold FUEL; omega) (by unfold FUEL; omega)
          by_cases c : 40 ≤ (bfs C m).1 i / 1024
          · have hk2 : kd < 2 := by
              unfold shw at hsh
              rw [if_pos c, Bool.and_eq_true] at hsh
              have := of_decide_eq_true hsh.1
              omega
            rw [decide_eq_true c, if_neg (show ¬ b01 true = 0 by decide), if_pos (show nI kd ≤ 1 from nI_le (a := kd) (b := 1) (by omega) (by omega)), if_pos (show 5 * kd + t < 10 by omega), Nat.add_zero, r1, r2]
            exact ⟨r, rfl, rfl⟩
          · have hk2 : 2 ≤ kd := by
              unfold shw at hsh
              rw [if_neg c] at hsh
              have h1 := of_decide_eq_true hsh
              have h2 := sFault_in C ((bfs C m).1 i)
              omega
            rw [decide_eq_false c, if_pos (show b01 false = 0 from rfl), if_neg (show ¬ nI kd ≤ 1 from nI_ge (a := 1) (b := kd) (by omega) (by omega)), if_neg (show ¬ 5 * kd + t < 10 by omega), nI_pred, r1, r2]
            exact ⟨r, rfl, rfl⟩
  · rw [if_neg a, if_neg b]; exact ⟨_, rfl, rfl⟩
