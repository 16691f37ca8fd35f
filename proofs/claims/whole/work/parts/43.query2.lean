theorem e_found {σ τ : ST} {n m : Nat} {C : Nat → Nat → Int32} (hF : FoundR σ τ n m C) : σ.1 0 = τ.1 2 := by
  rcases hF with ⟨a, b⟩ | ⟨a, b, -⟩
  · rw [a, b]
  · rw [a, b]
/-- closed -/
theorem op_closed {σ τ : ST} (h : Rel σ τ) (x : Int32) : ∃ r, fX5_closed σ x = some r ∧ fX6_closed τ x = some r := by
  obtain ⟨n, m, C, w, g, g', hX, hT, hF⟩ := h
  have e := e_found hF
  have hn := w.1
  unfold fX5_closed fX6_closed fX5_closed_L50 fX5_closed_L55
  rw [X_has g.1, bd_s, M_has g'.1 (by omega), bd_s, ← e]
  cases hx : inN x n with
  | false => simp only [bf, if_true]; exact ⟨_, rfl, rfl⟩
  | true =>
    simp only [bt9, if_false]
    rcases hF with ⟨z, -⟩ | ⟨z, -, xa, mb, fb⟩
    · simp only [z, if_true]; exact ⟨_, rfl, rfl⟩
    · obtain ⟨t, ht, rfl⟩ := inN_of hx (by omega)
      have hw := bfs_ok w
      have hc := hw.cnt
      have enc : ∀ f y, fnd n m C f = y → (encL (bfs C m).2.2.1 f y = -1 ↔ y = none) ∧ (encF y = -1 ↔ y = none) := by
        intro f y hy
        cases y with
        | none => exact ⟨⟨fun _ => rfl, fun _ => rfl⟩, ⟨fun _ => rfl, fun _ => rfl⟩⟩
        | some i =>
          have hi := fnd_lt w _ _ hy
          have hdl := dep_le hw i i (Nat.le_refl i) hi
          refine ⟨⟨fun q => absurd q (nI_m1 (by split <;> omega)), fun q => by cases q⟩, ⟨fun q => absurd q (nI_m1 (by omega)), fun q => by cases q⟩⟩
      have l0 := X_long xa (kd := 0) (t := t) (by omega) (by omega)
      have l1 := X_long xa (kd := 1) (t := t) (by omega) (by omega)
      rw [z, if_neg (show ¬ (1 : Int32) = 0 by decide), if_neg (show ¬ (1 : Int32) = 0 by decide)]
      rw [show fX1_lengthOf σ 0 (nI t) = fX1_lengthOf σ (nI 0) (nI t) from rfl, l0, bd_s, show fX1_lengthOf σ 1 (nI t) = fX1_lengthOf σ (nI 1) (nI t) from rfl, l1, bd_s, ix_nI (by omega) (by omega), nI_clamp (by omega), show (5 : Int32) + nI t = nI (5 + t) by rw [show (5 : Int32) = nI 5 from by decide, nI_add], ix_nI (by omega) (by omega), nI_clamp (by omega), fb t (by omega), fb (5 + t) (by omega), show 5 * 0 + t = t by omega, show 5 * 1 + t = 5 + t by omega]
      simp only [nm_e9]
      have h0 := enc t _ rfl
      have h1 := enc (5 + t) _ rfl
      by_cases c0 : fnd n m C t = none
      · rw [if_pos (h0.1.mpr c0), if_pos (h0.2.mpr c0)]
        by_cases c1 : fnd n m C (5 + t) = none
        · rw [if_pos (h1.1.mpr c1), if_pos (h1.2.mpr c1)]
          exact ⟨1, rfl, rfl⟩
        · rw [if_neg (fun q => c1 (h1.1.mp q)), if_neg (fun q => c1 (h1.2.mp q))]
          exact ⟨0, rfl, rfl⟩
      · rw [if_neg (fun q => c0 (h0.1.mp q)), if_neg (fun q => c0 (h0.2.mp q))]
        exact ⟨0, rfl, rfl⟩
theorem i_or0 (x : Int32) : x ||| 0 = x := by
  apply Int32.toBitVec_inj.mp
  show x.toBitVec ||| 0#32 = x.toBitVec
  simp
theorem M_states_loop {τ : ST} {m p t : Nat} {b : BS} (hB : MB τ b) (hw : BW m b) (hp : p < 42) (ht : t < 5) : ∀ (r q fuel : Nat), q + r = b.2.2.2 → r < fuel → fX6_states_L39 τ fuel (nI p) (nI t) (orP b.1 q p t) (nI q) = some (orP b.1 b.2.2.2 p t) := by
  have hc := hw.cnt
  intro r
  induction r with
  | zero =>
    intro q fuel h hf
    obtain ⟨fuel, rfl⟩ : ∃ z, fuel = z + 1 := ⟨fuel - 1, by omega⟩
    have e : q = b.2.2.2 := by omega
    rw [fX6_states_L39, hB.1, if_pos (nI_le (by omega) (by omega)), e]
  | succ r ih =>
    intro q fuel h hf
    obtain ⟨fuel, rfl⟩ : ∃ z, fuel = z + 1 := ⟨fuel - 1, by omega⟩
    have hv := (hw.2.1 q (by omega)).1
    rw [fX6_states_L39, hB.1, if_neg (nI_ge (by omega) (by omega)), ix_nI (by omega) (by omega), nI_clamp (by omega), hB.2.1 q (by omega), M_place (by omega), bd_s, ix_nI (by omega) (by omega), M_what (by omega) ht, bd_s]
    unfold fX6_states_L80
    simp only [nm_e9, nI_1, i_or0]
    have hn := ih (q + 1) fuel (by omega) (by omega)
    rw [orP] at hn
    by_cases c : b.1 q / 1024 = p
    · rw [if_pos c] at hn
      rw [if_pos (show nI (b.1 q / 1024) = nI p by rw [c])]
      exact hn
    · rw [if_neg c] at hn
      rw [if_neg (show ¬ nI (b.1 q / 1024) = nI p by rw [nI_eq (by omega) (by omega)]; exact c)]
      exact hn
/-- states -/
theorem op_states {σ τ : ST} (h : Rel σ τ) (x y : Int32) : ∃ r, fX5_states σ x y = some r ∧ fX6_states τ x y = some r := by
  obtain ⟨n, m, C, w, g, g', hX, hT, hF⟩ := h
  have e := e_found hF
  have hn := w.1
  unfold fX5_states fX6_states
  rw [X_has g.1, bd_s, M_has g'.1 (by omega), bd_s, show (42 : Int32) = nI 42 from by decide, X_in, bd_s, M_in (n := 42) (by omega) (by decide), bd_s, ← e]
  cases hy : inN y n with
  | false => simp only [bf, if_true]; exact ⟨_, rfl, rfl⟩
  | true =>
    cases hx : inN x 42 with
    | false => simp only [bt9, bf, if_true, if_false]; exact ⟨_, rfl, rfl⟩
    | true =>
      simp only [bt9, if_false]
      rcases hF with ⟨z, -⟩ | ⟨z, -, xa, mb, fb⟩
      · simp only [z, if_true]; exact ⟨_, rfl, rfl⟩
      · obtain ⟨t, ht, rfl⟩ := inN_of hy (by omega)
        obtain ⟨p, hp, rfl⟩ := inN_of hx (by omega)
        have hw := bfs_ok w
        have hc := hw.cnt
        rw [z, if_neg (show ¬ (1 : Int32) = 0 by decide), if_neg (show ¬ (1 : Int32) = 0 by decide), i_p5, ix_nI (by omega) (by omega), nI_clamp (by omega), xa.2.2.2.1 p t hp ht]
        refine ⟨_, rfl, ?_⟩
        exact M_states_loop mb hw hp (by omega) (bfs C m).2.2.2 0 FUEL (by omega) (by unfold FUEL; omega)
theorem M_nodes_loop {τ : ST} {m p : Nat} {b : BS} (hB : MB τ b) (hw : BW m b) (hp : p < 42) : ∀ (r q fuel : Nat), q + r = b.2.2.2 → r < fuel → fX6_nodes_L27 τ fuel (nI p) (nI (cntP b.1 q p)) (nI q) = some (nI (cntP b.1 b.2.2.2 p)) := by
  have hc := hw.cnt
  intro r
  induction r with
  | zero =>
    intro q fuel h hf
    obtain ⟨fuel, rfl⟩ : ∃ z, fuel = z + 1 := ⟨fuel - 1, by omega⟩
    have e : q = b.2.2.2 := by omega
    rw [fX6_nodes_L27, hB.1, if_pos (nI_le (by omega) (by omega)), e]
  | succ r ih =>
    intro q fuel h hf
    obtain ⟨fuel, rfl⟩ : ∃ z, fuel = z + 1 := ⟨fuel - 1, by omega⟩
    have hv := (hw.2.1 q (by omega)).1
    rw [fX6_nodes_L27, hB.1, if_neg (nI_ge (by omega) (by omega)), if_neg (show ¬ nI p = 42 by rw [show (42 : Int32) = nI 42 from by decide, nI_eq (by omega) (by omega)]; omega), ix_nI (by omega) (by omega), nI_clamp (by omega), hB.2.1 q (by omega), M_place (by omega), bd_s]
    unfold fX6_nodes_L55 fX6_nodes_L60
    simp only [nm_e9, nI_1]
    have hn := ih (q + 1) fuel (by omega) (by omega)
    rw [cntP] at hn
    by_cases c : b.1 q / 1024 = p
    · rw [if_pos c] at hn
      rw [if_pos (show nI (b.1 q / 1024) = nI p by rw [c])]
      exact hn
    · rw [if_neg c] at hn
      rw [if_neg (show ¬ nI (b.1 q / 1024) = nI p by rw [nI_eq (by omega) (by omega)]; exact c), nI_lit0, nI_add]
      exact hn
theorem M_nodes_all {τ : ST} {m : Nat} {b : BS} (hB : MB τ b) (hw : BW m b) : ∀ (r q fuel : Nat), q + r = b.2.2.2 → r < fuel → fX6_nodes_L27 τ fuel 42 (nI q) (nI q) = some (nI b.2.2.2) := by
  have hc := hw.cnt
  intro r
  induction r with
  | zero =>
    intro q fuel h hf
    obtain ⟨fuel, rfl⟩ : ∃ z, fuel = z + 1 := ⟨fuel - 1, by omega⟩
    have e : q = b.2.2.2 := by omega
    rw [fX6_nodes_L27, hB.1, if_pos (nI_le (by omega) (by omega)), e]
  | succ r ih =>
    intro q fuel h hf
    obtain ⟨fuel, rfl⟩ : ∃ z, fuel = z + 1 := ⟨fuel - 1, by omega⟩
    rw [fX6_nodes_L27, hB.1, if_neg (nI_ge (by omega) (by omega)), if_pos rfl]
    unfold fX6_nodes_L55 fX6_nodes_L60
    simp only [nm_e9, nI_1]
    exact ih (q + 1) fuel (by omega) (by omega)
/-- nodes -/
theorem op_nodes {σ τ : ST} (h : Rel σ τ) (x : Int32) : ∃ r, fX5_nodes σ x = some r ∧ fX6_nodes τ x = some r := by
  obtain ⟨n, m, C, w, g, g', hX, hT, hF⟩ := h
  have e := e_found hF
  unfold fX5_nodes fX6_nodes
  rw [show (43 : Int32) = nI 43 from by decide, X_in, bd_s, M_in (n := 43) (by omega) (by decide), bd_s, ← e]
  cases hx : inN x 43 with
  | false => simp only [bf, if_true]; exact ⟨_, rfl, rfl⟩
  | true =>
    simp only [bt9, if_false]
    rcases hF with ⟨z, -⟩ | ⟨z, -, xa, mb, fb⟩
    · simp only [z, if_true]; exact ⟨_, rfl, rfl⟩
    · obtain ⟨p, hp, rfl⟩ := inN_of hx (by omega)
      have hw := bfs_ok w
      have hc := hw.cnt
      rw [z, if_neg (show ¬ (1 : Int32) = 0 by decide), if_neg (show ¬ (1 : Int32) = 0 by decide)]
      by_cases c : p = 42
      · subst c
        rw [if_pos (by decide), xa.1.1]
        refine ⟨_, rfl, ?_⟩
        exact M_nodes_all mb hw (bfs C m).2.2.2 0 FUEL (by omega) (by unfold FUEL; omega)
      · rw [if_neg (show ¬ nI p = 42 by rw [show (42 : Int32) = nI 42 from by decide, nI_eq (by omega) (by omega)]; exact c), ix_nI (by omega) (by omega), nI_clamp (by omega), xa.2.2.1 p (by omega)]
        refine ⟨_, rfl, ?_⟩
        exact M_nodes_loop mb hw (by omega) (bfs C m).2.2.2 0 FUEL (by omega) (by unfold FUEL; omega)
set_option maxHeartbeats 4000000 in
theorem M_once_in {τ : ST} {n m wh q mo : Nat} {C : Nat → Nat → Int32} {b : BS} {k26 : Int32 → Int32 → Int32 → Option Int32} (w : WFc n m C) (g : AgM τ n m C) (hB : MB τ b) (hw : BW m b) (hwh : wh < 3) (hq : q < b.2.2.2) (hmo : mo ≤ 3 * n) : ∀ (r t fuel : Nat), t + r = n → r < fuel → fX6_atOnce_L40 τ k26 fuel (nI wh) (nI mo) (nI q) (nI (valN C wh (b.1 q) t)) (nI t) = k26 (nI wh) (nI (max mo (valN C wh (b.1 q) n))) (nI (q + 1)) := by
  have hc := hw.cnt
  have hv := (hw.2.1 q hq).1
  obtain ⟨hn, hm, wt, ws⟩ := w
  obtain ⟨g1, g2, a0, a1, a2, a3, a4, a5, a6, a7⟩ := g
  intro r
  induction r with
  | zero =>
    intro t fuel h hf
    obtain ⟨fuel, rfl⟩ : ∃ z, fuel = z + 1 := ⟨fuel - 1, by omega⟩
    have e : t = n := by omega
    subst e
    have vl := val_le (C := C) (w := wh) (v := b.1 q) t
    rw [fX6_atOnce_L40, g1, if_pos (nI_le (by omega) (by omega))]
    unfold fX6_atOnce_L158
    simp only [nm_e9, nI_1]
    by_cases c : valN C wh (b.1 q) t ≤ mo
    · rw [if_pos (nI_le c (by omega)), Nat.max_eq_left c]
    · rw [if_neg (nI_ge (by omega) (by omega)), Nat.max_eq_right (by omega)]
  | succ r ih =>
    intro t fuel h hf
    obtain ⟨fuel, rfl⟩ : ∃ z, fuel = z + 1 := ⟨fuel - 1, by omega⟩
    have ht5 : t < 5 := by omega
    have h0 : τ.2 0 t = 0 ∨ τ.2 0 t = 1 := by rw [a0]; exact (wt t (by omega)).1
    have hn' := ih (t + 1) fuel (by omega) (by omega)
    rw [← hn', fX6_atOnce_L40, g1, if_neg (nI_ge (by omega) (by omega)), ix_nI (by omega) (by omega), nI_clamp (by omega), hB.2.1 q hq, M_what (by omega) ht5, bd_s]
    unfold fX6_atOnce_L88 fX6_atOnce_L137
    simp only [nm_e9, nI_1, ix_nI ht5 (show 5 < 2 ^ 31 by omega), ix_nI (show q < 43008 by omega) (show 43008 < 2 ^ 31 by omega), nI_clamp (show t < 2 ^ 31 by omega), M_held (show b.1 q < 2 ^ 31 by omega) ht5 h0, bd_s, a0]
    rw [valN]
    generalize valN C wh (b.1 q) t = A0
    unfold oneN
    have hs4 := st_lt (b.1 q) t
    generalize stN (b.1 q) t = s at hs4 ⊢
    have hw3 : wh = 0 ∨ wh = 1 ∨ wh = 2 := by omega
    rcases hw3 with rfl | rfl | rfl
    · rcases (wt t (by omega)).1 with e | e <;> rw [e] <;> rcases s_cases hs4 with rfl | rfl | rfl | rfl <;> simp [qN00, qN01, qN10, qN11, qN20, qN21, qN30, qN31, q01, q10, sHeld, b01, nI_0, nI_1, nI_add]
    · rcases (wt t (by omega)).1 with e | e <;> rw [e] <;> rcases s_cases hs4 with rfl | rfl | rfl | rfl <;> simp [qN00, qN01, qN10, qN11, qN20, qN21, qN30, qN31, q01, q10, sHeld, b01, nI_0, nI_1, nI_add]
    · rcases (wt t (by omega)).1 with e | e <;> rw [e] <;> rcases s_cases hs4 with rfl | rfl | rfl | rfl <;> simp [qN00, qN01, qN10, qN11, qN20, qN21, qN30, qN31, q01, q10, sHeld, b01, nI_0, nI_1, nI_add]
theorem M_once {τ : ST} {n m wh : Nat} {C : Nat → Nat → Int32} {b : BS} (w : WFc n m C) (g : AgM τ n m C) (hB : MB τ b) (hw : BW m b) (hwh : wh < 3) : ∀ (r q fuel : Nat), q + r = b.2.2.2 → r < fuel → fX6_atOnce_L26 τ fuel (nI wh) (nI (mxP C n b.1 wh q)) (nI q) = some (nI (mxP C n b.1 wh b.2.2.2)) := by
  have hc := hw.cnt
  intro r
  induction r with
  | zero =>
    intro q fuel h hf
    obtain ⟨fuel, rfl⟩ : ∃ z, fuel = z + 1 := ⟨fuel - 1, by omega⟩
    have e : q = b.2.2.2 := by omega
    rw [fX6_atOnce_L26, hB.1, if_pos (nI_le (by omega) (by omega)), e]
  | succ r ih =>
    intro q fuel h hf
    obtain ⟨fuel, rfl⟩ : ∃ z, fuel = z + 1 := ⟨fuel - 1, by omega⟩
    rw [fX6_atOnce_L26, hB.1, if_neg (nI_ge (by omega) (by omega))]
    have hin := M_once_in (q := q) (k26 := fX6_atOnce_L26 τ fuel) w g hB hw hwh (by omega) (mxP_le (C := C) (n := n) (w := wh) (ord := b.1) q) n 0 FUEL (by omega) (by have := w.1; unfold FUEL; omega)
    rw [show fX6_atOnce_L40 τ (fX6_atOnce_L26 τ fuel) FUEL (nI wh) (nI (mxP C n b.1 wh q)) (nI q) 0 0 = fX6_atOnce_L40 τ (fX6_atOnce_L26 τ fuel) FUEL (nI wh) (nI (mxP C n b.1 wh q)) (nI q) (nI (valN C wh (b.1 q) 0)) (nI 0) from rfl, hin]
    exact ih (q + 1) fuel (by omega) (by omega)
/-- atOnce -/
theorem op_once {σ τ : ST} (h : Rel σ τ) (x : Int32) : ∃ r, fX5_atOnce σ x = some r ∧ fX6_atOnce τ x = some r := by
  obtain ⟨n, m, C, w, g, g', hX, hT, hF⟩ := h
  have e := e_found hF
  unfold fX5_atOnce fX6_atOnce
  rw [show (3 : Int32) = nI 3 from by decide, X_in, bd_s, M_in (n := 3) (by omega) (by decide), bd_s, ← e]
  cases hx : inN x 3 with
  | false => simp only [bf, if_true]; exact ⟨_, rfl, rfl⟩
  | true =>
    simp only [bt9, if_false]
    rcases hF with ⟨z, -⟩ | ⟨z, -, xa, mb, fb⟩
    · simp only [z, if_true]; exact ⟨_, rfl, rfl⟩
    · obtain ⟨p, hp, rfl⟩ := inN_of hx (by omega)
      have hw := bfs_ok w
      have hc := hw.cnt
      have hl := M_once (wh := p) w g' mb hw hp (bfs C m).2.2.2 0 FUEL (by omega) (by unfold FUEL; omega)
      rw [z, if_neg (show ¬ (1 : Int32) = 0 by decide), if_neg (show ¬ (1 : Int32) = 0 by decide)]
      refine ⟨nI (mxP C n (bfs C m).1 p (bfs C m).2.2.2), ?_, hl⟩
      have hp3 : p = 0 ∨ p = 1 ∨ p = 2 := by omega
      rcases hp3 with rfl | rfl | rfl
      · rw [if_pos (by decide), xa.2.2.2.2.1]
      · rw [if_neg (by decide), if_pos (by decide), xa.2.2.2.2.2.1]
      · rw [if_neg (by decide), if_neg (by decide), xa.2.2.2.2.2.2]
