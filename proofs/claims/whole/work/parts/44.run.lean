/-! ===== runs by drawn choices ===== -/
-- (bt, b_ext, b_and, s_l, s_u, b_ushr, b_sshr: rows of kit/laws/BITS.to-paste)
def bt (x : Int32) (i : Nat) : Bool := x.toBitVec.getLsbD i
theorem b_ext {x y : Int32} (h : ∀ i, i < 32 → bt x i = bt y i) : x = y := Int32.toBitVec_inj.mp (BitVec.eq_of_getLsbD_eq (fun i hi => h i hi))
theorem b_and (x y : Int32) (i : Nat) : bt (x &&& y) i = (bt x i && bt y i) := by unfold bt; rw [Int32.toBitVec_and, BitVec.getLsbD_and]
theorem s_l : ∀ n, n < 32 → ((nI n &&& 31).toBitVec.smod 32).toNat = n := by decide +kernel
theorem s_u : ∀ n, n < 32 → (((nI n).toUInt32 &&& Int32.toUInt32 31).toBitVec % 32).toNat = n := by decide +kernel
theorem b_ushr (n : Nat) (hn : n < 32) (x : Int32) (i : Nat) : bt ((x.toUInt32 >>> ((nI n).toUInt32 &&& Int32.toUInt32 31)).toInt32) i = bt x (n + i) := by
  show (x.toUInt32 >>> ((nI n).toUInt32 &&& Int32.toUInt32 31)).toBitVec.getLsbD i = x.toUInt32.toBitVec.getLsbD (n + i)
  rw [UInt32.toBitVec_shiftRight]
  show (x.toUInt32.toBitVec >>> (((nI n).toUInt32 &&& Int32.toUInt32 31).toBitVec % 32).toNat).getLsbD i = _
  rw [s_u n hn, BitVec.getLsbD_ushiftRight]
theorem b_sshr (n : Nat) (hn : n < 32) (x : Int32) {i : Nat} (hi : i < 32) : bt (x >>> (nI n &&& 31)) i = if n + i < 32 then bt x (n + i) else bt x 31 := by
  unfold bt
  rw [Int32.toBitVec_shiftRight]
  show (x.toBitVec.sshiftRight ((nI n &&& 31).toBitVec.smod 32).toNat).getLsbD i = _
  rw [s_l n hn, BitVec.getLsbD_sshiftRight, BitVec.msb_eq_getLsbD_last]
  simp [hi]
theorem bt_1 : ∀ i, i < 32 → bt 1 i = decide (i = 0) := by decide +kernel
theorem draw_same (x : Int32) : (ushr32 x 16) &&& 1 = (x >>> ((16 : Int32) &&& 31)) &&& 1 := by
  apply b_ext
  intro i hi
  rw [b_and, b_and, bt_1 i hi]
  by_cases c : i = 0
  · subst c
    have h1 : bt (ushr32 x 16) 0 = bt x 16 := b_ushr 16 (by omega) x 0
    have h2 : bt (x >>> ((16 : Int32) &&& 31)) 0 = bt x 16 := b_sshr 16 (by omega) x (i := 0) (by omega)
    rw [h1, h2]
  · rw [decide_eq_false c, Bool.and_false, Bool.and_false]
theorem draw_b (x : Int32) : ∃ b : Bool, x &&& 1 = b01 b := by
  have h := pk_and x (m := 1) 1 (by decide)
  have hl := Nat.mod_lt (x.toBitVec.toNat) (show 0 < 2 ^ 1 by omega)
  have h2 : x.toBitVec.toNat % 2 ^ 1 = 0 ∨ x.toBitVec.toNat % 2 ^ 1 = 1 := by omega
  rcases h2 with e | e
  · exact ⟨false, by rw [h, e]; rfl⟩
  · exact ⟨true, by rw [h, e]; rfl⟩
theorem AgX.of {σ σ' : ST} {n m : Nat} {C : Nat → Nat → Int32} (g : AgX σ n m C) (e1 : σ'.1 1 = σ.1 1) (e2 : σ'.1 2 = σ.1 2) (e : ∀ j, j < 8 → σ'.2 j = σ.2 j) : AgX σ' n m C := by
  unfold AgX
  rw [e1, e2, e 0 (by omega), e 1 (by omega), e 2 (by omega), e 3 (by omega), e 4 (by omega), e 5 (by omega), e 6 (by omega), e 7 (by omega)]
  exact g
theorem AgM.of {σ σ' : ST} {n m : Nat} {C : Nat → Nat → Int32} (g : AgM σ n m C) (e1 : σ'.1 0 = σ.1 0) (e2 : σ'.1 1 = σ.1 1) (e : ∀ j, j < 8 → σ'.2 j = σ.2 j) : AgM σ' n m C := by
  unfold AgM
  rw [e1, e2, e 0 (by omega), e 1 (by omega), e 2 (by omega), e 3 (by omega), e 4 (by omega), e 5 (by omega), e 6 (by omega), e 7 (by omega)]
  exact g
def SmT (σ σ' : ST) : Prop := (∀ i, i ≠ 9 → i ≠ 10 → i ≠ 11 → i ≠ 13 → σ'.1 i = σ.1 i) ∧ (∀ j, j ≠ 14 → σ'.2 j = σ.2 j)
def SmU (τ τ' : ST) : Prop := (∀ i, i ≠ 5 → i ≠ 7 → τ'.1 i = τ.1 i) ∧ (∀ j, j ≠ 12 → τ'.2 j = τ.2 j)
/-- a step of both runs, the choice drawn -/
theorem run_step {σ τ : ST} {n m d v L : Nat} {C : Nat → Nat → Int32} {x : Int32} {ch : Bool} {k28 : Int32 → ST → Option ST} {k33 : Int32 → Int32 → Int32 → ST → Option (Int32 × ST)} (w : WFc n m C) (g : AgX σ n m C) (g' : AgM τ n m C) (hd : d < 100) (hv : v < 43008) (hk : v / 1024 < m) (e9 : σ.1 9 = nI d) (e11 : σ.1 11 = nI v) (f5 : τ.1 5 = nI d) (hr : ∀ i, i < d → σ.2 14 i = τ.2 12 i) (hc : σ.1 10 = τ.1 7) :
    ∃ σ' τ', fX4_drive_L87 k28 (nI L) (if sFault C v = 0 then -1 else nI (sFault C v)) (b01 ch) σ = k28 (nI L) σ' ∧ fX6_run_L90 k33 (nI L) x (nI v) (b01 ch) τ = k33 (nI L) x (nI (sNext C m v ch)) τ' ∧ σ'.1 9 = nI (d + 1) ∧ τ'.1 5 = nI (d + 1) ∧ σ'.1 11 = nI (sNext C m v ch) ∧ σ'.1 13 = σ.1 13 ∧ σ'.1 10 = τ'.1 7 ∧ (∀ i, i < d + 1 → σ'.2 14 i = τ'.2 12 i) ∧ SmT σ σ' ∧ SmU τ τ' := by
  unfold fX4_drive_L87 fX6_run_L90
  rw [e9, e11, f5]
  simp only [nm_e9, X_place (show v < 2 ^ 31 by omega), M_place (show v < 2 ^ 31 by omega), bd_s, ix_nI hd (show 100 < 2 ^ 31 by omega), nI_clamp (show d < 2 ^ 31 by omega), setA_1, e9, f5, nI_1]
  generalize hσ : setF (setA σ 14 d (nI (v / 1024))) 9 (nI (d + 1)) = σ1
  generalize hτ : setF (setA τ 12 d (nI (v / 1024))) 5 (nI (d + 1)) = τ1
  have g1 : AgX σ1 n m C := g.of (by rw [← hσ]; rfl) (by rw [← hσ]; rfl) (fun j hj => by rw [← hσ, setF_2, setA_n _ _ _ (by omega)])
  have g1' : AgM τ1 n m C := g'.of (by rw [← hτ]; rfl) (by rw [← hτ]; rfl) (fun j hj => by rw [← hτ, setF_2, setA_n _ _ _ (by omega)])
  have e11' : σ1.1 11 = nI v := by rw [← hσ, setF_n _ _ (by decide)]; exact e11
  rw [e11', X_next g1 w hv hk ch, bd_s, M_next g1' w hv hk ch, bd_s]
  refine ⟨_, _, rfl, rfl, ?_, ?_, ?_, ?_, ?_, ?_, ⟨fun i i1 i2 i3 i4 => ?_, fun j hj => ?_⟩, ⟨fun i i1 i2 => ?_, fun j hj => ?_⟩⟩
  · rw [setF_n _ _ (by decide), ← hσ, setF_s]
  · rw [← hτ, setF_s]
  · rw [setF_s]
  · rw [setF_n _ _ (by decide), ← hσ, setF_n _ _ (by decide)]; rfl
  · rw [setF_n _ _ (by decide), ← hσ, ← hτ, setF_n _ _ (by decide), setF_n _ _ (by decide)]; exact hc
  · intro i hi
    rw [setF_2, ← hσ, ← hτ, setF_2, setF_2, setA_s, setA_s]
    by_cases c : i = d
    · rw [c, upd_s, upd_s]
    · rw [upd_n _ _ c, upd_n _ _ c]; exact hr i (by omega)
  · rw [setF_n _ _ i3, ← hσ, setF_n _ _ i1]; rfl
  · rw [setF_2, ← hσ, setF_2, setA_n _ _ _ hj]
  · rw [← hτ, setF_n _ _ i1]; rfl
  · rw [← hτ, setF_2, setA_n _ _ _ hj]
set_option maxHeartbeats 4000000 in
theorem run_loop {n m L : Nat} {C : Nat → Nat → Int32} (w : WFc n m C) (hL : L ≤ 100) : ∀ (r d v : Nat) (σ τ : ST) (fu fu' : Nat), d + r = L → r < fu → r < fu' → AgX σ n m C → AgM τ n m C → v < 43008 → (v / 1024 < m ∨ 40 ≤ v / 1024) → σ.1 9 = nI d → σ.1 11 = nI v → τ.1 5 = nI d → (∀ i, i < d → σ.2 14 i = τ.2 12 i) → σ.1 10 = τ.1 7 →
    ∃ σ' τ' v' d', fX4_drive_L28 fu (nI L) σ = some σ' ∧ fX6_run_L33 fu' (nI L) (σ.1 13) (nI v) τ = fX6_run_L127 (nI v') τ' ∧ d' ≤ 100 ∧ v' < 43008 ∧ σ'.1 9 = nI d' ∧ τ'.1 5 = nI d' ∧ (∀ i, i < d' → σ'.2 14 i = τ'.2 12 i) ∧ σ'.1 10 = τ'.1 7 ∧ σ'.1 11 = nI v' ∧ SmT σ σ' ∧ SmU τ τ' := by
  intro r
  induction r with
  | zero =>
    intro d v σ τ fu fu' h hf hf' g g' hv hpl e9 e11 f5 hr hc
    obtain ⟨fu, rfl⟩ : ∃ z, fu = z + 1 := ⟨fu - 1, by omega⟩
    obtain ⟨fu', rfl⟩ : ∃ z, fu' = z + 1 := ⟨fu' - 1, by omega⟩
    rw [fX4_drive_L28, fX6_run_L33, e9, f5, if_pos (nI_le (by omega) (by omega)), if_pos (nI_le (by omega) (by omega))]
    exact ⟨σ, τ, v, d, rfl, rfl, by omega, hv, e9, f5, hr, hc, e11, ⟨fun _ _ _ _ _ => rfl, fun _ _ => rfl⟩, ⟨fun _ _ _ => rfl, fun _ _ => rfl⟩⟩
  | succ r ih =>
    intro d v σ τ fu fu' h hf hf' g g' hv hpl e9 e11 f5 hr hc
    obtain ⟨fu, rfl⟩ : ∃ z, fu = z + 1 := ⟨fu - 1, by omega⟩
    obtain ⟨fu', rfl⟩ : ∃ z, fu' = z + 1 := ⟨fu' - 1, by omega⟩
    have hm := w.2.1
    rw [fX4_drive_L28, fX6_run_L33, e9, f5, if_neg (nI_ge (by omega) (by omega)), if_neg (nI_ge (by omega) (by omega)), if_neg (show ¬ (100 : Int32) ≤ nI d from nI_ge (a := d) (b := 100) (by omega) (by omega)), e11, X_isEnd hv, bd_s, M_place (by omega), bd_s]
    by_cases he : 40 ≤ v / 1024
    · rw [decide_eq_true he, if_neg (show ¬ b01 true = 0 by decide), if_pos (show (40 : Int32) ≤ nI (v / 1024) from nI_le (a := 40) (b := v / 1024) he (by omega))]
      exact ⟨σ, τ, v, d, rfl, rfl, by omega, hv, e9, f5, hr, hc, e11, ⟨fun _ _ _ _ _ => rfl, fun _ _ => rfl⟩, ⟨fun _ _ _ => rfl, fun _ _ => rfl⟩⟩
    · have hk : v / 1024 < m := by omega
      rw [decide_eq_false he, if_pos (show b01 false = 0 from rfl), if_neg (show ¬ (40 : Int32) ≤ nI (v / 1024) from nI_ge (a := v / 1024) (b := 40) (by omega) (by omega)), X_fault g w hv hk, bd_s, X_two g w hv hk, bd_s, M_two g' w hv hk, bd_s]
      cases ht : sTwo C v with
      | false =>
        rw [if_pos (show b01 false = 0 from rfl), if_pos (show b01 false = 0 from rfl)]
        obtain ⟨σ1, τ1, r1, r2, r3, r4, r5, r6, r7, r8, r9, r10⟩ := run_step (L := L) (x := σ.1 13) (ch := false) (k28 := fX4_drive_L28 fu) (k33 := fX6_run_L33 fu') w g g' (by omega) hv hk e9 e11 f5 hr hc
        rw [show (0 : Int32) = b01 false from rfl]
        have r1' := r1
        rw [r1', r2]
        have hn := next_ok w (v := v) false
        obtain ⟨σ2, τ2, v2, d2, q1, q2, q3, q4, q5, q6, q7, q8, q9, q10, q11⟩ := ih (d + 1) (sNext C m v false) σ1 τ1 fu fu' (by omega) (by omega) (by omega) (g.of (r9.1 1 (by decide) (by decide) (by decide) (by decide)) (r9.1 2 (by decide) (by decide) (by decide) (by decide)) (fun j hj => r9.2 j (by omega))) (g'.of (r10.1 0 (by decide) (by decide)) (r10.1 1 (by decide) (by decide)) (fun j hj => r10.2 j (by omega))) hn.1 hn.2 r3 r5 r4 r8 r7
        rw [r6] at q2
        exact ⟨σ2, τ2, v2, d2, q1, q2, q3, q4, q5, q6, q7, q8, q9, ⟨fun i i1 i2 i3 i4 => (q10.1 i i1 i2 i3 i4).trans (r9.1 i i1 i2 i3 i4), fun j hj => (q10.2 j hj).trans (r9.2 j hj)⟩, ⟨fun i i1 i2 => (q11.1 i i1 i2).trans (r10.1 i i1 i2), fun j hj => (q11.2 j hj).trans (r10.2 j hj)⟩⟩
      | true =>
        rw [if_neg (show ¬ b01 true = 0 by decide), if_neg (show ¬ b01 true = 0 by decide)]
        unfold fX4_draw
        simp only [nm_e9, bd_s]
        generalize hy : (1103515245 : Int32) * σ.1 13 + 12345 = y
        generalize hσ : setF (setF σ 13 y) 10 ((setF σ 13 y).1 10 + 1) = σ0
        generalize hτ : setF τ 7 (τ.1 7 + 1) = τ0
        have y13 : σ0.1 13 = y := by rw [← hσ, setF_n _ _ (by decide), setF_s]
        rw [y13, draw_same]
        obtain ⟨ch, hch⟩ := draw_b (y >>> ((16 : Int32) &&& 31))
        rw [hch]
        have s0 : SmT σ σ0 := ⟨fun i i1 i2 i3 i4 => by rw [← hσ, setF_n _ _ i2, setF_n _ _ i4], fun j hj => by rw [← hσ]; rfl⟩
        have u0 : SmU τ τ0 := ⟨fun i i1 i2 => by rw [← hτ, setF_n _ _ i2], fun j hj => by rw [← hτ]; rfl⟩
        have g0 : AgX σ0 n m C := g.of (s0.1 1 (by decide) (by decide) (by decide) (by decide)) (s0.1 2 (by decide) (by decide) (by decide) (by decide)) (fun j hj => s0.2 j (by omega))
        have g0' : AgM τ0 n m C := g'.of (u0.1 0 (by decide) (by decide)) (u0.1 1 (by decide) (by decide)) (fun j hj => u0.2 j (by omega))
        obtain ⟨σ1, τ1, r1, r2, r3, r4, r5, r6, r7, r8, r9, r10⟩ := run_step (L := L) (x := y) (ch := ch) (k28 := fX4_drive_L28 fu) (k33 := fX6_run_L33 fu') w g0 g0' (d := d) (v := v) (by omega) hv hk (by rw [← hσ, setF_n _ _ (by decide), setF_n _ _ (by decide)]; exact e9) (by rw [← hσ, setF_n _ _ (by decide), setF_n _ _ (by decide)]; exact e11) (by rw [← hτ, setF_n _ _ (by decide)]; exact f5) (fun i hi => by rw [← hσ, ← hτ]; exact hr i hi) (by rw [← hσ, ← hτ, setF_s, setF_s, setF_n _ _ (by decide), hc])
        rw [r1, r2]
        have hn := next_ok w (v := v) ch
        obtain ⟨σ2, τ2, v2, d2, q1, q2, q3, q4, q5, q6, q7, q8, q9, q10, q11⟩ := ih (d + 1) (sNext C m v ch) σ1 τ1 fu fu' (by omega) (by omega) (by omega) (g0.of (r9.1 1 (by decide) (by decide) (by decide) (by decide)) (r9.1 2 (by decide) (by decide) (by decide) (by decide)) (fun j hj => r9.2 j (by omega))) (g0'.of (r10.1 0 (by decide) (by decide)) (r10.1 1 (by decide) (by decide)) (fun j hj => r10.2 j (by omega))) hn.1 hn.2 r3 r5 r4 r8 r7
        rw [r6, y13] at q2
        exact ⟨σ2, τ2, v2, d2, q1, q2, q3, q4, q5, q6, q7, q8, q9, ⟨fun i i1 i2 i3 i4 => (q10.1 i i1 i2 i3 i4).trans ((r9.1 i i1 i2 i3 i4).trans (s0.1 i i1 i2 i3 i4)), fun j hj => (q10.2 j hj).trans ((r9.2 j hj).trans (s0.2 j hj))⟩, ⟨fun i i1 i2 => (q11.1 i i1 i2).trans ((r10.1 i i1 i2).trans (u0.1 i i1 i2)), fun j hj => (q11.2 j hj).trans ((r10.2 j hj).trans (u0.2 j hj))⟩⟩
