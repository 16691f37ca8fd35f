/-! ===== the reference's search is bfs ===== -/
theorem nar1 : vp_nar .boolean 1 = 1 := rfl
theorem nar0 : vp_nar .boolean 0 = 0 := rfl
def MB (τ : ST) (b : BS) : Prop :=
  τ.1 3 = nI b.2.2.2 ∧ (∀ i, i < b.2.2.2 → τ.2 8 i = nI (b.1 i)) ∧ τ.2 9 0 = -1 ∧ (∀ i, 0 < i → i < b.2.2.2 → τ.2 9 i = nI (b.2.1 i)) ∧ (∀ v, v < 43008 → τ.2 10 v = b01 (bIn b v))
/-- nothing but the search's own rows has changed -/
def SmM (τ τ' : ST) : Prop := (∀ i, i ≠ 3 → τ'.1 i = τ.1 i) ∧ (∀ j, j ≠ 8 → j ≠ 9 → j ≠ 10 → j ≠ 11 → τ'.2 j = τ.2 j)
theorem SmM.rf {τ : ST} : SmM τ τ := ⟨fun _ _ => rfl, fun _ _ _ _ _ => rfl⟩
theorem SmM.tr {a b c : ST} (h : SmM a b) (k : SmM b c) : SmM a c := ⟨fun i hi => (k.1 i hi).trans (h.1 i hi), fun j a1 a2 a3 a4 => (k.2 j a1 a2 a3 a4).trans (h.2 j a1 a2 a3 a4)⟩
theorem SmM.ag {τ τ' : ST} {n m : Nat} {C : Nat → Nat → Int32} (h : SmM τ τ') (g : AgM τ n m C) : AgM τ' n m C := by
  obtain ⟨g1, g2, a0, a1, a2, a3, a4, a5, a6, a7⟩ := g
  refine ⟨(h.1 0 (by decide)).trans g1, (h.1 1 (by decide)).trans g2, ?_, ?_, ?_, ?_, ?_, ?_, ?_, ?_⟩
  · exact (h.2 0 (by decide) (by decide) (by decide) (by decide)).trans a0
  · exact (h.2 1 (by decide) (by decide) (by decide) (by decide)).trans a1
  · exact (h.2 2 (by decide) (by decide) (by decide) (by decide)).trans a2
  · exact (h.2 3 (by decide) (by decide) (by decide) (by decide)).trans a3
  · exact (h.2 4 (by decide) (by decide) (by decide) (by decide)).trans a4
  · exact (h.2 5 (by decide) (by decide) (by decide) (by decide)).trans a5
  · exact (h.2 6 (by decide) (by decide) (by decide) (by decide)).trans a6
  · exact (h.2 7 (by decide) (by decide) (by decide) (by decide)).trans a7
def encF (x : Option Nat) : Int32 := match x with
  | none => -1
  | some i => nI i
def FB (τ : ST) (F : Nat → Option Nat) : Prop := ∀ f, f < 25 → τ.2 11 f = encF (F f)
theorem bIn_come {b : BS} {v p d u : Nat} (hb : bIn b v = false) : bIn (nup b.1 b.2.2.2 v, nup b.2.1 b.2.2.2 p, nup b.2.2.1 b.2.2.2 d, b.2.2.2 + 1) u = (decide (u = v) || bIn b u) := by
  cases hu : bIn b u with
  | true =>
    obtain ⟨i, hi, e⟩ := bIn_iff.mp hu
    rw [Bool.or_true]
    refine bIn_iff.mpr ⟨i, by show i < b.2.2.2 + 1; omega, ?_⟩
    show nup b.1 b.2.2.2 v i = u
    rw [nup_n _ _ (by omega)]; exact e
  | false =>
    rw [Bool.or_false]
    by_cases c : u = v
    · rw [decide_eq_true c]
      refine bIn_iff.mpr ⟨b.2.2.2, by show b.2.2.2 < b.2.2.2 + 1; omega, ?_⟩
      show nup b.1 b.2.2.2 v b.2.2.2 = u
      rw [nup_s, c]
    · rw [decide_eq_false c]
      cases hz : bIn (nup b.1 b.2.2.2 v, nup b.2.1 b.2.2.2 p, nup b.2.2.1 b.2.2.2 d, b.2.2.2 + 1) u with
      | false => rfl
      | true =>
        obtain ⟨i, hi, e⟩ := bIn_iff.mp hz
        have hi : i < b.2.2.2 + 1 := hi
        have e : nup b.1 b.2.2.2 v i = u := e
        by_cases ci : i = b.2.2.2
        · rw [ci, nup_s] at e; exact absurd e.symm c
        · rw [nup_n _ _ ci] at e
          exact absurd e (bIn_f hu i (by omega))
theorem upd_s (f : Nat → Int32) (k : Nat) (x : Int32) : upd f k x k = x := by simp [upd]
theorem upd_n (f : Nat → Int32) {k j : Nat} (x : Int32) (h : j ≠ k) : upd f k x j = f j := by simp [upd, h]
theorem M_come {τ : ST} {m v p d : Nat} {b : BS} {x : Int32} (hB : MB τ b) (hw : BW m b) (hv : v < 43008) (hx : x = nI p) : ∃ τ', fX6_come τ (nI v) x = some τ' ∧ MB τ' (bCome b v p d) ∧ SmM τ τ' ∧ τ'.2 11 = τ.2 11 := by
  obtain ⟨h1, h2, h3, h4, h5⟩ := hB
  have hc := hw.cnt
  unfold fX6_come
  rw [ix_nI hv (by omega), nI_clamp (by omega), h5 v hv]
  cases hb : bIn b v with
  | true =>
    rw [if_neg (show ¬ b01 true = 0 by decide), bCome_t hb]
    exact ⟨τ, rfl, ⟨h1, h2, h3, h4, h5⟩, SmM.rf, rfl⟩
  | false =>
    have hr := hw.room hv hb
    have hp1 := hw.1
    rw [if_pos (show b01 false = 0 from rfl), bCome_f hb]
    simp only [ix_nI hv (show 43008 < 2 ^ 31 by omega), nm_e9, setA_1, h1, ix_nI hr (show 43008 < 2 ^ 31 by omega), nI_clamp (show b.2.2.2 < 2 ^ 31 by omega), nar1, nI_1]
    refine ⟨_, rfl, ⟨?_, ?_, ?_, ?_, ?_⟩, ⟨fun i hi => ?_, fun j j1 j2 j3 j4 => ?_⟩, ?_⟩
    · rw [setF_s]
    · intro i hi
      have hi : i < b.2.2.2 + 1 := hi
      rw [setF_2, setA_s]
      show _ = nI (nup b.1 b.2.2.2 v i)
      by_cases c : i = b.2.2.2
      · rw [c, upd_s, nup_s]
      · rw [upd_n _ _ c, nup_n _ _ c, setA_n _ _ _ (by decide), setA_n _ _ _ (by decide)]; exact h2 i (by omega)
    · rw [setF_2, setA_n _ _ _ (by decide), setA_s, upd_n _ _ (by omega), setA_n _ _ _ (by decide)]; exact h3
    · intro i h0 hi
      have hi : i < b.2.2.2 + 1 := hi
      rw [setF_2, setA_n _ _ _ (by decide), setA_s]
      show _ = nI (nup b.2.1 b.2.2.2 p i)
      by_cases c : i = b.2.2.2
      · rw [c, upd_s, nup_s, hx]
      · rw [upd_n _ _ c, nup_n _ _ c, setA_n _ _ _ (by decide)]; exact h4 i h0 (by omega)
    · intro u hu
      rw [bIn_come hb, setF_2, setA_n _ _ _ (by decide), setA_n _ _ _ (by decide), setA_s]
      by_cases c : u = v
      · rw [c, upd_s]; simp [b01]
      · rw [upd_n _ _ c, h5 u hu]; simp [c]
    · rw [setF_n _ _ hi]; rfl
    · rw [setF_2, setA_n _ _ _ j1, setA_n _ _ _ j2, setA_n _ _ _ j3]
    · rfl
/-- the first node -/
theorem M_first {τ : ST} {n m : Nat} {C : Nat → Nat → Int32} (g : AgM τ n m C) (w : WFc n m C) (h1 : τ.1 3 = 0) (h5 : ∀ v, v < 43008 → τ.2 10 v = 0) : ∃ τ', ((fX6_at τ 0 0).bind fun r51 => fX6_come τ r51 (-1)) = some τ' ∧ MB τ' (b0 m) ∧ SmM τ τ' ∧ τ'.2 11 = τ.2 11 := by
  have hm := w.2.1
  have ha := at_ok (m := m) (v := 0) (p := 0) hm
  rw [show (fX6_at τ 0 0) = some (nI (atN m 0 0)) from M_at (p := 0) (v := 0) g.2.1 hm (by omega) (by omega), bd_s]
  unfold fX6_come
  rw [ix_nI ha.1 (by omega), nI_clamp (by omega), h5 _ ha.1, if_pos rfl]
  simp only [ix_nI ha.1 (show 43008 < 2 ^ 31 by omega), nm_e9, setA_1, h1, nar1, show (0 : Int32) = nI 0 from by decide, ix_nI (show 0 < 43008 by omega) (show 43008 < 2 ^ 31 by omega), nI_clamp (show 0 < 2 ^ 31 by omega), nI_1]
  refine ⟨_, rfl, ⟨?_, ?_, ?_, ?_, ?_⟩, ⟨fun i hi => ?_, fun j j1 j2 j3 j4 => ?_⟩, ?_⟩
  · rw [setF_s]; rfl
  · intro i hi
    have hi : i < 1 := hi
    have e : i = 0 := by omega
    subst e
    rw [setF_2, setA_s, upd_s]; rfl
  · rw [setF_2, setA_n _ _ _ (by decide), setA_s, upd_s]
  · intro i h0 hi
    have hi : i < 1 := hi
    omega
  · intro u hu
    rw [setF_2, setA_n _ _ _ (by decide), setA_n _ _ _ (by decide), setA_s]
    have hbi : bIn (b0 m) u = decide (u = atN m 0 0) := by
      by_cases c : u = atN m 0 0
      · rw [decide_eq_true c]; exact bIn_iff.mpr ⟨0, by show 0 < 1; omega, c.symm⟩
      · rw [decide_eq_false c]
        cases hz : bIn (b0 m) u with
        | false => rfl
        | true =>
          obtain ⟨i, hi, e⟩ := bIn_iff.mp hz
          exact absurd e.symm c
    rw [hbi]
    by_cases c : u = atN m 0 0
    · rw [c, upd_s]; simp [b01]
    · rw [upd_n _ _ c, h5 u hu]; simp [c, b01]
  · rw [setF_n _ _ hi]; rfl
  · rw [setF_2, setA_n _ _ _ j1, setA_n _ _ _ j2, setA_n _ _ _ j3]
  · rfl
theorem i_5 {a t : Nat} : (5 * nI a) + nI t = nI (5 * a + t) := by
  rw [show (5 : Int32) = nI 5 from by decide, pk_mul, nI_add]
theorem M_tell {τ : ST} {F : Nat → Option Nat} {kd t q : Nat} (hF : FB τ F) (hFl : ∀ f i, F f = some i → i < 43008) (hk : kd < 5) (ht : t < 5) (hq : q < 43008) : ∃ τ', fX6_tell τ (nI kd) (nI t) (nI q) = some τ' ∧ FB τ' (fun f => orq (F f) (decide (f = 5 * kd + t)) q) ∧ τ'.1 = τ.1 ∧ ∀ j, j ≠ 11 → τ'.2 j = τ.2 j := by
  have hf : 5 * kd + t < 25 := by omega
  unfold fX6_tell fX6_tell_L37
  rw [i_5]
  simp only [ix_nI hf (show 25 < 2 ^ 31 by omega), nI_clamp (show 5 * kd + t < 2 ^ 31 by omega), nm_e9, hF _ hf]
  cases hx : F (5 * kd + t) with
  | none =>
    rw [show encF none = -1 from rfl, if_pos rfl]
    refine ⟨_, rfl, fun f hf' => ?_, rfl, fun j hj => setA_n _ _ _ hj⟩
    rw [setA_s]
    show _ = encF (orq (F f) (decide (f = 5 * kd + t)) q)
    by_cases c : f = 5 * kd + t
    · rw [c, upd_s, hx]; simp [orq, encF]
    · rw [upd_n _ _ c, hF f hf']
      cases F f with
      | none => simp [orq, encF, c]
      | some i => simp [orq, encF]
  | some i =>
    rw [show encF (some i) = nI i from rfl, if_neg (nI_m1 (by have := hFl _ _ hx; omega))]
    refine ⟨_, rfl, fun f hf' => ?_, rfl, fun j hj => setA_n _ _ _ hj⟩
    rw [setA_s]
    show _ = encF (orq (F f) (decide (f = 5 * kd + t)) q)
    by_cases c : f = 5 * kd + t
    · rw [c, upd_s, hx]; simp [orq, encF]
    · rw [upd_n _ _ c, hF f hf']
      cases F f with
      | none => simp [orq, encF, c]
      | some i => simp [orq, encF]
