/-! ===== what both sides compute, over nodes as natural numbers ===== -/
def sHeld (so : Int32) (s : Nat) : Bool := if so = 1 then decide (0 < s) else decide (s = 1)
def sFl (co : Nat) (so le : Int32) (s : Nat) : Nat :=
  if co = 0 then (if so = 1 then (if s = 3 then 2 else 0) else (if s = 1 then 2 else 0))
  else if co = 1 then (if sHeld so s then 0 else if so = 0 ∧ s = 3 then 0 else 3)
  else if co = 2 then (if sHeld so s then 0 else if so = 0 ∧ ¬ le = 0 ∧ s = 2 then 0 else 4)
  else if co = 3 then (if s = 1 then 0 else 3)
  else 0
def cCo (C : Nat → Nat → Int32) (v : Nat) : Nat := (C 3 (v / 1024)).toNatClampNeg
def cT (C : Nat → Nat → Int32) (v : Nat) : Nat := (C 4 (v / 1024)).toNatClampNeg
def cS (C : Nat → Nat → Int32) (v : Nat) : Nat := (C 5 (v / 1024)).toNatClampNeg
def sFault (C : Nat → Nat → Int32) (v : Nat) : Nat := sFl (cCo C v) (C 0 (cT C v)) (C 1 (cT C v)) (stN v (cT C v))
/-- closing a file and what is within -/
def clN (I : Nat → Int32) : Nat → Nat → Int32 → Nat
  | 0, v, _ => v
  | f + 1, v, t => if t = -1 then v else if stN v t.toNatClampNeg = 1 then clN I f (wtN v t.toNatClampNeg 2) (I t.toNatClampNeg) else v
def sDone (C : Nat → Nat → Int32) (v : Nat) : Nat :=
  if cCo C v = 0 then wtN v (cT C v) (if C 0 (cT C v) = 1 then stN v (cT C v) + 1 else 1)
  else if cCo C v = 2 then (if C 0 (cT C v) = 1 then wtN v (cT C v) (stN v (cT C v) - 1) else clN (C 2) 5 v (nI (cT C v)))
  else if cCo C v = 3 then wtN v (cT C v) 3
  else v
def atN (m v p : Nat) : Nat := 1024 * (if p = 41 ∨ p < m then p else 40) + v % 1024
def thN (C : Nat → Nat → Int32) (m v : Nat) : Nat := atN m v (if C 7 (v / 1024) = -1 then 41 else (C 7 (v / 1024)).toNatClampNeg)
def sNext (C : Nat → Nat → Int32) (m v : Nat) (ch : Bool) : Nat :=
  if cCo C v = 4 then atN m v (if ch then cS C v else v / 1024 + 1)
  else if cCo C v = 5 then atN m v (cS C v)
  else if cCo C v = 6 then atN m v 40
  else if cCo C v = 7 then thN C m v
  else if cCo C v = 8 then atN m v (if sHeld (C 0 (cT C v)) (stN v (cT C v)) then cS C v else v / 1024 + 1)
  else if ¬ sFault C v = 0 then thN C m v
  else if ch then thN C m (if cCo C v = 2 then sDone C v else v)
  else atN m (sDone C v) (v / 1024 + 1)
def sTwo (C : Nat → Nat → Int32) (v : Nat) : Bool := decide (cCo C v = 4 ∨ (cCo C v < 4 ∧ C 6 (v / 1024) = 1 ∧ sFault C v = 0))
def b01 (b : Bool) : Int32 := if b then 1 else 0
/-- a step is well told -/
def WS (n : Nat) (C : Nat → Nat → Int32) (k : Nat) : Prop :=
  ∃ co, co < 9 ∧ C 3 k = nI co ∧ ((co ≤ 3 ∨ co = 8) → ∃ t, t < n ∧ C 4 k = nI t) ∧ ((co = 4 ∨ co = 5 ∨ co = 8) → ∃ s, s < 40 ∧ C 5 k = nI s) ∧ (C 6 k = 0 ∨ C 6 k = 1) ∧ (C 7 k = -1 ∨ ∃ h, h < 40 ∧ C 7 k = nI h) ∧ (co = 3 → C 0 (C 4 k).toNatClampNeg = 0)
def WT (C : Nat → Nat → Int32) (i : Nat) : Prop := (C 0 i = 0 ∨ C 0 i = 1) ∧ (C 1 i = 0 ∨ C 1 i = 1) ∧ (C 2 i = -1 ∨ ∃ j, j < i ∧ C 2 i = nI j)
def WFc (n m : Nat) (C : Nat → Nat → Int32) : Prop := n ≤ 5 ∧ m ≤ 40 ∧ (∀ i, i < n → WT C i) ∧ (∀ k, k < m → WS n C k)
def AgX (σ : ST) (n m : Nat) (C : Nat → Nat → Int32) : Prop := σ.1 1 = nI n ∧ σ.1 2 = nI m ∧ σ.2 0 = C 0 ∧ σ.2 1 = C 1 ∧ σ.2 2 = C 2 ∧ σ.2 3 = C 3 ∧ σ.2 4 = C 4 ∧ σ.2 5 = C 5 ∧ σ.2 6 = C 6 ∧ σ.2 7 = C 7
def AgM (τ : ST) (n m : Nat) (C : Nat → Nat → Int32) : Prop := τ.1 0 = nI n ∧ τ.1 1 = nI m ∧ τ.2 0 = C 0 ∧ τ.2 1 = C 1 ∧ τ.2 2 = C 2 ∧ τ.2 3 = C 3 ∧ τ.2 4 = C 4 ∧ τ.2 5 = C 5 ∧ τ.2 6 = C 6 ∧ τ.2 7 = C 7
theorem s_cases {s : Nat} (h : s < 4) : s = 0 ∨ s = 1 ∨ s = 2 ∨ s = 3 := by omega
theorem co_cases {s : Nat} (h : s < 9) : s = 0 ∨ s = 1 ∨ s = 2 ∨ s = 3 ∨ s = 4 ∨ s = 5 ∨ s = 6 ∨ s = 7 ∨ s = 8 := by omega
-- leaves
theorem X_place {v : Nat} (h : v < 2 ^ 31) : fX5_placeOf (nI v) = some (nI (v / 1024)) := by unfold fX5_placeOf; rw [i_place h]
theorem X_all {v : Nat} (h : v < 2 ^ 31) : fX5_allOf (nI v) = some (nI (v % 1024)) := by unfold fX5_allOf; rw [i_all h]
theorem X_st {v t : Nat} (h : v < 2 ^ 31) (ht : t < 5) : fX5_stateIn (nI v) (nI t) = some (nI (stN v t)) := by unfold fX5_stateIn; rw [i_st h ht]
theorem M_what {v t : Nat} (h : v < 2 ^ 31) (ht : t < 5) : fX6_what (nI v) (nI t) = some (nI (stN v t)) := by unfold fX6_what; rw [i_st h ht]
theorem M_place {v : Nat} (h : v < 2 ^ 31) : fX6_place (nI v) = some (nI (v / 1024)) := by unfold fX6_place; rw [i_div h]
theorem X_node {p a : Nat} (hp : p < 1000) (ha : a < 1024) : fX5_nodeOf (nI p) (nI a) = some (nI (1024 * p + a)) := by unfold fX5_nodeOf; rw [i_node hp ha]
theorem X_with {a t s : Nat} (ha : a < 1024) (ht : t < 5) (hs : s < 4) : fX5_withState (nI a) (nI t) (nI s) = some (nI (wtN a t s)) := by unfold fX5_withState; rw [nm_e9, i_with ha ht hs]
theorem M_with {v t s : Nat} (h : v < 2 ^ 31) (ht : t < 5) (hs : s < 4) : fX6_with (nI v) (nI t) (nI s) = some (nI (wtN v t s)) := by unfold fX6_with; rw [M_what h ht, bd_s, i_mwith ht hs]
theorem X_isFile {σ : ST} {t : Nat} (ht : t < 5) : fX3_isFile σ (nI t) = some (if σ.2 0 t = 0 then 1 else 0) := by
  unfold fX3_isFile
  rw [ix_nI ht (by omega), nI_clamp (by omega)]
  by_cases h : σ.2 0 t = 0
  · rw [if_pos h, if_pos h]
  · rw [if_neg h, if_neg h]
theorem X_held {σ : ST} {v t : Nat} (h : v < 2 ^ 31) (ht : t < 5) (h0 : σ.2 0 t = 0 ∨ σ.2 0 t = 1) : fX3_isHeld σ (nI v) (nI t) = some (b01 (sHeld (σ.2 0 t) (stN v t))) := by
  unfold fX3_isHeld
  rw [X_st h ht, bd_s, X_isFile ht, bd_s]
  have hs := st_lt v t
  generalize stN v t = s at hs ⊢
  rcases h0 with e | e <;> rw [e] <;> rcases s_cases hs with rfl | rfl | rfl | rfl <;> decide
theorem M_held {σ : ST} {v t : Nat} (h : v < 2 ^ 31) (ht : t < 5) (h0 : σ.2 0 t = 0 ∨ σ.2 0 t = 1) : fX6_isHeld σ (nI v) (nI t) = some (b01 (sHeld (σ.2 0 t) (stN v t))) := by
  unfold fX6_isHeld
  rw [ix_nI ht (by omega), M_what h ht, bd_s, nI_clamp (by omega)]
  have hs := st_lt v t
  generalize stN v t = s at hs ⊢
  rcases h0 with e | e <;> rw [e] <;> rcases s_cases hs with rfl | rfl | rfl | rfl <;> decide
theorem X_arr {σ : ST} {m p a : Nat} (hm : σ.1 2 = nI m) (hm40 : m ≤ 40) (hp : p < 1000) (ha : a < 1024) : fX0_arriveAt σ (nI p) (nI a) = some (nI (1024 * (if p < m then p else 40) + a)) := by
  unfold fX0_arriveAt fX0_arriveAt_L17
  rw [hm]
  by_cases h : p < m
  · rw [if_neg (nI_ge h (by omega)), X_node hp ha, bd_s, if_pos h]
  · rw [if_pos (nI_le (by omega) (by omega)), show (40 : Int32) = nI 40 from by decide, X_node (by omega) ha, bd_s, if_neg h]
theorem M_at {σ : ST} {m p v : Nat} (hm : σ.1 1 = nI m) (hm40 : m ≤ 40) (hp : p < 1000) (hv : v < 2 ^ 31) : fX6_at σ (nI v) (nI p) = some (nI (atN m v p)) := by
  unfold fX6_at fX6_at_L14 fX6_at_L20 atN
  rw [hm]
  simp only [nm_e9]
  by_cases h41 : p = 41
  · subst h41
    rw [if_pos (by decide), i_at hv]
    simp
  · rw [if_neg (show ¬ nI p = 41 by rw [show (41 : Int32) = nI 41 from by decide, nI_eq (by omega) (by omega)]; exact h41)]
    by_cases h : p < m
    · rw [if_neg (nI_ge h (by omega)), i_at hv, if_pos (Or.inr h)]
    · rw [if_pos (nI_le (by omega) (by omega)), show (40 : Int32) = nI 40 from by decide, i_at hv, if_neg (by omega)]
-- faults
set_option maxHeartbeats 4000000 in
theorem X_fault {σ : ST} {n m : Nat} {C : Nat → Nat → Int32} (g : AgX σ n m C) (w : WFc n m C) {v : Nat} (hv : v < 43008) (hk : v / 1024 < m) : fX0_faultAt σ (nI v) = some (if sFault C v = 0 then -1 else nI (sFault C v)) := by
  obtain ⟨g1, g2, a0, a1, a2, a3, a4, a5, a6, a7⟩ := g
  obtain ⟨hn, hm, wt, ws⟩ := w
  obtain ⟨co, hco, e3, ht, hs, h6, h7, hkp⟩ := ws _ hk
  unfold fX0_faultAt sFault cCo cT
  rw [X_place (by omega), bd_s, X_all (by omega), bd_s, ix_nI (by omega) (by omega), nm_e9, ix_nI (by omega) (by omega), nI_clamp (by omega), a3, a4, e3, nI_clamp (by omega)]
  by_cases hc : co ≤ 3
  · obtain ⟨t, ht5, e4⟩ := ht (Or.inl hc)
    have ht5' : t < 5 := by omega
    obtain ⟨w0, w1, -⟩ := wt t ht5
    rw [e4, nI_clamp (by omega)]
    have h0 : σ.2 0 t = 0 ∨ σ.2 0 t = 1 := by rw [a0]; exact w0
    unfold fX3_canOpen fX3_canUse fX3_canClose fX3_canKeep fX3_isFileThatIs fX3_canUse_L19 fX3_canClose_L28
    rw [X_held (by omega) ht5' h0, X_st (by omega) ht5', X_isFile ht5', st_mod ht5', ix_nI ht5' (by omega), nI_clamp (by omega), a0, a1]
    have hs4 := st_lt v t
    generalize stN v t = s at hs4 ⊢
    have hc4 : co = 0 ∨ co = 1 ∨ co = 2 ∨ co = 3 := by omega
    rcases hc4 with rfl | rfl | rfl | rfl
    · rcases w0 with e | e <;> rw [e] <;> rcases w1 with e' | e' <;> rw [e'] <;> rcases s_cases hs4 with rfl | rfl | rfl | rfl <;> decide
    · rcases w0 with e | e <;> rw [e] <;> rcases w1 with e' | e' <;> rw [e'] <;> rcases s_cases hs4 with rfl | rfl | rfl | rfl <;> decide
    · rcases w0 with e | e <;> rw [e] <;> rcases w1 with e' | e' <;> rw [e'] <;> rcases s_cases hs4 with rfl | rfl | rfl | rfl <;> decide
    · have e : C 0 t = 0 := by have z := hkp rfl; rw [e4, nI_clamp (by omega)] at z; exact z
      rw [e]
      rcases w1 with e' | e' <;> rw [e'] <;> rcases s_cases hs4 with rfl | rfl | rfl | rfl <;> decide
  · have hc5 : co = 4 ∨ co = 5 ∨ co = 6 ∨ co = 7 ∨ co = 8 := by omega
    rcases hc5 with rfl | rfl | rfl | rfl | rfl <;> rfl
set_option maxHeartbeats 4000000 in
theorem M_fault {σ : ST} {n m : Nat} {C : Nat → Nat → Int32} (g : AgM σ n m C) (w : WFc n m C) {v : Nat} (hv : v < 43008) (hk : v / 1024 < m) : fX6_faultOf σ (nI v) = some (nI (sFault C v)) := by
  obtain ⟨g1, g2, a0, a1, a2, a3, a4, a5, a6, a7⟩ := g
  obtain ⟨hn, hm, wt, ws⟩ := w
  obtain ⟨co, hco, e3, ht, hs, h6, h7, hkp⟩ := ws _ hk
  unfold fX6_faultOf sFault cCo cT
  rw [M_place (by omega), bd_s, ix_nI (by omega) (by omega), nm_e9, ix_nI (by omega) (by omega), nI_clamp (by omega), a3, a4, e3, nI_clamp (by omega)]
  by_cases hc : co ≤ 3
  · obtain ⟨t, ht5, e4⟩ := ht (Or.inl hc)
    have ht5' : t < 5 := by omega
    obtain ⟨w0, w1, -⟩ := wt t ht5
    rw [e4, nI_clamp (by omega)]
    have h0 : σ.2 0 t = 0 ∨ σ.2 0 t = 1 := by rw [a0]; exact w0
    unfold fX6_faultOf_L67 fX6_faultOf_L85 fX6_faultOf_L118 fX6_faultOf_L160
    simp only [M_held (show v < 2 ^ 31 by omega) ht5' h0, M_what (show v < 2 ^ 31 by omega) ht5', ix_nI ht5' (show 5 < 2 ^ 31 by omega), nI_clamp (show t < 2 ^ 31 by omega), a0, a1]
    have hs4 := st_lt v t
    generalize stN v t = s at hs4 ⊢
    have hc4 : co = 0 ∨ co = 1 ∨ co = 2 ∨ co = 3 := by omega
    rcases hc4 with rfl | rfl | rfl | rfl
    · rcases w0 with e | e <;> rw [e] <;> rcases w1 with e' | e' <;> rw [e'] <;> rcases s_cases hs4 with rfl | rfl | rfl | rfl <;> decide
    · rcases w0 with e | e <;> rw [e] <;> rcases w1 with e' | e' <;> rw [e'] <;> rcases s_cases hs4 with rfl | rfl | rfl | rfl <;> decide
    · rcases w0 with e | e <;> rw [e] <;> rcases w1 with e' | e' <;> rw [e'] <;> rcases s_cases hs4 with rfl | rfl | rfl | rfl <;> decide
    · have e : C 0 t = 0 := by have z := hkp rfl; rw [e4, nI_clamp (by omega)] at z; exact z
      rw [e]
      rcases w1 with e' | e' <;> rw [e'] <;> rcases s_cases hs4 with rfl | rfl | rfl | rfl <;> decide
  · have hc5 : co = 4 ∨ co = 5 ∨ co = 6 ∨ co = 7 ∨ co = 8 := by omega
    rcases hc5 with rfl | rfl | rfl | rfl | rfl <;> rfl
