/-! ===== one step of both sides is sNext ===== -/
theorem wt_lt10 {a t s : Nat} (h : t < 5) (hs : s < 4) (ha : a < 1024) : wtN a t s < 1024 := by
  have := wt_div (v := a) h hs
  omega
theorem cl_m1 (I : Nat → Int32) (f v : Nat) : clN I f v (-1) = v := by
  cases f with
  | zero => rfl
  | succ f => unfold clN; rw [if_pos rfl]
theorem cl_s (I : Nat → Int32) (f v i : Nat) (hi : i < 5) : clN I (f + 1) v (nI i) = if stN v i = 1 then clN I f (wtN v i 2) (I i) else v := by
  rw [clN, if_neg (nI_m1 (by omega)), nI_clamp (by omega)]
def okI (I : Nat → Int32) (j : Nat) : Prop := ∀ i, i < j → (I i = -1 ∨ ∃ q, q < i ∧ I i = nI q)
theorem X_cl {σ : ST} {I : Nat → Int32} (hI : σ.2 2 = I) : ∀ (j : Nat), j ≤ 5 → okI I j → ∀ (fuel a d f : Nat) (t : Int32), (t = -1 ∨ ∃ i, i < j ∧ t = nI i) → j < fuel → j ≤ f → d + j ≤ 5 → a < 1024 → fX3_afterClose_L29 σ fuel (nI a) t (nI d) = some (nI (clN I f a t)) := by
  intro j
  induction j with
  | zero =>
    intro _ _ fuel a d f t ht hfu hf hd ha
    obtain ⟨fuel, rfl⟩ : ∃ z, fuel = z + 1 := ⟨fuel - 1, by omega⟩
    rcases ht with rfl | ⟨i, hi, -⟩
    · rw [fX3_afterClose_L29, cl_m1]
      by_cases h5 : (5 : Int32) ≤ nI d
      · rw [if_pos h5]
      · rw [if_neg h5, if_pos rfl]
    · omega
  | succ j ih =>
    intro hj hok fuel a d f t ht hfu hf hd ha
    obtain ⟨fuel, rfl⟩ : ∃ z, fuel = z + 1 := ⟨fuel - 1, by omega⟩
    rcases ht with rfl | ⟨i, hi, rfl⟩
    · rw [fX3_afterClose_L29, cl_m1]
      by_cases h5 : (5 : Int32) ≤ nI d
      · rw [if_pos h5]
      · rw [if_neg h5, if_pos rfl]
    · obtain ⟨f, rfl⟩ : ∃ z, f = z + 1 := ⟨f - 1, by omega⟩
      rw [fX3_afterClose_L29, cl_s I f a i (by omega), if_neg (show ¬ (5 : Int32) ≤ nI d from nI_ge (a := d) (b := 5) (by omega) (by omega)), if_neg (nI_m1 (by omega)), X_st (by omega) (by omega), bd_s]
      by_cases hs : stN a i = 1
      · rw [if_pos hs, hs, if_pos (by decide), show (2 : Int32) = nI 2 from by decide, X_with ha (by omega) (by omega), bd_s, ix_nI (by omega) (by omega), nm_e9, nm_e9, nI_clamp (by omega), hI, nI_1]
        refine ih (by omega) (fun q hq => hok q (by omega)) fuel _ (d + 1) f _ ?_ (by omega) (by omega) (by omega) (wt_lt10 (by omega) (by omega) ha)
        rcases hok i hi with e | ⟨q, hq, e⟩
        · exact Or.inl e
        · exact Or.inr ⟨q, by omega, e⟩
      · rw [if_neg hs, if_neg (show ¬ nI (stN a i) = 1 by rw [nI_lit1, nI_eq (by have := st_lt a i; omega) (by omega)]; exact hs)]
theorem M_cl {σ : ST} {I : Nat → Int32} (hI : σ.2 2 = I) : ∀ (j : Nat), j ≤ 5 → okI I j → ∀ (fuel v f : Nat) (t : Int32), (t = -1 ∨ ∃ i, i < j ∧ t = nI i) → j < fuel → j ≤ f → v < 43008 → fX6_done_L104 σ fuel (nI v) t = some (nI (clN I f v t)) := by
  intro j
  induction j with
  | zero =>
    intro _ _ fuel v f t ht hfu hf hv
    obtain ⟨fuel, rfl⟩ : ∃ z, fuel = z + 1 := ⟨fuel - 1, by omega⟩
    rcases ht with rfl | ⟨i, hi, -⟩
    · rw [fX6_done_L104, cl_m1, if_pos rfl]
    · omega
  | succ j ih =>
    intro hj hok fuel v f t ht hfu hf hv
    obtain ⟨fuel, rfl⟩ : ∃ z, fuel = z + 1 := ⟨fuel - 1, by omega⟩
    rcases ht with rfl | ⟨i, hi, rfl⟩
    · rw [fX6_done_L104, cl_m1, if_pos rfl]
    · obtain ⟨f, rfl⟩ : ∃ z, f = z + 1 := ⟨f - 1, by omega⟩
      rw [fX6_done_L104, cl_s I f v i (by omega), if_neg (nI_m1 (by omega)), M_what (by omega) (by omega), bd_s]
      by_cases hs : stN v i = 1
      · rw [if_pos hs, hs, if_pos (by decide), show (2 : Int32) = nI 2 from by decide, M_with (by omega) (by omega) (by omega), bd_s, ix_nI (by omega) (by omega), nm_e9, nI_clamp (by omega), hI]
        refine ih (by omega) (fun q hq => hok q (by omega)) fuel _ f _ ?_ (by omega) (by omega) (wt_lt (by omega) (by omega) hv)
        rcases hok i hi with e | ⟨q, hq, e⟩
        · exact Or.inl e
        · exact Or.inr ⟨q, by omega, e⟩
      · rw [if_neg hs, if_neg (show ¬ nI (stN v i) = 1 by rw [nI_lit1, nI_eq (by have := st_lt v i; omega) (by omega)]; exact hs)]
theorem cl_mod {I : Nat → Int32} : ∀ (f j : Nat), j ≤ 5 → okI I j → ∀ (v : Nat) (t : Int32), (t = -1 ∨ ∃ i, i < j ∧ t = nI i) → clN I f v t % 1024 = clN I f (v % 1024) t ∧ clN I f v t / 1024 = v / 1024 := by
  intro f
  induction f with
  | zero => intro j _ _ v t _; exact ⟨rfl, rfl⟩
  | succ f ih =>
    intro j hj hok v t ht
    rcases ht with rfl | ⟨i, hi, rfl⟩
    · rw [cl_m1, cl_m1]; exact ⟨rfl, rfl⟩
    · have hi5 : i < 5 := by omega
      rw [cl_s I f v i hi5, cl_s I f _ i hi5, st_mod hi5]
      by_cases hs : stN v i = 1
      · rw [if_pos hs, if_pos hs]
        have hz := ih i (by omega) (fun q hq => hok q (by omega)) (wtN v i 2) (I i) (hok i hi)
        rw [wt_mod hi5 (by omega), wt_div hi5 (by omega)] at hz
        exact hz
      · rw [if_neg hs, if_neg hs]; exact ⟨rfl, rfl⟩
theorem okI_of {n m : Nat} {C : Nat → Nat → Int32} (w : WFc n m C) : okI (C 2) n := fun i hi => (w.2.2.1 i hi).2.2
-- what a step is, once its parts are known
theorem cCo_e {C : Nat → Nat → Int32} {v co : Nat} (h : C 3 (v / 1024) = nI co) (hc : co < 9) : cCo C v = co := by unfold cCo; rw [h, nI_clamp (by omega)]
theorem cT_e {C : Nat → Nat → Int32} {v t : Nat} (h : C 4 (v / 1024) = nI t) (hc : t < 5) : cT C v = t := by unfold cT; rw [h, nI_clamp (by omega)]
theorem cS_e {C : Nat → Nat → Int32} {v t : Nat} (h : C 5 (v / 1024) = nI t) (hc : t < 40) : cS C v = t := by unfold cS; rw [h, nI_clamp (by omega)]
set_option maxHeartbeats 4000000 in
theorem M_done {σ : ST} {n m : Nat} {C : Nat → Nat → Int32} (g : AgM σ n m C) (w : WFc n m C) {v : Nat} (hv : v < 43008) (hk : v / 1024 < m) (hc3 : cCo C v ≤ 3) (hf : sFault C v = 0) : fX6_done σ (nI v) = some (nI (sDone C v)) := by
  have w' := w
  obtain ⟨g1, g2, a0, a1, a2, a3, a4, a5, a6, a7⟩ := g
  obtain ⟨hn, hm, wt, ws⟩ := w
  obtain ⟨co, hco, e3, ht, hs, h6, h7, hkp⟩ := ws _ hk
  rw [cCo_e e3 hco] at hc3
  obtain ⟨t, ht5, e4⟩ := ht (Or.inl hc3)
  have ht5' : t < 5 := by omega
  obtain ⟨w0, w1, -⟩ := wt t ht5
  unfold sFault at hf
  unfold sDone fX6_done fX6_done_L71
  rw [cT_e e4 ht5', cCo_e e3 hco] at hf ⊢
  have hvb : v < 2 ^ 31 := by omega
  have k40 : v / 1024 < 40 := by omega
  simp only [M_place hvb, bd_s, ix_nI k40 (show 40 < 2 ^ 31 by omega), nm_e9, nI_clamp (show v / 1024 < 2 ^ 31 by omega), a3, a4, e3, e4, ix_nI ht5' (show 5 < 2 ^ 31 by omega), nI_clamp (show t < 2 ^ 31 by omega), a0]
  have hs4 := st_lt v t
  have hc4 : co = 0 ∨ co = 1 ∨ co = 2 ∨ co = 3 := by omega
  rcases hc4 with rfl | rfl | rfl | rfl
  · simp only [qN00, qN01, qN02, qN03, qN04, qN05, qN06, qN07, qN08, reduceIte]
    rcases w0 with e | e
    · simp only [e, q01, reduceIte]
      rw [nI_lit1, M_with hvb ht5' (by omega), bd_s]
    · simp only [e, reduceIte]
      have h3 : stN v t < 3 := by
        rcases s_cases hs4 with z | z | z | z
        · omega
        · omega
        · omega
        · rw [e, z] at hf; simp [sFl] at hf
      rw [M_what hvb ht5', bd_s, nI_1, M_with hvb ht5' (by omega), bd_s]
  · simp only [qN10, qN11, qN12, qN13, qN14, qN15, qN16, qN17, qN18, reduceIte, Nat.reduceEqDiff]
  · simp only [qN20, qN21, qN22, qN23, qN24, qN25, qN26, qN27, qN28, reduceIte, Nat.reduceEqDiff]
    rcases w0 with e | e
    · simp only [e, q01, reduceIte]
      exact M_cl a2 n hn (okI_of w') FUEL v 5 (nI t) (Or.inr ⟨t, ht5, rfl⟩) (by unfold FUEL; omega) hn hv
    · simp only [e, reduceIte]
      have h3 : 0 < stN v t := by
        rcases s_cases hs4 with z | z | z | z
        · rw [e, z] at hf; simp [sFl, sHeld] at hf
        · omega
        · omega
        · omega
      obtain ⟨q, hq⟩ : ∃ q, stN v t = q + 1 := ⟨stN v t - 1, by omega⟩
      rw [M_what hvb ht5', bd_s, hq, nI_pred, M_with hvb ht5' (by omega), bd_s, Nat.add_sub_cancel]
  · simp only [qN30, qN31, qN32, qN33, qN34, qN35, qN36, qN37, qN38, reduceIte, Nat.reduceEqDiff]
    rw [show (3 : Int32) = nI 3 from by decide, M_with hvb ht5' (by omega), bd_s]
theorem done_ok {n m : Nat} {C : Nat → Nat → Int32} (w : WFc n m C) {v : Nat} (hv : v < 43008) (hk : v / 1024 < m) (hc3 : cCo C v ≤ 3) (hf : sFault C v = 0) : sDone C v / 1024 = v / 1024 ∧ sDone C v < 43008 := by
  suffices h : sDone C v / 1024 = v / 1024 from ⟨h, by omega⟩
  have w' := w
  obtain ⟨hn, hm, wt, ws⟩ := w
  obtain ⟨co, hco, e3, ht, hs, h6, h7, hkp⟩ := ws _ hk
  have hco3 := hc3
  rw [cCo_e e3 hco] at hc3
  obtain ⟨t, ht5, e4⟩ := ht (Or.inl hc3)
  have ht5' : t < 5 := by omega
  obtain ⟨w0, w1, -⟩ := wt t ht5
  unfold sFault at hf
  unfold sDone
  rw [cT_e e4 ht5', cCo_e e3 hco] at hf ⊢
  have hs4 := st_lt v t
  have hc4 : co = 0 ∨ co = 1 ∨ co = 2 ∨ co = 3 := by omega
  rcases hc4 with rfl | rfl | rfl | rfl
  · simp only [reduceIte]
    rcases w0 with e | e
    · simp only [e, q01, reduceIte]
      exact wt_div ht5' (by omega)
    · simp only [e, reduceIte]
      refine wt_div ht5' ?_
      rcases s_cases hs4 with z | z | z | z
      · omega
      · omega
      · omega
      · rw [e, z] at hf; simp [sFl] at hf
  · simp only [reduceIte, Nat.reduceEqDiff]
  · simp only [reduceIte, Nat.reduceEqDiff]
    rcases w0 with e | e
    · simp only [e, q01, reduceIte]
      exact (cl_mod 5 n hn (okI_of w') v (nI t) (Or.inr ⟨t, ht5, rfl⟩)).2
    · simp only [e, reduceIte]
      exact wt_div ht5' (by omega)
  · simp only [reduceIte, Nat.reduceEqDiff]
    exact wt_div ht5' (by omega)
set_option maxHeartbeats 4000000 in
theorem X_done {σ : ST} {n m : Nat} {C : Nat → Nat → Int32} (g : AgX σ n m C) (w : WFc n m C) {v : Nat} (hv : v < 43008) (hk : v / 1024 < m) (hc3 : cCo C v ≤ 3) (hf : sFault C v = 0) : fX0_afterDoing σ (nI (v / 1024)) (nI (v % 1024)) = some (nI (sDone C v % 1024)) := by
  have w' := w
  obtain ⟨g1, g2, a0, a1, a2, a3, a4, a5, a6, a7⟩ := g
  obtain ⟨hn, hm, wt, ws⟩ := w
  obtain ⟨co, hco, e3, ht, hs, h6, h7, hkp⟩ := ws _ hk
  rw [cCo_e e3 hco] at hc3
  obtain ⟨t, ht5, e4⟩ := ht (Or.inl hc3)
  have ht5' : t < 5 := by omega
  obtain ⟨w0, w1, -⟩ := wt t ht5
  unfold sFault at hf
  unfold sDone fX0_afterDoing fX3_afterOpen fX3_afterClose fX3_afterOpen_L21
  rw [cT_e e4 ht5', cCo_e e3 hco] at hf ⊢
  have ha : v % 1024 < 1024 := by omega
  have hab : v % 1024 < 2 ^ 31 := by omega
  have k40 : v / 1024 < 40 := by omega
  have h0 : σ.2 0 t = 0 ∨ σ.2 0 t = 1 := by rw [a0]; exact w0
  simp only [bd_s, ix_nI k40 (show 40 < 2 ^ 31 by omega), nm_e9, nI_clamp (show v / 1024 < 2 ^ 31 by omega), a3, a4, e3, e4, X_isFile ht5', X_st hab ht5', X_held hab ht5' h0, a0, st_mod ht5']
  have hs4 := st_lt v t
  have hc4 : co = 0 ∨ co = 1 ∨ co = 2 ∨ co = 3 := by omega
  rcases hc4 with rfl | rfl | rfl | rfl
  · simp only [qN00, qN01, qN02, qN03, qN04, qN05, qN06, qN07, qN08, reduceIte]
    rcases w0 with e | e
    · simp only [e, q01, q10, reduceIte]
      rw [nI_lit1, X_with ha ht5' (by omega), bd_s, bd_s, wt_mod ht5' (by omega)]
    · simp only [e, q10, reduceIte]
      have h3 : stN v t < 3 := by
        rcases s_cases hs4 with z | z | z | z
        · omega
        · omega
        · omega
        · rw [e, z] at hf; simp [sFl] at hf
      rw [nI_1, X_with ha ht5' (by omega), bd_s, bd_s, wt_mod ht5' (by omega)]
  · simp only [qN10, qN11, qN12, qN13, qN14, qN15, qN16, qN17, qN18, reduceIte, Nat.reduceEqDiff]
  · simp only [qN20, qN21, qN22, qN23, qN24, qN25, qN26, qN27, qN28, reduceIte, Nat.reduceEqDiff]
    rcases w0 with e | e
    · simp only [e, q01, q10, reduceIte]
      have hcm := (cl_mod 5 n hn (okI_of w') v (nI t) (Or.inr ⟨t, ht5, rfl⟩)).1
      by_cases hs1 : stN v t = 1
      · rw [hs1, show b01 (sHeld 0 1) = 1 from rfl, if_neg (by decide), hcm]
        rw [show (0 : Int32) = nI 0 from by decide, X_cl a2 n hn (okI_of w') FUEL (v % 1024) 0 5 (nI t) (Or.inr ⟨t, ht5, rfl⟩) (by unfold FUEL; omega) hn (by omega) ha, bd_s]
      · have hb : b01 (sHeld 0 (stN v t)) = 0 := by simp [b01, sHeld, hs1]
        rw [hb, if_pos rfl, cl_s _ 4 v t ht5', if_neg hs1]
    · simp only [e, q10, reduceIte]
      have h3 : 0 < stN v t := by
        rcases s_cases hs4 with z | z | z | z
        · rw [e, z] at hf; simp [sFl, sHeld] at hf
        · omega
        · omega
        · omega
      obtain ⟨q, hq⟩ : ∃ q, stN v t = q + 1 := ⟨stN v t - 1, by omega⟩
      have hb : b01 (sHeld 1 (stN v t)) = 1 := by simp [b01, sHeld, h3]
      rw [hb, if_neg (by decide), hq, nI_pred, X_with ha ht5' (by omega), bd_s, bd_s, Nat.add_sub_cancel, wt_mod ht5' (by omega)]
  · simp only [qN30, qN31, qN32, qN33, qN34, qN35, qN36, qN37, qN38, reduceIte, Nat.reduceEqDiff]
    rw [show (3 : Int32) = nI 3 from by decide, X_with ha ht5' (by omega), bd_s, wt_mod ht5' (by omega)]
