/-! ===== from a node to the next ===== -/
theorem bd_i {α : Type} (x : Option α) : (x.bind fun r => some r) = x := by cases x <;> rfl
theorem at_div {m v p : Nat} : atN m v p / 1024 = (if p = 41 ∨ p < m then p else 40) := by unfold atN; omega
theorem at_ok {m v p : Nat} (hm : m ≤ 40) : atN m v p < 43008 ∧ (atN m v p / 1024 < m ∨ 40 ≤ atN m v p / 1024) := by
  have h := at_div (m := m) (v := v) (p := p)
  by_cases c : p = 41 ∨ p < m
  · rw [if_pos c] at h; omega
  · rw [if_neg c] at h; omega
theorem at_mod {m v v' p : Nat} (h : v % 1024 = v' % 1024) : atN m v p = atN m v' p := by unfold atN; rw [h]
theorem X_arr2 {σ : ST} {m p v : Nat} (hm : σ.1 2 = nI m) (hm40 : m ≤ 40) (hp : p < 41) : fX0_arriveAt σ (nI p) (nI (v % 1024)) = some (nI (atN m v p)) := by
  rw [X_arr hm hm40 (by omega) (by omega)]
  unfold atN
  by_cases h : p < m
  · rw [if_pos h, if_pos (Or.inr h)]
  · rw [if_neg h, if_neg (by omega)]
theorem X_throw {σ : ST} {n m : Nat} {C : Nat → Nat → Int32} (g : AgX σ n m C) (w : WFc n m C) {u v : Nat} (hk : v / 1024 < m) (hu : u / 1024 = v / 1024) : fX0_throwFrom σ (nI (v / 1024)) (nI (u % 1024)) = some (nI (thN C m u)) := by
  obtain ⟨g1, g2, a0, a1, a2, a3, a4, a5, a6, a7⟩ := g
  obtain ⟨hn, hm, wt, ws⟩ := w
  obtain ⟨co, hco, e3, ht, hs, h6, h7, hkp⟩ := ws _ hk
  have k40 : v / 1024 < 40 := by omega
  unfold fX0_throwFrom thN
  rw [hu, ix_nI k40 (by omega), nm_e9, nI_clamp (by omega), a7]
  rcases h7 with e | ⟨h, hh, e⟩
  · rw [e, if_pos rfl, if_pos rfl, show (41 : Int32) = nI 41 from by decide, X_node (by omega) (by omega), bd_s]
    unfold atN
    rw [if_pos (Or.inl rfl)]
  · rw [e, if_neg (nI_m1 (by omega)), if_neg (nI_m1 (by omega)), nI_clamp (by omega), X_arr2 g2 hm (by omega), bd_s]
theorem M_throw {σ : ST} {n m : Nat} {C : Nat → Nat → Int32} (g : AgM σ n m C) (w : WFc n m C) {u : Nat} (hu : u < 43008) (hk : u / 1024 < m) : fX6_throwsTo σ (nI u) = some (nI (thN C m u)) := by
  obtain ⟨g1, g2, a0, a1, a2, a3, a4, a5, a6, a7⟩ := g
  obtain ⟨hn, hm, wt, ws⟩ := w
  obtain ⟨co, hco, e3, ht, hs, h6, h7, hkp⟩ := ws _ hk
  have k40 : u / 1024 < 40 := by omega
  unfold fX6_throwsTo fX6_throwsTo_L23 thN
  rw [M_place (by omega), bd_s, ix_nI k40 (by omega), nm_e9, nI_clamp (by omega), a7]
  rcases h7 with e | ⟨h, hh, e⟩
  · rw [e, if_pos rfl, if_pos rfl, show (41 : Int32) = nI 41 from by decide, M_at g2 hm (by omega) (by omega), bd_s]
  · rw [e, if_neg (nI_m1 (by omega)), if_neg (nI_m1 (by omega)), nI_clamp (by omega), M_at g2 hm (by omega) (by omega), bd_s]
theorem sFl_in (co : Nat) (so le : Int32) (s : Nat) : sFl co so le s = 0 ∨ (2 ≤ sFl co so le s ∧ sFl co so le s ≤ 4) := by
  unfold sFl
  repeat' split
  all_goals omega
theorem sFault_in (C : Nat → Nat → Int32) (v : Nat) : sFault C v = 0 ∨ (2 ≤ sFault C v ∧ sFault C v ≤ 4) := sFl_in _ _ _ _
theorem b01_t : b01 true = 1 := rfl
theorem b01_f : b01 false = 0 := rfl
theorem b01_0 (b : Bool) : (b01 b = 0) = (b = false) := by cases b <;> simp [b01]
theorem b01_1 (b : Bool) : (b01 b = 1) = (b = true) := by cases b <;> simp [b01]
set_option maxHeartbeats 4000000 in
theorem X_next {σ : ST} {n m : Nat} {C : Nat → Nat → Int32} (g : AgX σ n m C) (w : WFc n m C) {v : Nat} (hv : v < 43008) (hk : v / 1024 < m) (ch : Bool) : fX0_follow σ (nI v) (if sFault C v = 0 then -1 else nI (sFault C v)) (b01 ch) = some (nI (sNext C m v ch)) := by
  have g' := g
  have w' := w
  obtain ⟨g1, g2, a0, a1, a2, a3, a4, a5, a6, a7⟩ := g
  obtain ⟨hn, hm, wt, ws⟩ := w
  obtain ⟨co, hco, e3, ht, hs, h6, h7, hkp⟩ := ws _ hk
  have k40 : v / 1024 < 40 := by omega
  have hvb : v < 2 ^ 31 := by omega
  have hd := X_done g' w' hv hk
  have hdo := done_ok w' hv hk
  have hth := X_throw g' w' (u := v) hk rfl
  have ec := cCo_e e3 hco
  unfold sNext fX0_follow fX0_follow_L82 fX0_follow_L146 fX0_follow_L215
  simp only [X_place hvb, X_all hvb, bd_s, ix_nI k40 (show 40 < 2 ^ 31 by omega), nm_e9, nI_clamp (show v / 1024 < 2 ^ 31 by omega), a3, a4, a5, e3, ec, b01_0, nI_1]
  by_cases hc : co ≤ 3
  · rw [ec] at hd hdo
    have hc4 : co = 0 ∨ co = 1 ∨ co = 2 ∨ co = 3 := by omega
    have key : (if (if sFault C v = 0 then (-1 : Int32) else nI (sFault C v)) = -1 then ((fX0_afterDoing σ (nI (v / 1024)) (nI (v % 1024))).bind fun r171 => if ch = false then (fX0_arriveAt σ (nI (v / 1024 + 1)) r171) else (if nI co = 2 then (fX0_throwFrom σ (nI (v / 1024)) r171) else (fX0_throwFrom σ (nI (v / 1024)) (nI (v % 1024))))) else (fX0_throwFrom σ (nI (v / 1024)) (nI (v % 1024)))) = some (nI (if ¬ sFault C v = 0 then thN C m v else if ch = true then thN C m (if co = 2 then sDone C v else v) else atN m (sDone C v) (v / 1024 + 1))) := by
      by_cases hf : sFault C v = 0
      · rw [if_pos hf, if_pos rfl, if_neg (by simp [hf]), hd hc hf, bd_s]
        cases ch with
        | false =>
          rw [if_pos rfl, if_neg (by decide), X_arr2 g2 hm (by omega)]
        | true =>
          rw [if_neg (by decide), if_pos rfl]
          by_cases h2 : co = 2
          · subst h2
            rw [if_pos (by decide), if_pos rfl, X_throw g' w' hk (hdo hc hf).1]
          · rw [if_neg (show ¬ nI co = 2 by rw [show (2 : Int32) = nI 2 from by decide, nI_eq (by omega) (by omega)]; exact h2), if_neg h2, hth]
      · have hin := sFault_in C v
        rw [if_neg hf, if_neg (nI_m1 (by omega)), if_pos hf, hth]
    rcases hc4 with rfl | rfl | rfl | rfl
    · simp only [qN00, qN01, qN02, qN03, qN04, qN05, qN06, qN07, qN08, reduceIte, Nat.reduceEqDiff] at key ⊢
      simp only [bd_i]
      exact key
    · simp only [qN10, qN11, qN12, qN13, qN14, qN15, qN16, qN17, qN18, reduceIte, Nat.reduceEqDiff] at key ⊢
      simp only [bd_i]
      exact key
    · simp only [qN20, qN21, qN22, qN23, qN24, qN25, qN26, qN27, qN28, reduceIte, Nat.reduceEqDiff] at key ⊢
      simp only [bd_i]
      exact key
    · simp only [qN30, qN31, qN32, qN33, qN34, qN35, qN36, qN37, qN38, reduceIte, Nat.reduceEqDiff] at key ⊢
      simp only [bd_i]
      exact key
  · have hc5 : co = 4 ∨ co = 5 ∨ co = 6 ∨ co = 7 ∨ co = 8 := by omega
    rcases hc5 with rfl | rfl | rfl | rfl | rfl
    · obtain ⟨s, hs40, e5⟩ := hs (Or.inl rfl)
      simp only [qN40, qN41, qN42, qN43, qN44, qN45, qN46, qN47, qN48, reduceIte, Nat.reduceEqDiff, e5, cS_e e5 hs40]
      cases ch with
      | false => simp only [reduceIte, X_arr2 g2 hm (show v / 1024 + 1 < 41 by omega), bd_s, Bool.false_eq_true]
      | true => simp only [reduceIte, X_arr2 g2 hm (show s < 41 by omega), bd_s, Bool.true_eq_false]
    · obtain ⟨s, hs40, e5⟩ := hs (Or.inr (Or.inl rfl))
      simp only [qN50, qN51, qN52, qN53, qN54, qN55, qN56, qN57, qN58, reduceIte, Nat.reduceEqDiff, e5, cS_e e5 hs40, X_arr2 g2 hm (show s < 41 by omega), bd_s]
    · simp only [qN60, qN61, qN62, qN63, qN64, qN65, qN66, qN67, qN68, reduceIte, Nat.reduceEqDiff]
      rw [show (40 : Int32) = nI 40 from by decide, X_node (by omega) (by omega), bd_s]
      unfold atN
      rw [if_neg (by omega)]
    · simp only [qN70, qN71, qN72, qN73, qN74, qN75, qN76, qN77, qN78, reduceIte, Nat.reduceEqDiff, hth, bd_s]
    · obtain ⟨s, hs40, e5⟩ := hs (Or.inr (Or.inr rfl))
      obtain ⟨t, ht5, e4⟩ := ht (Or.inr rfl)
      have ht5' : t < 5 := by omega
      have h0 : σ.2 0 t = 0 ∨ σ.2 0 t = 1 := by rw [a0]; exact (wt t ht5).1
      simp only [qN80, qN81, qN82, qN83, qN84, qN85, qN86, qN87, qN88, reduceIte, Nat.reduceEqDiff, e5, cS_e e5 hs40, e4, cT_e e4 ht5', X_held (show v % 1024 < 2 ^ 31 by omega) ht5' h0, a0, st_mod ht5', bd_s, b01_0]
      cases sHeld (C 0 t) (stN v t) with
      | false => simp only [reduceIte, X_arr2 g2 hm (show v / 1024 + 1 < 41 by omega), bd_s, Bool.false_eq_true]
      | true => simp only [reduceIte, X_arr2 g2 hm (show s < 41 by omega), bd_s, Bool.true_eq_false]
theorem i_le0 {a : Nat} (h : a < 2 ^ 31) : (nI a ≤ 0) = (a = 0) := by
  rw [nI_lit0, nI_leI h (by omega)]
  simp
set_option maxHeartbeats 4000000 in
theorem M_next {σ : ST} {n m : Nat} {C : Nat → Nat → Int32} (g : AgM σ n m C) (w : WFc n m C) {v : Nat} (hv : v < 43008) (hk : v / 1024 < m) (ch : Bool) : fX6_next σ (nI v) (b01 ch) = some (nI (sNext C m v ch)) := by
  have g' := g
  have w' := w
  obtain ⟨g1, g2, a0, a1, a2, a3, a4, a5, a6, a7⟩ := g
  obtain ⟨hn, hm, wt, ws⟩ := w
  obtain ⟨co, hco, e3, ht, hs, h6, h7, hkp⟩ := ws _ hk
  have k40 : v / 1024 < 40 := by omega
  have hvb : v < 2 ^ 31 := by omega
  have hd := M_done g' w' hv hk
  have hdo := done_ok w' hv hk
  have hth := M_throw g' w' hv hk
  have hfa := M_fault g' w' hv hk
  have hin := sFault_in C v
  have ec := cCo_e e3 hco
  unfold sNext fX6_next fX6_next_L62 fX6_next_L120 fX6_next_L163
  simp only [M_place hvb, bd_s, bd_i, ix_nI k40 (show 40 < 2 ^ 31 by omega), nm_e9, nI_clamp (show v / 1024 < 2 ^ 31 by omega), a3, a4, a5, e3, ec, b01_0, b01_1, nI_1, hfa, i_le0 (show sFault C v < 2 ^ 31 by omega)]
  by_cases hc : co ≤ 3
  · rw [ec] at hd hdo
    have hc4 : co = 0 ∨ co = 1 ∨ co = 2 ∨ co = 3 := by omega
    have key : (if sFault C v = 0 then (if ch = true then (if nI co = 2 then ((fX6_done σ (nI v)).bind fun r156 => fX6_throwsTo σ r156) else (fX6_throwsTo σ (nI v))) else ((fX6_done σ (nI v)).bind fun r170 => fX6_at σ r170 (nI (v / 1024 + 1)))) else (fX6_throwsTo σ (nI v))) = some (nI (if ¬ sFault C v = 0 then thN C m v else if ch = true then thN C m (if co = 2 then sDone C v else v) else atN m (sDone C v) (v / 1024 + 1))) := by
      by_cases hf : sFault C v = 0
      · rw [if_pos hf, if_neg (show ¬ ¬ sFault C v = 0 by simp [hf]), hd hc hf]
        have hdk : sDone C v / 1024 < m := by rw [(hdo hc hf).1]; exact hk
        cases ch with
        | false =>
          rw [if_neg (by decide), if_neg (by decide), bd_s, M_at g2 hm (by omega) (by have := (hdo hc hf).2; omega)]
        | true =>
          rw [if_pos rfl, if_pos rfl]
          by_cases h2 : co = 2
          · subst h2
            rw [if_pos (by decide), if_pos rfl, bd_s, M_throw g' w' (hdo hc hf).2 hdk]
          · rw [if_neg (show ¬ nI co = 2 by rw [show (2 : Int32) = nI 2 from by decide, nI_eq (by omega) (by omega)]; exact h2), if_neg h2, hth]
      · rw [if_neg hf, if_pos hf, hth]
    rcases hc4 with rfl | rfl | rfl | rfl
    · simp only [qN00, qN01, qN02, qN03, qN04, qN05, qN06, qN07, qN08, reduceIte, Nat.reduceEqDiff] at key ⊢
      exact key
    · simp only [qN10, qN11, qN12, qN13, qN14, qN15, qN16, qN17, qN18, reduceIte, Nat.reduceEqDiff] at key ⊢
      exact key
    · simp only [qN20, qN21, qN22, qN23, qN24, qN25, qN26, qN27, qN28, reduceIte, Nat.reduceEqDiff] at key ⊢
      exact key
    · simp only [qN30, qN31, qN32, qN33, qN34, qN35, qN36, qN37, qN38, reduceIte, Nat.reduceEqDiff] at key ⊢
      exact key
  · have hc5 : co = 4 ∨ co = 5 ∨ co = 6 ∨ co = 7 ∨ co = 8 := by omega
    rcases hc5 with rfl | rfl | rfl | rfl | rfl
    · obtain ⟨s, hs40, e5⟩ := hs (Or.inl rfl)
      simp only [qN40, qN41, qN42, qN43, qN44, qN45, qN46, qN47, qN48, reduceIte, Nat.reduceEqDiff, e5, cS_e e5 hs40]
      cases ch with
      | false => simp only [reduceIte, M_at g2 hm (show v / 1024 + 1 < 1000 by omega) hvb, bd_s, Bool.false_eq_true]
      | true => simp only [reduceIte, M_at g2 hm (show s < 1000 by omega) hvb, bd_s, Bool.true_eq_false]
    · obtain ⟨s, hs40, e5⟩ := hs (Or.inr (Or.inl rfl))
      simp only [qN50, qN51, qN52, qN53, qN54, qN55, qN56, qN57, qN58, reduceIte, Nat.reduceEqDiff, e5, cS_e e5 hs40, M_at g2 hm (show s < 1000 by omega) hvb, bd_s]
    · simp only [qN60, qN61, qN62, qN63, qN64, qN65, qN66, qN67, qN68, reduceIte, Nat.reduceEqDiff]
      rw [show (40 : Int32) = nI 40 from by decide, M_at g2 hm (by omega) hvb]
    · simp only [qN70, qN71, qN72, qN73, qN74, qN75, qN76, qN77, qN78, reduceIte, Nat.reduceEqDiff, hth, bd_s]
    · obtain ⟨s, hs40, e5⟩ := hs (Or.inr (Or.inr rfl))
      obtain ⟨t, ht5, e4⟩ := ht (Or.inr rfl)
      have ht5' : t < 5 := by omega
      have h0 : σ.2 0 t = 0 ∨ σ.2 0 t = 1 := by rw [a0]; exact (wt t ht5).1
      simp only [qN80, qN81, qN82, qN83, qN84, qN85, qN86, qN87, qN88, reduceIte, Nat.reduceEqDiff, e5, cS_e e5 hs40, e4, cT_e e4 ht5', M_held hvb ht5' h0, a0, bd_s, b01_0]
      cases sHeld (C 0 t) (stN v t) with
      | false => simp only [reduceIte, M_at g2 hm (show v / 1024 + 1 < 1000 by omega) hvb, bd_s, Bool.false_eq_true]
      | true => simp only [reduceIte, M_at g2 hm (show s < 1000 by omega) hvb, bd_s, Bool.true_eq_false]
theorem next_ok {n m : Nat} {C : Nat → Nat → Int32} (w : WFc n m C) {v : Nat} (ch : Bool) : sNext C m v ch < 43008 ∧ (sNext C m v ch / 1024 < m ∨ 40 ≤ sNext C m v ch / 1024) := by
  unfold sNext thN
  repeat' split
  all_goals exact at_ok w.2.1
set_option maxHeartbeats 4000000 in
theorem X_two {σ : ST} {n m : Nat} {C : Nat → Nat → Int32} (g : AgX σ n m C) (w : WFc n m C) {v : Nat} (hv : v < 43008) (hk : v / 1024 < m) : fX0_hasTwoChoices σ (nI v) (if sFault C v = 0 then -1 else nI (sFault C v)) = some (b01 (sTwo C v)) := by
  obtain ⟨g1, g2, a0, a1, a2, a3, a4, a5, a6, a7⟩ := g
  obtain ⟨hn, hm, wt, ws⟩ := w
  obtain ⟨co, hco, e3, ht, hs, h6, h7, hkp⟩ := ws _ hk
  have k40 : v / 1024 < 40 := by omega
  have hvb : v < 2 ^ 31 := by omega
  have hin := sFault_in C v
  have ec := cCo_e e3 hco
  have hff : ((if sFault C v = 0 then (-1 : Int32) else nI (sFault C v)) = -1) = (sFault C v = 0) := by
    by_cases hf : sFault C v = 0
    · simp [hf]
    · rw [if_neg hf]; simp [hf, nI_m1 (show sFault C v < 2 ^ 31 by omega)]
  unfold fX0_hasTwoChoices sTwo
  simp only [X_place hvb, bd_s, ix_nI k40 (show 40 < 2 ^ 31 by omega), nm_e9, nI_clamp (show v / 1024 < 2 ^ 31 by omega), a3, a6, e3, ec, hff]
  rcases co_cases hco with rfl | rfl | rfl | rfl | rfl | rfl | rfl | rfl | rfl
  all_goals rcases h6 with e | e
  all_goals rw [e]
  all_goals by_cases hf : sFault C v = 0
  all_goals simp only [hf]
  all_goals first | rfl | decide
set_option maxHeartbeats 4000000 in
theorem M_two {σ : ST} {n m : Nat} {C : Nat → Nat → Int32} (g : AgM σ n m C) (w : WFc n m C) {v : Nat} (hv : v < 43008) (hk : v / 1024 < m) : fX6_isTwofold σ (nI v) = some (b01 (sTwo C v)) := by
  have hfa := M_fault g w hv hk
  obtain ⟨g1, g2, a0, a1, a2, a3, a4, a5, a6, a7⟩ := g
  obtain ⟨hn, hm, wt, ws⟩ := w
  obtain ⟨co, hco, e3, ht, hs, h6, h7, hkp⟩ := ws _ hk
  have k40 : v / 1024 < 40 := by omega
  have hvb : v < 2 ^ 31 := by omega
  have hin := sFault_in C v
  have ec := cCo_e e3 hco
  have hff : (nI (sFault C v) = 0) = (sFault C v = 0) := by
    rw [nI_lit0, nI_eq (by omega) (by omega)]
  unfold fX6_isTwofold sTwo fX6_isTwofold_L43
  simp only [M_place hvb, bd_s, ix_nI k40 (show 40 < 2 ^ 31 by omega), nm_e9, nI_clamp (show v / 1024 < 2 ^ 31 by omega), a3, a6, e3, ec, hfa, hff]
  rcases co_cases hco with rfl | rfl | rfl | rfl | rfl | rfl | rfl | rfl | rfl
  all_goals rcases h6 with e | e
  all_goals rw [e]
  all_goals by_cases hf : sFault C v = 0
  all_goals simp only [hf]
  all_goals first | rfl | decide
