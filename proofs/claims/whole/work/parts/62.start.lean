theorem sg0 : (Cond.instantiable RX0 2) ∈ WG := wg_1 80 rfl rfl
theorem sg1 : (Cond.instantiable RX1 14) ∈ WG := wg_1 93 rfl rfl
theorem sg2 : (Cond.instantiable RX2 6) ∈ WG := wg_1 42 rfl rfl
theorem sg3 : (Cond.instantiable RX3 4) ∈ WG := wg_1 19 rfl rfl
theorem sg4 : (Cond.instantiable RX4 7) ∈ WG := wg_1 150 rfl rfl
theorem sg5 : (Cond.instantiable RX5 6) ∈ WG := wg_1 11 rfl rfl
theorem sg6 : (Cond.instantiable RX6 22) ∈ WG := wg_2 223 rfl rfl
theorem sg7 : (Cond.classLink RL 7 RX5) ∈ WG := wg_1 10 rfl rfl
theorem sg8 : (Cond.classLink RL 10 RX6) ∈ WG := wg_2 222 rfl rfl
theorem sg9 : (Cond.initialized RX5) ∈ WG := wg_1 1 rfl rfl
theorem sg10 : (Cond.initialized RX6) ∈ WG := wg_1 7 rfl rfl
theorem sg11 : (Cond.code yX5_init cX5_init 1 none) ∈ WG := wg_1 14 rfl rfl
theorem sg12 : (Cond.code yX6_init cX6_init 1 none) ∈ WG := wg_2 226 rfl rfl
theorem sg13 : (Cond.methodLink RL 9 yX5_init) ∈ WG := wg_1 12 rfl rfl
theorem sg14 : (Cond.methodLink RL 12 yX6_init) ∈ WG := wg_2 224 rfl rfl
theorem sg15 : (Cond.instanceMethod yX5_init) ∈ WG := wg_1 13 rfl rfl
theorem sg16 : (Cond.instanceMethod yX6_init) ∈ WG := wg_2 225 rfl rfl
theorem dAX {A : Nat → Prop} {a : Nat → Nat} {k : Nat → ClassId} {σ : ST} (h : va_D A (wX a k σ)) : va_D (AX a) (wX a k σ) := by
  refine ⟨h.1, fun j q hq => ?_⟩
  have h1 : ((wX a k σ).map Prod.fst)[j]? = some q.1 := by rw [List.getElem?_map, hq]; rfl
  rw [show (wX a k σ).map Prod.fst = (List.range 21).map a from rfl, List.getElem?_map] at h1
  have hj : j < 21 := by
    have := (List.getElem?_eq_some_iff.mp hq).1
    exact this
  rw [List.getElem?_range hj] at h1
  exact ⟨j, hj, (Option.some.inj h1).symm⟩
theorem dAM {A : Nat → Prop} {a : Nat → Nat} {k : Nat → ClassId} {σ : ST} (h : va_D A (wM a k σ)) : va_D (AM a) (wM a k σ) := by
  refine ⟨h.1, fun j q hq => ?_⟩
  have h1 : ((wM a k σ).map Prod.fst)[j]? = some q.1 := by rw [List.getElem?_map, hq]; rfl
  rw [show (wM a k σ).map Prod.fst = (List.range 14).map a from rfl, List.getElem?_map] at h1
  have hj : j < 14 := by
    have := (List.getElem?_eq_some_iff.mp hq).1
    exact this
  rw [List.getElem?_range hj] at h1
  exact ⟨j, hj, (Option.some.inj h1).symm⟩
theorem atX {a : Nat → Nat} {k : Nat → ClassId} {σ : ST} {j : Nat} (hj : j < 21) : ∃ q, (wX a k σ)[j]? = some q ∧ q.1 = a j := by
  have hl : j < (wX a k σ).length := hj
  refine ⟨(wX a k σ)[j], List.getElem?_eq_getElem hl, ?_⟩
  have h1 : ((wX a k σ).map Prod.fst)[j]? = some ((wX a k σ)[j]).1 := by rw [List.getElem?_map, List.getElem?_eq_getElem hl]; rfl
  rw [show (wX a k σ).map Prod.fst = (List.range 21).map a from rfl, List.getElem?_map, List.getElem?_range hj] at h1
  exact (Option.some.inj h1).symm
theorem atM {a : Nat → Nat} {k : Nat → ClassId} {σ : ST} {j : Nat} (hj : j < 14) : ∃ q, (wM a k σ)[j]? = some q ∧ q.1 = a j := by
  have hl : j < (wM a k σ).length := hj
  refine ⟨(wM a k σ)[j], List.getElem?_eq_getElem hl, ?_⟩
  have h1 : ((wM a k σ).map Prod.fst)[j]? = some ((wM a k σ)[j]).1 := by rw [List.getElem?_map, List.getElem?_eq_getElem hl]; rfl
  rw [show (wM a k σ).map Prod.fst = (List.range 14).map a from rfl, List.getElem?_map, List.getElem?_range hj] at h1
  exact (Option.some.inj h1).symm
set_option maxHeartbeats 4000000 in
set_option maxRecDepth 100000 in
/-- THE LAW, from its entry -/
theorem whole_start {p : Program} {e : Env} {s : State} {m : MethodId} {below : List Frame} {meth : Method} {c : Code} (l : Launch) {b L : Nat} {xs : Nat → Int32} (hL : L ≤ 3584) (C0 : lw_At p s m meth c b L xs) : W p l e room_1 s m #[Value.ref b] below meth c s.heap [] 0 0 (lw_Z below #[Value.ref b] s) (entryFrame m ([Value.ref b] : List Value).toArray 4) := by
  obtain ⟨hx, hb, hr, hml, hown, hts, hX, hbl, hlocks, hgv⟩ := id C0
  have hW : ∀ w ∈ WG, w.before #[Value.ref b] s = true := fun w h => hts w (List.mem_filter.mp h).1
  have hNW : NWs s := NWs.start hts
  have hA : ∀ q : Nat, s.heap.size ≤ q → (fun q : Nat => s.heap.size ≤ q) q := fun _ h => h
  obtain ⟨c0, iS0, hKn0⟩ := u_known (C := RX0) (T := TX0) (N := 2) (n := 2) hW inX0G (hW _ sg0)
  obtain ⟨c1, iS1, hKn1⟩ := u_known (C := RX1) (T := TX1) (N := 14) (n := 14) hW inX1G (hW _ sg1)
  obtain ⟨c2, iS2, hKn2⟩ := u_known (C := RX2) (T := TX2) (N := 6) (n := 6) hW inX2G (hW _ sg2)
  obtain ⟨c3, iS3, hKn3⟩ := u_known (C := RX3) (T := TX3) (N := 4) (n := 4) hW inX3G (hW _ sg3)
  obtain ⟨c4, iS4, hKn4⟩ := u_known (C := RX4) (T := TX4) (N := 7) (n := 7) hW inX4G (hW _ sg4)
  obtain ⟨c5, iS5, hKn5⟩ := u_known (C := RX5) (T := TX5) (N := 6) (n := 6) hW inX5G (hW _ sg5)
  obtain ⟨c6, iS6, hKn6⟩ := u_known (C := RX6) (T := TX6) (N := 22) (n := 22) hW inX6G (hW _ sg6)
  obtain ⟨dC, dI, hKc⟩ : ∃ (dC : Nat → ClassId) (dI : Nat → Nat → Nat), ∀ (k : Nat) (q : vw_C), vwCl[k]? = some q → u_Kn s q.1 q.2.1 q.2.2 (dC k) (dI k) := by
    refine ⟨fun k => if k = 0 then c0 else if k = 1 then c1 else if k = 2 then c2 else if k = 3 then c3 else if k = 4 then c4 else if k = 5 then c5 else c6, fun k => if k = 0 then iS0 else if k = 1 then iS1 else if k = 2 then iS2 else if k = 3 then iS3 else if k = 4 then iS4 else if k = 5 then iS5 else iS6, ?_⟩
    intro k q hq
    match k, hq with
    | 0, hq => cases hq; exact hKn0
    | 1, hq => cases hq; exact hKn1
    | 2, hq => cases hq; exact hKn2
    | 3, hq => cases hq; exact hKn3
    | 4, hq => cases hq; exact hKn4
    | 5, hq => cases hq; exact hKn5
    | 6, hq => cases hq; exact hKn6
    | k + 7, hq => simp [vwCl] at hq
  generalize hDe : (dC, dI) = D at *
  have hKc : ∀ (k : Nat) (q : vw_C), vwCl[k]? = some q → u_Kn s q.1 q.2.1 q.2.2 (D.1 k) (D.2 k) := by rw [← hDe]; exact hKc
  have hS : va_S (fun q : Nat => s.heap.size ≤ q) s.heap s.heap [] := va_S.rf
  have hK : va_K D vwCl [] s := ⟨hKc, fun k q h => by simp at h⟩
  have hP : va_P D vwCl [] s.heap := fun k q h => by simp at h
  have hD : va_D (fun q : Nat => s.heap.size ≤ q) [] := ⟨fun i j p q h => by simp at h, fun k q h => by simp at h⟩
  have hl := lv_entry ([.ref b]) (n := 4) (Nat.le_of_ble_eq_true rfl)
  rw [lg_entry_eq]
  generalize (lg_sl ([.ref b]) ++ List.replicate (4 - (lg_sl ([.ref b])).length) Slot.unset).toArray = ls at hl ⊢
  have hl : lv_has ls 4 [(0, .ref b)] := hl
  refine va_new (ci := 5) (fs := [.null, .null, .null, .null, .null, .int 0]) (C := RX5) (T := TX5) (N := 6) hx hb hW inX5G tyX5 tyX5_ok hown (hW _ sg7) (hW _ sg5) (hW _ sg9) hK hP hD hS hA rfl (fun j hj => by rcases (show j = 0 ∨ j = 1 ∨ j = 2 ∨ j = 3 ∨ j = 4 ∨ j = 5 by omega) with rfl | rfl | rfl | rfl | rfl | rfl <;> rfl) (Nat.le_of_ble_eq_true rfl) (Nat.le_of_ble_eq_true rfl) dL_law_0 (fun q0 H hP hD hS => ?_)
  have hP : va_P D vwCl [(q0, .inr (5, [.null, .null, .null, .null, .null, .int 0]))] H := hP
  have hD : va_D (fun q : Nat => s.heap.size ≤ q) [(q0, .inr (5, [.null, .null, .null, .null, .null, .int 0]))] := hD
  refine W.widen (k := 1) (n := 6) (Nat.le_of_ble_eq_true rfl) (Nat.le_of_ble_eq_true rfl) ?_
  refine lv_dup hx hb dL_law_3 rfl ?_
  have hPc := hP.sub (ws' := [(q0, .inr (5, [.null, .null, .null, .null, .null, .int 0]))]) [0] rfl
  have hDc := hD.sub (ws' := [(q0, .inr (5, [.null, .null, .null, .null, .null, .int 0]))]) [0] (by decide) rfl
  have hKc := hK.sub (tys' := []) [] rfl
  have hFc := va_free (wc := [(q0, .inr (5, [.null, .null, .null, .null, .null, .int 0]))]) hD hS hA [0] rfl
  refine va_callv (va_runI (As := []) (rest := [.ref q0]) ⟨hx, hb, hml, hown, hts⟩ (kX5_init l D q0 H.size) ⟨callB_of 0 hts (wg_l sg11) rfl rfl rfl (hW _ sg9) (hW _ sg13) hdX5_init ⟨Nat.le_of_ble_eq_true rfl, Nat.le_of_ble_eq_true rfl⟩, rfl, hW _ sg15⟩ (pz_S hKc hNW hPc (hDc.weaken (fun _ _ _ _ => trivial))) rfl rfl hl.1 rfl (lv_room (Nat.le_of_ble_eq_true rfl)) dL_law_4 ⟨Nat.le_of_ble_eq_true rfl, Nat.le_of_ble_eq_true rfl⟩) hS (fun q _ h => hFc q h) hFc (fun u t H1 locs ht hvm hw hB hz1 hk1 hS => ?_)
  obtain ⟨a, k, ea, hP1, hK1, hD1⟩ := hB
  rw [ht] at hP1
  have hK1 := va_K.moved hvm.symm hK1
  obtain ⟨hP, hD⟩ := va_join (wr := []) (w1 := wX a k z0) hP hD [0] [] rfl rfl (by decide) (by decide) hk1 hFc hP1 hD1
  have hKX : va_K D vwCl (tX k) s := hK1
  generalize H1 = H at hP hS ⊢
  have hP : va_P D vwCl (wX a k z0) H := hP
  have hD : va_D (fun q : Nat => s.heap.size ≤ q) (wX a k z0) := hD
  rw [← ea]
  refine W.widen (k := 21) (n := 86672) (Nat.le_of_ble_eq_true rfl) (Nat.le_of_ble_eq_true rfl) ?_
  refine lv_astore_n (lv' := [(1, .ref (a 0)), (0, .ref b)]) hx hb dL_law_7 rfl hl (by decide) rfl (fun ls hl => ?_)
  refine va_new (ci := 6) (fs := [.int 0, .null, .null, .null, .int 0, .null, .null, .null, .null, .null, .int 0, .null, .int 0, .null, .null, .null, .int 0, .int 0, .null, .int 0, .int 0, .int 0]) (C := RX6) (T := TX6) (N := 22) hx hb hW inX6G tyX6 tyX6_ok hown (hW _ sg8) (hW _ sg6) (hW _ sg10) hK hP hD hS hA rfl (fun j hj => by rcases (show j = 0 ∨ j = 1 ∨ j = 2 ∨ j = 3 ∨ j = 4 ∨ j = 5 ∨ j = 6 ∨ j = 7 ∨ j = 8 ∨ j = 9 ∨ j = 10 ∨ j = 11 ∨ j = 12 ∨ j = 13 ∨ j = 14 ∨ j = 15 ∨ j = 16 ∨ j = 17 ∨ j = 18 ∨ j = 19 ∨ j = 20 ∨ j = 21 by omega) with rfl | rfl | rfl | rfl | rfl | rfl | rfl | rfl | rfl | rfl | rfl | rfl | rfl | rfl | rfl | rfl | rfl | rfl | rfl | rfl | rfl | rfl <;> rfl) (Nat.le_of_ble_eq_true rfl) (Nat.le_of_ble_eq_true rfl) dL_law_8 (fun q8 H hP hD hS => ?_)
  refine W.widen (k := 22) (n := 86694) (Nat.le_of_ble_eq_true rfl) (Nat.le_of_ble_eq_true rfl) ?_
  refine lv_dup hx hb dL_law_11 rfl ?_
  have hPc := hP.sub (ws' := [(q8, .inr (6, [.int 0, .null, .null, .null, .int 0, .null, .null, .null, .null, .null, .int 0, .null, .int 0, .null, .null, .null, .int 0, .int 0, .null, .int 0, .int 0, .int 0]))]) [21] rfl
  have hDc := hD.sub (ws' := [(q8, .inr (6, [.int 0, .null, .null, .null, .int 0, .null, .null, .null, .null, .null, .int 0, .null, .int 0, .null, .null, .null, .int 0, .int 0, .null, .int 0, .int 0, .int 0]))]) [21] (by decide) rfl
  have hFc := va_free (wc := [(q8, .inr (6, [.int 0, .null, .null, .null, .int 0, .null, .null, .null, .null, .null, .int 0, .null, .int 0, .null, .null, .null, .int 0, .int 0, .null, .int 0, .int 0, .int 0]))]) hD hS hA [21] rfl
  refine va_callv (va_runI (As := []) (rest := [.ref q8]) ⟨hx, hb, hml, hown, hts⟩ (kX6_init l D q8 H.size) ⟨callB_of 0 hts (wg_l sg12) rfl rfl rfl (hW _ sg10) (hW _ sg14) hdX6_init ⟨Nat.le_of_ble_eq_true rfl, Nat.le_of_ble_eq_true rfl⟩, rfl, hW _ sg16⟩ (pz_S hKc hNW hPc (hDc.weaken (fun _ _ _ _ => trivial))) rfl rfl hl.1 rfl (lv_room (Nat.le_of_ble_eq_true rfl)) dL_law_12 ⟨Nat.le_of_ble_eq_true rfl, Nat.le_of_ble_eq_true rfl⟩) hS (fun q _ h => hFc q h) hFc (fun u t H1 locs ht hvm hw hB hz1 hk1 hS => ?_)
  obtain ⟨a2, k2, ea2, hP1, hK1, hD1⟩ := hB
  rw [ht] at hP1
  have hK1 := va_K.moved hvm.symm hK1
  obtain ⟨hP, hD⟩ := va_join (wr := wX a k z0) (w1 := wM a2 k2 z0) hP hD [21] [0, 1, 2, 3, 4, 5, 6, 7, 8, 9, 10, 11, 12, 13, 14, 15, 16, 17, 18, 19, 20] rfl rfl (by decide) (by decide) hk1 hFc hP1 hD1
  have hKM : va_K D vwCl (tM k2) s := hK1
  generalize H1 = H at hP hS ⊢
  rw [← ea2]
  refine W.widen (k := 600000) (n := 7302250) (Nat.le_of_ble_eq_true rfl) (Nat.le_of_ble_eq_true rfl) ?_
  refine lv_astore_n (lv' := [(2, .ref (a2 0)), (1, .ref (a 0)), (0, .ref b)]) hx hb dL_law_15 rfl hl (by decide) rfl (fun ls hl => ?_)
  refine lv_iconst (v := 0) hx hb dL_law_16 (by decide) ?_
  refine lv_istore_n (lv' := [(3, .int 0), (2, .ref (a2 0)), (1, .ref (a 0)), (0, .ref b)]) hx hb dL_law_17 rfl hl (by decide) rfl (fun ls hl => ?_)
  have hPX := hP.sub (ws' := wX a k z0) [0, 1, 2, 3, 4, 5, 6, 7, 8, 9, 10, 11, 12, 13, 14, 15, 16, 17, 18, 19, 20] rfl
  have hPM := hP.sub (ws' := wM a2 k2 z0) [21, 22, 23, 24, 25, 26, 27, 28, 29, 30, 31, 32, 33, 34] rfl
  have hDX := hD.sub (ws' := wX a k z0) [0, 1, 2, 3, 4, 5, 6, 7, 8, 9, 10, 11, 12, 13, 14, 15, 16, 17, 18, 19, 20] (by decide) rfl
  have hDM := hD.sub (ws' := wM a2 k2 z0) [21, 22, 23, 24, 25, 26, 27, 28, 29, 30, 31, 32, 33, 34] (by decide) rfl
  have hC : LC p s m meth c b L xs D a a2 k k2 := by
    refine ⟨C0, hL, ⟨hKX, hNW⟩, ⟨hKM, hNW⟩, dAX hDX, dAM hDM, ?_, ?_, ?_⟩
    · rintro q ⟨j, hj, rfl⟩
      obtain ⟨z, hz, ez⟩ := atX (a := a) (k := k) (σ := z0) hj
      rw [← ez]
      exact hDX.2 j z hz
    · rintro q ⟨j, hj, rfl⟩
      obtain ⟨z, hz, ez⟩ := atM (a := a2) (k := k2) (σ := z0) hj
      rw [← ez]
      exact hDM.2 j z hz
    · rintro q ⟨j, hj, rfl⟩ ⟨j2, hj2, e2⟩
      obtain ⟨z, hz, ez⟩ := atX (a := a) (k := k) (σ := z0) hj
      obtain ⟨z2, hz2, ez2⟩ := atM (a := a2) (k := k2) (σ := z0) hj2
      have h1 : (wX a k z0 ++ wM a2 k2 z0)[j]? = some z := by rw [List.getElem?_append_left (show j < (wX a k z0).length from hj)]; exact hz
      have h2 : (wX a k z0 ++ wM a2 k2 z0)[21 + j2]? = some z2 := by
        rw [List.getElem?_append_right (show (wX a k z0).length ≤ 21 + j2 from Nat.le_add_right 21 j2), show 21 + j2 - (wX a k z0).length = j2 from Nat.add_sub_cancel_left 21 j2]
        exact hz2
      have := hD.1 j (21 + j2) z z2 h1 h2 (by rw [ez, ez2, e2])
      omega
  exact law_loop hC (L + 1) 0 (by omega) (by omega) z0 z0 H locs ls rel_0 hPX hPM hS (lv_sub hl [3, 2, 1, 0] rfl)
