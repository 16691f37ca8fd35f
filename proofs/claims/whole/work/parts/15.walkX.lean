set_option maxHeartbeats 4000000 in
set_option maxRecDepth 100000 in
theorem mX5_refusalOfFinding (l : Launch) (D : va_G) (a : Nat → Nat) (k : Nat → ClassId) (σ : ST) (x1 x2 : Int32) (o : Int32) (h : fX5_refusalOfFinding σ x1 x2 = some o) : Met l yX5_refusalOfFinding ((Cond.code yX5_refusalOfFinding cX5_refusalOfFinding 3 (some .int)) :: WG) ({ frames := 2, cells := 0, slots := 0, locals := 42 } : Room) (Pw D (tX k) (AX a) (wX a k σ) [.ref (a 0), .int x1, .int x2]) (vp_Si (fun z => z = o)) 0 0 (fun _ => False) := by
  refine Met.ofW (cc := cX5_refusalOfFinding) (maxL := 3) (ret := (some .int)) (by decide) rfl ?_
  intro p e s m args below meth c s₁ B hml0 hv
  have C : Cx p s m args meth c cX5_refusalOfFinding 3 RX5 (Cond.code yX5_refusalOfFinding cX5_refusalOfFinding 3 (some .int)) (some .int) := ⟨B.exec, B.bytes, B.returns, hml0, findClass_of_methodNamed B.named, atoms_spec (ws := (Cond.code yX5_refusalOfFinding cX5_refusalOfFinding 3 (some .int)) :: WG) B.pre, B.notSynchronized⟩
  obtain ⟨rfl, hP, hK, hD⟩ := hv
  have hK : Kx D (tX k) s := hK
  have C0 := C
  obtain ⟨hx, hb, hr, hml, hown, hts, hlocks⟩ := C0
  have hW : ∀ w ∈ WG, w.before _ s = true := fun w h => hts w (List.mem_cons_of_mem _ h)
  show W p l e ({ frames := 2, cells := 0, slots := 0, locals := 42 } : Room) s m _ below meth c s.heap [] 0 0 _ _
  have hl := lv_entry ([.ref (a 0), .int x1, .int x2]) (n := 3) (Nat.le_of_ble_eq_true rfl)
  rw [lg_entry_eq]
  generalize (lg_sl ([.ref (a 0), .int x1, .int x2]) ++ List.replicate (3 - (lg_sl ([.ref (a 0), .int x1, .int x2])).length) Slot.unset).toArray = ls at hl ⊢
  have hl : lv_has ls 3 [(0, .ref (a 0)), (1, .int x1), (2, .int x2)] := hl
  unfold fX5_refusalOfFinding at h
  refine lv_aload_n hx hb dX5_refusalOfFinding_0 rfl (lv_at hl 0 rfl) ?_
  refine va_get (D := D) (ci := 5) (v := .ref (a 1)) (C := RX5) (T := TX5) (N := 6) hx hb hW inX5G hown hK.1 hP 0 rfl rfl 0 (by decide) (hW _ wg8) (fun _ h9 => h9) rfl dX5_refusalOfFinding_1 ?_
  refine lv_iload_n hx hb dX5_refusalOfFinding_4 rfl (lv_at hl 2 rfl) ?_
  obtain ⟨r5, hc5, h⟩ := bd_o h
  refine callRI (va_runVN (As := [.int x2]) (rest := []) ⟨hx, hb, hml, hown, hts⟩ (mX3_has l D a k _ _ _ hc5) ⟨va_cnB 1 hts (wg_c wg20) rfl rfl rfl (hK.2 _ nw21) (hW _ wg13) hdX3_has ⟨Nat.le_of_ble_eq_true rfl, Nat.le_of_ble_eq_true rfl⟩, hW _ wg22, hW _ wg23⟩ (pw_V hK hP hD (ci := 3) (q0 := 1) rfl rfl) rfl rfl hl.1 rfl (lv_room (Nat.le_of_ble_eq_true rfl)) dX5_refusalOfFinding_5 ⟨Nat.zero_le _, Nat.zero_le _⟩) ?_
  refine lv_if_ne (tgt := 14) hx hb dX5_refusalOfFinding_8 (by decide) (fun c8 => ?_) (fun c8 => ?_)
  · have h := ite_f h c8
    refine lv_iload_n hx hb dX5_refusalOfFinding_14 rfl (lv_at hl 1 rfl) ?_
    refine lv_iconst (v := 5) hx hb dX5_refusalOfFinding_15 (by decide) ?_
    obtain ⟨r16, hc16, h⟩ := bd_o h
    refine callRI (va_runS (As := [.int x1, .int 5]) (rest := []) ⟨hx, hb, hml, hown, hts⟩ (mX5_isWithin l _ _ _ hc16) ⟨callB_of 2 hts (wg_c wg1) rfl rfl rfl (hW _ wg3) (hW _ wg27) hdX5_isWithin ⟨Nat.le_of_ble_eq_true rfl, Nat.le_of_ble_eq_true rfl⟩, hW _ wg4⟩ preEq rfl rfl hl.1 rfl (lv_room (Nat.le_of_ble_eq_true rfl)) dX5_refusalOfFinding_16 ⟨Nat.zero_le _, Nat.zero_le _⟩) ?_
    refine lv_if_ne (tgt := 25) hx hb dX5_refusalOfFinding_19 (by decide) (fun c19 => ?_) (fun c19 => ?_)
    · have h := ite_f h c19
      refine lv_aload_n hx hb dX5_refusalOfFinding_25 rfl (lv_at hl 0 rfl) ?_
      refine va_get (D := D) (ci := 5) (v := .int (σ.1 0)) (C := RX5) (T := TX5) (N := 6) hx hb hW inX5G hown hK.1 hP 0 rfl rfl 5 (by decide) (hW _ wg10) (fun _ h9 => h9) rfl dX5_refusalOfFinding_26 ?_
      refine lv_if_eq (tgt := 36) hx hb dX5_refusalOfFinding_29 (by decide) (fun c29 => ?_) (fun c29 => ?_)
      · have h := ite_t h c29
        refine lv_bipush (v := (-103)) hx hb dX5_refusalOfFinding_36 (by decide) ?_
        have h := Option.some.inj h
        subst h
        exact W.iret (v := (-103)) hx hb hr (fun t ht hW9 => ⟨(-103), rfl, rfl, ht⟩) (fun _ h9 => absurd h9 List.not_mem_nil) dX5_refusalOfFinding_38 hlocks
      · have h := ite_f h c29
        refine lv_iconst (v := 0) hx hb dX5_refusalOfFinding_32 (by decide) ?_
        refine lv_goto (tgt := 38) hx hb dX5_refusalOfFinding_33 (by decide) ?_
        have h := Option.some.inj h
        subst h
        exact W.iret (v := 0) hx hb hr (fun t ht hW9 => ⟨0, rfl, rfl, ht⟩) (fun _ h9 => absurd h9 List.not_mem_nil) dX5_refusalOfFinding_38 hlocks
    · have h := ite_t h c19
      refine lv_bipush (v := (-102)) hx hb dX5_refusalOfFinding_22 (by decide) ?_
      have h := Option.some.inj h
      subst h
      exact W.iret (v := (-102)) hx hb hr (fun t ht hW9 => ⟨(-102), rfl, rfl, ht⟩) (fun _ h9 => absurd h9 List.not_mem_nil) dX5_refusalOfFinding_24 hlocks
  · have h := ite_t h c8
    refine lv_bipush (v := (-101)) hx hb dX5_refusalOfFinding_11 (by decide) ?_
    have h := Option.some.inj h
    subst h
    exact W.iret (v := (-101)) hx hb hr (fun t ht hW9 => ⟨(-101), rfl, rfl, ht⟩) (fun _ h9 => absurd h9 List.not_mem_nil) dX5_refusalOfFinding_13 hlocks
set_option maxHeartbeats 4000000 in
set_option maxRecDepth 100000 in
theorem mX1_lengthOf (l : Launch) (D : va_G) (a : Nat → Nat) (k : Nat → ClassId) (σ : ST) (x1 x2 : Int32) (o : Int32) (h : fX1_lengthOf σ x1 x2 = some o) : Met l yX1_lengthOf ((Cond.code yX1_lengthOf cX1_lengthOf 3 (some .int)) :: WG) ({ frames := 0, cells := 0, slots := 0, locals := 0 } : Room) (Pw D (tX k) (AX a) (wX a k σ) [.ref (a 4), .int x1, .int x2]) (vp_Si (fun z => z = o)) 0 0 (fun _ => False) := by
  refine Met.ofW (cc := cX1_lengthOf) (maxL := 3) (ret := (some .int)) (by decide) rfl ?_
  intro p e s m args below meth c s₁ B hml0 hv
  have C : Cx p s m args meth c cX1_lengthOf 3 RX1 (Cond.code yX1_lengthOf cX1_lengthOf 3 (some .int)) (some .int) := ⟨B.exec, B.bytes, B.returns, hml0, findClass_of_methodNamed B.named, atoms_spec (ws := (Cond.code yX1_lengthOf cX1_lengthOf 3 (some .int)) :: WG) B.pre, B.notSynchronized⟩
  obtain ⟨rfl, hP, hK, hD⟩ := hv
  have hK : Kx D (tX k) s := hK
  have C0 := C
  obtain ⟨hx, hb, hr, hml, hown, hts, hlocks⟩ := C0
  have hW : ∀ w ∈ WG, w.before _ s = true := fun w h => hts w (List.mem_cons_of_mem _ h)
  show W p l e ({ frames := 0, cells := 0, slots := 0, locals := 0 } : Room) s m _ below meth c s.heap [] 0 0 _ _
  have hl := lv_entry ([.ref (a 4), .int x1, .int x2]) (n := 3) (Nat.le_of_ble_eq_true rfl)
  rw [lg_entry_eq]
  generalize (lg_sl ([.ref (a 4), .int x1, .int x2]) ++ List.replicate (3 - (lg_sl ([.ref (a 4), .int x1, .int x2])).length) Slot.unset).toArray = ls at hl ⊢
  have hl : lv_has ls 3 [(0, .ref (a 4)), (1, .int x1), (2, .int x2)] := hl
  unfold fX1_lengthOf at h
  refine lv_aload_n hx hb dX1_lengthOf_0 rfl (lv_at hl 0 rfl) ?_
  refine va_get (D := D) (ci := 1) (v := .ref (a 18)) (C := RX1) (T := TX1) (N := 14) hx hb hW inX1G hown hK.1 hP 4 rfl rfl 7 (by decide) (hW _ wg68) (fun _ h9 => h9) rfl dX1_lengthOf_1 ?_
  refine lv_iload_n hx hb dX1_lengthOf_4 rfl (lv_at hl 1 rfl) ?_
  refine lv_iconst (v := 5) hx hb dX1_lengthOf_5 (by decide) ?_
  refine lv_imul hx hb dX1_lengthOf_6 ?_
  refine lv_iload_n hx hb dX1_lengthOf_7 rfl (lv_at hl 2 rfl) ?_
  refine lv_iadd hx hb dX1_lengthOf_8 ?_
  obtain ⟨hi9, h⟩ := ix_o h
  refine va_iald (D := D) hx hb hK.1 hP 18 12 rfl rfl hi9 dX1_lengthOf_9 ?_
  have h := Option.some.inj h
  subst h
  exact W.iret (v := (σ.2 12 ((x1 * 5) + x2).toNatClampNeg)) hx hb hr (fun t ht hW9 => ⟨(σ.2 12 ((x1 * 5) + x2).toNatClampNeg), rfl, rfl, ht⟩) (fun _ h9 => absurd h9 List.not_mem_nil) dX1_lengthOf_10 hlocks
set_option maxHeartbeats 4000000 in
set_option maxRecDepth 100000 in
theorem mX5_found (l : Launch) (D : va_G) (a : Nat → Nat) (k : Nat → ClassId) (σ : ST) (x1 x2 : Int32) (o : Int32) (h : fX5_found σ x1 x2 = some o) : Met l yX5_found ((Cond.code yX5_found cX5_found 4 (some .int)) :: WG) ({ frames := 3, cells := 0, slots := 0, locals := 64 } : Room) (Pw D (tX k) (AX a) (wX a k σ) [.ref (a 0), .int x1, .int x2]) (vp_Si (fun z => z = o)) 0 0 (fun _ => False) := by
  refine Met.ofW (cc := cX5_found) (maxL := 4) (ret := (some .int)) (by decide) rfl ?_
  intro p e s m args below meth c s₁ B hml0 hv
  have C : Cx p s m args meth c cX5_found 4 RX5 (Cond.code yX5_found cX5_found 4 (some .int)) (some .int) := ⟨B.exec, B.bytes, B.returns, hml0, findClass_of_methodNamed B.named, atoms_spec (ws := (Cond.code yX5_found cX5_found 4 (some .int)) :: WG) B.pre, B.notSynchronized⟩
  obtain ⟨rfl, hP, hK, hD⟩ := hv
  have hK : Kx D (tX k) s := hK
  have C0 := C
  obtain ⟨hx, hb, hr, hml, hown, hts, hlocks⟩ := C0
  have hW : ∀ w ∈ WG, w.before _ s = true := fun w h => hts w (List.mem_cons_of_mem _ h)
  show W p l e ({ frames := 3, cells := 0, slots := 0, locals := 64 } : Room) s m _ below meth c s.heap [] 0 0 _ _
  have hl := lv_entry ([.ref (a 0), .int x1, .int x2]) (n := 4) (Nat.le_of_ble_eq_true rfl)
  rw [lg_entry_eq]
  generalize (lg_sl ([.ref (a 0), .int x1, .int x2]) ++ List.replicate (4 - (lg_sl ([.ref (a 0), .int x1, .int x2])).length) Slot.unset).toArray = ls at hl ⊢
  have hl : lv_has ls 4 [(0, .ref (a 0)), (1, .int x1), (2, .int x2)] := hl
  unfold fX5_found at h
  refine lv_aload_n hx hb dX5_found_0 rfl (lv_at hl 0 rfl) ?_
  refine lv_iload_n hx hb dX5_found_1 rfl (lv_at hl 1 rfl) ?_
  refine lv_iload_n hx hb dX5_found_2 rfl (lv_at hl 2 rfl) ?_
  obtain ⟨r3, hc3, h⟩ := bd_o h
  refine callRI (va_runV (As := [.int x1, .int x2]) (rest := []) ⟨hx, hb, hml, hown, hts⟩ (mX5_refusalOfFinding l D a k _ _ _ _ hc3) ⟨callB_of 2 hts (wg_c wg211) rfl rfl rfl (hW _ wg3) (hW _ wg210) hdX5_refusalOfFinding ⟨Nat.le_of_ble_eq_true rfl, Nat.le_of_ble_eq_true rfl⟩, hW _ wg212, hW _ wg213⟩ (pw_V hK hP hD (ci := 5) (q0 := 0) rfl rfl) rfl rfl hl.1 rfl (lv_room (Nat.le_of_ble_eq_true rfl)) dX5_found_3 ⟨Nat.zero_le _, Nat.zero_le _⟩) ?_
  refine lv_istore_n (lv' := [(3, .int r3), (0, .ref (a 0)), (1, .int x1), (2, .int x2)]) hx hb dX5_found_6 rfl hl (by decide) rfl (fun ls hl => ?_)
  refine lv_iload_n hx hb dX5_found_7 rfl (lv_at hl 0 rfl) ?_
  refine lv_if_eq (tgt := 15) hx hb dX5_found_8 (by decide) (fun c8 => ?_) (fun c8 => ?_)
  · have h := ite_t h c8
    refine lv_aload_n hx hb dX5_found_15 rfl (lv_at hl 1 rfl) ?_
    refine va_get (D := D) (ci := 5) (v := .ref (a 4)) (C := RX5) (T := TX5) (N := 6) hx hb hW inX5G hown hK.1 hP 0 rfl rfl 3 (by decide) (hW _ wg204) (fun _ h9 => h9) rfl dX5_found_16 ?_
    refine lv_iload_n hx hb dX5_found_19 rfl (lv_at hl 2 rfl) ?_
    refine lv_iload_n hx hb dX5_found_20 rfl (lv_at hl 3 rfl) ?_
    obtain ⟨r21, hc21, h⟩ := bd_o h
    refine callRI (va_runVN (As := [.int x1, .int x2]) (rest := []) ⟨hx, hb, hml, hown, hts⟩ (mX1_lengthOf l D a k _ _ _ _ hc21) ⟨va_cnB 2 hts (wg_c wg214) rfl rfl rfl (hK.2 _ nw215) (hW _ wg108) hdX1_lengthOf ⟨Nat.le_of_ble_eq_true rfl, Nat.le_of_ble_eq_true rfl⟩, hW _ wg216, hW _ wg217⟩ (pw_V hK hP hD (ci := 1) (q0 := 4) rfl rfl) rfl rfl hl.1 rfl (lv_room (Nat.le_of_ble_eq_true rfl)) dX5_found_21 ⟨Nat.zero_le _, Nat.zero_le _⟩) ?_
    have h := Option.some.inj h
    subst h
    exact W.iret (v := r21) hx hb hr (fun t ht hW9 => ⟨r21, rfl, rfl, ht⟩) (fun _ h9 => absurd h9 List.not_mem_nil) dX5_found_24 hlocks
  · have h := ite_f h c8
    refine lv_iload_n hx hb dX5_found_11 rfl (lv_at hl 0 rfl) ?_
    refine lv_goto (tgt := 24) hx hb dX5_found_12 (by decide) ?_
    have h := Option.some.inj h
    subst h
    exact W.iret (v := r3) hx hb hr (fun t ht hW9 => ⟨r3, rfl, rfl, ht⟩) (fun _ h9 => absurd h9 List.not_mem_nil) dX5_found_24 hlocks
set_option maxHeartbeats 4000000 in
set_option maxRecDepth 100000 in
theorem bX1_stepOnWay_L58 {p : Program} {l : Launch} {e : Env} {s : State} {m : MethodId} {args : Array Value} {below : List Frame} {meth : Method} {c : Code} {D : va_G} {a : Nat → Nat} {k : Nat → ClassId} {σ : ST} {o : Int32} (C : Cx p s m args meth c cX1_stepOnWay 8 RX1 (Cond.code yX1_stepOnWay cX1_stepOnWay 8 (some .int)) (some .int)) (hK : Kx D (tX k) s) (hP : va_P D vwCl (wX a k σ) s.heap) (hD : va_D (AX a) (wX a k σ)) : ∀ (n : Nat) (x3 x5 x7 : Int32) (ls : Array Slot), lv_has ls 8 [(0, .ref (a 4)), (3, .int x3), (5, .int x5), (7, .int x7)] → fX1_stepOnWay_L58 σ n x3 x5 x7 = some o → W p l e ({ frames := 2, cells := 0, slots := 0, locals := 41 } : Room) s m args below meth c s.heap [] 0 0 (MQ below (vp_Si (fun z => z = o)) args s 0 0 (fun _ => False)) (F0 m 58 ls []) := by
  have C0 := C
  obtain ⟨hx, hb, hr, hml, hown, hts, hlocks⟩ := C0
  have hW : ∀ w ∈ WG, w.before args s = true := fun w h => hts w (List.mem_cons_of_mem _ h)
  intro n
  induction n with
  | zero =>
    intro x3 x5 x7 ls hl h
    rw [fX1_stepOnWay_L58] at h
    cases h
  | succ n ih =>
      intro x3 x5 x7 ls hl h
      rw [fX1_stepOnWay_L58] at h
      refine lv_iload hx hb dX1_stepOnWay_58 (lv_at hl 3 rfl) ?_
      refine lv_iload_n hx hb dX1_stepOnWay_60 rfl (lv_at hl 1 rfl) ?_
      refine lv_icmp_le (tgt := 81) hx hb dX1_stepOnWay_61 (by decide) (fun c61 => ?_) (fun c61 => ?_)
      · have h := ite_t h c61
        refine lv_iload hx hb dX1_stepOnWay_81 (lv_at hl 2 rfl) ?_
        obtain ⟨r83, hc83, h⟩ := bd_o h
        refine callRI (va_runSN (As := [.int x5]) (rest := []) ⟨hx, hb, hml, hown, hts⟩ (mX5_placeOf l _ _ hc83) ⟨va_cnB 1 hts (wg_c wg98) rfl rfl rfl (hK.2 _ nw99) (hW _ wg3) hdX5_placeOf ⟨Nat.le_of_ble_eq_true rfl, Nat.le_of_ble_eq_true rfl⟩, hW _ wg100, trivial⟩ preEq rfl rfl hl.1 rfl (lv_room (Nat.le_of_ble_eq_true rfl)) dX1_stepOnWay_83 ⟨Nat.zero_le _, Nat.zero_le _⟩) ?_
        have h := Option.some.inj h
        subst h
        exact W.iret (v := r83) hx hb hr (fun t ht hW9 => ⟨r83, rfl, rfl, ht⟩) (fun _ h9 => absurd h9 List.not_mem_nil) dX1_stepOnWay_86 hlocks
      · have h := ite_f h c61
        refine lv_aload_n hx hb dX1_stepOnWay_64 rfl (lv_at hl 0 rfl) ?_
        refine va_get (D := D) (ci := 1) (v := .ref (a 15)) (C := RX1) (T := TX1) (N := 14) hx hb hW inX1G hown hK.1 hP 4 rfl rfl 4 (by decide) (hW _ wg69) (fun _ h9 => h9) rfl dX1_stepOnWay_65 ?_
        refine lv_iload hx hb dX1_stepOnWay_68 (lv_at hl 2 rfl) ?_
        obtain ⟨hi70, h⟩ := ix_o h
        refine va_iald (D := D) hx hb hK.1 hP 15 9 rfl rfl hi70 dX1_stepOnWay_70 ?_
        refine lv_iconst (v := 1) hx hb dX1_stepOnWay_71 (by decide) ?_
        refine lv_isub hx hb dX1_stepOnWay_72 ?_
        refine lv_topi (fun x5_73 ex5_73 => ?_)
        have h := nm_o h ex5_73
        refine lv_istore (lv' := [(5, .int x5_73), (0, .ref (a 4)), (3, .int x3), (7, .int x7)]) hx hb dX1_stepOnWay_73 hl (by decide) rfl (fun ls hl => ?_)
        obtain ⟨x7_75, ex7_75⟩ : ∃ y : Int32, y = x7 + (-1) := ⟨_, rfl⟩
        have h := nm_o h ex7_75
        refine lv_iinc (v := x7_75) (lv' := [(7, .int x7_75), (5, .int x5_73), (0, .ref (a 4)), (3, .int x3)]) hx hb dX1_stepOnWay_75 hl (k := 3) rfl (by rw [ex7_75]; rfl) (by decide) rfl (fun ls hl => ?_)
        refine lv_goto (tgt := 58) hx hb dX1_stepOnWay_78 (by decide) ?_
        exact ih _ _ _ ls (lv_sub hl [2, 3, 1, 0] rfl) h
set_option maxHeartbeats 4000000 in
set_option maxRecDepth 100000 in
theorem bX1_stepOnWay_L52 {p : Program} {l : Launch} {e : Env} {s : State} {m : MethodId} {args : Array Value} {below : List Frame} {meth : Method} {c : Code} {D : va_G} {a : Nat → Nat} {k : Nat → ClassId} {σ : ST} {o : Int32} (C : Cx p s m args meth c cX1_stepOnWay 8 RX1 (Cond.code yX1_stepOnWay cX1_stepOnWay 8 (some .int)) (some .int)) (hK : Kx D (tX k) s) (hP : va_P D vwCl (wX a k σ) s.heap) (hD : va_D (AX a) (wX a k σ)) : ∀ (x3 x5 y0 : Int32) (ls : Array Slot), lv_has ls 8 [(0, .ref (a 4)), (3, .int x3), (5, .int x5)] → fX1_stepOnWay_L52 σ x3 x5 y0 = some o → W p l e ({ frames := 2, cells := 0, slots := 0, locals := 41 } : Room) s m args below meth c s.heap [] 0 0 (MQ below (vp_Si (fun z => z = o)) args s 0 0 (fun _ => False)) (F0 m 52 ls [.int y0]) := by
  have C0 := C
  obtain ⟨hx, hb, hr, hml, hown, hts, hlocks⟩ := C0
  have hW : ∀ w ∈ WG, w.before args s = true := fun w h => hts w (List.mem_cons_of_mem _ h)
  intro x3 x5 y0 ls hl h
  unfold fX1_stepOnWay_L52 at h
  refine lv_topi (fun x6_52 ex6_52 => ?_)
  have h := nm_o h ex6_52
  refine lv_istore (lv' := [(6, .int x6_52), (0, .ref (a 4)), (3, .int x3), (5, .int x5)]) hx hb dX1_stepOnWay_52 hl (by decide) rfl (fun ls hl => ?_)
  refine lv_iload hx hb dX1_stepOnWay_54 (lv_at hl 0 rfl) ?_
  refine lv_istore (lv' := [(7, .int x6_52), (6, .int x6_52), (0, .ref (a 4)), (3, .int x3), (5, .int x5)]) hx hb dX1_stepOnWay_56 hl (by decide) rfl (fun ls hl => ?_)
  exact bX1_stepOnWay_L58 C hK hP hD FUEL _ _ _ ls (lv_sub hl [2, 3, 4, 0] rfl) h
set_option maxHeartbeats 4000000 in
set_option maxRecDepth 100000 in
theorem mX1_stepOnWay (l : Launch) (D : va_G) (a : Nat → Nat) (k : Nat → ClassId) (σ : ST) (x1 x2 x3 : Int32) (o : Int32) (h : fX1_stepOnWay σ x1 x2 x3 = some o) : Met l yX1_stepOnWay ((Cond.code yX1_stepOnWay cX1_stepOnWay 8 (some .int)) :: WG) ({ frames := 2, cells := 0, slots := 0, locals := 41 } : Room) (Pw D (tX k) (AX a) (wX a k σ) [.ref (a 4), .int x1, .int x2, .int x3]) (vp_Si (fun z => z = o)) 0 0 (fun _ => False) := by
  refine Met.ofW (cc := cX1_stepOnWay) (maxL := 8) (ret := (some .int)) (by decide) rfl ?_
  intro p e s m args below meth c s₁ B hml0 hv
  have C : Cx p s m args meth c cX1_stepOnWay 8 RX1 (Cond.code yX1_stepOnWay cX1_stepOnWay 8 (some .int)) (some .int) := ⟨B.exec, B.bytes, B.returns, hml0, findClass_of_methodNamed B.named, atoms_spec (ws := (Cond.code yX1_stepOnWay cX1_stepOnWay 8 (some .int)) :: WG) B.pre, B.notSynchronized⟩
  obtain ⟨rfl, hP, hK, hD⟩ := hv
  have hK : Kx D (tX k) s := hK
  have C0 := C
  obtain ⟨hx, hb, hr, hml, hown, hts, hlocks⟩ := C0
  have hW : ∀ w ∈ WG, w.before _ s = true := fun w h => hts w (List.mem_cons_of_mem _ h)
  show W p l e ({ frames := 2, cells := 0, slots := 0, locals := 41 } : Room) s m _ below meth c s.heap [] 0 0 _ _
  have hl := lv_entry ([.ref (a 4), .int x1, .int x2, .int x3]) (n := 8) (Nat.le_of_ble_eq_true rfl)
  rw [lg_entry_eq]
  generalize (lg_sl ([.ref (a 4), .int x1, .int x2, .int x3]) ++ List.replicate (8 - (lg_sl ([.ref (a 4), .int x1, .int x2, .int x3])).length) Slot.unset).toArray = ls at hl ⊢
  have hl : lv_has ls 8 [(0, .ref (a 4)), (1, .int x1), (2, .int x2), (3, .int x3)] := hl
  unfold fX1_stepOnWay at h
  refine lv_aload_n hx hb dX1_stepOnWay_0 rfl (lv_at hl 0 rfl) ?_
  refine lv_iload_n hx hb dX1_stepOnWay_1 rfl (lv_at hl 1 rfl) ?_
  refine lv_iload_n hx hb dX1_stepOnWay_2 rfl (lv_at hl 2 rfl) ?_
  obtain ⟨r3, hc3, h⟩ := bd_o h
  refine callRI (va_runV (As := [.int x1, .int x2]) (rest := []) ⟨hx, hb, hml, hown, hts⟩ (mX1_lengthOf l D a k _ _ _ _ hc3) ⟨callB_of 2 hts (wg_c wg214) rfl rfl rfl (hW _ wg108) (hW _ wg218) hdX1_lengthOf ⟨Nat.le_of_ble_eq_true rfl, Nat.le_of_ble_eq_true rfl⟩, hW _ wg216, hW _ wg217⟩ (pw_V hK hP hD (ci := 1) (q0 := 4) rfl rfl) rfl rfl hl.1 rfl (lv_room (Nat.le_of_ble_eq_true rfl)) dX1_stepOnWay_3 ⟨Nat.zero_le _, Nat.zero_le _⟩) ?_
  refine lv_istore (lv' := [(4, .int r3), (0, .ref (a 4)), (1, .int x1), (2, .int x2), (3, .int x3)]) hx hb dX1_stepOnWay_6 hl (by decide) rfl (fun ls hl => ?_)
  refine lv_iload_n hx hb dX1_stepOnWay_8 rfl (lv_at hl 4 rfl) ?_
  refine lv_iload hx hb dX1_stepOnWay_9 (lv_at hl 0 rfl) ?_
  obtain ⟨r11, hc11, h⟩ := bd_o h
  refine callRI (va_runSN (As := [.int x3, .int r3]) (rest := []) ⟨hx, hb, hml, hown, hts⟩ (mX5_isWithin l _ _ _ hc11) ⟨va_cnB 2 hts (wg_c wg1) rfl rfl rfl (hK.2 _ nw219) (hW _ wg3) hdX5_isWithin ⟨Nat.le_of_ble_eq_true rfl, Nat.le_of_ble_eq_true rfl⟩, hW _ wg4, trivial⟩ preEq rfl rfl hl.1 rfl (lv_room (Nat.le_of_ble_eq_true rfl)) dX1_stepOnWay_11 ⟨Nat.zero_le _, Nat.zero_le _⟩) ?_
  refine lv_if_ne (tgt := 19) hx hb dX1_stepOnWay_14 (by decide) (fun c14 => ?_) (fun c14 => ?_)
  · have h := ite_f h c14
    refine lv_aload_n hx hb dX1_stepOnWay_19 rfl (lv_at hl 1 rfl) ?_
    refine va_get (D := D) (ci := 1) (v := .ref (a 19)) (C := RX1) (T := TX1) (N := 14) hx hb hW inX1G hown hK.1 hP 4 rfl rfl 8 (by decide) (hW _ wg105) (fun _ h9 => h9) rfl dX1_stepOnWay_20 ?_
    refine lv_iload_n hx hb dX1_stepOnWay_23 rfl (lv_at hl 2 rfl) ?_
    refine lv_iconst (v := 5) hx hb dX1_stepOnWay_24 (by decide) ?_
    refine lv_imul hx hb dX1_stepOnWay_25 ?_
    refine lv_iload_n hx hb dX1_stepOnWay_26 rfl (lv_at hl 3 rfl) ?_
    refine lv_iadd hx hb dX1_stepOnWay_27 ?_
    obtain ⟨hi28, h⟩ := ix_o h
    refine va_iald (D := D) hx hb hK.1 hP 19 13 rfl rfl hi28 dX1_stepOnWay_28 ?_
    refine lv_topi (fun x5_29 ex5_29 => ?_)
    have h := nm_o h ex5_29
    refine lv_istore (lv' := [(5, .int x5_29), (4, .int r3), (0, .ref (a 4)), (1, .int x1), (2, .int x2), (3, .int x3)]) hx hb dX1_stepOnWay_29 hl (by decide) rfl (fun ls hl => ?_)
    refine lv_aload_n hx hb dX1_stepOnWay_31 rfl (lv_at hl 2 rfl) ?_
    refine va_get (D := D) (ci := 1) (v := .ref (a 3)) (C := RX1) (T := TX1) (N := 14) hx hb hW inX1G hown hK.1 hP 4 rfl rfl 2 (by decide) (hW _ wg161) (fun _ h9 => h9) rfl dX1_stepOnWay_32 ?_
    refine lv_iload hx hb dX1_stepOnWay_35 (lv_at hl 0 rfl) ?_
    obtain ⟨r37, hc37, h⟩ := bd_o h
    refine callRI (va_runVN (As := [.int x5_29]) (rest := []) ⟨hx, hb, hml, hown, hts⟩ (mX0_isEnd l D a k _ _ _ hc37) ⟨va_cnB 1 hts (wg_c wg184) rfl rfl rfl (hK.2 _ nw185) (hW _ wg78) hdX0_isEnd ⟨Nat.le_of_ble_eq_true rfl, Nat.le_of_ble_eq_true rfl⟩, hW _ wg186, hW _ wg187⟩ (pw_V hK hP hD (ci := 0) (q0 := 3) rfl rfl) rfl rfl hl.1 rfl (lv_room (Nat.le_of_ble_eq_true rfl)) dX1_stepOnWay_37 ⟨Nat.zero_le _, Nat.zero_le _⟩) ?_
    refine lv_if_eq (tgt := 48) hx hb dX1_stepOnWay_40 (by decide) (fun c40 => ?_) (fun c40 => ?_)
    · have h := ite_t h c40
      refine lv_iload hx hb dX1_stepOnWay_48 (lv_at hl 1 rfl) ?_
      refine lv_iconst (v := 1) hx hb dX1_stepOnWay_50 (by decide) ?_
      refine lv_isub hx hb dX1_stepOnWay_51 ?_
      exact bX1_stepOnWay_L52 C hK hP hD _ _ _ ls (lv_sub hl [2, 5, 0] rfl) h
    · have h := ite_f h c40
      refine lv_iload hx hb dX1_stepOnWay_43 (lv_at hl 1 rfl) ?_
      refine lv_goto (tgt := 52) hx hb dX1_stepOnWay_45 (by decide) ?_
      exact bX1_stepOnWay_L52 C hK hP hD _ _ _ ls (lv_sub hl [2, 5, 0] rfl) h
  · have h := ite_t h c14
    refine lv_iconst (v := (-1)) hx hb dX1_stepOnWay_17 (by decide) ?_
    have h := Option.some.inj h
    subst h
    exact W.iret (v := (-1)) hx hb hr (fun t ht hW9 => ⟨(-1), rfl, rfl, ht⟩) (fun _ h9 => absurd h9 List.not_mem_nil) dX1_stepOnWay_18 hlocks
set_option maxHeartbeats 4000000 in
set_option maxRecDepth 100000 in
theorem mX5_way (l : Launch) (D : va_G) (a : Nat → Nat) (k : Nat → ClassId) (σ : ST) (x1 x2 x3 : Int32) (o : Int32) (h : fX5_way σ x1 x2 x3 = some o) : Met l yX5_way ((Cond.code yX5_way cX5_way 5 (some .int)) :: WG) ({ frames := 3, cells := 0, slots := 0, locals := 68 } : Room) (Pw D (tX k) (AX a) (wX a k σ) [.ref (a 0), .int x1, .int x2, .int x3]) (vp_Si (fun z => z = o)) 0 0 (fun _ => False) := by
  refine Met.ofW (cc := cX5_way) (maxL := 5) (ret := (some .int)) (by decide) rfl ?_
  intro p e s m args below meth c s₁ B hml0 hv
  have C : Cx p s m args meth c cX5_way 5 RX5 (Cond.code yX5_way cX5_way 5 (some .int)) (some .int) := ⟨B.exec, B.bytes, B.returns, hml0, findClass_of_methodNamed B.named, atoms_spec (ws := (Cond.code yX5_way cX5_way 5 (some .int)) :: WG) B.pre, B.notSynchronized⟩
  obtain ⟨rfl, hP, hK, hD⟩ := hv
  have hK : Kx D (tX k) s := hK
  have C0 := C
  obtain ⟨hx, hb, hr, hml, hown, hts, hlocks⟩ := C0
  have hW : ∀ w ∈ WG, w.before _ s = true := fun w h => hts w (List.mem_cons_of_mem _ h)
  show W p l e ({ frames := 3, cells := 0, slots := 0, locals := 68 } : Room) s m _ below meth c s.heap [] 0 0 _ _
  have hl := lv_entry ([.ref (a 0), .int x1, .int x2, .int x3]) (n := 5) (Nat.le_of_ble_eq_true rfl)
  rw [lg_entry_eq]
  generalize (lg_sl ([.ref (a 0), .int x1, .int x2, .int x3]) ++ List.replicate (5 - (lg_sl ([.ref (a 0), .int x1, .int x2, .int x3])).length) Slot.unset).toArray = ls at hl ⊢
  have hl : lv_has ls 5 [(0, .ref (a 0)), (1, .int x1), (2, .int x2), (3, .int x3)] := hl
  unfold fX5_way at h
  refine lv_aload_n hx hb dX5_way_0 rfl (lv_at hl 0 rfl) ?_
  refine lv_iload_n hx hb dX5_way_1 rfl (lv_at hl 1 rfl) ?_
  refine lv_iload_n hx hb dX5_way_2 rfl (lv_at hl 2 rfl) ?_
  obtain ⟨r3, hc3, h⟩ := bd_o h
  refine callRI (va_runV (As := [.int x1, .int x2]) (rest := []) ⟨hx, hb, hml, hown, hts⟩ (mX5_refusalOfFinding l D a k _ _ _ _ hc3) ⟨callB_of 2 hts (wg_c wg211) rfl rfl rfl (hW _ wg3) (hW _ wg210) hdX5_refusalOfFinding ⟨Nat.le_of_ble_eq_true rfl, Nat.le_of_ble_eq_true rfl⟩, hW _ wg212, hW _ wg213⟩ (pw_V hK hP hD (ci := 5) (q0 := 0) rfl rfl) rfl rfl hl.1 rfl (lv_room (Nat.le_of_ble_eq_true rfl)) dX5_way_3 ⟨Nat.zero_le _, Nat.zero_le _⟩) ?_
  refine lv_istore (lv' := [(4, .int r3), (0, .ref (a 0)), (1, .int x1), (2, .int x2), (3, .int x3)]) hx hb dX5_way_6 hl (by decide) rfl (fun ls hl => ?_)
  refine lv_iload hx hb dX5_way_8 (lv_at hl 0 rfl) ?_
  refine lv_if_eq (tgt := 18) hx hb dX5_way_10 (by decide) (fun c10 => ?_) (fun c10 => ?_)
  · have h := ite_t h c10
    refine lv_aload_n hx hb dX5_way_18 rfl (lv_at hl 1 rfl) ?_
    refine va_get (D := D) (ci := 5) (v := .ref (a 4)) (C := RX5) (T := TX5) (N := 6) hx hb hW inX5G hown hK.1 hP 0 rfl rfl 3 (by decide) (hW _ wg204) (fun _ h9 => h9) rfl dX5_way_19 ?_
    refine lv_iload_n hx hb dX5_way_22 rfl (lv_at hl 2 rfl) ?_
    refine lv_iload_n hx hb dX5_way_23 rfl (lv_at hl 3 rfl) ?_
    refine lv_iload_n hx hb dX5_way_24 rfl (lv_at hl 4 rfl) ?_
    obtain ⟨r25, hc25, h⟩ := bd_o h
    refine callRI (va_runVN (As := [.int x1, .int x2, .int x3]) (rest := []) ⟨hx, hb, hml, hown, hts⟩ (mX1_stepOnWay l D a k _ _ _ _ _ hc25) ⟨va_cnB 3 hts (wg_c wg220) rfl rfl rfl (hK.2 _ nw221) (hW _ wg108) hdX1_stepOnWay ⟨Nat.le_of_ble_eq_true rfl, Nat.le_of_ble_eq_true rfl⟩, hW _ wg222, hW _ wg223⟩ (pw_V hK hP hD (ci := 1) (q0 := 4) rfl rfl) rfl rfl hl.1 rfl (lv_room (Nat.le_of_ble_eq_true rfl)) dX5_way_25 ⟨Nat.zero_le _, Nat.zero_le _⟩) ?_
    have h := Option.some.inj h
    subst h
    exact W.iret (v := r25) hx hb hr (fun t ht hW9 => ⟨r25, rfl, rfl, ht⟩) (fun _ h9 => absurd h9 List.not_mem_nil) dX5_way_28 hlocks
  · have h := ite_f h c10
    refine lv_iload hx hb dX5_way_13 (lv_at hl 0 rfl) ?_
    refine lv_goto (tgt := 28) hx hb dX5_way_15 (by decide) ?_
    have h := Option.some.inj h
    subst h
    exact W.iret (v := r3) hx hb hr (fun t ht hW9 => ⟨r3, rfl, rfl, ht⟩) (fun _ h9 => absurd h9 List.not_mem_nil) dX5_way_28 hlocks
set_option maxHeartbeats 4000000 in
set_option maxRecDepth 100000 in
theorem bX5_closed_L55 {p : Program} {l : Launch} {e : Env} {s : State} {m : MethodId} {args : Array Value} {below : List Frame} {meth : Method} {c : Code} {D : va_G} {a : Nat → Nat} {k : Nat → ClassId} {σ : ST} {o : Int32} (C : Cx p s m args meth c cX5_closed 3 RX5 (Cond.code yX5_closed cX5_closed 3 (some .int)) (some .int)) (hK : Kx D (tX k) s) (hP : va_P D vwCl (wX a k σ) s.heap) (hD : va_D (AX a) (wX a k σ)) : ∀ (y0 : Int32) (ls : Array Slot), lv_has ls 3 [] → fX5_closed_L55 σ y0 = some o → W p l e ({ frames := 2, cells := 0, slots := 0, locals := 42 } : Room) s m args below meth c s.heap [] 0 0 (MQ below (vp_Si (fun z => z = o)) args s 0 0 (fun _ => False)) (F0 m 55 ls [.int y0]) := by
  have C0 := C
  obtain ⟨hx, hb, hr, hml, hown, hts, hlocks⟩ := C0
  have hW : ∀ w ∈ WG, w.before args s = true := fun w h => hts w (List.mem_cons_of_mem _ h)
  intro y0 ls hl h
  unfold fX5_closed_L55 at h
  refine lv_topi (fun x2_55 ex2_55 => ?_)
  have h := nm_o h ex2_55
  refine lv_istore_n (lv' := [(2, .int x2_55)]) hx hb dX5_closed_55 rfl hl (by decide) rfl (fun ls hl => ?_)
  refine lv_iload_n hx hb dX5_closed_56 rfl (lv_at hl 0 rfl) ?_
  refine lv_if_eq (tgt := 64) hx hb dX5_closed_57 (by decide) (fun c57 => ?_) (fun c57 => ?_)
  · have h := ite_t h c57
    refine lv_iconst (v := 1) hx hb dX5_closed_64 (by decide) ?_
    have h := Option.some.inj h
    subst h
    exact W.iret (v := 1) hx hb hr (fun t ht hW9 => ⟨1, rfl, rfl, ht⟩) (fun _ h9 => absurd h9 List.not_mem_nil) dX5_closed_65 hlocks
  · have h := ite_f h c57
    refine lv_iconst (v := 0) hx hb dX5_closed_60 (by decide) ?_
    refine lv_goto (tgt := 65) hx hb dX5_closed_61 (by decide) ?_
    have h := Option.some.inj h
    subst h
    exact W.iret (v := 0) hx hb hr (fun t ht hW9 => ⟨0, rfl, rfl, ht⟩) (fun _ h9 => absurd h9 List.not_mem_nil) dX5_closed_65 hlocks
set_option maxHeartbeats 4000000 in
set_option maxRecDepth 100000 in
theorem bX5_closed_L50 {p : Program} {l : Launch} {e : Env} {s : State} {m : MethodId} {args : Array Value} {below : List Frame} {meth : Method} {c : Code} {D : va_G} {a : Nat → Nat} {k : Nat → ClassId} {σ : ST} {o : Int32} (C : Cx p s m args meth c cX5_closed 3 RX5 (Cond.code yX5_closed cX5_closed 3 (some .int)) (some .int)) (hK : Kx D (tX k) s) (hP : va_P D vwCl (wX a k σ) s.heap) (hD : va_D (AX a) (wX a k σ)) : ∀ (ls : Array Slot), lv_has ls 3 [] → fX5_closed_L50 σ  = some o → W p l e ({ frames := 2, cells := 0, slots := 0, locals := 42 } : Room) s m args below meth c s.heap [] 0 0 (MQ below (vp_Si (fun z => z = o)) args s 0 0 (fun _ => False)) (F0 m 50 ls []) := by
  have C0 := C
  obtain ⟨hx, hb, hr, hml, hown, hts, hlocks⟩ := C0
  have hW : ∀ w ∈ WG, w.before args s = true := fun w h => hts w (List.mem_cons_of_mem _ h)
  intro  ls hl h
  unfold fX5_closed_L50 at h
  refine lv_iconst (v := 1) hx hb dX5_closed_50 (by decide) ?_
  refine lv_goto (tgt := 55) hx hb dX5_closed_51 (by decide) ?_
  exact bX5_closed_L55 C hK hP hD _ ls (lv_sub hl [] rfl) h
set_option maxHeartbeats 4000000 in
set_option maxRecDepth 100000 in
theorem mX5_closed (l : Launch) (D : va_G) (a : Nat → Nat) (k : Nat → ClassId) (σ : ST) (x1 : Int32) (o : Int32) (h : fX5_closed σ x1 = some o) : Met l yX5_closed ((Cond.code yX5_closed cX5_closed 3 (some .int)) :: WG) ({ frames := 2, cells := 0, slots := 0, locals := 42 } : Room) (Pw D (tX k) (AX a) (wX a k σ) [.ref (a 0), .int x1]) (vp_Si (fun z => z = o)) 0 0 (fun _ => False) := by
  refine Met.ofW (cc := cX5_closed) (maxL := 3) (ret := (some .int)) (by decide) rfl ?_
  intro p e s m args below meth c s₁ B hml0 hv
  have C : Cx p s m args meth c cX5_closed 3 RX5 (Cond.code yX5_closed cX5_closed 3 (some .int)) (some .int) := ⟨B.exec, B.bytes, B.returns, hml0, findClass_of_methodNamed B.named, atoms_spec (ws := (Cond.code yX5_closed cX5_closed 3 (some .int)) :: WG) B.pre, B.notSynchronized⟩
  obtain ⟨rfl, hP, hK, hD⟩ := hv
  have hK : Kx D (tX k) s := hK
  have C0 := C
  obtain ⟨hx, hb, hr, hml, hown, hts, hlocks⟩ := C0
  have hW : ∀ w ∈ WG, w.before _ s = true := fun w h => hts w (List.mem_cons_of_mem _ h)
  show W p l e ({ frames := 2, cells := 0, slots := 0, locals := 42 } : Room) s m _ below meth c s.heap [] 0 0 _ _
  have hl := lv_entry ([.ref (a 0), .int x1]) (n := 3) (Nat.le_of_ble_eq_true rfl)
  rw [lg_entry_eq]
  generalize (lg_sl ([.ref (a 0), .int x1]) ++ List.replicate (3 - (lg_sl ([.ref (a 0), .int x1])).length) Slot.unset).toArray = ls at hl ⊢
  have hl : lv_has ls 3 [(0, .ref (a 0)), (1, .int x1)] := hl
  unfold fX5_closed at h
  refine lv_aload_n hx hb dX5_closed_0 rfl (lv_at hl 0 rfl) ?_
  refine va_get (D := D) (ci := 5) (v := .ref (a 1)) (C := RX5) (T := TX5) (N := 6) hx hb hW inX5G hown hK.1 hP 0 rfl rfl 0 (by decide) (hW _ wg8) (fun _ h9 => h9) rfl dX5_closed_1 ?_
  refine lv_iload_n hx hb dX5_closed_4 rfl (lv_at hl 1 rfl) ?_
  obtain ⟨r5, hc5, h⟩ := bd_o h
  refine callRI (va_runVN (As := [.int x1]) (rest := []) ⟨hx, hb, hml, hown, hts⟩ (mX3_has l D a k _ _ _ hc5) ⟨va_cnB 1 hts (wg_c wg20) rfl rfl rfl (hK.2 _ nw21) (hW _ wg13) hdX3_has ⟨Nat.le_of_ble_eq_true rfl, Nat.le_of_ble_eq_true rfl⟩, hW _ wg22, hW _ wg23⟩ (pw_V hK hP hD (ci := 3) (q0 := 1) rfl rfl) rfl rfl hl.1 rfl (lv_room (Nat.le_of_ble_eq_true rfl)) dX5_closed_5 ⟨Nat.zero_le _, Nat.zero_le _⟩) ?_
  refine lv_if_ne (tgt := 14) hx hb dX5_closed_8 (by decide) (fun c8 => ?_) (fun c8 => ?_)
  · have h := ite_f h c8
    refine lv_aload_n hx hb dX5_closed_14 rfl (lv_at hl 0 rfl) ?_
    refine va_get (D := D) (ci := 5) (v := .int (σ.1 0)) (C := RX5) (T := TX5) (N := 6) hx hb hW inX5G hown hK.1 hP 0 rfl rfl 5 (by decide) (hW _ wg10) (fun _ h9 => h9) rfl dX5_closed_15 ?_
    refine lv_if_ne (tgt := 24) hx hb dX5_closed_18 (by decide) (fun c18 => ?_) (fun c18 => ?_)
    · have h := ite_f h c18
      refine lv_aload_n hx hb dX5_closed_24 rfl (lv_at hl 0 rfl) ?_
      refine va_get (D := D) (ci := 5) (v := .ref (a 4)) (C := RX5) (T := TX5) (N := 6) hx hb hW inX5G hown hK.1 hP 0 rfl rfl 3 (by decide) (hW _ wg204) (fun _ h9 => h9) rfl dX5_closed_25 ?_
      refine lv_iconst (v := 0) hx hb dX5_closed_28 (by decide) ?_
      refine lv_iload_n hx hb dX5_closed_29 rfl (lv_at hl 1 rfl) ?_
      obtain ⟨r30, hc30, h⟩ := bd_o h
      refine callRI (va_runVN (As := [.int 0, .int x1]) (rest := []) ⟨hx, hb, hml, hown, hts⟩ (mX1_lengthOf l D a k _ _ _ _ hc30) ⟨va_cnB 2 hts (wg_c wg214) rfl rfl rfl (hK.2 _ nw215) (hW _ wg108) hdX1_lengthOf ⟨Nat.le_of_ble_eq_true rfl, Nat.le_of_ble_eq_true rfl⟩, hW _ wg216, hW _ wg217⟩ (pw_V hK hP hD (ci := 1) (q0 := 4) rfl rfl) rfl rfl hl.1 rfl (lv_room (Nat.le_of_ble_eq_true rfl)) dX5_closed_30 ⟨Nat.zero_le _, Nat.zero_le _⟩) ?_
      refine lv_iconst (v := (-1)) hx hb dX5_closed_33 (by decide) ?_
      refine lv_icmp_ne (tgt := 50) hx hb dX5_closed_34 (by decide) (fun c34 => ?_) (fun c34 => ?_)
      · have h := ite_f h c34
        exact bX5_closed_L50 C hK hP hD  ls (lv_sub hl [] rfl) h
      · have h := ite_t h c34
        refine lv_aload_n hx hb dX5_closed_37 rfl (lv_at hl 0 rfl) ?_
        refine va_get (D := D) (ci := 5) (v := .ref (a 4)) (C := RX5) (T := TX5) (N := 6) hx hb hW inX5G hown hK.1 hP 0 rfl rfl 3 (by decide) (hW _ wg204) (fun _ h9 => h9) rfl dX5_closed_38 ?_
        refine lv_iconst (v := 1) hx hb dX5_closed_41 (by decide) ?_
        refine lv_iload_n hx hb dX5_closed_42 rfl (lv_at hl 1 rfl) ?_
        obtain ⟨r43, hc43, h⟩ := bd_o h
        refine callRI (va_runVN (As := [.int 1, .int x1]) (rest := []) ⟨hx, hb, hml, hown, hts⟩ (mX1_lengthOf l D a k _ _ _ _ hc43) ⟨va_cnB 2 hts (wg_c wg214) rfl rfl rfl (hK.2 _ nw215) (hW _ wg108) hdX1_lengthOf ⟨Nat.le_of_ble_eq_true rfl, Nat.le_of_ble_eq_true rfl⟩, hW _ wg216, hW _ wg217⟩ (pw_V hK hP hD (ci := 1) (q0 := 4) rfl rfl) rfl rfl hl.1 rfl (lv_room (Nat.le_of_ble_eq_true rfl)) dX5_closed_43 ⟨Nat.zero_le _, Nat.zero_le _⟩) ?_
        refine lv_iconst (v := (-1)) hx hb dX5_closed_46 (by decide) ?_
        refine lv_icmp_eq (tgt := 54) hx hb dX5_closed_47 (by decide) (fun c47 => ?_) (fun c47 => ?_)
        · have h := ite_t h c47
          refine lv_iconst (v := 0) hx hb dX5_closed_54 (by decide) ?_
          exact bX5_closed_L55 C hK hP hD _ ls (lv_sub hl [] rfl) h
        · have h := ite_f h c47
          exact bX5_closed_L50 C hK hP hD  ls (lv_sub hl [] rfl) h
    · have h := ite_t h c18
      refine lv_bipush (v := (-103)) hx hb dX5_closed_21 (by decide) ?_
      have h := Option.some.inj h
      subst h
      exact W.iret (v := (-103)) hx hb hr (fun t ht hW9 => ⟨(-103), rfl, rfl, ht⟩) (fun _ h9 => absurd h9 List.not_mem_nil) dX5_closed_23 hlocks
  · have h := ite_t h c8
    refine lv_bipush (v := (-101)) hx hb dX5_closed_11 (by decide) ?_
    have h := Option.some.inj h
    subst h
    exact W.iret (v := (-101)) hx hb hr (fun t ht hW9 => ⟨(-101), rfl, rfl, ht⟩) (fun _ h9 => absurd h9 List.not_mem_nil) dX5_closed_13 hlocks
set_option maxHeartbeats 4000000 in
set_option maxRecDepth 100000 in
theorem mX5_states (l : Launch) (D : va_G) (a : Nat → Nat) (k : Nat → ClassId) (σ : ST) (x1 x2 : Int32) (o : Int32) (h : fX5_states σ x1 x2 = some o) : Met l yX5_states ((Cond.code yX5_states cX5_states 3 (some .int)) :: WG) ({ frames := 2, cells := 0, slots := 0, locals := 42 } : Room) (Pw D (tX k) (AX a) (wX a k σ) [.ref (a 0), .int x1, .int x2]) (vp_Si (fun z => z = o)) 0 0 (fun _ => False) := by
  refine Met.ofW (cc := cX5_states) (maxL := 3) (ret := (some .int)) (by decide) rfl ?_
  intro p e s m args below meth c s₁ B hml0 hv
  have C : Cx p s m args meth c cX5_states 3 RX5 (Cond.code yX5_states cX5_states 3 (some .int)) (some .int) := ⟨B.exec, B.bytes, B.returns, hml0, findClass_of_methodNamed B.named, atoms_spec (ws := (Cond.code yX5_states cX5_states 3 (some .int)) :: WG) B.pre, B.notSynchronized⟩
  obtain ⟨rfl, hP, hK, hD⟩ := hv
  have hK : Kx D (tX k) s := hK
  have C0 := C
  obtain ⟨hx, hb, hr, hml, hown, hts, hlocks⟩ := C0
  have hW : ∀ w ∈ WG, w.before _ s = true := fun w h => hts w (List.mem_cons_of_mem _ h)
  show W p l e ({ frames := 2, cells := 0, slots := 0, locals := 42 } : Room) s m _ below meth c s.heap [] 0 0 _ _
  have hl := lv_entry ([.ref (a 0), .int x1, .int x2]) (n := 3) (Nat.le_of_ble_eq_true rfl)
  rw [lg_entry_eq]
  generalize (lg_sl ([.ref (a 0), .int x1, .int x2]) ++ List.replicate (3 - (lg_sl ([.ref (a 0), .int x1, .int x2])).length) Slot.unset).toArray = ls at hl ⊢
  have hl : lv_has ls 3 [(0, .ref (a 0)), (1, .int x1), (2, .int x2)] := hl
  unfold fX5_states at h
  refine lv_aload_n hx hb dX5_states_0 rfl (lv_at hl 0 rfl) ?_
  refine va_get (D := D) (ci := 5) (v := .ref (a 1)) (C := RX5) (T := TX5) (N := 6) hx hb hW inX5G hown hK.1 hP 0 rfl rfl 0 (by decide) (hW _ wg8) (fun _ h9 => h9) rfl dX5_states_1 ?_
  refine lv_iload_n hx hb dX5_states_4 rfl (lv_at hl 2 rfl) ?_
  obtain ⟨r5, hc5, h⟩ := bd_o h
  refine callRI (va_runVN (As := [.int x2]) (rest := []) ⟨hx, hb, hml, hown, hts⟩ (mX3_has l D a k _ _ _ hc5) ⟨va_cnB 1 hts (wg_c wg20) rfl rfl rfl (hK.2 _ nw21) (hW _ wg13) hdX3_has ⟨Nat.le_of_ble_eq_true rfl, Nat.le_of_ble_eq_true rfl⟩, hW _ wg22, hW _ wg23⟩ (pw_V hK hP hD (ci := 3) (q0 := 1) rfl rfl) rfl rfl hl.1 rfl (lv_room (Nat.le_of_ble_eq_true rfl)) dX5_states_5 ⟨Nat.zero_le _, Nat.zero_le _⟩) ?_
  refine lv_if_ne (tgt := 14) hx hb dX5_states_8 (by decide) (fun c8 => ?_) (fun c8 => ?_)
  · have h := ite_f h c8
    refine lv_iload_n hx hb dX5_states_14 rfl (lv_at hl 1 rfl) ?_
    refine lv_bipush (v := 42) hx hb dX5_states_15 (by decide) ?_
    obtain ⟨r17, hc17, h⟩ := bd_o h
    refine callRI (va_runS (As := [.int x1, .int 42]) (rest := []) ⟨hx, hb, hml, hown, hts⟩ (mX5_isWithin l _ _ _ hc17) ⟨callB_of 2 hts (wg_c wg1) rfl rfl rfl (hW _ wg3) (hW _ wg27) hdX5_isWithin ⟨Nat.le_of_ble_eq_true rfl, Nat.le_of_ble_eq_true rfl⟩, hW _ wg4⟩ preEq rfl rfl hl.1 rfl (lv_room (Nat.le_of_ble_eq_true rfl)) dX5_states_17 ⟨Nat.zero_le _, Nat.zero_le _⟩) ?_
    refine lv_if_ne (tgt := 26) hx hb dX5_states_20 (by decide) (fun c20 => ?_) (fun c20 => ?_)
    · have h := ite_f h c20
      refine lv_aload_n hx hb dX5_states_26 rfl (lv_at hl 0 rfl) ?_
      refine va_get (D := D) (ci := 5) (v := .int (σ.1 0)) (C := RX5) (T := TX5) (N := 6) hx hb hW inX5G hown hK.1 hP 0 rfl rfl 5 (by decide) (hW _ wg10) (fun _ h9 => h9) rfl dX5_states_27 ?_
      refine lv_if_eq (tgt := 49) hx hb dX5_states_30 (by decide) (fun c30 => ?_) (fun c30 => ?_)
      · have h := ite_t h c30
        refine lv_bipush (v := (-103)) hx hb dX5_states_49 (by decide) ?_
        have h := Option.some.inj h
        subst h
        exact W.iret (v := (-103)) hx hb hr (fun t ht hW9 => ⟨(-103), rfl, rfl, ht⟩) (fun _ h9 => absurd h9 List.not_mem_nil) dX5_states_51 hlocks
      · have h := ite_f h c30
        refine lv_aload_n hx hb dX5_states_33 rfl (lv_at hl 0 rfl) ?_
        refine va_get (D := D) (ci := 5) (v := .ref (a 4)) (C := RX5) (T := TX5) (N := 6) hx hb hW inX5G hown hK.1 hP 0 rfl rfl 3 (by decide) (hW _ wg204) (fun _ h9 => h9) rfl dX5_states_34 ?_
        refine va_getN (D := D) (ci := 1) (v := .ref (a 17)) (C := RX1) (T := TX1) (N := 14) hx hb hW inX1G hown hK.1 hP 4 rfl rfl 6 (by decide) (hK.2.fld nw224) (fun _ h9 => h9) rfl dX5_states_37 ?_
        refine lv_iload_n hx hb dX5_states_40 rfl (lv_at hl 1 rfl) ?_
        refine lv_iconst (v := 5) hx hb dX5_states_41 (by decide) ?_
        refine lv_imul hx hb dX5_states_42 ?_
        refine lv_iload_n hx hb dX5_states_43 rfl (lv_at hl 2 rfl) ?_
        refine lv_iadd hx hb dX5_states_44 ?_
        obtain ⟨hi45, h⟩ := ix_o h
        refine va_iald (D := D) hx hb hK.1 hP 17 11 rfl rfl hi45 dX5_states_45 ?_
        refine lv_goto (tgt := 51) hx hb dX5_states_46 (by decide) ?_
        have h := Option.some.inj h
        subst h
        exact W.iret (v := (σ.2 11 ((x1 * 5) + x2).toNatClampNeg)) hx hb hr (fun t ht hW9 => ⟨(σ.2 11 ((x1 * 5) + x2).toNatClampNeg), rfl, rfl, ht⟩) (fun _ h9 => absurd h9 List.not_mem_nil) dX5_states_51 hlocks
    · have h := ite_t h c20
      refine lv_bipush (v := (-102)) hx hb dX5_states_23 (by decide) ?_
      have h := Option.some.inj h
      subst h
      exact W.iret (v := (-102)) hx hb hr (fun t ht hW9 => ⟨(-102), rfl, rfl, ht⟩) (fun _ h9 => absurd h9 List.not_mem_nil) dX5_states_25 hlocks
  · have h := ite_t h c8
    refine lv_bipush (v := (-101)) hx hb dX5_states_11 (by decide) ?_
    have h := Option.some.inj h
    subst h
    exact W.iret (v := (-101)) hx hb hr (fun t ht hW9 => ⟨(-101), rfl, rfl, ht⟩) (fun _ h9 => absurd h9 List.not_mem_nil) dX5_states_13 hlocks
set_option maxHeartbeats 4000000 in
set_option maxRecDepth 100000 in
theorem mX5_nodes (l : Launch) (D : va_G) (a : Nat → Nat) (k : Nat → ClassId) (σ : ST) (x1 : Int32) (o : Int32) (h : fX5_nodes σ x1 = some o) : Met l yX5_nodes ((Cond.code yX5_nodes cX5_nodes 2 (some .int)) :: WG) ({ frames := 1, cells := 0, slots := 0, locals := 21 } : Room) (Pw D (tX k) (AX a) (wX a k σ) [.ref (a 0), .int x1]) (vp_Si (fun z => z = o)) 0 0 (fun _ => False) := by
  refine Met.ofW (cc := cX5_nodes) (maxL := 2) (ret := (some .int)) (by decide) rfl ?_
  intro p e s m args below meth c s₁ B hml0 hv
  have C : Cx p s m args meth c cX5_nodes 2 RX5 (Cond.code yX5_nodes cX5_nodes 2 (some .int)) (some .int) := ⟨B.exec, B.bytes, B.returns, hml0, findClass_of_methodNamed B.named, atoms_spec (ws := (Cond.code yX5_nodes cX5_nodes 2 (some .int)) :: WG) B.pre, B.notSynchronized⟩
  obtain ⟨rfl, hP, hK, hD⟩ := hv
  have hK : Kx D (tX k) s := hK
  have C0 := C
  obtain ⟨hx, hb, hr, hml, hown, hts, hlocks⟩ := C0
  have hW : ∀ w ∈ WG, w.before _ s = true := fun w h => hts w (List.mem_cons_of_mem _ h)
  show W p l e ({ frames := 1, cells := 0, slots := 0, locals := 21 } : Room) s m _ below meth c s.heap [] 0 0 _ _
  have hl := lv_entry ([.ref (a 0), .int x1]) (n := 2) (Nat.le_of_ble_eq_true rfl)
  rw [lg_entry_eq]
  generalize (lg_sl ([.ref (a 0), .int x1]) ++ List.replicate (2 - (lg_sl ([.ref (a 0), .int x1])).length) Slot.unset).toArray = ls at hl ⊢
  have hl : lv_has ls 2 [(0, .ref (a 0)), (1, .int x1)] := hl
  unfold fX5_nodes at h
  refine lv_iload_n hx hb dX5_nodes_0 rfl (lv_at hl 1 rfl) ?_
  refine lv_bipush (v := 43) hx hb dX5_nodes_1 (by decide) ?_
  obtain ⟨r3, hc3, h⟩ := bd_o h
  refine callRI (va_runS (As := [.int x1, .int 43]) (rest := []) ⟨hx, hb, hml, hown, hts⟩ (mX5_isWithin l _ _ _ hc3) ⟨callB_of 2 hts (wg_c wg1) rfl rfl rfl (hW _ wg3) (hW _ wg27) hdX5_isWithin ⟨Nat.le_of_ble_eq_true rfl, Nat.le_of_ble_eq_true rfl⟩, hW _ wg4⟩ preEq rfl rfl hl.1 rfl (lv_room (Nat.le_of_ble_eq_true rfl)) dX5_nodes_3 ⟨Nat.zero_le _, Nat.zero_le _⟩) ?_
  refine lv_if_ne (tgt := 12) hx hb dX5_nodes_6 (by decide) (fun c6 => ?_) (fun c6 => ?_)
  · have h := ite_f h c6
    refine lv_aload_n hx hb dX5_nodes_12 rfl (lv_at hl 0 rfl) ?_
    refine va_get (D := D) (ci := 5) (v := .int (σ.1 0)) (C := RX5) (T := TX5) (N := 6) hx hb hW inX5G hown hK.1 hP 0 rfl rfl 5 (by decide) (hW _ wg10) (fun _ h9 => h9) rfl dX5_nodes_13 ?_
    refine lv_if_ne (tgt := 22) hx hb dX5_nodes_16 (by decide) (fun c16 => ?_) (fun c16 => ?_)
    · have h := ite_f h c16
      refine lv_iload_n hx hb dX5_nodes_22 rfl (lv_at hl 1 rfl) ?_
      refine lv_bipush (v := 42) hx hb dX5_nodes_23 (by decide) ?_
      refine lv_icmp_ne (tgt := 38) hx hb dX5_nodes_25 (by decide) (fun c25 => ?_) (fun c25 => ?_)
      · have h := ite_f h c25
        refine lv_aload_n hx hb dX5_nodes_38 rfl (lv_at hl 0 rfl) ?_
        refine va_get (D := D) (ci := 5) (v := .ref (a 4)) (C := RX5) (T := TX5) (N := 6) hx hb hW inX5G hown hK.1 hP 0 rfl rfl 3 (by decide) (hW _ wg204) (fun _ h9 => h9) rfl dX5_nodes_39 ?_
        refine va_getN (D := D) (ci := 1) (v := .ref (a 16)) (C := RX1) (T := TX1) (N := 14) hx hb hW inX1G hown hK.1 hP 4 rfl rfl 5 (by decide) (hK.2.fld nw225) (fun _ h9 => h9) rfl dX5_nodes_42 ?_
        refine lv_iload_n hx hb dX5_nodes_45 rfl (lv_at hl 1 rfl) ?_
        obtain ⟨hi46, h⟩ := ix_o h
        refine va_iald (D := D) hx hb hK.1 hP 16 10 rfl rfl hi46 dX5_nodes_46 ?_
        have h := Option.some.inj h
        subst h
        exact W.iret (v := (σ.2 10 x1.toNatClampNeg)) hx hb hr (fun t ht hW9 => ⟨(σ.2 10 x1.toNatClampNeg), rfl, rfl, ht⟩) (fun _ h9 => absurd h9 List.not_mem_nil) dX5_nodes_47 hlocks
      · have h := ite_t h c25
        refine lv_aload_n hx hb dX5_nodes_28 rfl (lv_at hl 0 rfl) ?_
        refine va_get (D := D) (ci := 5) (v := .ref (a 4)) (C := RX5) (T := TX5) (N := 6) hx hb hW inX5G hown hK.1 hP 0 rfl rfl 3 (by decide) (hW _ wg204) (fun _ h9 => h9) rfl dX5_nodes_29 ?_
        refine va_getN (D := D) (ci := 1) (v := .int (σ.1 3)) (C := RX1) (T := TX1) (N := 14) hx hb hW inX1G hown hK.1 hP 4 rfl rfl 9 (by decide) (hK.2.fld nw226) (fun _ h9 => h9) rfl dX5_nodes_32 ?_
        refine lv_goto (tgt := 47) hx hb dX5_nodes_35 (by decide) ?_
        have h := Option.some.inj h
        subst h
        exact W.iret (v := (σ.1 3)) hx hb hr (fun t ht hW9 => ⟨(σ.1 3), rfl, rfl, ht⟩) (fun _ h9 => absurd h9 List.not_mem_nil) dX5_nodes_47 hlocks
    · have h := ite_t h c16
      refine lv_bipush (v := (-103)) hx hb dX5_nodes_19 (by decide) ?_
      have h := Option.some.inj h
      subst h
      exact W.iret (v := (-103)) hx hb hr (fun t ht hW9 => ⟨(-103), rfl, rfl, ht⟩) (fun _ h9 => absurd h9 List.not_mem_nil) dX5_nodes_21 hlocks
  · have h := ite_t h c6
    refine lv_bipush (v := (-102)) hx hb dX5_nodes_9 (by decide) ?_
    have h := Option.some.inj h
    subst h
    exact W.iret (v := (-102)) hx hb hr (fun t ht hW9 => ⟨(-102), rfl, rfl, ht⟩) (fun _ h9 => absurd h9 List.not_mem_nil) dX5_nodes_11 hlocks
set_option maxHeartbeats 4000000 in
set_option maxRecDepth 100000 in
theorem mX5_atOnce (l : Launch) (D : va_G) (a : Nat → Nat) (k : Nat → ClassId) (σ : ST) (x1 : Int32) (o : Int32) (h : fX5_atOnce σ x1 = some o) : Met l yX5_atOnce ((Cond.code yX5_atOnce cX5_atOnce 2 (some .int)) :: WG) ({ frames := 1, cells := 0, slots := 0, locals := 21 } : Room) (Pw D (tX k) (AX a) (wX a k σ) [.ref (a 0), .int x1]) (vp_Si (fun z => z = o)) 0 0 (fun _ => False) := by
  refine Met.ofW (cc := cX5_atOnce) (maxL := 2) (ret := (some .int)) (by decide) rfl ?_
  intro p e s m args below meth c s₁ B hml0 hv
  have C : Cx p s m args meth c cX5_atOnce 2 RX5 (Cond.code yX5_atOnce cX5_atOnce 2 (some .int)) (some .int) := ⟨B.exec, B.bytes, B.returns, hml0, findClass_of_methodNamed B.named, atoms_spec (ws := (Cond.code yX5_atOnce cX5_atOnce 2 (some .int)) :: WG) B.pre, B.notSynchronized⟩
  obtain ⟨rfl, hP, hK, hD⟩ := hv
  have hK : Kx D (tX k) s := hK
  have C0 := C
  obtain ⟨hx, hb, hr, hml, hown, hts, hlocks⟩ := C0
  have hW : ∀ w ∈ WG, w.before _ s = true := fun w h => hts w (List.mem_cons_of_mem _ h)
  show W p l e ({ frames := 1, cells := 0, slots := 0, locals := 21 } : Room) s m _ below meth c s.heap [] 0 0 _ _
  have hl := lv_entry ([.ref (a 0), .int x1]) (n := 2) (Nat.le_of_ble_eq_true rfl)
  rw [lg_entry_eq]
  generalize (lg_sl ([.ref (a 0), .int x1]) ++ List.replicate (2 - (lg_sl ([.ref (a 0), .int x1])).length) Slot.unset).toArray = ls at hl ⊢
  have hl : lv_has ls 2 [(0, .ref (a 0)), (1, .int x1)] := hl
  unfold fX5_atOnce at h
  refine lv_iload_n hx hb dX5_atOnce_0 rfl (lv_at hl 1 rfl) ?_
  refine lv_iconst (v := 3) hx hb dX5_atOnce_1 (by decide) ?_
  obtain ⟨r2, hc2, h⟩ := bd_o h
  refine callRI (va_runS (As := [.int x1, .int 3]) (rest := []) ⟨hx, hb, hml, hown, hts⟩ (mX5_isWithin l _ _ _ hc2) ⟨callB_of 2 hts (wg_c wg1) rfl rfl rfl (hW _ wg3) (hW _ wg27) hdX5_isWithin ⟨Nat.le_of_ble_eq_true rfl, Nat.le_of_ble_eq_true rfl⟩, hW _ wg4⟩ preEq rfl rfl hl.1 rfl (lv_room (Nat.le_of_ble_eq_true rfl)) dX5_atOnce_2 ⟨Nat.zero_le _, Nat.zero_le _⟩) ?_
  refine lv_if_ne (tgt := 11) hx hb dX5_atOnce_5 (by decide) (fun c5 => ?_) (fun c5 => ?_)
  · have h := ite_f h c5
    refine lv_aload_n hx hb dX5_atOnce_11 rfl (lv_at hl 0 rfl) ?_
    refine va_get (D := D) (ci := 5) (v := .int (σ.1 0)) (C := RX5) (T := TX5) (N := 6) hx hb hW inX5G hown hK.1 hP 0 rfl rfl 5 (by decide) (hW _ wg10) (fun _ h9 => h9) rfl dX5_atOnce_12 ?_
    refine lv_if_ne (tgt := 21) hx hb dX5_atOnce_15 (by decide) (fun c15 => ?_) (fun c15 => ?_)
    · have h := ite_f h c15
      refine lv_iload_n hx hb dX5_atOnce_21 rfl (lv_at hl 1 rfl) ?_
      by_cases c22_0 : x1 = 0
      · have h := ite_t h c22_0
        refine lv_lookup (off := 26) (tgt := 48) hx hb dX5_atOnce_22 (by decide) (by rw [c22_0]; try rfl) (by decide) ?_
        refine lv_aload_n hx hb dX5_atOnce_48 rfl (lv_at hl 0 rfl) ?_
        refine va_get (D := D) (ci := 5) (v := .ref (a 4)) (C := RX5) (T := TX5) (N := 6) hx hb hW inX5G hown hK.1 hP 0 rfl rfl 3 (by decide) (hW _ wg204) (fun _ h9 => h9) rfl dX5_atOnce_49 ?_
        refine va_getN (D := D) (ci := 1) (v := .int (σ.1 5)) (C := RX1) (T := TX1) (N := 14) hx hb hW inX1G hown hK.1 hP 4 rfl rfl 11 (by decide) (hK.2.fld nw227) (fun _ h9 => h9) rfl dX5_atOnce_52 ?_
        have h := Option.some.inj h
        subst h
        exact W.iret (v := (σ.1 5)) hx hb hr (fun t ht hW9 => ⟨(σ.1 5), rfl, rfl, ht⟩) (fun _ h9 => absurd h9 List.not_mem_nil) dX5_atOnce_55 hlocks
      · have h := ite_f h c22_0
        by_cases c22_1 : x1 = 1
        · have h := ite_t h c22_1
          refine lv_lookup (off := 34) (tgt := 56) hx hb dX5_atOnce_22 (by decide) (by rw [c22_1]; try rfl) (by decide) ?_
          refine lv_aload_n hx hb dX5_atOnce_56 rfl (lv_at hl 0 rfl) ?_
          refine va_get (D := D) (ci := 5) (v := .ref (a 4)) (C := RX5) (T := TX5) (N := 6) hx hb hW inX5G hown hK.1 hP 0 rfl rfl 3 (by decide) (hW _ wg204) (fun _ h9 => h9) rfl dX5_atOnce_57 ?_
          refine va_getN (D := D) (ci := 1) (v := .int (σ.1 6)) (C := RX1) (T := TX1) (N := 14) hx hb hW inX1G hown hK.1 hP 4 rfl rfl 12 (by decide) (hK.2.fld nw228) (fun _ h9 => h9) rfl dX5_atOnce_60 ?_
          have h := Option.some.inj h
          subst h
          exact W.iret (v := (σ.1 6)) hx hb hr (fun t ht hW9 => ⟨(σ.1 6), rfl, rfl, ht⟩) (fun _ h9 => absurd h9 List.not_mem_nil) dX5_atOnce_63 hlocks
        · have h := ite_f h c22_1
          refine lv_lookup (off := 42) (tgt := 64) hx hb dX5_atOnce_22 (by decide) (by show Op.lookupswitch.offset (_ :: _) _ _ = _; rw [lv_osw c22_0 (by decide), lv_osw c22_1 (by decide)]; try rfl) (by decide) ?_
          refine lv_aload_n hx hb dX5_atOnce_64 rfl (lv_at hl 0 rfl) ?_
          refine va_get (D := D) (ci := 5) (v := .ref (a 4)) (C := RX5) (T := TX5) (N := 6) hx hb hW inX5G hown hK.1 hP 0 rfl rfl 3 (by decide) (hW _ wg204) (fun _ h9 => h9) rfl dX5_atOnce_65 ?_
          refine va_getN (D := D) (ci := 1) (v := .int (σ.1 7)) (C := RX1) (T := TX1) (N := 14) hx hb hW inX1G hown hK.1 hP 4 rfl rfl 13 (by decide) (hK.2.fld nw229) (fun _ h9 => h9) rfl dX5_atOnce_68 ?_
          have h := Option.some.inj h
          subst h
          exact W.iret (v := (σ.1 7)) hx hb hr (fun t ht hW9 => ⟨(σ.1 7), rfl, rfl, ht⟩) (fun _ h9 => absurd h9 List.not_mem_nil) dX5_atOnce_71 hlocks
    · have h := ite_t h c15
      refine lv_bipush (v := (-103)) hx hb dX5_atOnce_18 (by decide) ?_
      have h := Option.some.inj h
      subst h
      exact W.iret (v := (-103)) hx hb hr (fun t ht hW9 => ⟨(-103), rfl, rfl, ht⟩) (fun _ h9 => absurd h9 List.not_mem_nil) dX5_atOnce_20 hlocks
  · have h := ite_t h c5
    refine lv_bipush (v := (-102)) hx hb dX5_atOnce_8 (by decide) ?_
    have h := Option.some.inj h
    subst h
    exact W.iret (v := (-102)) hx hb hr (fun t ht hW9 => ⟨(-102), rfl, rfl, ht⟩) (fun _ h9 => absurd h9 List.not_mem_nil) dX5_atOnce_10 hlocks
set_option maxHeartbeats 4000000 in
set_option maxRecDepth 100000 in
theorem mX4_draw (l : Launch) (D : va_G) (a : Nat → Nat) (k : Nat → ClassId) (σ : ST) (o : Int32 × ST) (h : fX4_draw σ = some o) : Met l yX4_draw ((Cond.code yX4_draw cX4_draw 1 (some .int)) :: WG) ({ frames := 0, cells := 0, slots := 0, locals := 0 } : Room) (Pw D (tX k) (AX a) (wX a k σ) [.ref (a 5)]) (va_Qi (S := Unit) (fun z _ => z = o.1) (fun _ t => va_P D vwCl (wX a k o.2) t.heap) (AX a)) 0 0 (AX a) := by
  refine Met.ofW (cc := cX4_draw) (maxL := 1) (ret := (some .int)) (by decide) rfl ?_
  intro p e s m args below meth c s₁ B hml0 hv
  have C : Cx p s m args meth c cX4_draw 1 RX4 (Cond.code yX4_draw cX4_draw 1 (some .int)) (some .int) := ⟨B.exec, B.bytes, B.returns, hml0, findClass_of_methodNamed B.named, atoms_spec (ws := (Cond.code yX4_draw cX4_draw 1 (some .int)) :: WG) B.pre, B.notSynchronized⟩
  obtain ⟨rfl, hP, hK, hD⟩ := hv
  have hK : Kx D (tX k) s := hK
  have C0 := C
  obtain ⟨hx, hb, hr, hml, hown, hts, hlocks⟩ := C0
  have hW : ∀ w ∈ WG, w.before _ s = true := fun w h => hts w (List.mem_cons_of_mem _ h)
  show W p l e ({ frames := 0, cells := 0, slots := 0, locals := 0 } : Room) s m _ below meth c s.heap [] 0 0 _ _
  have hl := lv_entry ([.ref (a 5)]) (n := 1) (Nat.le_of_ble_eq_true rfl)
  rw [lg_entry_eq]
  generalize (lg_sl ([.ref (a 5)]) ++ List.replicate (1 - (lg_sl ([.ref (a 5)])).length) Slot.unset).toArray = ls at hl ⊢
  have hl : lv_has ls 1 [(0, .ref (a 5))] := hl
  have hS : va_S (AX a) s.heap s.heap [] := va_S.rf
  suffices hgo : ∀ (H : Heap) (locs : List Loc), va_P D vwCl (wX a k σ) H → va_S (AX a) s.heap H locs → W p l e ({ frames := 0, cells := 0, slots := 0, locals := 0 } : Room) s m _ below meth c H locs 0 0 (MQ below (va_Qi (S := Unit) (fun z _ => z = o.1) (fun _ t => va_P D vwCl (wX a k o.2) t.heap) (AX a)) _ s 0 0 (AX a)) (F0 m 0 ls []) from hgo _ _ hP hS
  clear hP hS
  intro H locs hP hS
  unfold fX4_draw at h
  refine lv_aload_n hx hb dX4_draw_0 rfl (lv_at hl 0 rfl) ?_
  refine lv_ldc (v := 1103515245) hx hb hown (hW _ wg230) dX4_draw_1 ?_
  refine lv_aload_n hx hb dX4_draw_3 rfl (lv_at hl 0 rfl) ?_
  refine va_get (D := D) (ci := 4) (v := .int (σ.1 13)) (C := RX4) (T := TX4) (N := 7) hx hb hW inX4G hown hK.1 hP 5 rfl rfl 6 (by decide) (hW _ wg231) (fun _ h9 => h9) rfl dX4_draw_4 ?_
  refine lv_imul hx hb dX4_draw_7 ?_
  refine lv_sipush (v := 12345) hx hb dX4_draw_8 (by decide) ?_
  refine lv_iadd hx hb dX4_draw_11 ?_
  refine va_put (D := D) (ci := 4) (v := .int ((1103515245 * (σ.1 13)) + 12345)) (ty := .int) (C := RX4) (T := TX4) (N := 7) hx hb hW inX4G tyX4 tyX4_ok nmX4 hown hK.1 hP hD hS 5 rfl rfl 6 (by decide) (hW _ wg231) (fun _ h9 => h9) rfl (by decide +kernel) rfl rfl (Nat.le_of_ble_eq_true rfl) dX4_draw_12 (fun H locs hP hD9 hS => ?_)
  obtain ⟨s12, es12⟩ : ∃ z : ST, z = setF σ 13 ((1103515245 * (σ.1 13)) + 12345) := ⟨_, rfl⟩
  have h := nm_o h es12
  have hP : va_P D vwCl (wX a k s12) H := by rw [es12]; exact hP
  have hD : va_D (AX a) (wX a k s12) := dX hD
  refine lv_aload_n hx hb dX4_draw_15 rfl (lv_at hl 0 rfl) ?_
  refine lv_dup hx hb dX4_draw_16 rfl ?_
  refine va_get (D := D) (ci := 4) (v := .int (s12.1 10)) (C := RX4) (T := TX4) (N := 7) hx hb hW inX4G hown hK.1 hP 5 rfl rfl 3 (by decide) (hW _ wg232) (fun _ h9 => h9) rfl dX4_draw_17 ?_
  refine lv_iconst (v := 1) hx hb dX4_draw_20 (by decide) ?_
  refine lv_iadd hx hb dX4_draw_21 ?_
  refine va_put (D := D) (ci := 4) (v := .int ((s12.1 10) + 1)) (ty := .int) (C := RX4) (T := TX4) (N := 7) hx hb hW inX4G tyX4 tyX4_ok nmX4 hown hK.1 hP hD hS 5 rfl rfl 3 (by decide) (hW _ wg232) (fun _ h9 => h9) rfl (by decide +kernel) rfl rfl (Nat.le_of_ble_eq_true rfl) dX4_draw_22 (fun H locs hP hD9 hS => ?_)
  obtain ⟨s22, es22⟩ : ∃ z : ST, z = setF s12 10 ((s12.1 10) + 1) := ⟨_, rfl⟩
  have h := nm_o h es22
  have hP : va_P D vwCl (wX a k s22) H := by rw [es22]; exact hP
  have hD : va_D (AX a) (wX a k s22) := dX hD
  refine lv_aload_n hx hb dX4_draw_25 rfl (lv_at hl 0 rfl) ?_
  refine va_get (D := D) (ci := 4) (v := .int (s22.1 13)) (C := RX4) (T := TX4) (N := 7) hx hb hW inX4G hown hK.1 hP 5 rfl rfl 6 (by decide) (hW _ wg231) (fun _ h9 => h9) rfl dX4_draw_26 ?_
  refine lv_bipush (v := 16) hx hb dX4_draw_29 (by decide) ?_
  refine lv_iushr (v := ushr32 (s22.1 13) 16) hx hb dX4_draw_31 rfl ?_
  refine lv_iconst (v := 1) hx hb dX4_draw_32 (by decide) ?_
  refine lv_iand hx hb dX4_draw_33 ?_
  have h := Option.some.inj h
  subst h
  exact W.iret (v := ((ushr32 (s22.1 13) 16) &&& 1)) hx hb hr (fun t ht hW9 => ⟨⟨((ushr32 (s22.1 13) 16) &&& 1), (), rfl, rfl, by show va_P _ _ _ t.heap; rw [ht]; exact hP⟩, hS.F ht⟩) hS.2.2 dX4_draw_34 hlocks
