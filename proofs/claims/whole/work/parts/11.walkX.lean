set_option maxHeartbeats 4000000 in
set_option maxRecDepth 100000 in
theorem mX5_change (l : Launch) (D : va_G) (a : Nat → Nat) (k : Nat → ClassId) (σ : ST) (x1 x2 x3 x4 x5 x6 : Int32) (o : Int32 × ST) (h : fX5_change σ x1 x2 x3 x4 x5 x6 = some o) : Met l yX5_change ((Cond.code yX5_change cX5_change 9 (some .int)) :: WG) ({ frames := 3, cells := 0, slots := 0, locals := 66 } : Room) (Pw D (tX k) (AX a) (wX a k σ) [.ref (a 0), .int x1, .int x2, .int x3, .int x4, .int x5, .int x6]) (va_Qi (S := Unit) (fun z _ => z = o.1) (fun _ t => va_P D vwCl (wX a k o.2) t.heap) (AX a)) 0 0 (AX a) := by
  refine Met.ofW (cc := cX5_change) (maxL := 9) (ret := (some .int)) (by decide) rfl ?_
  intro p e s m args below meth c s₁ B hml0 hv
  have C : Cx p s m args meth c cX5_change 9 RX5 (Cond.code yX5_change cX5_change 9 (some .int)) (some .int) := ⟨B.exec, B.bytes, B.returns, hml0, findClass_of_methodNamed B.named, atoms_spec (ws := (Cond.code yX5_change cX5_change 9 (some .int)) :: WG) B.pre, B.notSynchronized⟩
  obtain ⟨rfl, hP, hK, hD⟩ := hv
  have hK : Kx D (tX k) s := hK
  have C0 := C
  obtain ⟨hx, hb, hr, hml, hown, hts, hlocks⟩ := C0
  have hW : ∀ w ∈ WG, w.before _ s = true := fun w h => hts w (List.mem_cons_of_mem _ h)
  show W p l e ({ frames := 3, cells := 0, slots := 0, locals := 66 } : Room) s m _ below meth c s.heap [] 0 0 _ _
  have hl := lv_entry ([.ref (a 0), .int x1, .int x2, .int x3, .int x4, .int x5, .int x6]) (n := 9) (Nat.le_of_ble_eq_true rfl)
  rw [lg_entry_eq]
  generalize (lg_sl ([.ref (a 0), .int x1, .int x2, .int x3, .int x4, .int x5, .int x6]) ++ List.replicate (9 - (lg_sl ([.ref (a 0), .int x1, .int x2, .int x3, .int x4, .int x5, .int x6])).length) Slot.unset).toArray = ls at hl ⊢
  have hl : lv_has ls 9 [(0, .ref (a 0)), (1, .int x1), (2, .int x2), (3, .int x3), (4, .int x4), (5, .int x5), (6, .int x6)] := hl
  have hS : va_S (AX a) s.heap s.heap [] := va_S.rf
  suffices hgo : ∀ (H : Heap) (locs : List Loc), va_P D vwCl (wX a k σ) H → va_S (AX a) s.heap H locs → W p l e ({ frames := 3, cells := 0, slots := 0, locals := 66 } : Room) s m _ below meth c H locs 0 0 (MQ below (va_Qi (S := Unit) (fun z _ => z = o.1) (fun _ t => va_P D vwCl (wX a k o.2) t.heap) (AX a)) _ s 0 0 (AX a)) (F0 m 0 ls []) from hgo _ _ hP hS
  clear hP hS
  intro H locs hP hS
  unfold fX5_change at h
  refine lv_aload_n hx hb dX5_change_0 rfl (lv_at hl 0 rfl) ?_
  refine lv_iload_n hx hb dX5_change_1 rfl (lv_at hl 2 rfl) ?_
  refine lv_iload_n hx hb dX5_change_2 rfl (lv_at hl 3 rfl) ?_
  refine lv_iload hx hb dX5_change_3 (lv_at hl 4 rfl) ?_
  refine lv_iload hx hb dX5_change_5 (lv_at hl 6 rfl) ?_
  obtain ⟨r7, hc7, h⟩ := bd_o h
  refine callRI (va_runV (As := [.int x2, .int x3, .int x4, .int x6]) (rest := []) ⟨hx, hb, hml, hown, hts⟩ (mX5_refusalOf l D a k _ _ _ _ _ _ hc7) ⟨callB_of 4 hts (wg_c wg40) rfl rfl rfl (hW _ wg3) (hW _ wg39) hdX5_refusalOf ⟨Nat.le_of_ble_eq_true rfl, Nat.le_of_ble_eq_true rfl⟩, hW _ wg41, hW _ wg42⟩ (pw_V hK hP hD (ci := 5) (q0 := 0) rfl rfl) rfl rfl hl.1 rfl (lv_room (Nat.le_of_ble_eq_true rfl)) dX5_change_7 ⟨Nat.zero_le _, Nat.zero_le _⟩) ?_
  refine lv_istore (lv' := [(7, .int r7), (0, .ref (a 0)), (1, .int x1), (2, .int x2), (3, .int x3), (4, .int x4), (5, .int x5), (6, .int x6)]) hx hb dX5_change_10 hl (by decide) rfl (fun ls hl => ?_)
  refine lv_iload hx hb dX5_change_12 (lv_at hl 0 rfl) ?_
  refine lv_if_eq (tgt := 20) hx hb dX5_change_14 (by decide) (fun c14 => ?_) (fun c14 => ?_)
  · have h := ite_t h c14
    refine lv_aload_n hx hb dX5_change_20 rfl (lv_at hl 1 rfl) ?_
    refine va_get (D := D) (ci := 5) (v := .ref (a 2)) (C := RX5) (T := TX5) (N := 6) hx hb hW inX5G hown hK.1 hP 0 rfl rfl 1 (by decide) (hW _ wg43) (fun _ h9 => h9) rfl dX5_change_21 ?_
    refine lv_iload_n hx hb dX5_change_24 rfl (lv_at hl 2 rfl) ?_
    obtain ⟨r25, hc25, h⟩ := bd_o h
    refine callRI (va_runVN (As := [.int x1]) (rest := []) ⟨hx, hb, hml, hown, hts⟩ (mX2_has l D a k _ _ _ hc25) ⟨va_cnB 1 hts (wg_c wg52) rfl rfl rfl (hK.2 _ nw53) (hW _ wg47) hdX2_has ⟨Nat.le_of_ble_eq_true rfl, Nat.le_of_ble_eq_true rfl⟩, hW _ wg54, hW _ wg55⟩ (pw_V hK hP hD (ci := 2) (q0 := 2) rfl rfl) rfl rfl hl.1 rfl (lv_room (Nat.le_of_ble_eq_true rfl)) dX5_change_25 ⟨Nat.zero_le _, Nat.zero_le _⟩) ?_
    refine lv_if_ne (tgt := 34) hx hb dX5_change_28 (by decide) (fun c28 => ?_) (fun c28 => ?_)
    · have h := ite_f h c28
      refine lv_aload_n hx hb dX5_change_34 rfl (lv_at hl 1 rfl) ?_
      refine va_get (D := D) (ci := 5) (v := .ref (a 2)) (C := RX5) (T := TX5) (N := 6) hx hb hW inX5G hown hK.1 hP 0 rfl rfl 1 (by decide) (hW _ wg43) (fun _ h9 => h9) rfl dX5_change_35 ?_
      refine va_getN (D := D) (ci := 2) (v := .ref (a 9)) (C := RX2) (T := TX2) (N := 6) hx hb hW inX2G hown hK.1 hP 2 rfl rfl 0 (by decide) (hK.2.fld nw56) (fun _ h9 => h9) rfl dX5_change_38 ?_
      refine lv_iload_n hx hb dX5_change_41 rfl (lv_at hl 2 rfl) ?_
      obtain ⟨hi42, h⟩ := ix_o h
      refine va_iald (D := D) hx hb hK.1 hP 9 3 rfl rfl hi42 dX5_change_42 ?_
      refine lv_topi (fun x8_43 ex8_43 => ?_)
      have h := nm_o h ex8_43
      refine lv_istore (lv' := [(8, .int x8_43), (7, .int r7), (0, .ref (a 0)), (1, .int x1), (2, .int x2), (3, .int x3), (4, .int x4), (5, .int x5), (6, .int x6)]) hx hb dX5_change_43 hl (by decide) rfl (fun ls hl => ?_)
      refine lv_aload_n hx hb dX5_change_45 rfl (lv_at hl 2 rfl) ?_
      refine va_get (D := D) (ci := 5) (v := .ref (a 2)) (C := RX5) (T := TX5) (N := 6) hx hb hW inX5G hown hK.1 hP 0 rfl rfl 1 (by decide) (hW _ wg43) (fun _ h9 => h9) rfl dX5_change_46 ?_
      refine lv_iload_n hx hb dX5_change_49 rfl (lv_at hl 3 rfl) ?_
      refine lv_iload_n hx hb dX5_change_50 rfl (lv_at hl 4 rfl) ?_
      refine lv_iload_n hx hb dX5_change_51 rfl (lv_at hl 5 rfl) ?_
      refine lv_iload hx hb dX5_change_52 (lv_at hl 6 rfl) ?_
      refine lv_iload hx hb dX5_change_54 (lv_at hl 7 rfl) ?_
      refine lv_iload hx hb dX5_change_56 (lv_at hl 8 rfl) ?_
      obtain ⟨r58, hc58, h⟩ := bd_o h
      refine callWV (va_runVN (As := [.int x1, .int x2, .int x3, .int x4, .int x5, .int x6]) (rest := []) ⟨hx, hb, hml, hown, hts⟩ (mX2_write l D a k _ _ _ _ _ _ _ _ hc58) ⟨va_cnB 6 hts (wg_c wg45) rfl rfl rfl (hK.2 _ nw46) (hW _ wg47) hdX2_write ⟨Nat.le_of_ble_eq_true rfl, Nat.le_of_ble_eq_true rfl⟩, hW _ wg48, hW _ wg49⟩ (pw_V hK hP hD (ci := 2) (q0 := 2) rfl rfl) rfl rfl hl.1 rfl (lv_room (Nat.le_of_ble_eq_true rfl)) dX5_change_58 ⟨Nat.zero_le _, Nat.zero_le _⟩) hS (fun H locs hP hS => ?_)
      have hD : va_D (AX a) (wX a k r58) := dX hD
      refine lv_aload_n hx hb dX5_change_61 rfl (lv_at hl 2 rfl) ?_
      refine lv_iconst (v := 0) hx hb dX5_change_62 (by decide) ?_
      refine va_put (D := D) (ci := 5) (v := .int 0) (ty := .boolean) (C := RX5) (T := TX5) (N := 6) hx hb hW inX5G tyX5 tyX5_ok nmX5 hown hK.1 hP hD hS 0 rfl rfl 5 (by decide) (hW _ wg10) (fun _ h9 => h9) rfl (by decide +kernel) rfl rfl (Nat.le_of_ble_eq_true rfl) dX5_change_63 (fun H locs hP hD9 hS => ?_)
      obtain ⟨s63, es63⟩ : ∃ z : ST, z = setF r58 0 0 := ⟨_, rfl⟩
      have h := nm_o h es63
      have hP : va_P D vwCl (wX a k s63) H := by rw [es63]; exact hP
      have hD : va_D (AX a) (wX a k s63) := dX hD
      refine lv_iload hx hb dX5_change_66 (lv_at hl 0 rfl) ?_
      have h := Option.some.inj h
      subst h
      exact W.iret (v := x8_43) hx hb hr (fun t ht hW9 => ⟨⟨x8_43, (), rfl, rfl, by show va_P _ _ _ t.heap; rw [ht]; exact hP⟩, hS.F ht⟩) hS.2.2 dX5_change_68 hlocks
    · have h := ite_t h c28
      refine lv_bipush (v := (-102)) hx hb dX5_change_31 (by decide) ?_
      have h := Option.some.inj h
      subst h
      exact W.iret (v := (-102)) hx hb hr (fun t ht hW9 => ⟨⟨(-102), (), rfl, rfl, by show va_P _ _ _ t.heap; rw [ht]; exact hP⟩, hS.F ht⟩) hS.2.2 dX5_change_33 hlocks
  · have h := ite_f h c14
    refine lv_iload hx hb dX5_change_17 (lv_at hl 0 rfl) ?_
    have h := Option.some.inj h
    subst h
    exact W.iret (v := r7) hx hb hr (fun t ht hW9 => ⟨⟨r7, (), rfl, rfl, by show va_P _ _ _ t.heap; rw [ht]; exact hP⟩, hS.F ht⟩) hS.2.2 dX5_change_19 hlocks
set_option maxHeartbeats 4000000 in
set_option maxRecDepth 100000 in
theorem bX1_forget_L2 {p : Program} {l : Launch} {e : Env} {s : State} {m : MethodId} {args : Array Value} {below : List Frame} {meth : Method} {c : Code} {D : va_G} {a : Nat → Nat} {k : Nat → ClassId} {o : ST} (C : Cx p s m args meth c cX1_forget 2 RX1 (Cond.code yX1_forget cX1_forget 2 none) none) (hK : Kx D (tX k) s) : ∀ (n : Nat) (x1 : Int32) (σ : ST) (H : Heap) (locs : List Loc) (ls : Array Slot), va_P D vwCl (wX a k σ) H → va_D (AX a) (wX a k σ) → va_S (AX a) s.heap H locs → lv_has ls 2 [(0, .ref (a 4)), (1, .int x1)] → fX1_forget_L2 n x1 σ = some o → W p l e ({ frames := 1, cells := 0, slots := 0, locals := 23 } : Room) s m args below meth c H locs 0 0 (MQ below (va_Qv (S := Unit) (fun _ => True) (fun _ t => va_P D vwCl (wX a k o) t.heap) (AX a)) args s 0 0 (AX a)) (F0 m 2 ls []) := by
  have C0 := C
  obtain ⟨hx, hb, hr, hml, hown, hts, hlocks⟩ := C0
  have hW : ∀ w ∈ WG, w.before args s = true := fun w h => hts w (List.mem_cons_of_mem _ h)
  intro n
  induction n with
  | zero =>
    intro x1 σ H locs ls hP hD hS hl h
    rw [fX1_forget_L2] at h
    cases h
  | succ n ih =>
      intro x1 σ H locs ls hP hD hS hl h
      rw [fX1_forget_L2] at h
      refine lv_iload_n hx hb dX1_forget_2 rfl (lv_at hl 1 rfl) ?_
      refine lv_aload_n hx hb dX1_forget_3 rfl (lv_at hl 0 rfl) ?_
      refine va_get (D := D) (ci := 1) (v := .int (σ.1 3)) (C := RX1) (T := TX1) (N := 14) hx hb hW inX1G hown hK.1 hP 4 rfl rfl 9 (by decide) (hW _ wg57) (fun _ h9 => h9) rfl dX1_forget_4 ?_
      refine lv_icmp_ge (tgt := 28) hx hb dX1_forget_7 (by decide) (fun c7 => ?_) (fun c7 => ?_)
      · have h := ite_t h c7
        refine lv_aload_n hx hb dX1_forget_28 rfl (lv_at hl 0 rfl) ?_
        refine lv_iconst (v := 0) hx hb dX1_forget_29 (by decide) ?_
        refine va_put (D := D) (ci := 1) (v := .int 0) (ty := .int) (C := RX1) (T := TX1) (N := 14) hx hb hW inX1G tyX1 tyX1_ok nmX1 hown hK.1 hP hD hS 4 rfl rfl 9 (by decide) (hW _ wg57) (fun _ h9 => h9) rfl (by decide +kernel) rfl rfl (Nat.le_of_ble_eq_true rfl) dX1_forget_30 (fun H locs hP hD9 hS => ?_)
        obtain ⟨s30, es30⟩ : ∃ z : ST, z = setF σ 3 0 := ⟨_, rfl⟩
        have h := nm_o h es30
        have hP : va_P D vwCl (wX a k s30) H := by rw [es30]; exact hP
        have hD : va_D (AX a) (wX a k s30) := dX hD
        refine lv_aload_n hx hb dX1_forget_33 rfl (lv_at hl 0 rfl) ?_
        refine lv_iconst (v := 0) hx hb dX1_forget_34 (by decide) ?_
        refine va_put (D := D) (ci := 1) (v := .int 0) (ty := .int) (C := RX1) (T := TX1) (N := 14) hx hb hW inX1G tyX1 tyX1_ok nmX1 hown hK.1 hP hD hS 4 rfl rfl 10 (by decide) (hW _ wg58) (fun _ h9 => h9) rfl (by decide +kernel) rfl rfl (Nat.le_of_ble_eq_true rfl) dX1_forget_35 (fun H locs hP hD9 hS => ?_)
        obtain ⟨s35, es35⟩ : ∃ z : ST, z = setF s30 4 0 := ⟨_, rfl⟩
        have h := nm_o h es35
        have hP : va_P D vwCl (wX a k s35) H := by rw [es35]; exact hP
        have hD : va_D (AX a) (wX a k s35) := dX hD
        refine lv_aload_n hx hb dX1_forget_38 rfl (lv_at hl 0 rfl) ?_
        refine lv_iconst (v := 0) hx hb dX1_forget_39 (by decide) ?_
        refine va_put (D := D) (ci := 1) (v := .int 0) (ty := .int) (C := RX1) (T := TX1) (N := 14) hx hb hW inX1G tyX1 tyX1_ok nmX1 hown hK.1 hP hD hS 4 rfl rfl 11 (by decide) (hW _ wg59) (fun _ h9 => h9) rfl (by decide +kernel) rfl rfl (Nat.le_of_ble_eq_true rfl) dX1_forget_40 (fun H locs hP hD9 hS => ?_)
        obtain ⟨s40, es40⟩ : ∃ z : ST, z = setF s35 5 0 := ⟨_, rfl⟩
        have h := nm_o h es40
        have hP : va_P D vwCl (wX a k s40) H := by rw [es40]; exact hP
        have hD : va_D (AX a) (wX a k s40) := dX hD
        refine lv_aload_n hx hb dX1_forget_43 rfl (lv_at hl 0 rfl) ?_
        refine lv_iconst (v := 0) hx hb dX1_forget_44 (by decide) ?_
        refine va_put (D := D) (ci := 1) (v := .int 0) (ty := .int) (C := RX1) (T := TX1) (N := 14) hx hb hW inX1G tyX1 tyX1_ok nmX1 hown hK.1 hP hD hS 4 rfl rfl 12 (by decide) (hW _ wg60) (fun _ h9 => h9) rfl (by decide +kernel) rfl rfl (Nat.le_of_ble_eq_true rfl) dX1_forget_45 (fun H locs hP hD9 hS => ?_)
        obtain ⟨s45, es45⟩ : ∃ z : ST, z = setF s40 6 0 := ⟨_, rfl⟩
        have h := nm_o h es45
        have hP : va_P D vwCl (wX a k s45) H := by rw [es45]; exact hP
        have hD : va_D (AX a) (wX a k s45) := dX hD
        refine lv_aload_n hx hb dX1_forget_48 rfl (lv_at hl 0 rfl) ?_
        refine lv_iconst (v := 0) hx hb dX1_forget_49 (by decide) ?_
        refine va_put (D := D) (ci := 1) (v := .int 0) (ty := .int) (C := RX1) (T := TX1) (N := 14) hx hb hW inX1G tyX1 tyX1_ok nmX1 hown hK.1 hP hD hS 4 rfl rfl 13 (by decide) (hW _ wg61) (fun _ h9 => h9) rfl (by decide +kernel) rfl rfl (Nat.le_of_ble_eq_true rfl) dX1_forget_50 (fun H locs hP hD9 hS => ?_)
        obtain ⟨s50, es50⟩ : ∃ z : ST, z = setF s45 7 0 := ⟨_, rfl⟩
        have h := nm_o h es50
        have hP : va_P D vwCl (wX a k s50) H := by rw [es50]; exact hP
        have hD : va_D (AX a) (wX a k s50) := dX hD
        refine lv_aload_n hx hb dX1_forget_53 rfl (lv_at hl 0 rfl) ?_
        refine va_get (D := D) (ci := 1) (v := .ref (a 16)) (C := RX1) (T := TX1) (N := 14) hx hb hW inX1G hown hK.1 hP 4 rfl rfl 5 (by decide) (hW _ wg62) (fun _ h9 => h9) rfl dX1_forget_54 ?_
        refine lv_iconst (v := 0) hx hb dX1_forget_57 (by decide) ?_
        refine fill_X (j := 10) (n := 42) (q := 16) (v := 0) hx hb hml hown hts (hW _ wg63) (hW _ wg64) (hW _ wg65) (wg66) hK hP hD hS rfl rfl rfl rfl rfl rfl hl.1 (lv_room (Nat.le_of_ble_eq_true rfl)) dX1_forget_58 (fun H locs hP hS => ?_)
        obtain ⟨s58, es58⟩ : ∃ z : ST, z = fillA s50 10 42 0 := ⟨_, rfl⟩
        have h := nm_o h es58
        have hP : va_P D vwCl (wX a k s58) H := by rw [es58]; exact hP
        have hD : va_D (AX a) (wX a k s58) := dX hD
        refine lv_aload_n hx hb dX1_forget_61 rfl (lv_at hl 0 rfl) ?_
        refine va_get (D := D) (ci := 1) (v := .ref (a 17)) (C := RX1) (T := TX1) (N := 14) hx hb hW inX1G hown hK.1 hP 4 rfl rfl 6 (by decide) (hW _ wg67) (fun _ h9 => h9) rfl dX1_forget_62 ?_
        refine lv_iconst (v := 0) hx hb dX1_forget_65 (by decide) ?_
        refine fill_X (j := 11) (n := 210) (q := 17) (v := 0) hx hb hml hown hts (hW _ wg63) (hW _ wg64) (hW _ wg65) (wg66) hK hP hD hS rfl rfl rfl rfl rfl rfl hl.1 (lv_room (Nat.le_of_ble_eq_true rfl)) dX1_forget_66 (fun H locs hP hS => ?_)
        obtain ⟨s66, es66⟩ : ∃ z : ST, z = fillA s58 11 210 0 := ⟨_, rfl⟩
        have h := nm_o h es66
        have hP : va_P D vwCl (wX a k s66) H := by rw [es66]; exact hP
        have hD : va_D (AX a) (wX a k s66) := dX hD
        refine lv_aload_n hx hb dX1_forget_69 rfl (lv_at hl 0 rfl) ?_
        refine va_get (D := D) (ci := 1) (v := .ref (a 18)) (C := RX1) (T := TX1) (N := 14) hx hb hW inX1G hown hK.1 hP 4 rfl rfl 7 (by decide) (hW _ wg68) (fun _ h9 => h9) rfl dX1_forget_70 ?_
        refine lv_iconst (v := (-1)) hx hb dX1_forget_73 (by decide) ?_
        refine fill_X (j := 12) (n := 25) (q := 18) (v := (-1)) hx hb hml hown hts (hW _ wg63) (hW _ wg64) (hW _ wg65) (wg66) hK hP hD hS rfl rfl rfl rfl rfl rfl hl.1 (lv_room (Nat.le_of_ble_eq_true rfl)) dX1_forget_74 (fun H locs hP hS => ?_)
        obtain ⟨s74, es74⟩ : ∃ z : ST, z = fillA s66 12 25 (-1) := ⟨_, rfl⟩
        have h := nm_o h es74
        have hP : va_P D vwCl (wX a k s74) H := by rw [es74]; exact hP
        have hD : va_D (AX a) (wX a k s74) := dX hD
        have h := Option.some.inj h
        subst h
        exact W.vret hx hb hr (fun t ht hW9 => ⟨⟨(), rfl, trivial, by show va_P _ _ _ t.heap; rw [ht]; exact hP⟩, hS.F ht⟩) hS.2.2 dX1_forget_77 hlocks
      · have h := ite_f h c7
        refine lv_aload_n hx hb dX1_forget_10 rfl (lv_at hl 0 rfl) ?_
        refine va_get (D := D) (ci := 1) (v := .ref (a 15)) (C := RX1) (T := TX1) (N := 14) hx hb hW inX1G hown hK.1 hP 4 rfl rfl 4 (by decide) (hW _ wg69) (fun _ h9 => h9) rfl dX1_forget_11 ?_
        refine lv_aload_n hx hb dX1_forget_14 rfl (lv_at hl 0 rfl) ?_
        refine va_get (D := D) (ci := 1) (v := .ref (a 14)) (C := RX1) (T := TX1) (N := 14) hx hb hW inX1G hown hK.1 hP 4 rfl rfl 3 (by decide) (hW _ wg70) (fun _ h9 => h9) rfl dX1_forget_15 ?_
        refine lv_iload_n hx hb dX1_forget_18 rfl (lv_at hl 1 rfl) ?_
        obtain ⟨hi19, h⟩ := ix_o h
        refine va_iald (D := D) hx hb hK.1 hP 14 8 rfl rfl hi19 dX1_forget_19 ?_
        refine lv_iconst (v := 0) hx hb dX1_forget_20 (by decide) ?_
        obtain ⟨hi21, h⟩ := ix_o h
        refine va_iast (D := D) hx hb hK.1 hP hD hS 15 9 rfl rfl hi21 dX1_forget_21 (fun H locs hP hD9 hS => ?_)
        obtain ⟨s21, es21⟩ : ∃ z : ST, z = setA σ 9 (σ.2 8 x1.toNatClampNeg).toNatClampNeg 0 := ⟨_, rfl⟩
        have h := nm_o h es21
        have hP : va_P D vwCl (wX a k s21) H := by rw [es21]; exact hP
        have hD : va_D (AX a) (wX a k s21) := dX hD
        obtain ⟨x1_22, ex1_22⟩ : ∃ y : Int32, y = x1 + 1 := ⟨_, rfl⟩
        have h := nm_o h ex1_22
        refine lv_iinc (v := x1_22) (lv' := [(1, .int x1_22), (0, .ref (a 4))]) hx hb dX1_forget_22 hl (k := 1) rfl (by rw [ex1_22]; rfl) (by decide) rfl (fun ls hl => ?_)
        refine lv_goto (tgt := 2) hx hb dX1_forget_25 (by decide) ?_
        exact ih _ _ H locs ls hP hD hS (lv_sub hl [1, 0] rfl) h
set_option maxHeartbeats 4000000 in
set_option maxRecDepth 100000 in
theorem mX1_forget (l : Launch) (D : va_G) (a : Nat → Nat) (k : Nat → ClassId) (σ : ST) (o : ST) (h : fX1_forget σ = some o) : Met l yX1_forget ((Cond.code yX1_forget cX1_forget 2 none) :: WG) ({ frames := 1, cells := 0, slots := 0, locals := 23 } : Room) (Pw D (tX k) (AX a) (wX a k σ) [.ref (a 4)]) (va_Qv (S := Unit) (fun _ => True) (fun _ t => va_P D vwCl (wX a k o) t.heap) (AX a)) 0 0 (AX a) := by
  refine Met.ofW (cc := cX1_forget) (maxL := 2) (ret := none) (by decide) rfl ?_
  intro p e s m args below meth c s₁ B hml0 hv
  have C : Cx p s m args meth c cX1_forget 2 RX1 (Cond.code yX1_forget cX1_forget 2 none) none := ⟨B.exec, B.bytes, B.returns, hml0, findClass_of_methodNamed B.named, atoms_spec (ws := (Cond.code yX1_forget cX1_forget 2 none) :: WG) B.pre, B.notSynchronized⟩
  obtain ⟨rfl, hP, hK, hD⟩ := hv
  have hK : Kx D (tX k) s := hK
  have C0 := C
  obtain ⟨hx, hb, hr, hml, hown, hts, hlocks⟩ := C0
  have hW : ∀ w ∈ WG, w.before _ s = true := fun w h => hts w (List.mem_cons_of_mem _ h)
  show W p l e ({ frames := 1, cells := 0, slots := 0, locals := 23 } : Room) s m _ below meth c s.heap [] 0 0 _ _
  have hl := lv_entry ([.ref (a 4)]) (n := 2) (Nat.le_of_ble_eq_true rfl)
  rw [lg_entry_eq]
  generalize (lg_sl ([.ref (a 4)]) ++ List.replicate (2 - (lg_sl ([.ref (a 4)])).length) Slot.unset).toArray = ls at hl ⊢
  have hl : lv_has ls 2 [(0, .ref (a 4))] := hl
  have hS : va_S (AX a) s.heap s.heap [] := va_S.rf
  suffices hgo : ∀ (H : Heap) (locs : List Loc), va_P D vwCl (wX a k σ) H → va_S (AX a) s.heap H locs → W p l e ({ frames := 1, cells := 0, slots := 0, locals := 23 } : Room) s m _ below meth c H locs 0 0 (MQ below (va_Qv (S := Unit) (fun _ => True) (fun _ t => va_P D vwCl (wX a k o) t.heap) (AX a)) _ s 0 0 (AX a)) (F0 m 0 ls []) from hgo _ _ hP hS
  clear hP hS
  intro H locs hP hS
  unfold fX1_forget at h
  refine lv_iconst (v := 0) hx hb dX1_forget_0 (by decide) ?_
  refine lv_istore_n (lv' := [(1, .int 0), (0, .ref (a 4))]) hx hb dX1_forget_1 rfl hl (by decide) rfl (fun ls hl => ?_)
  exact bX1_forget_L2 C hK FUEL _ _ H locs ls hP hD hS (lv_sub hl [1, 0] rfl) h
set_option maxHeartbeats 4000000 in
set_option maxRecDepth 100000 in
theorem mX5_nodeOf (l : Launch) (x0 x1 : Int32) (o : Int32) (h : fX5_nodeOf x0 x1 = some o) : Met l yX5_nodeOf ((Cond.code yX5_nodeOf cX5_nodeOf 2 (some .int)) :: WG) ({ frames := 0, cells := 0, slots := 0, locals := 0 } : Room) (fun v _ => v = ([.int x0, .int x1] : List Value).toArray) (vp_Si (fun z => z = o)) 0 0 (fun _ => False) := by
  refine Met.ofW (cc := cX5_nodeOf) (maxL := 2) (ret := (some .int)) (by decide) rfl ?_
  intro p e s m args below meth c s₁ B hml0 hv
  have C : Cx p s m args meth c cX5_nodeOf 2 RX5 (Cond.code yX5_nodeOf cX5_nodeOf 2 (some .int)) (some .int) := ⟨B.exec, B.bytes, B.returns, hml0, findClass_of_methodNamed B.named, atoms_spec (ws := (Cond.code yX5_nodeOf cX5_nodeOf 2 (some .int)) :: WG) B.pre, B.notSynchronized⟩
  subst hv
  have C0 := C
  obtain ⟨hx, hb, hr, hml, hown, hts, hlocks⟩ := C0
  have hW : ∀ w ∈ WG, w.before _ s = true := fun w h => hts w (List.mem_cons_of_mem _ h)
  show W p l e ({ frames := 0, cells := 0, slots := 0, locals := 0 } : Room) s m _ below meth c s.heap [] 0 0 _ _
  have hl := lv_entry ([.int x0, .int x1]) (n := 2) (Nat.le_of_ble_eq_true rfl)
  rw [lg_entry_eq]
  generalize (lg_sl ([.int x0, .int x1]) ++ List.replicate (2 - (lg_sl ([.int x0, .int x1])).length) Slot.unset).toArray = ls at hl ⊢
  have hl : lv_has ls 2 [(0, .int x0), (1, .int x1)] := hl
  unfold fX5_nodeOf at h
  refine lv_iload_n hx hb dX5_nodeOf_0 rfl (lv_at hl 0 rfl) ?_
  refine lv_bipush (v := 10) hx hb dX5_nodeOf_1 (by decide) ?_
  refine lv_ishl hx hb dX5_nodeOf_3 ?_
  refine lv_iload_n hx hb dX5_nodeOf_4 rfl (lv_at hl 1 rfl) ?_
  refine lv_ior hx hb dX5_nodeOf_5 ?_
  have h := Option.some.inj h
  subst h
  exact W.iret (v := ((x0 <<< (10 &&& 31)) ||| x1)) hx hb hr (fun t ht hW9 => ⟨((x0 <<< (10 &&& 31)) ||| x1), rfl, rfl, ht⟩) (fun _ h9 => absurd h9 List.not_mem_nil) dX5_nodeOf_6 hlocks
set_option maxHeartbeats 4000000 in
set_option maxRecDepth 100000 in
theorem bX0_arriveAt_L17 {p : Program} {l : Launch} {e : Env} {s : State} {m : MethodId} {args : Array Value} {below : List Frame} {meth : Method} {c : Code} {D : va_G} {a : Nat → Nat} {k : Nat → ClassId} {σ : ST} {o : Int32} (C : Cx p s m args meth c cX0_arriveAt 3 RX0 (Cond.code yX0_arriveAt cX0_arriveAt 3 (some .int)) (some .int)) (hK : Kx D (tX k) s) (hP : va_P D vwCl (wX a k σ) s.heap) (hD : va_D (AX a) (wX a k σ)) : ∀ (x2 y0 : Int32) (ls : Array Slot), lv_has ls 3 [(2, .int x2)] → fX0_arriveAt_L17 σ x2 y0 = some o → W p l e ({ frames := 1, cells := 0, slots := 0, locals := 21 } : Room) s m args below meth c s.heap [] 0 0 (MQ below (vp_Si (fun z => z = o)) args s 0 0 (fun _ => False)) (F0 m 17 ls [.int y0]) := by
  have C0 := C
  obtain ⟨hx, hb, hr, hml, hown, hts, hlocks⟩ := C0
  have hW : ∀ w ∈ WG, w.before args s = true := fun w h => hts w (List.mem_cons_of_mem _ h)
  intro x2 y0 ls hl h
  unfold fX0_arriveAt_L17 at h
  refine lv_iload_n hx hb dX0_arriveAt_17 rfl (lv_at hl 0 rfl) ?_
  obtain ⟨r18, hc18, h⟩ := bd_o h
  refine callRI (va_runSN (As := [.int y0, .int x2]) (rest := []) ⟨hx, hb, hml, hown, hts⟩ (mX5_nodeOf l _ _ _ hc18) ⟨va_cnB 2 hts (wg_c wg71) rfl rfl rfl (hK.2 _ nw72) (hW _ wg3) hdX5_nodeOf ⟨Nat.le_of_ble_eq_true rfl, Nat.le_of_ble_eq_true rfl⟩, hW _ wg73, trivial⟩ preEq rfl rfl hl.1 rfl (lv_room (Nat.le_of_ble_eq_true rfl)) dX0_arriveAt_18 ⟨Nat.zero_le _, Nat.zero_le _⟩) ?_
  have h := Option.some.inj h
  subst h
  exact W.iret (v := r18) hx hb hr (fun t ht hW9 => ⟨r18, rfl, rfl, ht⟩) (fun _ h9 => absurd h9 List.not_mem_nil) dX0_arriveAt_21 hlocks
set_option maxHeartbeats 4000000 in
set_option maxRecDepth 100000 in
theorem mX0_arriveAt (l : Launch) (D : va_G) (a : Nat → Nat) (k : Nat → ClassId) (σ : ST) (x1 x2 : Int32) (o : Int32) (h : fX0_arriveAt σ x1 x2 = some o) : Met l yX0_arriveAt ((Cond.code yX0_arriveAt cX0_arriveAt 3 (some .int)) :: WG) ({ frames := 1, cells := 0, slots := 0, locals := 21 } : Room) (Pw D (tX k) (AX a) (wX a k σ) [.ref (a 3), .int x1, .int x2]) (vp_Si (fun z => z = o)) 0 0 (fun _ => False) := by
  refine Met.ofW (cc := cX0_arriveAt) (maxL := 3) (ret := (some .int)) (by decide) rfl ?_
  intro p e s m args below meth c s₁ B hml0 hv
  have C : Cx p s m args meth c cX0_arriveAt 3 RX0 (Cond.code yX0_arriveAt cX0_arriveAt 3 (some .int)) (some .int) := ⟨B.exec, B.bytes, B.returns, hml0, findClass_of_methodNamed B.named, atoms_spec (ws := (Cond.code yX0_arriveAt cX0_arriveAt 3 (some .int)) :: WG) B.pre, B.notSynchronized⟩
  obtain ⟨rfl, hP, hK, hD⟩ := hv
  have hK : Kx D (tX k) s := hK
  have C0 := C
  obtain ⟨hx, hb, hr, hml, hown, hts, hlocks⟩ := C0
  have hW : ∀ w ∈ WG, w.before _ s = true := fun w h => hts w (List.mem_cons_of_mem _ h)
  show W p l e ({ frames := 1, cells := 0, slots := 0, locals := 21 } : Room) s m _ below meth c s.heap [] 0 0 _ _
  have hl := lv_entry ([.ref (a 3), .int x1, .int x2]) (n := 3) (Nat.le_of_ble_eq_true rfl)
  rw [lg_entry_eq]
  generalize (lg_sl ([.ref (a 3), .int x1, .int x2]) ++ List.replicate (3 - (lg_sl ([.ref (a 3), .int x1, .int x2])).length) Slot.unset).toArray = ls at hl ⊢
  have hl : lv_has ls 3 [(0, .ref (a 3)), (1, .int x1), (2, .int x2)] := hl
  unfold fX0_arriveAt at h
  refine lv_iload_n hx hb dX0_arriveAt_0 rfl (lv_at hl 1 rfl) ?_
  refine lv_aload_n hx hb dX0_arriveAt_1 rfl (lv_at hl 0 rfl) ?_
  refine va_get (D := D) (ci := 0) (v := .ref (a 2)) (C := RX0) (T := TX0) (N := 2) hx hb hW inX0G hown hK.1 hP 3 rfl rfl 1 (by decide) (hW _ wg74) (fun _ h9 => h9) rfl dX0_arriveAt_2 ?_
  refine va_getN (D := D) (ci := 2) (v := .int (σ.1 2)) (C := RX2) (T := TX2) (N := 6) hx hb hW inX2G hown hK.1 hP 2 rfl rfl 5 (by decide) (hK.2.fld nw75) (fun _ h9 => h9) rfl dX0_arriveAt_5 ?_
  refine lv_icmp_ge (tgt := 15) hx hb dX0_arriveAt_8 (by decide) (fun c8 => ?_) (fun c8 => ?_)
  · have h := ite_t h c8
    refine lv_bipush (v := 40) hx hb dX0_arriveAt_15 (by decide) ?_
    exact bX0_arriveAt_L17 C hK hP hD _ _ ls (lv_sub hl [2] rfl) h
  · have h := ite_f h c8
    refine lv_iload_n hx hb dX0_arriveAt_11 rfl (lv_at hl 1 rfl) ?_
    refine lv_goto (tgt := 17) hx hb dX0_arriveAt_12 (by decide) ?_
    exact bX0_arriveAt_L17 C hK hP hD _ _ ls (lv_sub hl [2] rfl) h
set_option maxHeartbeats 4000000 in
set_option maxRecDepth 100000 in
theorem mX0_firstNode (l : Launch) (D : va_G) (a : Nat → Nat) (k : Nat → ClassId) (σ : ST) (o : Int32) (h : fX0_firstNode σ = some o) : Met l yX0_firstNode ((Cond.code yX0_firstNode cX0_firstNode 1 (some .int)) :: WG) ({ frames := 2, cells := 0, slots := 0, locals := 43 } : Room) (Pw D (tX k) (AX a) (wX a k σ) [.ref (a 3)]) (vp_Si (fun z => z = o)) 0 0 (fun _ => False) := by
  refine Met.ofW (cc := cX0_firstNode) (maxL := 1) (ret := (some .int)) (by decide) rfl ?_
  intro p e s m args below meth c s₁ B hml0 hv
  have C : Cx p s m args meth c cX0_firstNode 1 RX0 (Cond.code yX0_firstNode cX0_firstNode 1 (some .int)) (some .int) := ⟨B.exec, B.bytes, B.returns, hml0, findClass_of_methodNamed B.named, atoms_spec (ws := (Cond.code yX0_firstNode cX0_firstNode 1 (some .int)) :: WG) B.pre, B.notSynchronized⟩
  obtain ⟨rfl, hP, hK, hD⟩ := hv
  have hK : Kx D (tX k) s := hK
  have C0 := C
  obtain ⟨hx, hb, hr, hml, hown, hts, hlocks⟩ := C0
  have hW : ∀ w ∈ WG, w.before _ s = true := fun w h => hts w (List.mem_cons_of_mem _ h)
  show W p l e ({ frames := 2, cells := 0, slots := 0, locals := 43 } : Room) s m _ below meth c s.heap [] 0 0 _ _
  have hl := lv_entry ([.ref (a 3)]) (n := 1) (Nat.le_of_ble_eq_true rfl)
  rw [lg_entry_eq]
  generalize (lg_sl ([.ref (a 3)]) ++ List.replicate (1 - (lg_sl ([.ref (a 3)])).length) Slot.unset).toArray = ls at hl ⊢
  have hl : lv_has ls 1 [(0, .ref (a 3))] := hl
  unfold fX0_firstNode at h
  refine lv_aload_n hx hb dX0_firstNode_0 rfl (lv_at hl 0 rfl) ?_
  refine lv_iconst (v := 0) hx hb dX0_firstNode_1 (by decide) ?_
  refine lv_iconst (v := 0) hx hb dX0_firstNode_2 (by decide) ?_
  obtain ⟨r3, hc3, h⟩ := bd_o h
  refine callRI (va_runV (As := [.int 0, .int 0]) (rest := []) ⟨hx, hb, hml, hown, hts⟩ (mX0_arriveAt l D a k _ _ _ _ hc3) ⟨callB_of 2 hts (wg_c wg77) rfl rfl rfl (hW _ wg78) (hW _ wg76) hdX0_arriveAt ⟨Nat.le_of_ble_eq_true rfl, Nat.le_of_ble_eq_true rfl⟩, hW _ wg79, hW _ wg80⟩ (pw_V hK hP hD (ci := 0) (q0 := 3) rfl rfl) rfl rfl hl.1 rfl (lv_room (Nat.le_of_ble_eq_true rfl)) dX0_firstNode_3 ⟨Nat.zero_le _, Nat.zero_le _⟩) ?_
  have h := Option.some.inj h
  subst h
  exact W.iret (v := r3) hx hb hr (fun t ht hW9 => ⟨r3, rfl, rfl, ht⟩) (fun _ h9 => absurd h9 List.not_mem_nil) dX0_firstNode_6 hlocks
set_option maxHeartbeats 4000000 in
set_option maxRecDepth 100000 in
theorem mX1_reach (l : Launch) (D : va_G) (a : Nat → Nat) (k : Nat → ClassId) (σ : ST) (x1 x2 : Int32) (o : ST) (h : fX1_reach σ x1 x2 = some o) : Met l yX1_reach ((Cond.code yX1_reach cX1_reach 3 none) :: WG) ({ frames := 0, cells := 0, slots := 0, locals := 0 } : Room) (Pw D (tX k) (AX a) (wX a k σ) [.ref (a 4), .int x1, .int x2]) (va_Qv (S := Unit) (fun _ => True) (fun _ t => va_P D vwCl (wX a k o) t.heap) (AX a)) 0 0 (AX a) := by
  refine Met.ofW (cc := cX1_reach) (maxL := 3) (ret := none) (by decide) rfl ?_
  intro p e s m args below meth c s₁ B hml0 hv
  have C : Cx p s m args meth c cX1_reach 3 RX1 (Cond.code yX1_reach cX1_reach 3 none) none := ⟨B.exec, B.bytes, B.returns, hml0, findClass_of_methodNamed B.named, atoms_spec (ws := (Cond.code yX1_reach cX1_reach 3 none) :: WG) B.pre, B.notSynchronized⟩
  obtain ⟨rfl, hP, hK, hD⟩ := hv
  have hK : Kx D (tX k) s := hK
  have C0 := C
  obtain ⟨hx, hb, hr, hml, hown, hts, hlocks⟩ := C0
  have hW : ∀ w ∈ WG, w.before _ s = true := fun w h => hts w (List.mem_cons_of_mem _ h)
  show W p l e ({ frames := 0, cells := 0, slots := 0, locals := 0 } : Room) s m _ below meth c s.heap [] 0 0 _ _
  have hl := lv_entry ([.ref (a 4), .int x1, .int x2]) (n := 3) (Nat.le_of_ble_eq_true rfl)
  rw [lg_entry_eq]
  generalize (lg_sl ([.ref (a 4), .int x1, .int x2]) ++ List.replicate (3 - (lg_sl ([.ref (a 4), .int x1, .int x2])).length) Slot.unset).toArray = ls at hl ⊢
  have hl : lv_has ls 3 [(0, .ref (a 4)), (1, .int x1), (2, .int x2)] := hl
  have hS : va_S (AX a) s.heap s.heap [] := va_S.rf
  suffices hgo : ∀ (H : Heap) (locs : List Loc), va_P D vwCl (wX a k σ) H → va_S (AX a) s.heap H locs → W p l e ({ frames := 0, cells := 0, slots := 0, locals := 0 } : Room) s m _ below meth c H locs 0 0 (MQ below (va_Qv (S := Unit) (fun _ => True) (fun _ t => va_P D vwCl (wX a k o) t.heap) (AX a)) _ s 0 0 (AX a)) (F0 m 0 ls []) from hgo _ _ hP hS
  clear hP hS
  intro H locs hP hS
  unfold fX1_reach at h
  refine lv_aload_n hx hb dX1_reach_0 rfl (lv_at hl 0 rfl) ?_
  refine va_get (D := D) (ci := 1) (v := .ref (a 15)) (C := RX1) (T := TX1) (N := 14) hx hb hW inX1G hown hK.1 hP 4 rfl rfl 4 (by decide) (hW _ wg69) (fun _ h9 => h9) rfl dX1_reach_1 ?_
  refine lv_iload_n hx hb dX1_reach_4 rfl (lv_at hl 1 rfl) ?_
  obtain ⟨hi5, h⟩ := ix_o h
  refine va_iald (D := D) hx hb hK.1 hP 15 9 rfl rfl hi5 dX1_reach_5 ?_
  refine lv_if_ne (tgt := 47) hx hb dX1_reach_6 (by decide) (fun c6 => ?_) (fun c6 => ?_)
  · have h := ite_f h c6
    have h := Option.some.inj h
    subst h
    exact W.vret hx hb hr (fun t ht hW9 => ⟨⟨(), rfl, trivial, by show va_P _ _ _ t.heap; rw [ht]; exact hP⟩, hS.F ht⟩) hS.2.2 dX1_reach_47 hlocks
  · have h := ite_t h c6
    refine lv_aload_n hx hb dX1_reach_9 rfl (lv_at hl 0 rfl) ?_
    refine va_get (D := D) (ci := 1) (v := .int (σ.1 3)) (C := RX1) (T := TX1) (N := 14) hx hb hW inX1G hown hK.1 hP 4 rfl rfl 9 (by decide) (hW _ wg57) (fun _ h9 => h9) rfl dX1_reach_10 ?_
    refine lv_ldc (v := 43008) hx hb hown (hW _ wg81) dX1_reach_13 ?_
    refine lv_icmp_ge (tgt := 47) hx hb dX1_reach_15 (by decide) (fun c15 => ?_) (fun c15 => ?_)
    · have h := ite_t h c15
      have h := Option.some.inj h
      subst h
      exact W.vret hx hb hr (fun t ht hW9 => ⟨⟨(), rfl, trivial, by show va_P _ _ _ t.heap; rw [ht]; exact hP⟩, hS.F ht⟩) hS.2.2 dX1_reach_47 hlocks
    · have h := ite_f h c15
      refine lv_aload_n hx hb dX1_reach_18 rfl (lv_at hl 0 rfl) ?_
      refine va_get (D := D) (ci := 1) (v := .ref (a 15)) (C := RX1) (T := TX1) (N := 14) hx hb hW inX1G hown hK.1 hP 4 rfl rfl 4 (by decide) (hW _ wg69) (fun _ h9 => h9) rfl dX1_reach_19 ?_
      refine lv_iload_n hx hb dX1_reach_22 rfl (lv_at hl 1 rfl) ?_
      refine lv_iload_n hx hb dX1_reach_23 rfl (lv_at hl 2 rfl) ?_
      refine lv_iconst (v := 1) hx hb dX1_reach_24 (by decide) ?_
      refine lv_iadd hx hb dX1_reach_25 ?_
      obtain ⟨hi26, h⟩ := ix_o h
      refine va_iast (D := D) hx hb hK.1 hP hD hS 15 9 rfl rfl hi26 dX1_reach_26 (fun H locs hP hD9 hS => ?_)
      obtain ⟨s26, es26⟩ : ∃ z : ST, z = setA σ 9 x1.toNatClampNeg (x2 + 1) := ⟨_, rfl⟩
      have h := nm_o h es26
      have hP : va_P D vwCl (wX a k s26) H := by rw [es26]; exact hP
      have hD : va_D (AX a) (wX a k s26) := dX hD
      refine lv_aload_n hx hb dX1_reach_27 rfl (lv_at hl 0 rfl) ?_
      refine va_get (D := D) (ci := 1) (v := .ref (a 14)) (C := RX1) (T := TX1) (N := 14) hx hb hW inX1G hown hK.1 hP 4 rfl rfl 3 (by decide) (hW _ wg70) (fun _ h9 => h9) rfl dX1_reach_28 ?_
      refine lv_aload_n hx hb dX1_reach_31 rfl (lv_at hl 0 rfl) ?_
      refine va_get (D := D) (ci := 1) (v := .int (s26.1 3)) (C := RX1) (T := TX1) (N := 14) hx hb hW inX1G hown hK.1 hP 4 rfl rfl 9 (by decide) (hW _ wg57) (fun _ h9 => h9) rfl dX1_reach_32 ?_
      refine lv_iload_n hx hb dX1_reach_35 rfl (lv_at hl 1 rfl) ?_
      obtain ⟨hi36, h⟩ := ix_o h
      refine va_iast (D := D) hx hb hK.1 hP hD hS 14 8 rfl rfl hi36 dX1_reach_36 (fun H locs hP hD9 hS => ?_)
      obtain ⟨s36, es36⟩ : ∃ z : ST, z = setA s26 8 (s26.1 3).toNatClampNeg x1 := ⟨_, rfl⟩
      have h := nm_o h es36
      have hP : va_P D vwCl (wX a k s36) H := by rw [es36]; exact hP
      have hD : va_D (AX a) (wX a k s36) := dX hD
      refine lv_aload_n hx hb dX1_reach_37 rfl (lv_at hl 0 rfl) ?_
      refine lv_dup hx hb dX1_reach_38 rfl ?_
      refine va_get (D := D) (ci := 1) (v := .int (s36.1 3)) (C := RX1) (T := TX1) (N := 14) hx hb hW inX1G hown hK.1 hP 4 rfl rfl 9 (by decide) (hW _ wg57) (fun _ h9 => h9) rfl dX1_reach_39 ?_
      refine lv_iconst (v := 1) hx hb dX1_reach_42 (by decide) ?_
      refine lv_iadd hx hb dX1_reach_43 ?_
      refine va_put (D := D) (ci := 1) (v := .int ((s36.1 3) + 1)) (ty := .int) (C := RX1) (T := TX1) (N := 14) hx hb hW inX1G tyX1 tyX1_ok nmX1 hown hK.1 hP hD hS 4 rfl rfl 9 (by decide) (hW _ wg57) (fun _ h9 => h9) rfl (by decide +kernel) rfl rfl (Nat.le_of_ble_eq_true rfl) dX1_reach_44 (fun H locs hP hD9 hS => ?_)
      obtain ⟨s44, es44⟩ : ∃ z : ST, z = setF s36 3 ((s36.1 3) + 1) := ⟨_, rfl⟩
      have h := nm_o h es44
      have hP : va_P D vwCl (wX a k s44) H := by rw [es44]; exact hP
      have hD : va_D (AX a) (wX a k s44) := dX hD
      have h := Option.some.inj h
      subst h
      exact W.vret hx hb hr (fun t ht hW9 => ⟨⟨(), rfl, trivial, by show va_P _ _ _ t.heap; rw [ht]; exact hP⟩, hS.F ht⟩) hS.2.2 dX1_reach_47 hlocks
set_option maxHeartbeats 4000000 in
set_option maxRecDepth 100000 in
theorem mX5_placeOf (l : Launch) (x0 : Int32) (o : Int32) (h : fX5_placeOf x0 = some o) : Met l yX5_placeOf ((Cond.code yX5_placeOf cX5_placeOf 1 (some .int)) :: WG) ({ frames := 0, cells := 0, slots := 0, locals := 0 } : Room) (fun v _ => v = ([.int x0] : List Value).toArray) (vp_Si (fun z => z = o)) 0 0 (fun _ => False) := by
  refine Met.ofW (cc := cX5_placeOf) (maxL := 1) (ret := (some .int)) (by decide) rfl ?_
  intro p e s m args below meth c s₁ B hml0 hv
  have C : Cx p s m args meth c cX5_placeOf 1 RX5 (Cond.code yX5_placeOf cX5_placeOf 1 (some .int)) (some .int) := ⟨B.exec, B.bytes, B.returns, hml0, findClass_of_methodNamed B.named, atoms_spec (ws := (Cond.code yX5_placeOf cX5_placeOf 1 (some .int)) :: WG) B.pre, B.notSynchronized⟩
  subst hv
  have C0 := C
  obtain ⟨hx, hb, hr, hml, hown, hts, hlocks⟩ := C0
  have hW : ∀ w ∈ WG, w.before _ s = true := fun w h => hts w (List.mem_cons_of_mem _ h)
  show W p l e ({ frames := 0, cells := 0, slots := 0, locals := 0 } : Room) s m _ below meth c s.heap [] 0 0 _ _
  have hl := lv_entry ([.int x0]) (n := 1) (Nat.le_of_ble_eq_true rfl)
  rw [lg_entry_eq]
  generalize (lg_sl ([.int x0]) ++ List.replicate (1 - (lg_sl ([.int x0])).length) Slot.unset).toArray = ls at hl ⊢
  have hl : lv_has ls 1 [(0, .int x0)] := hl
  unfold fX5_placeOf at h
  refine lv_iload_n hx hb dX5_placeOf_0 rfl (lv_at hl 0 rfl) ?_
  refine lv_bipush (v := 10) hx hb dX5_placeOf_1 (by decide) ?_
  refine lv_ishr hx hb dX5_placeOf_3 ?_
  have h := Option.some.inj h
  subst h
  exact W.iret (v := (x0 >>> (10 &&& 31))) hx hb hr (fun t ht hW9 => ⟨(x0 >>> (10 &&& 31)), rfl, rfl, ht⟩) (fun _ h9 => absurd h9 List.not_mem_nil) dX5_placeOf_4 hlocks
set_option maxHeartbeats 4000000 in
set_option maxRecDepth 100000 in
theorem mX5_allOf (l : Launch) (x0 : Int32) (o : Int32) (h : fX5_allOf x0 = some o) : Met l yX5_allOf ((Cond.code yX5_allOf cX5_allOf 1 (some .int)) :: WG) ({ frames := 0, cells := 0, slots := 0, locals := 0 } : Room) (fun v _ => v = ([.int x0] : List Value).toArray) (vp_Si (fun z => z = o)) 0 0 (fun _ => False) := by
  refine Met.ofW (cc := cX5_allOf) (maxL := 1) (ret := (some .int)) (by decide) rfl ?_
  intro p e s m args below meth c s₁ B hml0 hv
  have C : Cx p s m args meth c cX5_allOf 1 RX5 (Cond.code yX5_allOf cX5_allOf 1 (some .int)) (some .int) := ⟨B.exec, B.bytes, B.returns, hml0, findClass_of_methodNamed B.named, atoms_spec (ws := (Cond.code yX5_allOf cX5_allOf 1 (some .int)) :: WG) B.pre, B.notSynchronized⟩
  subst hv
  have C0 := C
  obtain ⟨hx, hb, hr, hml, hown, hts, hlocks⟩ := C0
  have hW : ∀ w ∈ WG, w.before _ s = true := fun w h => hts w (List.mem_cons_of_mem _ h)
  show W p l e ({ frames := 0, cells := 0, slots := 0, locals := 0 } : Room) s m _ below meth c s.heap [] 0 0 _ _
  have hl := lv_entry ([.int x0]) (n := 1) (Nat.le_of_ble_eq_true rfl)
  rw [lg_entry_eq]
  generalize (lg_sl ([.int x0]) ++ List.replicate (1 - (lg_sl ([.int x0])).length) Slot.unset).toArray = ls at hl ⊢
  have hl : lv_has ls 1 [(0, .int x0)] := hl
  unfold fX5_allOf at h
  refine lv_iload_n hx hb dX5_allOf_0 rfl (lv_at hl 0 rfl) ?_
  refine lv_sipush (v := 1023) hx hb dX5_allOf_1 (by decide) ?_
  refine lv_iand hx hb dX5_allOf_4 ?_
  have h := Option.some.inj h
  subst h
  exact W.iret (v := (x0 &&& 1023)) hx hb hr (fun t ht hW9 => ⟨(x0 &&& 1023), rfl, rfl, ht⟩) (fun _ h9 => absurd h9 List.not_mem_nil) dX5_allOf_5 hlocks
set_option maxHeartbeats 4000000 in
set_option maxRecDepth 100000 in
theorem mX5_stateIn (l : Launch) (x0 x1 : Int32) (o : Int32) (h : fX5_stateIn x0 x1 = some o) : Met l yX5_stateIn ((Cond.code yX5_stateIn cX5_stateIn 2 (some .int)) :: WG) ({ frames := 0, cells := 0, slots := 0, locals := 0 } : Room) (fun v _ => v = ([.int x0, .int x1] : List Value).toArray) (vp_Si (fun z => z = o)) 0 0 (fun _ => False) := by
  refine Met.ofW (cc := cX5_stateIn) (maxL := 2) (ret := (some .int)) (by decide) rfl ?_
  intro p e s m args below meth c s₁ B hml0 hv
  have C : Cx p s m args meth c cX5_stateIn 2 RX5 (Cond.code yX5_stateIn cX5_stateIn 2 (some .int)) (some .int) := ⟨B.exec, B.bytes, B.returns, hml0, findClass_of_methodNamed B.named, atoms_spec (ws := (Cond.code yX5_stateIn cX5_stateIn 2 (some .int)) :: WG) B.pre, B.notSynchronized⟩
  subst hv
  have C0 := C
  obtain ⟨hx, hb, hr, hml, hown, hts, hlocks⟩ := C0
  have hW : ∀ w ∈ WG, w.before _ s = true := fun w h => hts w (List.mem_cons_of_mem _ h)
  show W p l e ({ frames := 0, cells := 0, slots := 0, locals := 0 } : Room) s m _ below meth c s.heap [] 0 0 _ _
  have hl := lv_entry ([.int x0, .int x1]) (n := 2) (Nat.le_of_ble_eq_true rfl)
  rw [lg_entry_eq]
  generalize (lg_sl ([.int x0, .int x1]) ++ List.replicate (2 - (lg_sl ([.int x0, .int x1])).length) Slot.unset).toArray = ls at hl ⊢
  have hl : lv_has ls 2 [(0, .int x0), (1, .int x1)] := hl
  unfold fX5_stateIn at h
  refine lv_iload_n hx hb dX5_stateIn_0 rfl (lv_at hl 0 rfl) ?_
  refine lv_iconst (v := 2) hx hb dX5_stateIn_1 (by decide) ?_
  refine lv_iload_n hx hb dX5_stateIn_2 rfl (lv_at hl 1 rfl) ?_
  refine lv_imul hx hb dX5_stateIn_3 ?_
  refine lv_ishr hx hb dX5_stateIn_4 ?_
  refine lv_iconst (v := 3) hx hb dX5_stateIn_5 (by decide) ?_
  refine lv_iand hx hb dX5_stateIn_6 ?_
  have h := Option.some.inj h
  subst h
  exact W.iret (v := ((x0 >>> ((2 * x1) &&& 31)) &&& 3)) hx hb hr (fun t ht hW9 => ⟨((x0 >>> ((2 * x1) &&& 31)) &&& 3), rfl, rfl, ht⟩) (fun _ h9 => absurd h9 List.not_mem_nil) dX5_stateIn_7 hlocks
set_option maxHeartbeats 4000000 in
set_option maxRecDepth 100000 in
theorem mX3_isHeld (l : Launch) (D : va_G) (a : Nat → Nat) (k : Nat → ClassId) (σ : ST) (x1 x2 : Int32) (o : Int32) (h : fX3_isHeld σ x1 x2 = some o) : Met l yX3_isHeld ((Cond.code yX3_isHeld cX3_isHeld 4 (some .boolean)) :: WG) ({ frames := 1, cells := 0, slots := 0, locals := 21 } : Room) (Pw D (tX k) (AX a) (wX a k σ) [.ref (a 1), .int x1, .int x2]) (vp_Si (fun z => z = o)) 0 0 (fun _ => False) := by
  refine Met.ofW (cc := cX3_isHeld) (maxL := 4) (ret := (some .boolean)) (by decide) rfl ?_
  intro p e s m args below meth c s₁ B hml0 hv
  have C : Cx p s m args meth c cX3_isHeld 4 RX3 (Cond.code yX3_isHeld cX3_isHeld 4 (some .boolean)) (some .boolean) := ⟨B.exec, B.bytes, B.returns, hml0, findClass_of_methodNamed B.named, atoms_spec (ws := (Cond.code yX3_isHeld cX3_isHeld 4 (some .boolean)) :: WG) B.pre, B.notSynchronized⟩
  obtain ⟨rfl, hP, hK, hD⟩ := hv
  have hK : Kx D (tX k) s := hK
  have C0 := C
  obtain ⟨hx, hb, hr, hml, hown, hts, hlocks⟩ := C0
  have hW : ∀ w ∈ WG, w.before _ s = true := fun w h => hts w (List.mem_cons_of_mem _ h)
  show W p l e ({ frames := 1, cells := 0, slots := 0, locals := 21 } : Room) s m _ below meth c s.heap [] 0 0 _ _
  have hl := lv_entry ([.ref (a 1), .int x1, .int x2]) (n := 4) (Nat.le_of_ble_eq_true rfl)
  rw [lg_entry_eq]
  generalize (lg_sl ([.ref (a 1), .int x1, .int x2]) ++ List.replicate (4 - (lg_sl ([.ref (a 1), .int x1, .int x2])).length) Slot.unset).toArray = ls at hl ⊢
  have hl : lv_has ls 4 [(0, .ref (a 1)), (1, .int x1), (2, .int x2)] := hl
  unfold fX3_isHeld at h
  refine lv_iload_n hx hb dX3_isHeld_0 rfl (lv_at hl 1 rfl) ?_
  refine lv_iload_n hx hb dX3_isHeld_1 rfl (lv_at hl 2 rfl) ?_
  obtain ⟨r2, hc2, h⟩ := bd_o h
  refine callRI (va_runSN (As := [.int x1, .int x2]) (rest := []) ⟨hx, hb, hml, hown, hts⟩ (mX5_stateIn l _ _ _ hc2) ⟨va_cnB 2 hts (wg_c wg82) rfl rfl rfl (hK.2 _ nw83) (hW _ wg3) hdX5_stateIn ⟨Nat.le_of_ble_eq_true rfl, Nat.le_of_ble_eq_true rfl⟩, hW _ wg84, trivial⟩ preEq rfl rfl hl.1 rfl (lv_room (Nat.le_of_ble_eq_true rfl)) dX3_isHeld_2 ⟨Nat.zero_le _, Nat.zero_le _⟩) ?_
  refine lv_istore_n (lv' := [(3, .int r2), (0, .ref (a 1)), (1, .int x1), (2, .int x2)]) hx hb dX3_isHeld_5 rfl hl (by decide) rfl (fun ls hl => ?_)
  refine lv_aload_n hx hb dX3_isHeld_6 rfl (lv_at hl 1 rfl) ?_
  refine lv_iload_n hx hb dX3_isHeld_7 rfl (lv_at hl 3 rfl) ?_
  obtain ⟨r8, hc8, h⟩ := bd_o h
  refine callRI (va_runV (As := [.int x2]) (rest := []) ⟨hx, hb, hml, hown, hts⟩ (mX3_isFile l D a k _ _ _ hc8) ⟨callB_of 1 hts (wg_c wg16) rfl rfl rfl (hW _ wg13) (hW _ wg85) hdX3_isFile ⟨Nat.le_of_ble_eq_true rfl, Nat.le_of_ble_eq_true rfl⟩, hW _ wg18, hW _ wg19⟩ (pw_V hK hP hD (ci := 3) (q0 := 1) rfl rfl) rfl rfl hl.1 rfl (lv_room (Nat.le_of_ble_eq_true rfl)) dX3_isHeld_8 ⟨Nat.zero_le _, Nat.zero_le _⟩) ?_
  refine lv_if_eq (tgt := 27) hx hb dX3_isHeld_11 (by decide) (fun c11 => ?_) (fun c11 => ?_)
  · have h := ite_t h c11
    refine lv_iload_n hx hb dX3_isHeld_27 rfl (lv_at hl 0 rfl) ?_
    refine lv_if_le (tgt := 35) hx hb dX3_isHeld_28 (by decide) (fun c28 => ?_) (fun c28 => ?_)
    · have h := ite_t h c28
      refine lv_iconst (v := 0) hx hb dX3_isHeld_35 (by decide) ?_
      have h := Option.some.inj h
      subst h
      exact W.zret (v := 0) hx hb hr rfl (fun t ht hW9 => ⟨0, rfl, rfl, ht⟩) (fun _ h9 => absurd h9 List.not_mem_nil) dX3_isHeld_36 hlocks
    · have h := ite_f h c28
      refine lv_iconst (v := 1) hx hb dX3_isHeld_31 (by decide) ?_
      refine lv_goto (tgt := 36) hx hb dX3_isHeld_32 (by decide) ?_
      have h := Option.some.inj h
      subst h
      exact W.zret (v := 1) hx hb hr rfl (fun t ht hW9 => ⟨1, rfl, rfl, ht⟩) (fun _ h9 => absurd h9 List.not_mem_nil) dX3_isHeld_36 hlocks
  · have h := ite_f h c11
    refine lv_iload_n hx hb dX3_isHeld_14 rfl (lv_at hl 0 rfl) ?_
    refine lv_iconst (v := 1) hx hb dX3_isHeld_15 (by decide) ?_
    refine lv_icmp_ne (tgt := 23) hx hb dX3_isHeld_16 (by decide) (fun c16 => ?_) (fun c16 => ?_)
    · have h := ite_f h c16
      refine lv_iconst (v := 0) hx hb dX3_isHeld_23 (by decide) ?_
      refine lv_goto (tgt := 36) hx hb dX3_isHeld_24 (by decide) ?_
      have h := Option.some.inj h
      subst h
      exact W.zret (v := 0) hx hb hr rfl (fun t ht hW9 => ⟨0, rfl, rfl, ht⟩) (fun _ h9 => absurd h9 List.not_mem_nil) dX3_isHeld_36 hlocks
    · have h := ite_t h c16
      refine lv_iconst (v := 1) hx hb dX3_isHeld_19 (by decide) ?_
      refine lv_goto (tgt := 36) hx hb dX3_isHeld_20 (by decide) ?_
      have h := Option.some.inj h
      subst h
      exact W.zret (v := 1) hx hb hr rfl (fun t ht hW9 => ⟨1, rfl, rfl, ht⟩) (fun _ h9 => absurd h9 List.not_mem_nil) dX3_isHeld_36 hlocks
