set_option maxHeartbeats 4000000 in
set_option maxRecDepth 100000 in
theorem mX0_faultAt (l : Launch) (D : va_G) (a : Nat → Nat) (k : Nat → ClassId) (σ : ST) (x1 : Int32) (o : Int32) (h : fX0_faultAt σ x1 = some o) : Met l yX0_faultAt ((Cond.code yX0_faultAt cX0_faultAt 5 (some .int)) :: WG) ({ frames := 3, cells := 0, slots := 0, locals := 66 } : Room) (Pw D (tX k) (AX a) (wX a k σ) [.ref (a 3), .int x1]) (vp_Si (fun z => z = o)) 0 0 (fun _ => False) := by
  refine Met.ofW (cc := cX0_faultAt) (maxL := 5) (ret := (some .int)) (by decide) rfl ?_
  intro p e s m args below meth c s₁ B hml0 hv
  have C : Cx p s m args meth c cX0_faultAt 5 RX0 (Cond.code yX0_faultAt cX0_faultAt 5 (some .int)) (some .int) := ⟨B.exec, B.bytes, B.returns, hml0, findClass_of_methodNamed B.named, atoms_spec (ws := (Cond.code yX0_faultAt cX0_faultAt 5 (some .int)) :: WG) B.pre, B.notSynchronized⟩
  obtain ⟨rfl, hP, hK, hD⟩ := hv
  have hK : Kx D (tX k) s := hK
  have C0 := C
  obtain ⟨hx, hb, hr, hml, hown, hts, hlocks⟩ := C0
  have hW : ∀ w ∈ WG, w.before _ s = true := fun w h => hts w (List.mem_cons_of_mem _ h)
  show W p l e ({ frames := 3, cells := 0, slots := 0, locals := 66 } : Room) s m _ below meth c s.heap [] 0 0 _ _
  have hl := lv_entry ([.ref (a 3), .int x1]) (n := 5) (Nat.le_of_ble_eq_true rfl)
  rw [lg_entry_eq]
  generalize (lg_sl ([.ref (a 3), .int x1]) ++ List.replicate (5 - (lg_sl ([.ref (a 3), .int x1])).length) Slot.unset).toArray = ls at hl ⊢
  have hl : lv_has ls 5 [(0, .ref (a 3)), (1, .int x1)] := hl
  unfold fX0_faultAt at h
  refine lv_iload_n hx hb dX0_faultAt_0 rfl (lv_at hl 1 rfl) ?_
  obtain ⟨r1, hc1, h⟩ := bd_o h
  refine callRI (va_runSN (As := [.int x1]) (rest := []) ⟨hx, hb, hml, hown, hts⟩ (mX5_placeOf l _ _ hc1) ⟨va_cnB 1 hts (wg_c wg98) rfl rfl rfl (hK.2 _ nw104) (hW _ wg3) hdX5_placeOf ⟨Nat.le_of_ble_eq_true rfl, Nat.le_of_ble_eq_true rfl⟩, hW _ wg100, trivial⟩ preEq rfl rfl hl.1 rfl (lv_room (Nat.le_of_ble_eq_true rfl)) dX0_faultAt_1 ⟨Nat.zero_le _, Nat.zero_le _⟩) ?_
  refine lv_istore_n (lv' := [(2, .int r1), (0, .ref (a 3)), (1, .int x1)]) hx hb dX0_faultAt_4 rfl hl (by decide) rfl (fun ls hl => ?_)
  refine lv_iload_n hx hb dX0_faultAt_5 rfl (lv_at hl 2 rfl) ?_
  obtain ⟨r6, hc6, h⟩ := bd_o h
  refine callRI (va_runSN (As := [.int x1]) (rest := []) ⟨hx, hb, hml, hown, hts⟩ (mX5_allOf l _ _ hc6) ⟨va_cnB 1 hts (wg_c wg101) rfl rfl rfl (hK.2 _ nw116) (hW _ wg3) hdX5_allOf ⟨Nat.le_of_ble_eq_true rfl, Nat.le_of_ble_eq_true rfl⟩, hW _ wg103, trivial⟩ preEq rfl rfl hl.1 rfl (lv_room (Nat.le_of_ble_eq_true rfl)) dX0_faultAt_6 ⟨Nat.zero_le _, Nat.zero_le _⟩) ?_
  refine lv_istore_n (lv' := [(3, .int r6), (2, .int r1), (0, .ref (a 3)), (1, .int x1)]) hx hb dX0_faultAt_9 rfl hl (by decide) rfl (fun ls hl => ?_)
  refine lv_aload_n hx hb dX0_faultAt_10 rfl (lv_at hl 2 rfl) ?_
  refine va_get (D := D) (ci := 0) (v := .ref (a 2)) (C := RX0) (T := TX0) (N := 2) hx hb hW inX0G hown hK.1 hP 3 rfl rfl 1 (by decide) (hW _ wg74) (fun _ h9 => h9) rfl dX0_faultAt_11 ?_
  refine va_getN (D := D) (ci := 2) (v := .ref (a 10)) (C := RX2) (T := TX2) (N := 6) hx hb hW inX2G hown hK.1 hP 2 rfl rfl 1 (by decide) (hK.2.fld nw117) (fun _ h9 => h9) rfl dX0_faultAt_14 ?_
  refine lv_iload_n hx hb dX0_faultAt_17 rfl (lv_at hl 1 rfl) ?_
  obtain ⟨hi18, h⟩ := ix_o h
  refine va_iald (D := D) hx hb hK.1 hP 10 4 rfl rfl hi18 dX0_faultAt_18 ?_
  refine lv_topi (fun x4_19 ex4_19 => ?_)
  have h := nm_o h ex4_19
  refine lv_istore (lv' := [(4, .int x4_19), (3, .int r6), (2, .int r1), (0, .ref (a 3)), (1, .int x1)]) hx hb dX0_faultAt_19 hl (by decide) rfl (fun ls hl => ?_)
  refine lv_aload_n hx hb dX0_faultAt_21 rfl (lv_at hl 3 rfl) ?_
  refine va_get (D := D) (ci := 0) (v := .ref (a 2)) (C := RX0) (T := TX0) (N := 2) hx hb hW inX0G hown hK.1 hP 3 rfl rfl 1 (by decide) (hW _ wg74) (fun _ h9 => h9) rfl dX0_faultAt_22 ?_
  refine va_getN (D := D) (ci := 2) (v := .ref (a 9)) (C := RX2) (T := TX2) (N := 6) hx hb hW inX2G hown hK.1 hP 2 rfl rfl 0 (by decide) (hK.2.fld nw118) (fun _ h9 => h9) rfl dX0_faultAt_25 ?_
  refine lv_iload_n hx hb dX0_faultAt_28 rfl (lv_at hl 2 rfl) ?_
  obtain ⟨hi29, h⟩ := ix_o h
  refine va_iald (D := D) hx hb hK.1 hP 9 3 rfl rfl hi29 dX0_faultAt_29 ?_
  by_cases c30_0 : (σ.2 3 r1.toNatClampNeg) = 0
  · have h := ite_t h c30_0
    refine lv_tableIn (tgt := 60) hx hb dX0_faultAt_30 (by rw [c30_0]; decide) (by rw [c30_0]; decide) (by rw [c30_0]; rfl) (by decide) ?_
    refine lv_aload_n hx hb dX0_faultAt_60 rfl (lv_at hl 3 rfl) ?_
    refine va_get (D := D) (ci := 0) (v := .ref (a 1)) (C := RX0) (T := TX0) (N := 2) hx hb hW inX0G hown hK.1 hP 3 rfl rfl 0 (by decide) (hW _ wg119) (fun _ h9 => h9) rfl dX0_faultAt_61 ?_
    refine lv_iload_n hx hb dX0_faultAt_64 rfl (lv_at hl 1 rfl) ?_
    refine lv_iload hx hb dX0_faultAt_65 (lv_at hl 0 rfl) ?_
    obtain ⟨r67, hc67, h⟩ := bd_o h
    refine callRI (va_runVN (As := [.int r6, .int x4_19]) (rest := []) ⟨hx, hb, hml, hown, hts⟩ (mX3_canOpen l D a k _ _ _ _ hc67) ⟨va_cnB 2 hts (wg_c wg120) rfl rfl rfl (hK.2 _ nw121) (hW _ wg13) hdX3_canOpen ⟨Nat.le_of_ble_eq_true rfl, Nat.le_of_ble_eq_true rfl⟩, hW _ wg122, hW _ wg123⟩ (pw_V hK hP hD (ci := 3) (q0 := 1) rfl rfl) rfl rfl hl.1 rfl (lv_room (Nat.le_of_ble_eq_true rfl)) dX0_faultAt_67 ⟨Nat.zero_le _, Nat.zero_le _⟩) ?_
    refine lv_if_eq (tgt := 77) hx hb dX0_faultAt_70 (by decide) (fun c70 => ?_) (fun c70 => ?_)
    · have h := ite_t h c70
      refine lv_iconst (v := 2) hx hb dX0_faultAt_77 (by decide) ?_
      have h := Option.some.inj h
      subst h
      exact W.iret (v := 2) hx hb hr (fun t ht hW9 => ⟨2, rfl, rfl, ht⟩) (fun _ h9 => absurd h9 List.not_mem_nil) dX0_faultAt_78 hlocks
    · have h := ite_f h c70
      refine lv_iconst (v := (-1)) hx hb dX0_faultAt_73 (by decide) ?_
      refine lv_goto (tgt := 78) hx hb dX0_faultAt_74 (by decide) ?_
      have h := Option.some.inj h
      subst h
      exact W.iret (v := (-1)) hx hb hr (fun t ht hW9 => ⟨(-1), rfl, rfl, ht⟩) (fun _ h9 => absurd h9 List.not_mem_nil) dX0_faultAt_78 hlocks
  · have h := ite_f h c30_0
    by_cases c30_1 : (σ.2 3 r1.toNatClampNeg) = 1
    · have h := ite_t h c30_1
      refine lv_tableIn (tgt := 79) hx hb dX0_faultAt_30 (by rw [c30_1]; decide) (by rw [c30_1]; decide) (by rw [c30_1]; rfl) (by decide) ?_
      refine lv_aload_n hx hb dX0_faultAt_79 rfl (lv_at hl 3 rfl) ?_
      refine va_get (D := D) (ci := 0) (v := .ref (a 1)) (C := RX0) (T := TX0) (N := 2) hx hb hW inX0G hown hK.1 hP 3 rfl rfl 0 (by decide) (hW _ wg119) (fun _ h9 => h9) rfl dX0_faultAt_80 ?_
      refine lv_iload_n hx hb dX0_faultAt_83 rfl (lv_at hl 1 rfl) ?_
      refine lv_iload hx hb dX0_faultAt_84 (lv_at hl 0 rfl) ?_
      obtain ⟨r86, hc86, h⟩ := bd_o h
      refine callRI (va_runVN (As := [.int r6, .int x4_19]) (rest := []) ⟨hx, hb, hml, hown, hts⟩ (mX3_canUse l D a k _ _ _ _ hc86) ⟨va_cnB 2 hts (wg_c wg124) rfl rfl rfl (hK.2 _ nw125) (hW _ wg13) hdX3_canUse ⟨Nat.le_of_ble_eq_true rfl, Nat.le_of_ble_eq_true rfl⟩, hW _ wg126, hW _ wg127⟩ (pw_V hK hP hD (ci := 3) (q0 := 1) rfl rfl) rfl rfl hl.1 rfl (lv_room (Nat.le_of_ble_eq_true rfl)) dX0_faultAt_86 ⟨Nat.zero_le _, Nat.zero_le _⟩) ?_
      refine lv_if_eq (tgt := 96) hx hb dX0_faultAt_89 (by decide) (fun c89 => ?_) (fun c89 => ?_)
      · have h := ite_t h c89
        refine lv_iconst (v := 3) hx hb dX0_faultAt_96 (by decide) ?_
        have h := Option.some.inj h
        subst h
        exact W.iret (v := 3) hx hb hr (fun t ht hW9 => ⟨3, rfl, rfl, ht⟩) (fun _ h9 => absurd h9 List.not_mem_nil) dX0_faultAt_97 hlocks
      · have h := ite_f h c89
        refine lv_iconst (v := (-1)) hx hb dX0_faultAt_92 (by decide) ?_
        refine lv_goto (tgt := 97) hx hb dX0_faultAt_93 (by decide) ?_
        have h := Option.some.inj h
        subst h
        exact W.iret (v := (-1)) hx hb hr (fun t ht hW9 => ⟨(-1), rfl, rfl, ht⟩) (fun _ h9 => absurd h9 List.not_mem_nil) dX0_faultAt_97 hlocks
    · have h := ite_f h c30_1
      by_cases c30_2 : (σ.2 3 r1.toNatClampNeg) = 2
      · have h := ite_t h c30_2
        refine lv_tableIn (tgt := 98) hx hb dX0_faultAt_30 (by rw [c30_2]; decide) (by rw [c30_2]; decide) (by rw [c30_2]; rfl) (by decide) ?_
        refine lv_aload_n hx hb dX0_faultAt_98 rfl (lv_at hl 3 rfl) ?_
        refine va_get (D := D) (ci := 0) (v := .ref (a 1)) (C := RX0) (T := TX0) (N := 2) hx hb hW inX0G hown hK.1 hP 3 rfl rfl 0 (by decide) (hW _ wg119) (fun _ h9 => h9) rfl dX0_faultAt_99 ?_
        refine lv_iload_n hx hb dX0_faultAt_102 rfl (lv_at hl 1 rfl) ?_
        refine lv_iload hx hb dX0_faultAt_103 (lv_at hl 0 rfl) ?_
        obtain ⟨r105, hc105, h⟩ := bd_o h
        refine callRI (va_runVN (As := [.int r6, .int x4_19]) (rest := []) ⟨hx, hb, hml, hown, hts⟩ (mX3_canClose l D a k _ _ _ _ hc105) ⟨va_cnB 2 hts (wg_c wg128) rfl rfl rfl (hK.2 _ nw129) (hW _ wg13) hdX3_canClose ⟨Nat.le_of_ble_eq_true rfl, Nat.le_of_ble_eq_true rfl⟩, hW _ wg130, hW _ wg131⟩ (pw_V hK hP hD (ci := 3) (q0 := 1) rfl rfl) rfl rfl hl.1 rfl (lv_room (Nat.le_of_ble_eq_true rfl)) dX0_faultAt_105 ⟨Nat.zero_le _, Nat.zero_le _⟩) ?_
        refine lv_if_eq (tgt := 115) hx hb dX0_faultAt_108 (by decide) (fun c108 => ?_) (fun c108 => ?_)
        · have h := ite_t h c108
          refine lv_iconst (v := 4) hx hb dX0_faultAt_115 (by decide) ?_
          have h := Option.some.inj h
          subst h
          exact W.iret (v := 4) hx hb hr (fun t ht hW9 => ⟨4, rfl, rfl, ht⟩) (fun _ h9 => absurd h9 List.not_mem_nil) dX0_faultAt_116 hlocks
        · have h := ite_f h c108
          refine lv_iconst (v := (-1)) hx hb dX0_faultAt_111 (by decide) ?_
          refine lv_goto (tgt := 116) hx hb dX0_faultAt_112 (by decide) ?_
          have h := Option.some.inj h
          subst h
          exact W.iret (v := (-1)) hx hb hr (fun t ht hW9 => ⟨(-1), rfl, rfl, ht⟩) (fun _ h9 => absurd h9 List.not_mem_nil) dX0_faultAt_116 hlocks
      · have h := ite_f h c30_2
        by_cases c30_3 : (σ.2 3 r1.toNatClampNeg) = 3
        · have h := ite_t h c30_3
          refine lv_tableIn (tgt := 117) hx hb dX0_faultAt_30 (by rw [c30_3]; decide) (by rw [c30_3]; decide) (by rw [c30_3]; rfl) (by decide) ?_
          refine lv_aload_n hx hb dX0_faultAt_117 rfl (lv_at hl 3 rfl) ?_
          refine va_get (D := D) (ci := 0) (v := .ref (a 1)) (C := RX0) (T := TX0) (N := 2) hx hb hW inX0G hown hK.1 hP 3 rfl rfl 0 (by decide) (hW _ wg119) (fun _ h9 => h9) rfl dX0_faultAt_118 ?_
          refine lv_iload_n hx hb dX0_faultAt_121 rfl (lv_at hl 1 rfl) ?_
          refine lv_iload hx hb dX0_faultAt_122 (lv_at hl 0 rfl) ?_
          obtain ⟨r124, hc124, h⟩ := bd_o h
          refine callRI (va_runVN (As := [.int r6, .int x4_19]) (rest := []) ⟨hx, hb, hml, hown, hts⟩ (mX3_canKeep l D a k _ _ _ _ hc124) ⟨va_cnB 2 hts (wg_c wg132) rfl rfl rfl (hK.2 _ nw133) (hW _ wg13) hdX3_canKeep ⟨Nat.le_of_ble_eq_true rfl, Nat.le_of_ble_eq_true rfl⟩, hW _ wg134, hW _ wg135⟩ (pw_V hK hP hD (ci := 3) (q0 := 1) rfl rfl) rfl rfl hl.1 rfl (lv_room (Nat.le_of_ble_eq_true rfl)) dX0_faultAt_124 ⟨Nat.zero_le _, Nat.zero_le _⟩) ?_
          refine lv_if_eq (tgt := 134) hx hb dX0_faultAt_127 (by decide) (fun c127 => ?_) (fun c127 => ?_)
          · have h := ite_t h c127
            refine lv_iconst (v := 3) hx hb dX0_faultAt_134 (by decide) ?_
            have h := Option.some.inj h
            subst h
            exact W.iret (v := 3) hx hb hr (fun t ht hW9 => ⟨3, rfl, rfl, ht⟩) (fun _ h9 => absurd h9 List.not_mem_nil) dX0_faultAt_135 hlocks
          · have h := ite_f h c127
            refine lv_iconst (v := (-1)) hx hb dX0_faultAt_130 (by decide) ?_
            refine lv_goto (tgt := 135) hx hb dX0_faultAt_131 (by decide) ?_
            have h := Option.some.inj h
            subst h
            exact W.iret (v := (-1)) hx hb hr (fun t ht hW9 => ⟨(-1), rfl, rfl, ht⟩) (fun _ h9 => absurd h9 List.not_mem_nil) dX0_faultAt_135 hlocks
        · have h := ite_f h c30_3
          refine lv_tableOut (tgt := 136) hx hb dX0_faultAt_30 (by have z0 := lv_neT c30_0 (a := 0) (by decide); have z1 := lv_neT c30_1 (a := 1) (by decide); have z2 := lv_neT c30_2 (a := 2) (by decide); have z3 := lv_neT c30_3 (a := 3) (by decide); omega) (by decide) ?_
          refine lv_iconst (v := (-1)) hx hb dX0_faultAt_136 (by decide) ?_
          have h := Option.some.inj h
          subst h
          exact W.iret (v := (-1)) hx hb hr (fun t ht hW9 => ⟨(-1), rfl, rfl, ht⟩) (fun _ h9 => absurd h9 List.not_mem_nil) dX0_faultAt_137 hlocks
set_option maxHeartbeats 4000000 in
set_option maxRecDepth 100000 in
theorem mX0_throwFrom (l : Launch) (D : va_G) (a : Nat → Nat) (k : Nat → ClassId) (σ : ST) (x1 x2 : Int32) (o : Int32) (h : fX0_throwFrom σ x1 x2 = some o) : Met l yX0_throwFrom ((Cond.code yX0_throwFrom cX0_throwFrom 4 (some .int)) :: WG) ({ frames := 2, cells := 0, slots := 0, locals := 43 } : Room) (Pw D (tX k) (AX a) (wX a k σ) [.ref (a 3), .int x1, .int x2]) (vp_Si (fun z => z = o)) 0 0 (fun _ => False) := by
  refine Met.ofW (cc := cX0_throwFrom) (maxL := 4) (ret := (some .int)) (by decide) rfl ?_
  intro p e s m args below meth c s₁ B hml0 hv
  have C : Cx p s m args meth c cX0_throwFrom 4 RX0 (Cond.code yX0_throwFrom cX0_throwFrom 4 (some .int)) (some .int) := ⟨B.exec, B.bytes, B.returns, hml0, findClass_of_methodNamed B.named, atoms_spec (ws := (Cond.code yX0_throwFrom cX0_throwFrom 4 (some .int)) :: WG) B.pre, B.notSynchronized⟩
  obtain ⟨rfl, hP, hK, hD⟩ := hv
  have hK : Kx D (tX k) s := hK
  have C0 := C
  obtain ⟨hx, hb, hr, hml, hown, hts, hlocks⟩ := C0
  have hW : ∀ w ∈ WG, w.before _ s = true := fun w h => hts w (List.mem_cons_of_mem _ h)
  show W p l e ({ frames := 2, cells := 0, slots := 0, locals := 43 } : Room) s m _ below meth c s.heap [] 0 0 _ _
  have hl := lv_entry ([.ref (a 3), .int x1, .int x2]) (n := 4) (Nat.le_of_ble_eq_true rfl)
  rw [lg_entry_eq]
  generalize (lg_sl ([.ref (a 3), .int x1, .int x2]) ++ List.replicate (4 - (lg_sl ([.ref (a 3), .int x1, .int x2])).length) Slot.unset).toArray = ls at hl ⊢
  have hl : lv_has ls 4 [(0, .ref (a 3)), (1, .int x1), (2, .int x2)] := hl
  unfold fX0_throwFrom at h
  refine lv_aload_n hx hb dX0_throwFrom_0 rfl (lv_at hl 0 rfl) ?_
  refine va_get (D := D) (ci := 0) (v := .ref (a 2)) (C := RX0) (T := TX0) (N := 2) hx hb hW inX0G hown hK.1 hP 3 rfl rfl 1 (by decide) (hW _ wg74) (fun _ h9 => h9) rfl dX0_throwFrom_1 ?_
  refine va_getN (D := D) (ci := 2) (v := .ref (a 13)) (C := RX2) (T := TX2) (N := 6) hx hb hW inX2G hown hK.1 hP 2 rfl rfl 4 (by decide) (hK.2.fld nw136) (fun _ h9 => h9) rfl dX0_throwFrom_4 ?_
  refine lv_iload_n hx hb dX0_throwFrom_7 rfl (lv_at hl 1 rfl) ?_
  obtain ⟨hi8, h⟩ := ix_o h
  refine va_iald (D := D) hx hb hK.1 hP 13 7 rfl rfl hi8 dX0_throwFrom_8 ?_
  refine lv_topi (fun x3_9 ex3_9 => ?_)
  have h := nm_o h ex3_9
  refine lv_istore_n (lv' := [(3, .int x3_9), (0, .ref (a 3)), (1, .int x1), (2, .int x2)]) hx hb dX0_throwFrom_9 rfl hl (by decide) rfl (fun ls hl => ?_)
  refine lv_iload_n hx hb dX0_throwFrom_10 rfl (lv_at hl 0 rfl) ?_
  refine lv_iconst (v := (-1)) hx hb dX0_throwFrom_11 (by decide) ?_
  refine lv_icmp_ne (tgt := 24) hx hb dX0_throwFrom_12 (by decide) (fun c12 => ?_) (fun c12 => ?_)
  · have h := ite_f h c12
    refine lv_aload_n hx hb dX0_throwFrom_24 rfl (lv_at hl 1 rfl) ?_
    refine lv_iload_n hx hb dX0_throwFrom_25 rfl (lv_at hl 0 rfl) ?_
    refine lv_iload_n hx hb dX0_throwFrom_26 rfl (lv_at hl 3 rfl) ?_
    obtain ⟨r27, hc27, h⟩ := bd_o h
    refine callRI (va_runV (As := [.int x3_9, .int x2]) (rest := []) ⟨hx, hb, hml, hown, hts⟩ (mX0_arriveAt l D a k _ _ _ _ hc27) ⟨callB_of 2 hts (wg_c wg77) rfl rfl rfl (hW _ wg78) (hW _ wg76) hdX0_arriveAt ⟨Nat.le_of_ble_eq_true rfl, Nat.le_of_ble_eq_true rfl⟩, hW _ wg79, hW _ wg80⟩ (pw_V hK hP hD (ci := 0) (q0 := 3) rfl rfl) rfl rfl hl.1 rfl (lv_room (Nat.le_of_ble_eq_true rfl)) dX0_throwFrom_27 ⟨Nat.zero_le _, Nat.zero_le _⟩) ?_
    have h := Option.some.inj h
    subst h
    exact W.iret (v := r27) hx hb hr (fun t ht hW9 => ⟨r27, rfl, rfl, ht⟩) (fun _ h9 => absurd h9 List.not_mem_nil) dX0_throwFrom_30 hlocks
  · have h := ite_t h c12
    refine lv_bipush (v := 41) hx hb dX0_throwFrom_15 (by decide) ?_
    refine lv_iload_n hx hb dX0_throwFrom_17 rfl (lv_at hl 3 rfl) ?_
    obtain ⟨r18, hc18, h⟩ := bd_o h
    refine callRI (va_runSN (As := [.int 41, .int x2]) (rest := []) ⟨hx, hb, hml, hown, hts⟩ (mX5_nodeOf l _ _ _ hc18) ⟨va_cnB 2 hts (wg_c wg71) rfl rfl rfl (hK.2 _ nw72) (hW _ wg3) hdX5_nodeOf ⟨Nat.le_of_ble_eq_true rfl, Nat.le_of_ble_eq_true rfl⟩, hW _ wg73, trivial⟩ preEq rfl rfl hl.1 rfl (lv_room (Nat.le_of_ble_eq_true rfl)) dX0_throwFrom_18 ⟨Nat.zero_le _, Nat.zero_le _⟩) ?_
    refine lv_goto (tgt := 30) hx hb dX0_throwFrom_21 (by decide) ?_
    have h := Option.some.inj h
    subst h
    exact W.iret (v := r18) hx hb hr (fun t ht hW9 => ⟨r18, rfl, rfl, ht⟩) (fun _ h9 => absurd h9 List.not_mem_nil) dX0_throwFrom_30 hlocks
set_option maxHeartbeats 4000000 in
set_option maxRecDepth 100000 in
theorem mX5_withState (l : Launch) (x0 x1 x2 : Int32) (o : Int32) (h : fX5_withState x0 x1 x2 = some o) : Met l yX5_withState ((Cond.code yX5_withState cX5_withState 4 (some .int)) :: WG) ({ frames := 0, cells := 0, slots := 0, locals := 0 } : Room) (fun v _ => v = ([.int x0, .int x1, .int x2] : List Value).toArray) (vp_Si (fun z => z = o)) 0 0 (fun _ => False) := by
  refine Met.ofW (cc := cX5_withState) (maxL := 4) (ret := (some .int)) (by decide) rfl ?_
  intro p e s m args below meth c s₁ B hml0 hv
  have C : Cx p s m args meth c cX5_withState 4 RX5 (Cond.code yX5_withState cX5_withState 4 (some .int)) (some .int) := ⟨B.exec, B.bytes, B.returns, hml0, findClass_of_methodNamed B.named, atoms_spec (ws := (Cond.code yX5_withState cX5_withState 4 (some .int)) :: WG) B.pre, B.notSynchronized⟩
  subst hv
  have C0 := C
  obtain ⟨hx, hb, hr, hml, hown, hts, hlocks⟩ := C0
  have hW : ∀ w ∈ WG, w.before _ s = true := fun w h => hts w (List.mem_cons_of_mem _ h)
  show W p l e ({ frames := 0, cells := 0, slots := 0, locals := 0 } : Room) s m _ below meth c s.heap [] 0 0 _ _
  have hl := lv_entry ([.int x0, .int x1, .int x2]) (n := 4) (Nat.le_of_ble_eq_true rfl)
  rw [lg_entry_eq]
  generalize (lg_sl ([.int x0, .int x1, .int x2]) ++ List.replicate (4 - (lg_sl ([.int x0, .int x1, .int x2])).length) Slot.unset).toArray = ls at hl ⊢
  have hl : lv_has ls 4 [(0, .int x0), (1, .int x1), (2, .int x2)] := hl
  unfold fX5_withState at h
  refine lv_iconst (v := 2) hx hb dX5_withState_0 (by decide) ?_
  refine lv_iload_n hx hb dX5_withState_1 rfl (lv_at hl 1 rfl) ?_
  refine lv_imul hx hb dX5_withState_2 ?_
  refine lv_topi (fun x3_3 ex3_3 => ?_)
  have h := nm_o h ex3_3
  refine lv_istore_n (lv' := [(3, .int x3_3), (0, .int x0), (1, .int x1), (2, .int x2)]) hx hb dX5_withState_3 rfl hl (by decide) rfl (fun ls hl => ?_)
  refine lv_iload_n hx hb dX5_withState_4 rfl (lv_at hl 1 rfl) ?_
  refine lv_iconst (v := 3) hx hb dX5_withState_5 (by decide) ?_
  refine lv_iload_n hx hb dX5_withState_6 rfl (lv_at hl 0 rfl) ?_
  refine lv_ishl hx hb dX5_withState_7 ?_
  refine lv_iconst (v := (-1)) hx hb dX5_withState_8 (by decide) ?_
  refine lv_ixor hx hb dX5_withState_9 ?_
  refine lv_iand hx hb dX5_withState_10 ?_
  refine lv_iload_n hx hb dX5_withState_11 rfl (lv_at hl 3 rfl) ?_
  refine lv_iload_n hx hb dX5_withState_12 rfl (lv_at hl 0 rfl) ?_
  refine lv_ishl hx hb dX5_withState_13 ?_
  refine lv_ior hx hb dX5_withState_14 ?_
  have h := Option.some.inj h
  subst h
  exact W.iret (v := ((x0 &&& ((3 <<< (x3_3 &&& 31)) ^^^ (-1))) ||| (x2 <<< (x3_3 &&& 31)))) hx hb hr (fun t ht hW9 => ⟨((x0 &&& ((3 <<< (x3_3 &&& 31)) ^^^ (-1))) ||| (x2 <<< (x3_3 &&& 31))), rfl, rfl, ht⟩) (fun _ h9 => absurd h9 List.not_mem_nil) dX5_withState_15 hlocks
set_option maxHeartbeats 4000000 in
set_option maxRecDepth 100000 in
theorem bX3_afterOpen_L21 {p : Program} {l : Launch} {e : Env} {s : State} {m : MethodId} {args : Array Value} {below : List Frame} {meth : Method} {c : Code} {D : va_G} {a : Nat → Nat} {k : Nat → ClassId} {σ : ST} {o : Int32} (C : Cx p s m args meth c cX3_afterOpen 3 RX3 (Cond.code yX3_afterOpen cX3_afterOpen 3 (some .int)) (some .int)) (hK : Kx D (tX k) s) (hP : va_P D vwCl (wX a k σ) s.heap) (hD : va_D (AX a) (wX a k σ)) : ∀ (y0 y1 y2 : Int32) (ls : Array Slot), lv_has ls 3 [] → fX3_afterOpen_L21 σ y0 y1 y2 = some o → W p l e ({ frames := 1, cells := 0, slots := 0, locals := 23 } : Room) s m args below meth c s.heap [] 0 0 (MQ below (vp_Si (fun z => z = o)) args s 0 0 (fun _ => False)) (F0 m 21 ls [.int y2, .int y1, .int y0]) := by
  have C0 := C
  obtain ⟨hx, hb, hr, hml, hown, hts, hlocks⟩ := C0
  have hW : ∀ w ∈ WG, w.before args s = true := fun w h => hts w (List.mem_cons_of_mem _ h)
  intro y0 y1 y2 ls hl h
  unfold fX3_afterOpen_L21 at h
  obtain ⟨r21, hc21, h⟩ := bd_o h
  refine callRI (va_runSN (As := [.int y0, .int y1, .int y2]) (rest := []) ⟨hx, hb, hml, hown, hts⟩ (mX5_withState l _ _ _ _ hc21) ⟨va_cnB 3 hts (wg_c wg137) rfl rfl rfl (hK.2 _ nw138) (hW _ wg3) hdX5_withState ⟨Nat.le_of_ble_eq_true rfl, Nat.le_of_ble_eq_true rfl⟩, hW _ wg139, trivial⟩ preEq rfl rfl hl.1 rfl (lv_room (Nat.le_of_ble_eq_true rfl)) dX3_afterOpen_21 ⟨Nat.zero_le _, Nat.zero_le _⟩) ?_
  have h := Option.some.inj h
  subst h
  exact W.iret (v := r21) hx hb hr (fun t ht hW9 => ⟨r21, rfl, rfl, ht⟩) (fun _ h9 => absurd h9 List.not_mem_nil) dX3_afterOpen_24 hlocks
set_option maxHeartbeats 4000000 in
set_option maxRecDepth 100000 in
theorem mX3_afterOpen (l : Launch) (D : va_G) (a : Nat → Nat) (k : Nat → ClassId) (σ : ST) (x1 x2 : Int32) (o : Int32) (h : fX3_afterOpen σ x1 x2 = some o) : Met l yX3_afterOpen ((Cond.code yX3_afterOpen cX3_afterOpen 3 (some .int)) :: WG) ({ frames := 1, cells := 0, slots := 0, locals := 23 } : Room) (Pw D (tX k) (AX a) (wX a k σ) [.ref (a 1), .int x1, .int x2]) (vp_Si (fun z => z = o)) 0 0 (fun _ => False) := by
  refine Met.ofW (cc := cX3_afterOpen) (maxL := 3) (ret := (some .int)) (by decide) rfl ?_
  intro p e s m args below meth c s₁ B hml0 hv
  have C : Cx p s m args meth c cX3_afterOpen 3 RX3 (Cond.code yX3_afterOpen cX3_afterOpen 3 (some .int)) (some .int) := ⟨B.exec, B.bytes, B.returns, hml0, findClass_of_methodNamed B.named, atoms_spec (ws := (Cond.code yX3_afterOpen cX3_afterOpen 3 (some .int)) :: WG) B.pre, B.notSynchronized⟩
  obtain ⟨rfl, hP, hK, hD⟩ := hv
  have hK : Kx D (tX k) s := hK
  have C0 := C
  obtain ⟨hx, hb, hr, hml, hown, hts, hlocks⟩ := C0
  have hW : ∀ w ∈ WG, w.before _ s = true := fun w h => hts w (List.mem_cons_of_mem _ h)
  show W p l e ({ frames := 1, cells := 0, slots := 0, locals := 23 } : Room) s m _ below meth c s.heap [] 0 0 _ _
  have hl := lv_entry ([.ref (a 1), .int x1, .int x2]) (n := 3) (Nat.le_of_ble_eq_true rfl)
  rw [lg_entry_eq]
  generalize (lg_sl ([.ref (a 1), .int x1, .int x2]) ++ List.replicate (3 - (lg_sl ([.ref (a 1), .int x1, .int x2])).length) Slot.unset).toArray = ls at hl ⊢
  have hl : lv_has ls 3 [(0, .ref (a 1)), (1, .int x1), (2, .int x2)] := hl
  unfold fX3_afterOpen at h
  refine lv_iload_n hx hb dX3_afterOpen_0 rfl (lv_at hl 1 rfl) ?_
  refine lv_iload_n hx hb dX3_afterOpen_1 rfl (lv_at hl 2 rfl) ?_
  refine lv_aload_n hx hb dX3_afterOpen_2 rfl (lv_at hl 0 rfl) ?_
  refine lv_iload_n hx hb dX3_afterOpen_3 rfl (lv_at hl 2 rfl) ?_
  obtain ⟨r4, hc4, h⟩ := bd_o h
  refine callRI (va_runV (As := [.int x2]) (rest := [.int x2, .int x1]) ⟨hx, hb, hml, hown, hts⟩ (mX3_isFile l D a k _ _ _ hc4) ⟨callB_of 1 hts (wg_c wg16) rfl rfl rfl (hW _ wg13) (hW _ wg85) hdX3_isFile ⟨Nat.le_of_ble_eq_true rfl, Nat.le_of_ble_eq_true rfl⟩, hW _ wg18, hW _ wg19⟩ (pw_V hK hP hD (ci := 3) (q0 := 1) rfl rfl) rfl rfl hl.1 rfl (lv_room (Nat.le_of_ble_eq_true rfl)) dX3_afterOpen_4 ⟨Nat.zero_le _, Nat.zero_le _⟩) ?_
  refine lv_if_eq (tgt := 14) hx hb dX3_afterOpen_7 (by decide) (fun c7 => ?_) (fun c7 => ?_)
  · have h := ite_t h c7
    refine lv_iload_n hx hb dX3_afterOpen_14 rfl (lv_at hl 1 rfl) ?_
    refine lv_iload_n hx hb dX3_afterOpen_15 rfl (lv_at hl 2 rfl) ?_
    obtain ⟨r16, hc16, h⟩ := bd_o h
    refine callRI (va_runSN (As := [.int x1, .int x2]) (rest := [.int x2, .int x1]) ⟨hx, hb, hml, hown, hts⟩ (mX5_stateIn l _ _ _ hc16) ⟨va_cnB 2 hts (wg_c wg82) rfl rfl rfl (hK.2 _ nw83) (hW _ wg3) hdX5_stateIn ⟨Nat.le_of_ble_eq_true rfl, Nat.le_of_ble_eq_true rfl⟩, hW _ wg84, trivial⟩ preEq rfl rfl hl.1 rfl (lv_room (Nat.le_of_ble_eq_true rfl)) dX3_afterOpen_16 ⟨Nat.zero_le _, Nat.zero_le _⟩) ?_
    refine lv_iconst (v := 1) hx hb dX3_afterOpen_19 (by decide) ?_
    refine lv_iadd hx hb dX3_afterOpen_20 ?_
    exact bX3_afterOpen_L21 C hK hP hD _ _ _ ls (lv_sub hl [] rfl) h
  · have h := ite_f h c7
    refine lv_iconst (v := 1) hx hb dX3_afterOpen_10 (by decide) ?_
    refine lv_goto (tgt := 21) hx hb dX3_afterOpen_11 (by decide) ?_
    exact bX3_afterOpen_L21 C hK hP hD _ _ _ ls (lv_sub hl [] rfl) h
set_option maxHeartbeats 4000000 in
set_option maxRecDepth 100000 in
theorem bX3_afterClose_L29 {p : Program} {l : Launch} {e : Env} {s : State} {m : MethodId} {args : Array Value} {below : List Frame} {meth : Method} {c : Code} {D : va_G} {a : Nat → Nat} {k : Nat → ClassId} {σ : ST} {o : Int32} (C : Cx p s m args meth c cX3_afterClose 6 RX3 (Cond.code yX3_afterClose cX3_afterClose 6 (some .int)) (some .int)) (hK : Kx D (tX k) s) (hP : va_P D vwCl (wX a k σ) s.heap) (hD : va_D (AX a) (wX a k σ)) : ∀ (n : Nat) (x3 x4 x5 : Int32) (ls : Array Slot), lv_has ls 6 [(0, .ref (a 1)), (3, .int x3), (4, .int x4), (5, .int x5)] → fX3_afterClose_L29 σ n x3 x4 x5 = some o → W p l e ({ frames := 1, cells := 0, slots := 0, locals := 23 } : Room) s m args below meth c s.heap [] 0 0 (MQ below (vp_Si (fun z => z = o)) args s 0 0 (fun _ => False)) (F0 m 29 ls []) := by
  have C0 := C
  obtain ⟨hx, hb, hr, hml, hown, hts, hlocks⟩ := C0
  have hW : ∀ w ∈ WG, w.before args s = true := fun w h => hts w (List.mem_cons_of_mem _ h)
  intro n
  induction n with
  | zero =>
    intro x3 x4 x5 ls hl h
    rw [fX3_afterClose_L29] at h
    cases h
  | succ n ih =>
      intro x3 x4 x5 ls hl h
      rw [fX3_afterClose_L29] at h
      refine lv_iload hx hb dX3_afterClose_29 (lv_at hl 3 rfl) ?_
      refine lv_iconst (v := 5) hx hb dX3_afterClose_31 (by decide) ?_
      refine lv_icmp_ge (tgt := 74) hx hb dX3_afterClose_32 (by decide) (fun c32 => ?_) (fun c32 => ?_)
      · have h := ite_t h c32
        refine lv_iload_n hx hb dX3_afterClose_74 rfl (lv_at hl 1 rfl) ?_
        have h := Option.some.inj h
        subst h
        exact W.iret (v := x3) hx hb hr (fun t ht hW9 => ⟨x3, rfl, rfl, ht⟩) (fun _ h9 => absurd h9 List.not_mem_nil) dX3_afterClose_75 hlocks
      · have h := ite_f h c32
        refine lv_iload hx hb dX3_afterClose_35 (lv_at hl 2 rfl) ?_
        refine lv_iconst (v := (-1)) hx hb dX3_afterClose_37 (by decide) ?_
        refine lv_icmp_eq (tgt := 74) hx hb dX3_afterClose_38 (by decide) (fun c38 => ?_) (fun c38 => ?_)
        · have h := ite_t h c38
          refine lv_iload_n hx hb dX3_afterClose_74 rfl (lv_at hl 1 rfl) ?_
          have h := Option.some.inj h
          subst h
          exact W.iret (v := x3) hx hb hr (fun t ht hW9 => ⟨x3, rfl, rfl, ht⟩) (fun _ h9 => absurd h9 List.not_mem_nil) dX3_afterClose_75 hlocks
        · have h := ite_f h c38
          refine lv_iload_n hx hb dX3_afterClose_41 rfl (lv_at hl 1 rfl) ?_
          refine lv_iload hx hb dX3_afterClose_42 (lv_at hl 2 rfl) ?_
          obtain ⟨r44, hc44, h⟩ := bd_o h
          refine callRI (va_runSN (As := [.int x3, .int x4]) (rest := []) ⟨hx, hb, hml, hown, hts⟩ (mX5_stateIn l _ _ _ hc44) ⟨va_cnB 2 hts (wg_c wg82) rfl rfl rfl (hK.2 _ nw83) (hW _ wg3) hdX5_stateIn ⟨Nat.le_of_ble_eq_true rfl, Nat.le_of_ble_eq_true rfl⟩, hW _ wg84, trivial⟩ preEq rfl rfl hl.1 rfl (lv_room (Nat.le_of_ble_eq_true rfl)) dX3_afterClose_44 ⟨Nat.zero_le _, Nat.zero_le _⟩) ?_
          refine lv_iconst (v := 1) hx hb dX3_afterClose_47 (by decide) ?_
          refine lv_icmp_ne (tgt := 74) hx hb dX3_afterClose_48 (by decide) (fun c48 => ?_) (fun c48 => ?_)
          · have h := ite_f h c48
            refine lv_iload_n hx hb dX3_afterClose_74 rfl (lv_at hl 1 rfl) ?_
            have h := Option.some.inj h
            subst h
            exact W.iret (v := x3) hx hb hr (fun t ht hW9 => ⟨x3, rfl, rfl, ht⟩) (fun _ h9 => absurd h9 List.not_mem_nil) dX3_afterClose_75 hlocks
          · have h := ite_t h c48
            refine lv_iload_n hx hb dX3_afterClose_51 rfl (lv_at hl 1 rfl) ?_
            refine lv_iload hx hb dX3_afterClose_52 (lv_at hl 2 rfl) ?_
            refine lv_iconst (v := 2) hx hb dX3_afterClose_54 (by decide) ?_
            obtain ⟨r55, hc55, h⟩ := bd_o h
            refine callRI (va_runSN (As := [.int x3, .int x4, .int 2]) (rest := []) ⟨hx, hb, hml, hown, hts⟩ (mX5_withState l _ _ _ _ hc55) ⟨va_cnB 3 hts (wg_c wg137) rfl rfl rfl (hK.2 _ nw138) (hW _ wg3) hdX5_withState ⟨Nat.le_of_ble_eq_true rfl, Nat.le_of_ble_eq_true rfl⟩, hW _ wg139, trivial⟩ preEq rfl rfl hl.1 rfl (lv_room (Nat.le_of_ble_eq_true rfl)) dX3_afterClose_55 ⟨Nat.zero_le _, Nat.zero_le _⟩) ?_
            refine lv_istore_n (lv' := [(3, .int r55), (0, .ref (a 1)), (4, .int x4), (5, .int x5)]) hx hb dX3_afterClose_58 rfl hl (by decide) rfl (fun ls hl => ?_)
            refine lv_aload_n hx hb dX3_afterClose_59 rfl (lv_at hl 1 rfl) ?_
            refine va_get (D := D) (ci := 3) (v := .ref (a 8)) (C := RX3) (T := TX3) (N := 4) hx hb hW inX3G hown hK.1 hP 1 rfl rfl 2 (by decide) (hW _ wg7) (fun _ h9 => h9) rfl dX3_afterClose_60 ?_
            refine lv_iload hx hb dX3_afterClose_63 (lv_at hl 2 rfl) ?_
            obtain ⟨hi65, h⟩ := ix_o h
            refine va_iald (D := D) hx hb hK.1 hP 8 2 rfl rfl hi65 dX3_afterClose_65 ?_
            refine lv_topi (fun x4_66 ex4_66 => ?_)
            have h := nm_o h ex4_66
            refine lv_istore (lv' := [(4, .int x4_66), (3, .int r55), (0, .ref (a 1)), (5, .int x5)]) hx hb dX3_afterClose_66 hl (by decide) rfl (fun ls hl => ?_)
            obtain ⟨x5_68, ex5_68⟩ : ∃ y : Int32, y = x5 + 1 := ⟨_, rfl⟩
            have h := nm_o h ex5_68
            refine lv_iinc (v := x5_68) (lv' := [(5, .int x5_68), (4, .int x4_66), (3, .int r55), (0, .ref (a 1))]) hx hb dX3_afterClose_68 hl (k := 3) rfl (by rw [ex5_68]; rfl) (by decide) rfl (fun ls hl => ?_)
            refine lv_goto (tgt := 29) hx hb dX3_afterClose_71 (by decide) ?_
            exact ih _ _ _ ls (lv_sub hl [3, 2, 1, 0] rfl) h
set_option maxHeartbeats 4000000 in
set_option maxRecDepth 100000 in
theorem mX3_afterClose (l : Launch) (D : va_G) (a : Nat → Nat) (k : Nat → ClassId) (σ : ST) (x1 x2 : Int32) (o : Int32) (h : fX3_afterClose σ x1 x2 = some o) : Met l yX3_afterClose ((Cond.code yX3_afterClose cX3_afterClose 6 (some .int)) :: WG) ({ frames := 1, cells := 0, slots := 0, locals := 23 } : Room) (Pw D (tX k) (AX a) (wX a k σ) [.ref (a 1), .int x1, .int x2]) (vp_Si (fun z => z = o)) 0 0 (fun _ => False) := by
  refine Met.ofW (cc := cX3_afterClose) (maxL := 6) (ret := (some .int)) (by decide) rfl ?_
  intro p e s m args below meth c s₁ B hml0 hv
  have C : Cx p s m args meth c cX3_afterClose 6 RX3 (Cond.code yX3_afterClose cX3_afterClose 6 (some .int)) (some .int) := ⟨B.exec, B.bytes, B.returns, hml0, findClass_of_methodNamed B.named, atoms_spec (ws := (Cond.code yX3_afterClose cX3_afterClose 6 (some .int)) :: WG) B.pre, B.notSynchronized⟩
  obtain ⟨rfl, hP, hK, hD⟩ := hv
  have hK : Kx D (tX k) s := hK
  have C0 := C
  obtain ⟨hx, hb, hr, hml, hown, hts, hlocks⟩ := C0
  have hW : ∀ w ∈ WG, w.before _ s = true := fun w h => hts w (List.mem_cons_of_mem _ h)
  show W p l e ({ frames := 1, cells := 0, slots := 0, locals := 23 } : Room) s m _ below meth c s.heap [] 0 0 _ _
  have hl := lv_entry ([.ref (a 1), .int x1, .int x2]) (n := 6) (Nat.le_of_ble_eq_true rfl)
  rw [lg_entry_eq]
  generalize (lg_sl ([.ref (a 1), .int x1, .int x2]) ++ List.replicate (6 - (lg_sl ([.ref (a 1), .int x1, .int x2])).length) Slot.unset).toArray = ls at hl ⊢
  have hl : lv_has ls 6 [(0, .ref (a 1)), (1, .int x1), (2, .int x2)] := hl
  unfold fX3_afterClose at h
  refine lv_aload_n hx hb dX3_afterClose_0 rfl (lv_at hl 0 rfl) ?_
  refine lv_iload_n hx hb dX3_afterClose_1 rfl (lv_at hl 2 rfl) ?_
  obtain ⟨r2, hc2, h⟩ := bd_o h
  refine callRI (va_runV (As := [.int x2]) (rest := []) ⟨hx, hb, hml, hown, hts⟩ (mX3_isFile l D a k _ _ _ hc2) ⟨callB_of 1 hts (wg_c wg16) rfl rfl rfl (hW _ wg13) (hW _ wg85) hdX3_isFile ⟨Nat.le_of_ble_eq_true rfl, Nat.le_of_ble_eq_true rfl⟩, hW _ wg18, hW _ wg19⟩ (pw_V hK hP hD (ci := 3) (q0 := 1) rfl rfl) rfl rfl hl.1 rfl (lv_room (Nat.le_of_ble_eq_true rfl)) dX3_afterClose_2 ⟨Nat.zero_le _, Nat.zero_le _⟩) ?_
  refine lv_if_ne (tgt := 21) hx hb dX3_afterClose_5 (by decide) (fun c5 => ?_) (fun c5 => ?_)
  · have h := ite_f h c5
    refine lv_iload_n hx hb dX3_afterClose_21 rfl (lv_at hl 1 rfl) ?_
    refine lv_istore_n (lv' := [(3, .int x1), (0, .ref (a 1)), (1, .int x1), (2, .int x2)]) hx hb dX3_afterClose_22 rfl hl (by decide) rfl (fun ls hl => ?_)
    refine lv_iload_n hx hb dX3_afterClose_23 rfl (lv_at hl 3 rfl) ?_
    refine lv_istore (lv' := [(4, .int x2), (3, .int x1), (0, .ref (a 1)), (1, .int x1), (2, .int x2)]) hx hb dX3_afterClose_24 hl (by decide) rfl (fun ls hl => ?_)
    refine lv_iconst (v := 0) hx hb dX3_afterClose_26 (by decide) ?_
    refine lv_istore (lv' := [(5, .int 0), (4, .int x2), (3, .int x1), (0, .ref (a 1)), (1, .int x1), (2, .int x2)]) hx hb dX3_afterClose_27 hl (by decide) rfl (fun ls hl => ?_)
    exact bX3_afterClose_L29 C hK hP hD FUEL _ _ _ ls (lv_sub hl [3, 2, 1, 0] rfl) h
  · have h := ite_t h c5
    refine lv_iload_n hx hb dX3_afterClose_8 rfl (lv_at hl 1 rfl) ?_
    refine lv_iload_n hx hb dX3_afterClose_9 rfl (lv_at hl 2 rfl) ?_
    refine lv_iload_n hx hb dX3_afterClose_10 rfl (lv_at hl 1 rfl) ?_
    refine lv_iload_n hx hb dX3_afterClose_11 rfl (lv_at hl 2 rfl) ?_
    obtain ⟨r12, hc12, h⟩ := bd_o h
    refine callRI (va_runSN (As := [.int x1, .int x2]) (rest := [.int x2, .int x1]) ⟨hx, hb, hml, hown, hts⟩ (mX5_stateIn l _ _ _ hc12) ⟨va_cnB 2 hts (wg_c wg82) rfl rfl rfl (hK.2 _ nw83) (hW _ wg3) hdX5_stateIn ⟨Nat.le_of_ble_eq_true rfl, Nat.le_of_ble_eq_true rfl⟩, hW _ wg84, trivial⟩ preEq rfl rfl hl.1 rfl (lv_room (Nat.le_of_ble_eq_true rfl)) dX3_afterClose_12 ⟨Nat.zero_le _, Nat.zero_le _⟩) ?_
    refine lv_iconst (v := 1) hx hb dX3_afterClose_15 (by decide) ?_
    refine lv_isub hx hb dX3_afterClose_16 ?_
    obtain ⟨r17, hc17, h⟩ := bd_o h
    refine callRI (va_runSN (As := [.int x1, .int x2, .int (r12 - 1)]) (rest := []) ⟨hx, hb, hml, hown, hts⟩ (mX5_withState l _ _ _ _ hc17) ⟨va_cnB 3 hts (wg_c wg137) rfl rfl rfl (hK.2 _ nw138) (hW _ wg3) hdX5_withState ⟨Nat.le_of_ble_eq_true rfl, Nat.le_of_ble_eq_true rfl⟩, hW _ wg139, trivial⟩ preEq rfl rfl hl.1 rfl (lv_room (Nat.le_of_ble_eq_true rfl)) dX3_afterClose_17 ⟨Nat.zero_le _, Nat.zero_le _⟩) ?_
    have h := Option.some.inj h
    subst h
    exact W.iret (v := r17) hx hb hr (fun t ht hW9 => ⟨r17, rfl, rfl, ht⟩) (fun _ h9 => absurd h9 List.not_mem_nil) dX3_afterClose_20 hlocks
set_option maxHeartbeats 4000000 in
set_option maxRecDepth 100000 in
theorem mX0_afterDoing (l : Launch) (D : va_G) (a : Nat → Nat) (k : Nat → ClassId) (σ : ST) (x1 x2 : Int32) (o : Int32) (h : fX0_afterDoing σ x1 x2 = some o) : Met l yX0_afterDoing ((Cond.code yX0_afterDoing cX0_afterDoing 4 (some .int)) :: WG) ({ frames := 2, cells := 0, slots := 0, locals := 48 } : Room) (Pw D (tX k) (AX a) (wX a k σ) [.ref (a 3), .int x1, .int x2]) (vp_Si (fun z => z = o)) 0 0 (fun _ => False) := by
  refine Met.ofW (cc := cX0_afterDoing) (maxL := 4) (ret := (some .int)) (by decide) rfl ?_
  intro p e s m args below meth c s₁ B hml0 hv
  have C : Cx p s m args meth c cX0_afterDoing 4 RX0 (Cond.code yX0_afterDoing cX0_afterDoing 4 (some .int)) (some .int) := ⟨B.exec, B.bytes, B.returns, hml0, findClass_of_methodNamed B.named, atoms_spec (ws := (Cond.code yX0_afterDoing cX0_afterDoing 4 (some .int)) :: WG) B.pre, B.notSynchronized⟩
  obtain ⟨rfl, hP, hK, hD⟩ := hv
  have hK : Kx D (tX k) s := hK
  have C0 := C
  obtain ⟨hx, hb, hr, hml, hown, hts, hlocks⟩ := C0
  have hW : ∀ w ∈ WG, w.before _ s = true := fun w h => hts w (List.mem_cons_of_mem _ h)
  show W p l e ({ frames := 2, cells := 0, slots := 0, locals := 48 } : Room) s m _ below meth c s.heap [] 0 0 _ _
  have hl := lv_entry ([.ref (a 3), .int x1, .int x2]) (n := 4) (Nat.le_of_ble_eq_true rfl)
  rw [lg_entry_eq]
  generalize (lg_sl ([.ref (a 3), .int x1, .int x2]) ++ List.replicate (4 - (lg_sl ([.ref (a 3), .int x1, .int x2])).length) Slot.unset).toArray = ls at hl ⊢
  have hl : lv_has ls 4 [(0, .ref (a 3)), (1, .int x1), (2, .int x2)] := hl
  unfold fX0_afterDoing at h
  refine lv_aload_n hx hb dX0_afterDoing_0 rfl (lv_at hl 0 rfl) ?_
  refine va_get (D := D) (ci := 0) (v := .ref (a 2)) (C := RX0) (T := TX0) (N := 2) hx hb hW inX0G hown hK.1 hP 3 rfl rfl 1 (by decide) (hW _ wg74) (fun _ h9 => h9) rfl dX0_afterDoing_1 ?_
  refine va_getN (D := D) (ci := 2) (v := .ref (a 10)) (C := RX2) (T := TX2) (N := 6) hx hb hW inX2G hown hK.1 hP 2 rfl rfl 1 (by decide) (hK.2.fld nw117) (fun _ h9 => h9) rfl dX0_afterDoing_4 ?_
  refine lv_iload_n hx hb dX0_afterDoing_7 rfl (lv_at hl 1 rfl) ?_
  obtain ⟨hi8, h⟩ := ix_o h
  refine va_iald (D := D) hx hb hK.1 hP 10 4 rfl rfl hi8 dX0_afterDoing_8 ?_
  refine lv_topi (fun x3_9 ex3_9 => ?_)
  have h := nm_o h ex3_9
  refine lv_istore_n (lv' := [(3, .int x3_9), (0, .ref (a 3)), (1, .int x1), (2, .int x2)]) hx hb dX0_afterDoing_9 rfl hl (by decide) rfl (fun ls hl => ?_)
  refine lv_aload_n hx hb dX0_afterDoing_10 rfl (lv_at hl 1 rfl) ?_
  refine va_get (D := D) (ci := 0) (v := .ref (a 2)) (C := RX0) (T := TX0) (N := 2) hx hb hW inX0G hown hK.1 hP 3 rfl rfl 1 (by decide) (hW _ wg74) (fun _ h9 => h9) rfl dX0_afterDoing_11 ?_
  refine va_getN (D := D) (ci := 2) (v := .ref (a 9)) (C := RX2) (T := TX2) (N := 6) hx hb hW inX2G hown hK.1 hP 2 rfl rfl 0 (by decide) (hK.2.fld nw118) (fun _ h9 => h9) rfl dX0_afterDoing_14 ?_
  refine lv_iload_n hx hb dX0_afterDoing_17 rfl (lv_at hl 2 rfl) ?_
  obtain ⟨hi18, h⟩ := ix_o h
  refine va_iald (D := D) hx hb hK.1 hP 9 3 rfl rfl hi18 dX0_afterDoing_18 ?_
  by_cases c19_0 : (σ.2 3 x1.toNatClampNeg) = 0
  · have h := ite_t h c19_0
    refine lv_tableIn (tgt := 48) hx hb dX0_afterDoing_19 (by rw [c19_0]; decide) (by rw [c19_0]; decide) (by rw [c19_0]; rfl) (by decide) ?_
    refine lv_aload_n hx hb dX0_afterDoing_48 rfl (lv_at hl 1 rfl) ?_
    refine va_get (D := D) (ci := 0) (v := .ref (a 1)) (C := RX0) (T := TX0) (N := 2) hx hb hW inX0G hown hK.1 hP 3 rfl rfl 0 (by decide) (hW _ wg119) (fun _ h9 => h9) rfl dX0_afterDoing_49 ?_
    refine lv_iload_n hx hb dX0_afterDoing_52 rfl (lv_at hl 3 rfl) ?_
    refine lv_iload_n hx hb dX0_afterDoing_53 rfl (lv_at hl 0 rfl) ?_
    obtain ⟨r54, hc54, h⟩ := bd_o h
    refine callRI (va_runVN (As := [.int x2, .int x3_9]) (rest := []) ⟨hx, hb, hml, hown, hts⟩ (mX3_afterOpen l D a k _ _ _ _ hc54) ⟨va_cnB 2 hts (wg_c wg140) rfl rfl rfl (hK.2 _ nw141) (hW _ wg13) hdX3_afterOpen ⟨Nat.le_of_ble_eq_true rfl, Nat.le_of_ble_eq_true rfl⟩, hW _ wg142, hW _ wg143⟩ (pw_V hK hP hD (ci := 3) (q0 := 1) rfl rfl) rfl rfl hl.1 rfl (lv_room (Nat.le_of_ble_eq_true rfl)) dX0_afterDoing_54 ⟨Nat.zero_le _, Nat.zero_le _⟩) ?_
    have h := Option.some.inj h
    subst h
    exact W.iret (v := r54) hx hb hr (fun t ht hW9 => ⟨r54, rfl, rfl, ht⟩) (fun _ h9 => absurd h9 List.not_mem_nil) dX0_afterDoing_57 hlocks
  · have h := ite_f h c19_0
    by_cases c19_1 : (σ.2 3 x1.toNatClampNeg) = 1
    · have h := ite_t h c19_1
      refine lv_tableIn (tgt := 91) hx hb dX0_afterDoing_19 (by rw [c19_1]; decide) (by rw [c19_1]; decide) (by rw [c19_1]; rfl) (by decide) ?_
      refine lv_iload_n hx hb dX0_afterDoing_91 rfl (lv_at hl 3 rfl) ?_
      have h := Option.some.inj h
      subst h
      exact W.iret (v := x2) hx hb hr (fun t ht hW9 => ⟨x2, rfl, rfl, ht⟩) (fun _ h9 => absurd h9 List.not_mem_nil) dX0_afterDoing_92 hlocks
    · have h := ite_f h c19_1
      by_cases c19_2 : (σ.2 3 x1.toNatClampNeg) = 2
      · have h := ite_t h c19_2
        refine lv_tableIn (tgt := 58) hx hb dX0_afterDoing_19 (by rw [c19_2]; decide) (by rw [c19_2]; decide) (by rw [c19_2]; rfl) (by decide) ?_
        refine lv_aload_n hx hb dX0_afterDoing_58 rfl (lv_at hl 1 rfl) ?_
        refine va_get (D := D) (ci := 0) (v := .ref (a 1)) (C := RX0) (T := TX0) (N := 2) hx hb hW inX0G hown hK.1 hP 3 rfl rfl 0 (by decide) (hW _ wg119) (fun _ h9 => h9) rfl dX0_afterDoing_59 ?_
        refine lv_iload_n hx hb dX0_afterDoing_62 rfl (lv_at hl 3 rfl) ?_
        refine lv_iload_n hx hb dX0_afterDoing_63 rfl (lv_at hl 0 rfl) ?_
        obtain ⟨r64, hc64, h⟩ := bd_o h
        refine callRI (va_runVN (As := [.int x2, .int x3_9]) (rest := []) ⟨hx, hb, hml, hown, hts⟩ (mX3_isHeld l D a k _ _ _ _ hc64) ⟨va_cnB 2 hts (wg_c wg94) rfl rfl rfl (hK.2 _ nw144) (hW _ wg13) hdX3_isHeld ⟨Nat.le_of_ble_eq_true rfl, Nat.le_of_ble_eq_true rfl⟩, hW _ wg96, hW _ wg97⟩ (pw_V hK hP hD (ci := 3) (q0 := 1) rfl rfl) rfl rfl hl.1 rfl (lv_room (Nat.le_of_ble_eq_true rfl)) dX0_afterDoing_64 ⟨Nat.zero_le _, Nat.zero_le _⟩) ?_
        refine lv_if_eq (tgt := 82) hx hb dX0_afterDoing_67 (by decide) (fun c67 => ?_) (fun c67 => ?_)
        · have h := ite_t h c67
          refine lv_iload_n hx hb dX0_afterDoing_82 rfl (lv_at hl 3 rfl) ?_
          have h := Option.some.inj h
          subst h
          exact W.iret (v := x2) hx hb hr (fun t ht hW9 => ⟨x2, rfl, rfl, ht⟩) (fun _ h9 => absurd h9 List.not_mem_nil) dX0_afterDoing_83 hlocks
        · have h := ite_f h c67
          refine lv_aload_n hx hb dX0_afterDoing_70 rfl (lv_at hl 1 rfl) ?_
          refine va_get (D := D) (ci := 0) (v := .ref (a 1)) (C := RX0) (T := TX0) (N := 2) hx hb hW inX0G hown hK.1 hP 3 rfl rfl 0 (by decide) (hW _ wg119) (fun _ h9 => h9) rfl dX0_afterDoing_71 ?_
          refine lv_iload_n hx hb dX0_afterDoing_74 rfl (lv_at hl 3 rfl) ?_
          refine lv_iload_n hx hb dX0_afterDoing_75 rfl (lv_at hl 0 rfl) ?_
          obtain ⟨r76, hc76, h⟩ := bd_o h
          refine callRI (va_runVN (As := [.int x2, .int x3_9]) (rest := []) ⟨hx, hb, hml, hown, hts⟩ (mX3_afterClose l D a k _ _ _ _ hc76) ⟨va_cnB 2 hts (wg_c wg145) rfl rfl rfl (hK.2 _ nw146) (hW _ wg13) hdX3_afterClose ⟨Nat.le_of_ble_eq_true rfl, Nat.le_of_ble_eq_true rfl⟩, hW _ wg147, hW _ wg148⟩ (pw_V hK hP hD (ci := 3) (q0 := 1) rfl rfl) rfl rfl hl.1 rfl (lv_room (Nat.le_of_ble_eq_true rfl)) dX0_afterDoing_76 ⟨Nat.zero_le _, Nat.zero_le _⟩) ?_
          refine lv_goto (tgt := 83) hx hb dX0_afterDoing_79 (by decide) ?_
          have h := Option.some.inj h
          subst h
          exact W.iret (v := r76) hx hb hr (fun t ht hW9 => ⟨r76, rfl, rfl, ht⟩) (fun _ h9 => absurd h9 List.not_mem_nil) dX0_afterDoing_83 hlocks
      · have h := ite_f h c19_2
        by_cases c19_3 : (σ.2 3 x1.toNatClampNeg) = 3
        · have h := ite_t h c19_3
          refine lv_tableIn (tgt := 84) hx hb dX0_afterDoing_19 (by rw [c19_3]; decide) (by rw [c19_3]; decide) (by rw [c19_3]; rfl) (by decide) ?_
          refine lv_iload_n hx hb dX0_afterDoing_84 rfl (lv_at hl 3 rfl) ?_
          refine lv_iload_n hx hb dX0_afterDoing_85 rfl (lv_at hl 0 rfl) ?_
          refine lv_iconst (v := 3) hx hb dX0_afterDoing_86 (by decide) ?_
          obtain ⟨r87, hc87, h⟩ := bd_o h
          refine callRI (va_runSN (As := [.int x2, .int x3_9, .int 3]) (rest := []) ⟨hx, hb, hml, hown, hts⟩ (mX5_withState l _ _ _ _ hc87) ⟨va_cnB 3 hts (wg_c wg137) rfl rfl rfl (hK.2 _ nw149) (hW _ wg3) hdX5_withState ⟨Nat.le_of_ble_eq_true rfl, Nat.le_of_ble_eq_true rfl⟩, hW _ wg139, trivial⟩ preEq rfl rfl hl.1 rfl (lv_room (Nat.le_of_ble_eq_true rfl)) dX0_afterDoing_87 ⟨Nat.zero_le _, Nat.zero_le _⟩) ?_
          have h := Option.some.inj h
          subst h
          exact W.iret (v := r87) hx hb hr (fun t ht hW9 => ⟨r87, rfl, rfl, ht⟩) (fun _ h9 => absurd h9 List.not_mem_nil) dX0_afterDoing_90 hlocks
        · have h := ite_f h c19_3
          refine lv_tableOut (tgt := 91) hx hb dX0_afterDoing_19 (by have z0 := lv_neT c19_0 (a := 0) (by decide); have z1 := lv_neT c19_1 (a := 1) (by decide); have z2 := lv_neT c19_2 (a := 2) (by decide); have z3 := lv_neT c19_3 (a := 3) (by decide); omega) (by decide) ?_
          refine lv_iload_n hx hb dX0_afterDoing_91 rfl (lv_at hl 3 rfl) ?_
          have h := Option.some.inj h
          subst h
          exact W.iret (v := x2) hx hb hr (fun t ht hW9 => ⟨x2, rfl, rfl, ht⟩) (fun _ h9 => absurd h9 List.not_mem_nil) dX0_afterDoing_92 hlocks
