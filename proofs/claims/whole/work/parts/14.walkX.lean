set_option maxHeartbeats 4000000 in
set_option maxRecDepth 100000 in
theorem bX0_follow_L215 {p : Program} {l : Launch} {e : Env} {s : State} {m : MethodId} {args : Array Value} {below : List Frame} {meth : Method} {c : Code} {D : va_G} {a : Nat → Nat} {k : Nat → ClassId} {σ : ST} {o : Int32} (C : Cx p s m args meth c cX0_follow 8 RX0 (Cond.code yX0_follow cX0_follow 8 (some .int)) (some .int)) (hK : Kx D (tX k) s) (hP : va_P D vwCl (wX a k σ) s.heap) (hD : va_D (AX a) (wX a k σ)) : ∀ (y1 y2 : Int32) (ls : Array Slot), lv_has ls 8 [] → fX0_follow_L215 σ y1 y2 = some o → W p l e ({ frames := 3, cells := 0, slots := 0, locals := 71 } : Room) s m args below meth c s.heap [] 0 0 (MQ below (vp_Si (fun z => z = o)) args s 0 0 (fun _ => False)) (F0 m 215 ls [.int y2, .int y1, .ref (a 3)]) := by
  have C0 := C
  obtain ⟨hx, hb, hr, hml, hown, hts, hlocks⟩ := C0
  have hW : ∀ w ∈ WG, w.before args s = true := fun w h => hts w (List.mem_cons_of_mem _ h)
  intro y1 y2 ls hl h
  unfold fX0_follow_L215 at h
  obtain ⟨r215, hc215, h⟩ := bd_o h
  refine callRI (va_runV (As := [.int y1, .int y2]) (rest := []) ⟨hx, hb, hml, hown, hts⟩ (mX0_throwFrom l D a k _ _ _ _ hc215) ⟨callB_of 2 hts (wg_c wg151) rfl rfl rfl (hW _ wg78) (hW _ wg150) hdX0_throwFrom ⟨Nat.le_of_ble_eq_true rfl, Nat.le_of_ble_eq_true rfl⟩, hW _ wg152, hW _ wg153⟩ (pw_V hK hP hD (ci := 0) (q0 := 3) rfl rfl) rfl rfl hl.1 rfl (lv_room (Nat.le_of_ble_eq_true rfl)) dX0_follow_215 ⟨Nat.zero_le _, Nat.zero_le _⟩) ?_
  have h := Option.some.inj h
  subst h
  exact W.iret (v := r215) hx hb hr (fun t ht hW9 => ⟨r215, rfl, rfl, ht⟩) (fun _ h9 => absurd h9 List.not_mem_nil) dX0_follow_218 hlocks
set_option maxHeartbeats 4000000 in
set_option maxRecDepth 100000 in
theorem bX0_follow_L146 {p : Program} {l : Launch} {e : Env} {s : State} {m : MethodId} {args : Array Value} {below : List Frame} {meth : Method} {c : Code} {D : va_G} {a : Nat → Nat} {k : Nat → ClassId} {σ : ST} {o : Int32} (C : Cx p s m args meth c cX0_follow 8 RX0 (Cond.code yX0_follow cX0_follow 8 (some .int)) (some .int)) (hK : Kx D (tX k) s) (hP : va_P D vwCl (wX a k σ) s.heap) (hD : va_D (AX a) (wX a k σ)) : ∀ (x5 y1 : Int32) (ls : Array Slot), lv_has ls 8 [(5, .int x5)] → fX0_follow_L146 σ x5 y1 = some o → W p l e ({ frames := 3, cells := 0, slots := 0, locals := 71 } : Room) s m args below meth c s.heap [] 0 0 (MQ below (vp_Si (fun z => z = o)) args s 0 0 (fun _ => False)) (F0 m 146 ls [.int y1, .ref (a 3)]) := by
  have C0 := C
  obtain ⟨hx, hb, hr, hml, hown, hts, hlocks⟩ := C0
  have hW : ∀ w ∈ WG, w.before args s = true := fun w h => hts w (List.mem_cons_of_mem _ h)
  intro x5 y1 ls hl h
  unfold fX0_follow_L146 at h
  refine lv_iload hx hb dX0_follow_146 (lv_at hl 0 rfl) ?_
  obtain ⟨r148, hc148, h⟩ := bd_o h
  refine callRI (va_runV (As := [.int y1, .int x5]) (rest := []) ⟨hx, hb, hml, hown, hts⟩ (mX0_arriveAt l D a k _ _ _ _ hc148) ⟨callB_of 2 hts (wg_c wg77) rfl rfl rfl (hW _ wg78) (hW _ wg76) hdX0_arriveAt ⟨Nat.le_of_ble_eq_true rfl, Nat.le_of_ble_eq_true rfl⟩, hW _ wg79, hW _ wg80⟩ (pw_V hK hP hD (ci := 0) (q0 := 3) rfl rfl) rfl rfl hl.1 rfl (lv_room (Nat.le_of_ble_eq_true rfl)) dX0_follow_148 ⟨Nat.zero_le _, Nat.zero_le _⟩) ?_
  have h := Option.some.inj h
  subst h
  exact W.iret (v := r148) hx hb hr (fun t ht hW9 => ⟨r148, rfl, rfl, ht⟩) (fun _ h9 => absurd h9 List.not_mem_nil) dX0_follow_151 hlocks
set_option maxHeartbeats 4000000 in
set_option maxRecDepth 100000 in
theorem bX0_follow_L82 {p : Program} {l : Launch} {e : Env} {s : State} {m : MethodId} {args : Array Value} {below : List Frame} {meth : Method} {c : Code} {D : va_G} {a : Nat → Nat} {k : Nat → ClassId} {σ : ST} {o : Int32} (C : Cx p s m args meth c cX0_follow 8 RX0 (Cond.code yX0_follow cX0_follow 8 (some .int)) (some .int)) (hK : Kx D (tX k) s) (hP : va_P D vwCl (wX a k σ) s.heap) (hD : va_D (AX a) (wX a k σ)) : ∀ (x5 y1 : Int32) (ls : Array Slot), lv_has ls 8 [(5, .int x5)] → fX0_follow_L82 σ x5 y1 = some o → W p l e ({ frames := 3, cells := 0, slots := 0, locals := 71 } : Room) s m args below meth c s.heap [] 0 0 (MQ below (vp_Si (fun z => z = o)) args s 0 0 (fun _ => False)) (F0 m 82 ls [.int y1, .ref (a 3)]) := by
  have C0 := C
  obtain ⟨hx, hb, hr, hml, hown, hts, hlocks⟩ := C0
  have hW : ∀ w ∈ WG, w.before args s = true := fun w h => hts w (List.mem_cons_of_mem _ h)
  intro x5 y1 ls hl h
  unfold fX0_follow_L82 at h
  refine lv_iload hx hb dX0_follow_82 (lv_at hl 0 rfl) ?_
  obtain ⟨r84, hc84, h⟩ := bd_o h
  refine callRI (va_runV (As := [.int y1, .int x5]) (rest := []) ⟨hx, hb, hml, hown, hts⟩ (mX0_arriveAt l D a k _ _ _ _ hc84) ⟨callB_of 2 hts (wg_c wg77) rfl rfl rfl (hW _ wg78) (hW _ wg76) hdX0_arriveAt ⟨Nat.le_of_ble_eq_true rfl, Nat.le_of_ble_eq_true rfl⟩, hW _ wg79, hW _ wg80⟩ (pw_V hK hP hD (ci := 0) (q0 := 3) rfl rfl) rfl rfl hl.1 rfl (lv_room (Nat.le_of_ble_eq_true rfl)) dX0_follow_84 ⟨Nat.zero_le _, Nat.zero_le _⟩) ?_
  have h := Option.some.inj h
  subst h
  exact W.iret (v := r84) hx hb hr (fun t ht hW9 => ⟨r84, rfl, rfl, ht⟩) (fun _ h9 => absurd h9 List.not_mem_nil) dX0_follow_87 hlocks
set_option maxHeartbeats 4000000 in
set_option maxRecDepth 100000 in
theorem mX0_follow (l : Launch) (D : va_G) (a : Nat → Nat) (k : Nat → ClassId) (σ : ST) (x1 x2 x3 : Int32) (o : Int32) (h : fX0_follow σ x1 x2 x3 = some o) : Met l yX0_follow ((Cond.code yX0_follow cX0_follow 8 (some .int)) :: WG) ({ frames := 3, cells := 0, slots := 0, locals := 71 } : Room) (Pw D (tX k) (AX a) (wX a k σ) [.ref (a 3), .int x1, .int x2, .int x3]) (vp_Si (fun z => z = o)) 0 0 (fun _ => False) := by
  refine Met.ofW (cc := cX0_follow) (maxL := 8) (ret := (some .int)) (by decide) rfl ?_
  intro p e s m args below meth c s₁ B hml0 hv
  have C : Cx p s m args meth c cX0_follow 8 RX0 (Cond.code yX0_follow cX0_follow 8 (some .int)) (some .int) := ⟨B.exec, B.bytes, B.returns, hml0, findClass_of_methodNamed B.named, atoms_spec (ws := (Cond.code yX0_follow cX0_follow 8 (some .int)) :: WG) B.pre, B.notSynchronized⟩
  obtain ⟨rfl, hP, hK, hD⟩ := hv
  have hK : Kx D (tX k) s := hK
  have C0 := C
  obtain ⟨hx, hb, hr, hml, hown, hts, hlocks⟩ := C0
  have hW : ∀ w ∈ WG, w.before _ s = true := fun w h => hts w (List.mem_cons_of_mem _ h)
  show W p l e ({ frames := 3, cells := 0, slots := 0, locals := 71 } : Room) s m _ below meth c s.heap [] 0 0 _ _
  have hl := lv_entry ([.ref (a 3), .int x1, .int x2, .int x3]) (n := 8) (Nat.le_of_ble_eq_true rfl)
  rw [lg_entry_eq]
  generalize (lg_sl ([.ref (a 3), .int x1, .int x2, .int x3]) ++ List.replicate (8 - (lg_sl ([.ref (a 3), .int x1, .int x2, .int x3])).length) Slot.unset).toArray = ls at hl ⊢
  have hl : lv_has ls 8 [(0, .ref (a 3)), (1, .int x1), (2, .int x2), (3, .int x3)] := hl
  unfold fX0_follow at h
  refine lv_iload_n hx hb dX0_follow_0 rfl (lv_at hl 1 rfl) ?_
  obtain ⟨r1, hc1, h⟩ := bd_o h
  refine callRI (va_runSN (As := [.int x1]) (rest := []) ⟨hx, hb, hml, hown, hts⟩ (mX5_placeOf l _ _ hc1) ⟨va_cnB 1 hts (wg_c wg98) rfl rfl rfl (hK.2 _ nw104) (hW _ wg3) hdX5_placeOf ⟨Nat.le_of_ble_eq_true rfl, Nat.le_of_ble_eq_true rfl⟩, hW _ wg100, trivial⟩ preEq rfl rfl hl.1 rfl (lv_room (Nat.le_of_ble_eq_true rfl)) dX0_follow_1 ⟨Nat.zero_le _, Nat.zero_le _⟩) ?_
  refine lv_istore (lv' := [(4, .int r1), (0, .ref (a 3)), (1, .int x1), (2, .int x2), (3, .int x3)]) hx hb dX0_follow_4 hl (by decide) rfl (fun ls hl => ?_)
  refine lv_iload_n hx hb dX0_follow_6 rfl (lv_at hl 2 rfl) ?_
  obtain ⟨r7, hc7, h⟩ := bd_o h
  refine callRI (va_runSN (As := [.int x1]) (rest := []) ⟨hx, hb, hml, hown, hts⟩ (mX5_allOf l _ _ hc7) ⟨va_cnB 1 hts (wg_c wg101) rfl rfl rfl (hK.2 _ nw116) (hW _ wg3) hdX5_allOf ⟨Nat.le_of_ble_eq_true rfl, Nat.le_of_ble_eq_true rfl⟩, hW _ wg103, trivial⟩ preEq rfl rfl hl.1 rfl (lv_room (Nat.le_of_ble_eq_true rfl)) dX0_follow_7 ⟨Nat.zero_le _, Nat.zero_le _⟩) ?_
  refine lv_istore (lv' := [(5, .int r7), (4, .int r1), (0, .ref (a 3)), (1, .int x1), (2, .int x2), (3, .int x3)]) hx hb dX0_follow_10 hl (by decide) rfl (fun ls hl => ?_)
  refine lv_aload_n hx hb dX0_follow_12 rfl (lv_at hl 2 rfl) ?_
  refine va_get (D := D) (ci := 0) (v := .ref (a 2)) (C := RX0) (T := TX0) (N := 2) hx hb hW inX0G hown hK.1 hP 3 rfl rfl 1 (by decide) (hW _ wg74) (fun _ h9 => h9) rfl dX0_follow_13 ?_
  refine va_getN (D := D) (ci := 2) (v := .ref (a 11)) (C := RX2) (T := TX2) (N := 6) hx hb hW inX2G hown hK.1 hP 2 rfl rfl 2 (by decide) (hK.2.fld nw154) (fun _ h9 => h9) rfl dX0_follow_16 ?_
  refine lv_iload hx hb dX0_follow_19 (lv_at hl 1 rfl) ?_
  obtain ⟨hi21, h⟩ := ix_o h
  refine va_iald (D := D) hx hb hK.1 hP 11 5 rfl rfl hi21 dX0_follow_21 ?_
  refine lv_topi (fun x6_22 ex6_22 => ?_)
  have h := nm_o h ex6_22
  refine lv_istore (lv' := [(6, .int x6_22), (5, .int r7), (4, .int r1), (0, .ref (a 3)), (1, .int x1), (2, .int x2), (3, .int x3)]) hx hb dX0_follow_22 hl (by decide) rfl (fun ls hl => ?_)
  refine lv_aload_n hx hb dX0_follow_24 rfl (lv_at hl 3 rfl) ?_
  refine va_get (D := D) (ci := 0) (v := .ref (a 2)) (C := RX0) (T := TX0) (N := 2) hx hb hW inX0G hown hK.1 hP 3 rfl rfl 1 (by decide) (hW _ wg74) (fun _ h9 => h9) rfl dX0_follow_25 ?_
  refine va_getN (D := D) (ci := 2) (v := .ref (a 9)) (C := RX2) (T := TX2) (N := 6) hx hb hW inX2G hown hK.1 hP 2 rfl rfl 0 (by decide) (hK.2.fld nw118) (fun _ h9 => h9) rfl dX0_follow_28 ?_
  refine lv_iload hx hb dX0_follow_31 (lv_at hl 2 rfl) ?_
  obtain ⟨hi33, h⟩ := ix_o h
  refine va_iald (D := D) hx hb hK.1 hP 9 3 rfl rfl hi33 dX0_follow_33 ?_
  by_cases c34_4 : (σ.2 3 r1.toNatClampNeg) = 4
  · have h := ite_t h c34_4
    refine lv_tableIn (tgt := 68) hx hb dX0_follow_34 (by rw [c34_4]; decide) (by rw [c34_4]; decide) (by rw [c34_4]; rfl) (by decide) ?_
    refine lv_aload_n hx hb dX0_follow_68 rfl (lv_at hl 3 rfl) ?_
    refine lv_iload_n hx hb dX0_follow_69 rfl (lv_at hl 6 rfl) ?_
    refine lv_if_ne (tgt := 80) hx hb dX0_follow_70 (by decide) (fun c70 => ?_) (fun c70 => ?_)
    · have h := ite_f h c70
      refine lv_iload hx hb dX0_follow_80 (lv_at hl 0 rfl) ?_
      exact bX0_follow_L82 C hK hP hD _ _ ls (lv_sub hl [1] rfl) h
    · have h := ite_t h c70
      refine lv_iload hx hb dX0_follow_73 (lv_at hl 2 rfl) ?_
      refine lv_iconst (v := 1) hx hb dX0_follow_75 (by decide) ?_
      refine lv_iadd hx hb dX0_follow_76 ?_
      refine lv_goto (tgt := 82) hx hb dX0_follow_77 (by decide) ?_
      exact bX0_follow_L82 C hK hP hD _ _ ls (lv_sub hl [1] rfl) h
  · have h := ite_f h c34_4
    by_cases c34_5 : (σ.2 3 r1.toNatClampNeg) = 5
    · have h := ite_t h c34_5
      refine lv_tableIn (tgt := 88) hx hb dX0_follow_34 (by rw [c34_5]; decide) (by rw [c34_5]; decide) (by rw [c34_5]; rfl) (by decide) ?_
      refine lv_aload_n hx hb dX0_follow_88 rfl (lv_at hl 3 rfl) ?_
      refine lv_iload hx hb dX0_follow_89 (lv_at hl 0 rfl) ?_
      refine lv_iload hx hb dX0_follow_91 (lv_at hl 1 rfl) ?_
      obtain ⟨r93, hc93, h⟩ := bd_o h
      refine callRI (va_runV (As := [.int x6_22, .int r7]) (rest := []) ⟨hx, hb, hml, hown, hts⟩ (mX0_arriveAt l D a k _ _ _ _ hc93) ⟨callB_of 2 hts (wg_c wg77) rfl rfl rfl (hW _ wg78) (hW _ wg76) hdX0_arriveAt ⟨Nat.le_of_ble_eq_true rfl, Nat.le_of_ble_eq_true rfl⟩, hW _ wg79, hW _ wg80⟩ (pw_V hK hP hD (ci := 0) (q0 := 3) rfl rfl) rfl rfl hl.1 rfl (lv_room (Nat.le_of_ble_eq_true rfl)) dX0_follow_93 ⟨Nat.zero_le _, Nat.zero_le _⟩) ?_
      have h := Option.some.inj h
      subst h
      exact W.iret (v := r93) hx hb hr (fun t ht hW9 => ⟨r93, rfl, rfl, ht⟩) (fun _ h9 => absurd h9 List.not_mem_nil) dX0_follow_96 hlocks
    · have h := ite_f h c34_5
      by_cases c34_6 : (σ.2 3 r1.toNatClampNeg) = 6
      · have h := ite_t h c34_6
        refine lv_tableIn (tgt := 97) hx hb dX0_follow_34 (by rw [c34_6]; decide) (by rw [c34_6]; decide) (by rw [c34_6]; rfl) (by decide) ?_
        refine lv_bipush (v := 40) hx hb dX0_follow_97 (by decide) ?_
        refine lv_iload hx hb dX0_follow_99 (lv_at hl 1 rfl) ?_
        obtain ⟨r101, hc101, h⟩ := bd_o h
        refine callRI (va_runSN (As := [.int 40, .int r7]) (rest := []) ⟨hx, hb, hml, hown, hts⟩ (mX5_nodeOf l _ _ _ hc101) ⟨va_cnB 2 hts (wg_c wg71) rfl rfl rfl (hK.2 _ nw72) (hW _ wg3) hdX5_nodeOf ⟨Nat.le_of_ble_eq_true rfl, Nat.le_of_ble_eq_true rfl⟩, hW _ wg73, trivial⟩ preEq rfl rfl hl.1 rfl (lv_room (Nat.le_of_ble_eq_true rfl)) dX0_follow_101 ⟨Nat.zero_le _, Nat.zero_le _⟩) ?_
        have h := Option.some.inj h
        subst h
        exact W.iret (v := r101) hx hb hr (fun t ht hW9 => ⟨r101, rfl, rfl, ht⟩) (fun _ h9 => absurd h9 List.not_mem_nil) dX0_follow_104 hlocks
      · have h := ite_f h c34_6
        by_cases c34_7 : (σ.2 3 r1.toNatClampNeg) = 7
        · have h := ite_t h c34_7
          refine lv_tableIn (tgt := 105) hx hb dX0_follow_34 (by rw [c34_7]; decide) (by rw [c34_7]; decide) (by rw [c34_7]; rfl) (by decide) ?_
          refine lv_aload_n hx hb dX0_follow_105 rfl (lv_at hl 3 rfl) ?_
          refine lv_iload hx hb dX0_follow_106 (lv_at hl 2 rfl) ?_
          refine lv_iload hx hb dX0_follow_108 (lv_at hl 1 rfl) ?_
          obtain ⟨r110, hc110, h⟩ := bd_o h
          refine callRI (va_runV (As := [.int r1, .int r7]) (rest := []) ⟨hx, hb, hml, hown, hts⟩ (mX0_throwFrom l D a k _ _ _ _ hc110) ⟨callB_of 2 hts (wg_c wg151) rfl rfl rfl (hW _ wg78) (hW _ wg150) hdX0_throwFrom ⟨Nat.le_of_ble_eq_true rfl, Nat.le_of_ble_eq_true rfl⟩, hW _ wg152, hW _ wg153⟩ (pw_V hK hP hD (ci := 0) (q0 := 3) rfl rfl) rfl rfl hl.1 rfl (lv_room (Nat.le_of_ble_eq_true rfl)) dX0_follow_110 ⟨Nat.zero_le _, Nat.zero_le _⟩) ?_
          have h := Option.some.inj h
          subst h
          exact W.iret (v := r110) hx hb hr (fun t ht hW9 => ⟨r110, rfl, rfl, ht⟩) (fun _ h9 => absurd h9 List.not_mem_nil) dX0_follow_113 hlocks
        · have h := ite_f h c34_7
          by_cases c34_8 : (σ.2 3 r1.toNatClampNeg) = 8
          · have h := ite_t h c34_8
            refine lv_tableIn (tgt := 114) hx hb dX0_follow_34 (by rw [c34_8]; decide) (by rw [c34_8]; decide) (by rw [c34_8]; rfl) (by decide) ?_
            refine lv_aload_n hx hb dX0_follow_114 rfl (lv_at hl 3 rfl) ?_
            refine lv_aload_n hx hb dX0_follow_115 rfl (lv_at hl 3 rfl) ?_
            refine va_get (D := D) (ci := 0) (v := .ref (a 1)) (C := RX0) (T := TX0) (N := 2) hx hb hW inX0G hown hK.1 hP 3 rfl rfl 0 (by decide) (hW _ wg119) (fun _ h9 => h9) rfl dX0_follow_116 ?_
            refine lv_iload hx hb dX0_follow_119 (lv_at hl 1 rfl) ?_
            refine lv_aload_n hx hb dX0_follow_121 rfl (lv_at hl 3 rfl) ?_
            refine va_get (D := D) (ci := 0) (v := .ref (a 2)) (C := RX0) (T := TX0) (N := 2) hx hb hW inX0G hown hK.1 hP 3 rfl rfl 1 (by decide) (hW _ wg74) (fun _ h9 => h9) rfl dX0_follow_122 ?_
            refine va_getN (D := D) (ci := 2) (v := .ref (a 10)) (C := RX2) (T := TX2) (N := 6) hx hb hW inX2G hown hK.1 hP 2 rfl rfl 1 (by decide) (hK.2.fld nw117) (fun _ h9 => h9) rfl dX0_follow_125 ?_
            refine lv_iload hx hb dX0_follow_128 (lv_at hl 2 rfl) ?_
            obtain ⟨hi130, h⟩ := ix_o h
            refine va_iald (D := D) hx hb hK.1 hP 10 4 rfl rfl hi130 dX0_follow_130 ?_
            obtain ⟨r131, hc131, h⟩ := bd_o h
            refine callRI (va_runVN (As := [.int r7, .int (σ.2 4 r1.toNatClampNeg)]) (rest := [.ref (a 3)]) ⟨hx, hb, hml, hown, hts⟩ (mX3_isHeld l D a k _ _ _ _ hc131) ⟨va_cnB 2 hts (wg_c wg94) rfl rfl rfl (hK.2 _ nw144) (hW _ wg13) hdX3_isHeld ⟨Nat.le_of_ble_eq_true rfl, Nat.le_of_ble_eq_true rfl⟩, hW _ wg96, hW _ wg97⟩ (pw_V hK hP hD (ci := 3) (q0 := 1) rfl rfl) rfl rfl hl.1 rfl (lv_room (Nat.le_of_ble_eq_true rfl)) dX0_follow_131 ⟨Nat.zero_le _, Nat.zero_le _⟩) ?_
            refine lv_if_eq (tgt := 142) hx hb dX0_follow_134 (by decide) (fun c134 => ?_) (fun c134 => ?_)
            · have h := ite_t h c134
              refine lv_iload hx hb dX0_follow_142 (lv_at hl 2 rfl) ?_
              refine lv_iconst (v := 1) hx hb dX0_follow_144 (by decide) ?_
              refine lv_iadd hx hb dX0_follow_145 ?_
              exact bX0_follow_L146 C hK hP hD _ _ ls (lv_sub hl [1] rfl) h
            · have h := ite_f h c134
              refine lv_iload hx hb dX0_follow_137 (lv_at hl 0 rfl) ?_
              refine lv_goto (tgt := 146) hx hb dX0_follow_139 (by decide) ?_
              exact bX0_follow_L146 C hK hP hD _ _ ls (lv_sub hl [1] rfl) h
          · have h := ite_f h c34_8
            refine lv_tableOut (tgt := 152) hx hb dX0_follow_34 (by have z0 := lv_neT c34_4 (a := 4) (by decide); have z1 := lv_neT c34_5 (a := 5) (by decide); have z2 := lv_neT c34_6 (a := 6) (by decide); have z3 := lv_neT c34_7 (a := 7) (by decide); have z4 := lv_neT c34_8 (a := 8) (by decide); omega) (by decide) ?_
            refine lv_iload_n hx hb dX0_follow_152 rfl (lv_at hl 5 rfl) ?_
            refine lv_iconst (v := (-1)) hx hb dX0_follow_153 (by decide) ?_
            refine lv_icmp_eq (tgt := 166) hx hb dX0_follow_154 (by decide) (fun c154 => ?_) (fun c154 => ?_)
            · have h := ite_t h c154
              refine lv_aload_n hx hb dX0_follow_166 rfl (lv_at hl 3 rfl) ?_
              refine lv_iload hx hb dX0_follow_167 (lv_at hl 2 rfl) ?_
              refine lv_iload hx hb dX0_follow_169 (lv_at hl 1 rfl) ?_
              obtain ⟨r171, hc171, h⟩ := bd_o h
              refine callRI (va_runV (As := [.int r1, .int r7]) (rest := []) ⟨hx, hb, hml, hown, hts⟩ (mX0_afterDoing l D a k _ _ _ _ hc171) ⟨callB_of 2 hts (wg_c wg156) rfl rfl rfl (hW _ wg78) (hW _ wg155) hdX0_afterDoing ⟨Nat.le_of_ble_eq_true rfl, Nat.le_of_ble_eq_true rfl⟩, hW _ wg157, hW _ wg158⟩ (pw_V hK hP hD (ci := 0) (q0 := 3) rfl rfl) rfl rfl hl.1 rfl (lv_room (Nat.le_of_ble_eq_true rfl)) dX0_follow_171 ⟨Nat.zero_le _, Nat.zero_le _⟩) ?_
              refine lv_istore (lv' := [(7, .int r171), (6, .int x6_22), (5, .int r7), (4, .int r1), (0, .ref (a 3)), (1, .int x1), (2, .int x2), (3, .int x3)]) hx hb dX0_follow_174 hl (by decide) rfl (fun ls hl => ?_)
              refine lv_iload_n hx hb dX0_follow_176 rfl (lv_at hl 7 rfl) ?_
              refine lv_if_ne (tgt := 191) hx hb dX0_follow_177 (by decide) (fun c177 => ?_) (fun c177 => ?_)
              · have h := ite_f h c177
                refine lv_aload_n hx hb dX0_follow_191 rfl (lv_at hl 4 rfl) ?_
                refine lv_iload hx hb dX0_follow_192 (lv_at hl 3 rfl) ?_
                refine lv_aload_n hx hb dX0_follow_194 rfl (lv_at hl 4 rfl) ?_
                refine va_get (D := D) (ci := 0) (v := .ref (a 2)) (C := RX0) (T := TX0) (N := 2) hx hb hW inX0G hown hK.1 hP 3 rfl rfl 1 (by decide) (hW _ wg74) (fun _ h9 => h9) rfl dX0_follow_195 ?_
                refine va_getN (D := D) (ci := 2) (v := .ref (a 9)) (C := RX2) (T := TX2) (N := 6) hx hb hW inX2G hown hK.1 hP 2 rfl rfl 0 (by decide) (hK.2.fld nw118) (fun _ h9 => h9) rfl dX0_follow_198 ?_
                refine lv_iload hx hb dX0_follow_201 (lv_at hl 3 rfl) ?_
                obtain ⟨hi203, h⟩ := ix_o h
                refine va_iald (D := D) hx hb hK.1 hP 9 3 rfl rfl hi203 dX0_follow_203 ?_
                refine lv_iconst (v := 2) hx hb dX0_follow_204 (by decide) ?_
                refine lv_icmp_ne (tgt := 213) hx hb dX0_follow_205 (by decide) (fun c205 => ?_) (fun c205 => ?_)
                · have h := ite_f h c205
                  refine lv_iload hx hb dX0_follow_213 (lv_at hl 2 rfl) ?_
                  exact bX0_follow_L215 C hK hP hD _ _ ls (lv_sub hl [] rfl) h
                · have h := ite_t h c205
                  refine lv_iload hx hb dX0_follow_208 (lv_at hl 0 rfl) ?_
                  refine lv_goto (tgt := 215) hx hb dX0_follow_210 (by decide) ?_
                  exact bX0_follow_L215 C hK hP hD _ _ ls (lv_sub hl [] rfl) h
              · have h := ite_t h c177
                refine lv_aload_n hx hb dX0_follow_180 rfl (lv_at hl 4 rfl) ?_
                refine lv_iload hx hb dX0_follow_181 (lv_at hl 3 rfl) ?_
                refine lv_iconst (v := 1) hx hb dX0_follow_183 (by decide) ?_
                refine lv_iadd hx hb dX0_follow_184 ?_
                refine lv_iload hx hb dX0_follow_185 (lv_at hl 0 rfl) ?_
                obtain ⟨r187, hc187, h⟩ := bd_o h
                refine callRI (va_runV (As := [.int (r1 + 1), .int r171]) (rest := []) ⟨hx, hb, hml, hown, hts⟩ (mX0_arriveAt l D a k _ _ _ _ hc187) ⟨callB_of 2 hts (wg_c wg77) rfl rfl rfl (hW _ wg78) (hW _ wg76) hdX0_arriveAt ⟨Nat.le_of_ble_eq_true rfl, Nat.le_of_ble_eq_true rfl⟩, hW _ wg79, hW _ wg80⟩ (pw_V hK hP hD (ci := 0) (q0 := 3) rfl rfl) rfl rfl hl.1 rfl (lv_room (Nat.le_of_ble_eq_true rfl)) dX0_follow_187 ⟨Nat.zero_le _, Nat.zero_le _⟩) ?_
                have h := Option.some.inj h
                subst h
                exact W.iret (v := r187) hx hb hr (fun t ht hW9 => ⟨r187, rfl, rfl, ht⟩) (fun _ h9 => absurd h9 List.not_mem_nil) dX0_follow_190 hlocks
            · have h := ite_f h c154
              refine lv_aload_n hx hb dX0_follow_157 rfl (lv_at hl 3 rfl) ?_
              refine lv_iload hx hb dX0_follow_158 (lv_at hl 2 rfl) ?_
              refine lv_iload hx hb dX0_follow_160 (lv_at hl 1 rfl) ?_
              obtain ⟨r162, hc162, h⟩ := bd_o h
              refine callRI (va_runV (As := [.int r1, .int r7]) (rest := []) ⟨hx, hb, hml, hown, hts⟩ (mX0_throwFrom l D a k _ _ _ _ hc162) ⟨callB_of 2 hts (wg_c wg151) rfl rfl rfl (hW _ wg78) (hW _ wg150) hdX0_throwFrom ⟨Nat.le_of_ble_eq_true rfl, Nat.le_of_ble_eq_true rfl⟩, hW _ wg152, hW _ wg153⟩ (pw_V hK hP hD (ci := 0) (q0 := 3) rfl rfl) rfl rfl hl.1 rfl (lv_room (Nat.le_of_ble_eq_true rfl)) dX0_follow_162 ⟨Nat.zero_le _, Nat.zero_le _⟩) ?_
              have h := Option.some.inj h
              subst h
              exact W.iret (v := r162) hx hb hr (fun t ht hW9 => ⟨r162, rfl, rfl, ht⟩) (fun _ h9 => absurd h9 List.not_mem_nil) dX0_follow_165 hlocks
set_option maxHeartbeats 4000000 in
set_option maxRecDepth 100000 in
theorem mX0_hasTwoChoices (l : Launch) (D : va_G) (a : Nat → Nat) (k : Nat → ClassId) (σ : ST) (x1 x2 : Int32) (o : Int32) (h : fX0_hasTwoChoices σ x1 x2 = some o) : Met l yX0_hasTwoChoices ((Cond.code yX0_hasTwoChoices cX0_hasTwoChoices 5 (some .boolean)) :: WG) ({ frames := 1, cells := 0, slots := 0, locals := 20 } : Room) (Pw D (tX k) (AX a) (wX a k σ) [.ref (a 3), .int x1, .int x2]) (vp_Si (fun z => z = o)) 0 0 (fun _ => False) := by
  refine Met.ofW (cc := cX0_hasTwoChoices) (maxL := 5) (ret := (some .boolean)) (by decide) rfl ?_
  intro p e s m args below meth c s₁ B hml0 hv
  have C : Cx p s m args meth c cX0_hasTwoChoices 5 RX0 (Cond.code yX0_hasTwoChoices cX0_hasTwoChoices 5 (some .boolean)) (some .boolean) := ⟨B.exec, B.bytes, B.returns, hml0, findClass_of_methodNamed B.named, atoms_spec (ws := (Cond.code yX0_hasTwoChoices cX0_hasTwoChoices 5 (some .boolean)) :: WG) B.pre, B.notSynchronized⟩
  obtain ⟨rfl, hP, hK, hD⟩ := hv
  have hK : Kx D (tX k) s := hK
  have C0 := C
  obtain ⟨hx, hb, hr, hml, hown, hts, hlocks⟩ := C0
  have hW : ∀ w ∈ WG, w.before _ s = true := fun w h => hts w (List.mem_cons_of_mem _ h)
  show W p l e ({ frames := 1, cells := 0, slots := 0, locals := 20 } : Room) s m _ below meth c s.heap [] 0 0 _ _
  have hl := lv_entry ([.ref (a 3), .int x1, .int x2]) (n := 5) (Nat.le_of_ble_eq_true rfl)
  rw [lg_entry_eq]
  generalize (lg_sl ([.ref (a 3), .int x1, .int x2]) ++ List.replicate (5 - (lg_sl ([.ref (a 3), .int x1, .int x2])).length) Slot.unset).toArray = ls at hl ⊢
  have hl : lv_has ls 5 [(0, .ref (a 3)), (1, .int x1), (2, .int x2)] := hl
  unfold fX0_hasTwoChoices at h
  refine lv_iload_n hx hb dX0_hasTwoChoices_0 rfl (lv_at hl 1 rfl) ?_
  obtain ⟨r1, hc1, h⟩ := bd_o h
  refine callRI (va_runSN (As := [.int x1]) (rest := []) ⟨hx, hb, hml, hown, hts⟩ (mX5_placeOf l _ _ hc1) ⟨va_cnB 1 hts (wg_c wg98) rfl rfl rfl (hK.2 _ nw104) (hW _ wg3) hdX5_placeOf ⟨Nat.le_of_ble_eq_true rfl, Nat.le_of_ble_eq_true rfl⟩, hW _ wg100, trivial⟩ preEq rfl rfl hl.1 rfl (lv_room (Nat.le_of_ble_eq_true rfl)) dX0_hasTwoChoices_1 ⟨Nat.zero_le _, Nat.zero_le _⟩) ?_
  refine lv_istore_n (lv' := [(3, .int r1), (0, .ref (a 3)), (1, .int x1), (2, .int x2)]) hx hb dX0_hasTwoChoices_4 rfl hl (by decide) rfl (fun ls hl => ?_)
  refine lv_aload_n hx hb dX0_hasTwoChoices_5 rfl (lv_at hl 1 rfl) ?_
  refine va_get (D := D) (ci := 0) (v := .ref (a 2)) (C := RX0) (T := TX0) (N := 2) hx hb hW inX0G hown hK.1 hP 3 rfl rfl 1 (by decide) (hW _ wg74) (fun _ h9 => h9) rfl dX0_hasTwoChoices_6 ?_
  refine va_getN (D := D) (ci := 2) (v := .ref (a 9)) (C := RX2) (T := TX2) (N := 6) hx hb hW inX2G hown hK.1 hP 2 rfl rfl 0 (by decide) (hK.2.fld nw118) (fun _ h9 => h9) rfl dX0_hasTwoChoices_9 ?_
  refine lv_iload_n hx hb dX0_hasTwoChoices_12 rfl (lv_at hl 0 rfl) ?_
  obtain ⟨hi13, h⟩ := ix_o h
  refine va_iald (D := D) hx hb hK.1 hP 9 3 rfl rfl hi13 dX0_hasTwoChoices_13 ?_
  refine lv_topi (fun x4_14 ex4_14 => ?_)
  have h := nm_o h ex4_14
  refine lv_istore (lv' := [(4, .int x4_14), (3, .int r1), (0, .ref (a 3)), (1, .int x1), (2, .int x2)]) hx hb dX0_hasTwoChoices_14 hl (by decide) rfl (fun ls hl => ?_)
  refine lv_iload hx hb dX0_hasTwoChoices_16 (lv_at hl 0 rfl) ?_
  refine lv_iconst (v := 4) hx hb dX0_hasTwoChoices_18 (by decide) ?_
  refine lv_icmp_ne (tgt := 24) hx hb dX0_hasTwoChoices_19 (by decide) (fun c19 => ?_) (fun c19 => ?_)
  · have h := ite_f h c19
    refine lv_iload hx hb dX0_hasTwoChoices_24 (lv_at hl 0 rfl) ?_
    obtain ⟨r26, hc26, h⟩ := bd_o h
    refine callRI (va_runSN (As := [.int x4_14]) (rest := []) ⟨hx, hb, hml, hown, hts⟩ (mX5_actsOnThing l _ _ hc26) ⟨va_cnB 1 hts (wg_c wg25) rfl rfl rfl (hK.2 _ nw159) (hW _ wg3) hdX5_actsOnThing ⟨Nat.le_of_ble_eq_true rfl, Nat.le_of_ble_eq_true rfl⟩, hW _ wg26, trivial⟩ preEq rfl rfl hl.1 rfl (lv_room (Nat.le_of_ble_eq_true rfl)) dX0_hasTwoChoices_26 ⟨Nat.zero_le _, Nat.zero_le _⟩) ?_
    refine lv_if_eq (tgt := 53) hx hb dX0_hasTwoChoices_29 (by decide) (fun c29 => ?_) (fun c29 => ?_)
    · have h := ite_t h c29
      refine lv_iconst (v := 0) hx hb dX0_hasTwoChoices_53 (by decide) ?_
      have h := Option.some.inj h
      subst h
      exact W.zret (v := 0) hx hb hr rfl (fun t ht hW9 => ⟨0, rfl, rfl, ht⟩) (fun _ h9 => absurd h9 List.not_mem_nil) dX0_hasTwoChoices_54 hlocks
    · have h := ite_f h c29
      refine lv_aload_n hx hb dX0_hasTwoChoices_32 rfl (lv_at hl 2 rfl) ?_
      refine va_get (D := D) (ci := 0) (v := .ref (a 2)) (C := RX0) (T := TX0) (N := 2) hx hb hW inX0G hown hK.1 hP 3 rfl rfl 1 (by decide) (hW _ wg74) (fun _ h9 => h9) rfl dX0_hasTwoChoices_33 ?_
      refine va_getN (D := D) (ci := 2) (v := .ref (a 12)) (C := RX2) (T := TX2) (N := 6) hx hb hW inX2G hown hK.1 hP 2 rfl rfl 3 (by decide) (hK.2.fld nw160) (fun _ h9 => h9) rfl dX0_hasTwoChoices_36 ?_
      refine lv_iload_n hx hb dX0_hasTwoChoices_39 rfl (lv_at hl 1 rfl) ?_
      obtain ⟨hi40, h⟩ := ix_o h
      refine va_zald (D := D) hx hb hK.1 hP 12 6 rfl rfl hi40 dX0_hasTwoChoices_40 ?_
      refine lv_if_eq (tgt := 53) hx hb dX0_hasTwoChoices_41 (by decide) (fun c41 => ?_) (fun c41 => ?_)
      · have h := ite_t h c41
        refine lv_iconst (v := 0) hx hb dX0_hasTwoChoices_53 (by decide) ?_
        have h := Option.some.inj h
        subst h
        exact W.zret (v := 0) hx hb hr rfl (fun t ht hW9 => ⟨0, rfl, rfl, ht⟩) (fun _ h9 => absurd h9 List.not_mem_nil) dX0_hasTwoChoices_54 hlocks
      · have h := ite_f h c41
        refine lv_iload_n hx hb dX0_hasTwoChoices_44 rfl (lv_at hl 4 rfl) ?_
        refine lv_iconst (v := (-1)) hx hb dX0_hasTwoChoices_45 (by decide) ?_
        refine lv_icmp_ne (tgt := 53) hx hb dX0_hasTwoChoices_46 (by decide) (fun c46 => ?_) (fun c46 => ?_)
        · have h := ite_f h c46
          refine lv_iconst (v := 0) hx hb dX0_hasTwoChoices_53 (by decide) ?_
          have h := Option.some.inj h
          subst h
          exact W.zret (v := 0) hx hb hr rfl (fun t ht hW9 => ⟨0, rfl, rfl, ht⟩) (fun _ h9 => absurd h9 List.not_mem_nil) dX0_hasTwoChoices_54 hlocks
        · have h := ite_t h c46
          refine lv_iconst (v := 1) hx hb dX0_hasTwoChoices_49 (by decide) ?_
          refine lv_goto (tgt := 54) hx hb dX0_hasTwoChoices_50 (by decide) ?_
          have h := Option.some.inj h
          subst h
          exact W.zret (v := 1) hx hb hr rfl (fun t ht hW9 => ⟨1, rfl, rfl, ht⟩) (fun _ h9 => absurd h9 List.not_mem_nil) dX0_hasTwoChoices_54 hlocks
  · have h := ite_t h c19
    refine lv_iconst (v := 1) hx hb dX0_hasTwoChoices_22 (by decide) ?_
    have h := Option.some.inj h
    subst h
    exact W.zret (v := 1) hx hb hr rfl (fun t ht hW9 => ⟨1, rfl, rfl, ht⟩) (fun _ h9 => absurd h9 List.not_mem_nil) dX0_hasTwoChoices_23 hlocks
set_option maxHeartbeats 4000000 in
set_option maxRecDepth 100000 in
theorem bX1_goOnFrom_L35 {p : Program} {l : Launch} {e : Env} {s : State} {m : MethodId} {args : Array Value} {below : List Frame} {meth : Method} {c : Code} {D : va_G} {a : Nat → Nat} {k : Nat → ClassId} {o : ST} (C : Cx p s m args meth c cX1_goOnFrom 4 RX1 (Cond.code yX1_goOnFrom cX1_goOnFrom 4 none) none) (hK : Kx D (tX k) s) : ∀ (x1 x3 : Int32) (σ : ST) (H : Heap) (locs : List Loc) (ls : Array Slot), va_P D vwCl (wX a k σ) H → va_D (AX a) (wX a k σ) → va_S (AX a) s.heap H locs → lv_has ls 4 [(0, .ref (a 4)), (1, .int x1), (3, .int x3)] → fX1_goOnFrom_L35 x1 x3 σ = some o → W p l e ({ frames := 4, cells := 0, slots := 0, locals := 98 } : Room) s m args below meth c H locs 0 0 (MQ below (va_Qv (S := Unit) (fun _ => True) (fun _ t => va_P D vwCl (wX a k o) t.heap) (AX a)) args s 0 0 (AX a)) (F0 m 35 ls []) := by
  have C0 := C
  obtain ⟨hx, hb, hr, hml, hown, hts, hlocks⟩ := C0
  have hW : ∀ w ∈ WG, w.before args s = true := fun w h => hts w (List.mem_cons_of_mem _ h)
  intro x1 x3 σ H locs ls hP hD hS hl h
  unfold fX1_goOnFrom_L35 at h
  refine lv_aload_n hx hb dX1_goOnFrom_35 rfl (lv_at hl 0 rfl) ?_
  refine lv_aload_n hx hb dX1_goOnFrom_36 rfl (lv_at hl 0 rfl) ?_
  refine va_get (D := D) (ci := 1) (v := .ref (a 3)) (C := RX1) (T := TX1) (N := 14) hx hb hW inX1G hown hK.1 hP 4 rfl rfl 2 (by decide) (hW _ wg161) (fun _ h9 => h9) rfl dX1_goOnFrom_37 ?_
  refine lv_iload_n hx hb dX1_goOnFrom_40 rfl (lv_at hl 1 rfl) ?_
  refine lv_iload_n hx hb dX1_goOnFrom_41 rfl (lv_at hl 2 rfl) ?_
  refine lv_iconst (v := 0) hx hb dX1_goOnFrom_42 (by decide) ?_
  obtain ⟨r43, hc43, h⟩ := bd_o h
  refine callRI (va_runVN (As := [.int x1, .int x3, .int 0]) (rest := [.ref (a 4)]) ⟨hx, hb, hml, hown, hts⟩ (mX0_follow l D a k _ _ _ _ _ hc43) ⟨va_cnB 3 hts (wg_c wg162) rfl rfl rfl (hK.2 _ nw163) (hW _ wg78) hdX0_follow ⟨Nat.le_of_ble_eq_true rfl, Nat.le_of_ble_eq_true rfl⟩, hW _ wg164, hW _ wg165⟩ (pw_V hK hP hD (ci := 0) (q0 := 3) rfl rfl) rfl rfl hl.1 rfl (lv_room (Nat.le_of_ble_eq_true rfl)) dX1_goOnFrom_43 ⟨Nat.zero_le _, Nat.zero_le _⟩) ?_
  refine lv_iload_n hx hb dX1_goOnFrom_46 rfl (lv_at hl 1 rfl) ?_
  obtain ⟨r47, hc47, h⟩ := bd_o h
  refine callWV (va_runV (As := [.int r43, .int x1]) (rest := []) ⟨hx, hb, hml, hown, hts⟩ (mX1_reach l D a k _ _ _ _ hc47) ⟨callB_of 2 hts (wg_c wg167) rfl rfl rfl (hW _ wg108) (hW _ wg166) hdX1_reach ⟨Nat.le_of_ble_eq_true rfl, Nat.le_of_ble_eq_true rfl⟩, hW _ wg168, hW _ wg169⟩ (pw_V hK hP hD (ci := 1) (q0 := 4) rfl rfl) rfl rfl hl.1 rfl (lv_room (Nat.le_of_ble_eq_true rfl)) dX1_goOnFrom_47 ⟨Nat.zero_le _, Nat.zero_le _⟩) hS (fun H locs hP hS => ?_)
  have hD : va_D (AX a) (wX a k r47) := dX hD
  refine lv_aload_n hx hb dX1_goOnFrom_50 rfl (lv_at hl 0 rfl) ?_
  refine va_get (D := D) (ci := 1) (v := .ref (a 3)) (C := RX1) (T := TX1) (N := 14) hx hb hW inX1G hown hK.1 hP 4 rfl rfl 2 (by decide) (hW _ wg161) (fun _ h9 => h9) rfl dX1_goOnFrom_51 ?_
  refine lv_iload_n hx hb dX1_goOnFrom_54 rfl (lv_at hl 1 rfl) ?_
  refine lv_iload_n hx hb dX1_goOnFrom_55 rfl (lv_at hl 2 rfl) ?_
  obtain ⟨r56, hc56, h⟩ := bd_o h
  refine callRI (va_runVN (As := [.int x1, .int x3]) (rest := []) ⟨hx, hb, hml, hown, hts⟩ (mX0_hasTwoChoices l D a k _ _ _ _ hc56) ⟨va_cnB 2 hts (wg_c wg170) rfl rfl rfl (hK.2 _ nw171) (hW _ wg78) hdX0_hasTwoChoices ⟨Nat.le_of_ble_eq_true rfl, Nat.le_of_ble_eq_true rfl⟩, hW _ wg172, hW _ wg173⟩ (pw_V hK hP hD (ci := 0) (q0 := 3) rfl rfl) rfl rfl hl.1 rfl (lv_room (Nat.le_of_ble_eq_true rfl)) dX1_goOnFrom_56 ⟨Nat.zero_le _, Nat.zero_le _⟩) ?_
  refine lv_if_eq (tgt := 77) hx hb dX1_goOnFrom_59 (by decide) (fun c59 => ?_) (fun c59 => ?_)
  · have h := ite_t h c59
    have h := Option.some.inj h
    subst h
    exact W.vret hx hb hr (fun t ht hW9 => ⟨⟨(), rfl, trivial, by show va_P _ _ _ t.heap; rw [ht]; exact hP⟩, hS.F ht⟩) hS.2.2 dX1_goOnFrom_77 hlocks
  · have h := ite_f h c59
    refine lv_aload_n hx hb dX1_goOnFrom_62 rfl (lv_at hl 0 rfl) ?_
    refine lv_aload_n hx hb dX1_goOnFrom_63 rfl (lv_at hl 0 rfl) ?_
    refine va_get (D := D) (ci := 1) (v := .ref (a 3)) (C := RX1) (T := TX1) (N := 14) hx hb hW inX1G hown hK.1 hP 4 rfl rfl 2 (by decide) (hW _ wg161) (fun _ h9 => h9) rfl dX1_goOnFrom_64 ?_
    refine lv_iload_n hx hb dX1_goOnFrom_67 rfl (lv_at hl 1 rfl) ?_
    refine lv_iload_n hx hb dX1_goOnFrom_68 rfl (lv_at hl 2 rfl) ?_
    refine lv_iconst (v := 1) hx hb dX1_goOnFrom_69 (by decide) ?_
    obtain ⟨r70, hc70, h⟩ := bd_o h
    refine callRI (va_runVN (As := [.int x1, .int x3, .int 1]) (rest := [.ref (a 4)]) ⟨hx, hb, hml, hown, hts⟩ (mX0_follow l D a k _ _ _ _ _ hc70) ⟨va_cnB 3 hts (wg_c wg162) rfl rfl rfl (hK.2 _ nw163) (hW _ wg78) hdX0_follow ⟨Nat.le_of_ble_eq_true rfl, Nat.le_of_ble_eq_true rfl⟩, hW _ wg164, hW _ wg165⟩ (pw_V hK hP hD (ci := 0) (q0 := 3) rfl rfl) rfl rfl hl.1 rfl (lv_room (Nat.le_of_ble_eq_true rfl)) dX1_goOnFrom_70 ⟨Nat.zero_le _, Nat.zero_le _⟩) ?_
    refine lv_iload_n hx hb dX1_goOnFrom_73 rfl (lv_at hl 1 rfl) ?_
    obtain ⟨r74, hc74, h⟩ := bd_o h
    refine callWV (va_runV (As := [.int r70, .int x1]) (rest := []) ⟨hx, hb, hml, hown, hts⟩ (mX1_reach l D a k _ _ _ _ hc74) ⟨callB_of 2 hts (wg_c wg167) rfl rfl rfl (hW _ wg108) (hW _ wg166) hdX1_reach ⟨Nat.le_of_ble_eq_true rfl, Nat.le_of_ble_eq_true rfl⟩, hW _ wg168, hW _ wg169⟩ (pw_V hK hP hD (ci := 1) (q0 := 4) rfl rfl) rfl rfl hl.1 rfl (lv_room (Nat.le_of_ble_eq_true rfl)) dX1_goOnFrom_74 ⟨Nat.zero_le _, Nat.zero_le _⟩) hS (fun H locs hP hS => ?_)
    have hD : va_D (AX a) (wX a k r74) := dX hD
    have h := Option.some.inj h
    subst h
    exact W.vret hx hb hr (fun t ht hW9 => ⟨⟨(), rfl, trivial, by show va_P _ _ _ t.heap; rw [ht]; exact hP⟩, hS.F ht⟩) hS.2.2 dX1_goOnFrom_77 hlocks
set_option maxHeartbeats 4000000 in
set_option maxRecDepth 100000 in
theorem mX1_goOnFrom (l : Launch) (D : va_G) (a : Nat → Nat) (k : Nat → ClassId) (σ : ST) (x1 x2 : Int32) (o : ST) (h : fX1_goOnFrom σ x1 x2 = some o) : Met l yX1_goOnFrom ((Cond.code yX1_goOnFrom cX1_goOnFrom 4 none) :: WG) ({ frames := 4, cells := 0, slots := 0, locals := 98 } : Room) (Pw D (tX k) (AX a) (wX a k σ) [.ref (a 4), .int x1, .int x2]) (va_Qv (S := Unit) (fun _ => True) (fun _ t => va_P D vwCl (wX a k o) t.heap) (AX a)) 0 0 (AX a) := by
  refine Met.ofW (cc := cX1_goOnFrom) (maxL := 4) (ret := none) (by decide) rfl ?_
  intro p e s m args below meth c s₁ B hml0 hv
  have C : Cx p s m args meth c cX1_goOnFrom 4 RX1 (Cond.code yX1_goOnFrom cX1_goOnFrom 4 none) none := ⟨B.exec, B.bytes, B.returns, hml0, findClass_of_methodNamed B.named, atoms_spec (ws := (Cond.code yX1_goOnFrom cX1_goOnFrom 4 none) :: WG) B.pre, B.notSynchronized⟩
  obtain ⟨rfl, hP, hK, hD⟩ := hv
  have hK : Kx D (tX k) s := hK
  have C0 := C
  obtain ⟨hx, hb, hr, hml, hown, hts, hlocks⟩ := C0
  have hW : ∀ w ∈ WG, w.before _ s = true := fun w h => hts w (List.mem_cons_of_mem _ h)
  show W p l e ({ frames := 4, cells := 0, slots := 0, locals := 98 } : Room) s m _ below meth c s.heap [] 0 0 _ _
  have hl := lv_entry ([.ref (a 4), .int x1, .int x2]) (n := 4) (Nat.le_of_ble_eq_true rfl)
  rw [lg_entry_eq]
  generalize (lg_sl ([.ref (a 4), .int x1, .int x2]) ++ List.replicate (4 - (lg_sl ([.ref (a 4), .int x1, .int x2])).length) Slot.unset).toArray = ls at hl ⊢
  have hl : lv_has ls 4 [(0, .ref (a 4)), (1, .int x1), (2, .int x2)] := hl
  have hS : va_S (AX a) s.heap s.heap [] := va_S.rf
  suffices hgo : ∀ (H : Heap) (locs : List Loc), va_P D vwCl (wX a k σ) H → va_S (AX a) s.heap H locs → W p l e ({ frames := 4, cells := 0, slots := 0, locals := 98 } : Room) s m _ below meth c H locs 0 0 (MQ below (va_Qv (S := Unit) (fun _ => True) (fun _ t => va_P D vwCl (wX a k o) t.heap) (AX a)) _ s 0 0 (AX a)) (F0 m 0 ls []) from hgo _ _ hP hS
  clear hP hS
  intro H locs hP hS
  unfold fX1_goOnFrom at h
  refine lv_aload_n hx hb dX1_goOnFrom_0 rfl (lv_at hl 0 rfl) ?_
  refine va_get (D := D) (ci := 1) (v := .ref (a 3)) (C := RX1) (T := TX1) (N := 14) hx hb hW inX1G hown hK.1 hP 4 rfl rfl 2 (by decide) (hW _ wg161) (fun _ h9 => h9) rfl dX1_goOnFrom_1 ?_
  refine lv_iload_n hx hb dX1_goOnFrom_4 rfl (lv_at hl 1 rfl) ?_
  obtain ⟨r5, hc5, h⟩ := bd_o h
  refine callRI (va_runVN (As := [.int x1]) (rest := []) ⟨hx, hb, hml, hown, hts⟩ (mX0_faultAt l D a k _ _ _ hc5) ⟨va_cnB 1 hts (wg_c wg174) rfl rfl rfl (hK.2 _ nw175) (hW _ wg78) hdX0_faultAt ⟨Nat.le_of_ble_eq_true rfl, Nat.le_of_ble_eq_true rfl⟩, hW _ wg176, hW _ wg177⟩ (pw_V hK hP hD (ci := 0) (q0 := 3) rfl rfl) rfl rfl hl.1 rfl (lv_room (Nat.le_of_ble_eq_true rfl)) dX1_goOnFrom_5 ⟨Nat.zero_le _, Nat.zero_le _⟩) ?_
  refine lv_istore_n (lv' := [(3, .int r5), (0, .ref (a 4)), (1, .int x1), (2, .int x2)]) hx hb dX1_goOnFrom_8 rfl hl (by decide) rfl (fun ls hl => ?_)
  refine lv_iload_n hx hb dX1_goOnFrom_9 rfl (lv_at hl 0 rfl) ?_
  refine lv_iconst (v := (-1)) hx hb dX1_goOnFrom_10 (by decide) ?_
  refine lv_icmp_eq (tgt := 35) hx hb dX1_goOnFrom_11 (by decide) (fun c11 => ?_) (fun c11 => ?_)
  · have h := ite_t h c11
    exact bX1_goOnFrom_L35 C hK _ _ _ H locs ls hP hD hS (lv_sub hl [1, 2, 0] rfl) h
  · have h := ite_f h c11
    refine lv_aload_n hx hb dX1_goOnFrom_14 rfl (lv_at hl 1 rfl) ?_
    refine lv_iload_n hx hb dX1_goOnFrom_15 rfl (lv_at hl 0 rfl) ?_
    refine lv_aload_n hx hb dX1_goOnFrom_16 rfl (lv_at hl 1 rfl) ?_
    refine va_get (D := D) (ci := 1) (v := .ref (a 2)) (C := RX1) (T := TX1) (N := 14) hx hb hW inX1G hown hK.1 hP 4 rfl rfl 1 (by decide) (hW _ wg178) (fun _ h9 => h9) rfl dX1_goOnFrom_17 ?_
    refine va_getN (D := D) (ci := 2) (v := .ref (a 10)) (C := RX2) (T := TX2) (N := 6) hx hb hW inX2G hown hK.1 hP 2 rfl rfl 1 (by decide) (hK.2.fld nw179) (fun _ h9 => h9) rfl dX1_goOnFrom_20 ?_
    refine lv_iload_n hx hb dX1_goOnFrom_23 rfl (lv_at hl 2 rfl) ?_
    obtain ⟨r24, hc24, h⟩ := bd_o h
    refine callRI (va_runSN (As := [.int x1]) (rest := [.ref (a 10), .int r5, .ref (a 4)]) ⟨hx, hb, hml, hown, hts⟩ (mX5_placeOf l _ _ hc24) ⟨va_cnB 1 hts (wg_c wg98) rfl rfl rfl (hK.2 _ nw99) (hW _ wg3) hdX5_placeOf ⟨Nat.le_of_ble_eq_true rfl, Nat.le_of_ble_eq_true rfl⟩, hW _ wg100, trivial⟩ preEq rfl rfl hl.1 rfl (lv_room (Nat.le_of_ble_eq_true rfl)) dX1_goOnFrom_24 ⟨Nat.zero_le _, Nat.zero_le _⟩) ?_
    obtain ⟨hi27, h⟩ := ix_o h
    refine va_iald (D := D) hx hb hK.1 hP 10 4 rfl rfl hi27 dX1_goOnFrom_27 ?_
    refine lv_iload_n hx hb dX1_goOnFrom_28 rfl (lv_at hl 2 rfl) ?_
    refine lv_iload_n hx hb dX1_goOnFrom_29 rfl (lv_at hl 3 rfl) ?_
    refine lv_iconst (v := 1) hx hb dX1_goOnFrom_30 (by decide) ?_
    refine lv_iadd hx hb dX1_goOnFrom_31 ?_
    obtain ⟨r32, hc32, h⟩ := bd_o h
    refine callWV (va_runV (As := [.int r5, .int (σ.2 4 r24.toNatClampNeg), .int x1, .int (x2 + 1)]) (rest := []) ⟨hx, hb, hml, hown, hts⟩ (mX1_note l D a k _ _ _ _ _ _ hc32) ⟨callB_of 4 hts (wg_c wg107) rfl rfl rfl (hW _ wg108) (hW _ wg106) hdX1_note ⟨Nat.le_of_ble_eq_true rfl, Nat.le_of_ble_eq_true rfl⟩, hW _ wg109, hW _ wg110⟩ (pw_V hK hP hD (ci := 1) (q0 := 4) rfl rfl) rfl rfl hl.1 rfl (lv_room (Nat.le_of_ble_eq_true rfl)) dX1_goOnFrom_32 ⟨Nat.zero_le _, Nat.zero_le _⟩) hS (fun H locs hP hS => ?_)
    have hD : va_D (AX a) (wX a k r32) := dX hD
    exact bX1_goOnFrom_L35 C hK _ _ _ H locs ls hP hD hS (lv_sub hl [1, 2, 0] rfl) h
set_option maxHeartbeats 4000000 in
set_option maxRecDepth 100000 in
theorem bX1_explore_L102 {p : Program} {l : Launch} {e : Env} {s : State} {m : MethodId} {args : Array Value} {below : List Frame} {meth : Method} {c : Code} {D : va_G} {a : Nat → Nat} {k : Nat → ClassId} {o : ST} (C : Cx p s m args meth c cX1_explore 6 RX1 (Cond.code yX1_explore cX1_explore 6 none) none) (hK : Kx D (tX k) s) (k28 : Int32 → Int32 → Int32 → ST → Option (ST)) (hk28 : ∀ (x2 x3 x4 : Int32) (σ : ST) (H : Heap) (locs : List Loc) (ls : Array Slot), va_P D vwCl (wX a k σ) H → va_D (AX a) (wX a k σ) → va_S (AX a) s.heap H locs → lv_has ls 6 [(0, .ref (a 4)), (2, .int x2), (3, .int x3), (4, .int x4)] → k28 x2 x3 x4 σ = some o → W p l e ({ frames := 5, cells := 0, slots := 0, locals := 121 } : Room) s m args below meth c H locs 0 0 (MQ below (va_Qv (S := Unit) (fun _ => True) (fun _ t => va_P D vwCl (wX a k o) t.heap) (AX a)) args s 0 0 (AX a)) (F0 m 28 ls [])) : ∀ (x2 x3 x4 : Int32) (σ : ST) (H : Heap) (locs : List Loc) (ls : Array Slot), va_P D vwCl (wX a k σ) H → va_D (AX a) (wX a k σ) → va_S (AX a) s.heap H locs → lv_has ls 6 [(0, .ref (a 4)), (2, .int x2), (3, .int x3), (4, .int x4)] → fX1_explore_L102 k28 x2 x3 x4 σ = some o → W p l e ({ frames := 5, cells := 0, slots := 0, locals := 121 } : Room) s m args below meth c H locs 0 0 (MQ below (va_Qv (S := Unit) (fun _ => True) (fun _ t => va_P D vwCl (wX a k o) t.heap) (AX a)) args s 0 0 (AX a)) (F0 m 102 ls []) := by
  have C0 := C
  obtain ⟨hx, hb, hr, hml, hown, hts, hlocks⟩ := C0
  have hW : ∀ w ∈ WG, w.before args s = true := fun w h => hts w (List.mem_cons_of_mem _ h)
  intro x2 x3 x4 σ H locs ls hP hD hS hl h
  unfold fX1_explore_L102 at h
  obtain ⟨x4_102, ex4_102⟩ : ∃ y : Int32, y = x4 + 1 := ⟨_, rfl⟩
  have h := nm_o h ex4_102
  refine lv_iinc (v := x4_102) (lv' := [(4, .int x4_102), (0, .ref (a 4)), (2, .int x2), (3, .int x3)]) hx hb dX1_explore_102 hl (k := 3) rfl (by rw [ex4_102]; rfl) (by decide) rfl (fun ls hl => ?_)
  refine lv_goto (tgt := 28) hx hb dX1_explore_105 (by decide) ?_
  exact hk28 _ _ _ _ H locs ls hP hD hS (lv_sub hl [1, 2, 3, 0] rfl) h
set_option maxHeartbeats 4000000 in
set_option maxRecDepth 100000 in
theorem bX1_explore_L58 {p : Program} {l : Launch} {e : Env} {s : State} {m : MethodId} {args : Array Value} {below : List Frame} {meth : Method} {c : Code} {D : va_G} {a : Nat → Nat} {k : Nat → ClassId} {o : ST} (C : Cx p s m args meth c cX1_explore 6 RX1 (Cond.code yX1_explore cX1_explore 6 none) none) (hK : Kx D (tX k) s) (k28 : Int32 → Int32 → Int32 → ST → Option (ST)) (hk28 : ∀ (x2 x3 x4 : Int32) (σ : ST) (H : Heap) (locs : List Loc) (ls : Array Slot), va_P D vwCl (wX a k σ) H → va_D (AX a) (wX a k σ) → va_S (AX a) s.heap H locs → lv_has ls 6 [(0, .ref (a 4)), (2, .int x2), (3, .int x3), (4, .int x4)] → k28 x2 x3 x4 σ = some o → W p l e ({ frames := 5, cells := 0, slots := 0, locals := 121 } : Room) s m args below meth c H locs 0 0 (MQ below (va_Qv (S := Unit) (fun _ => True) (fun _ t => va_P D vwCl (wX a k o) t.heap) (AX a)) args s 0 0 (AX a)) (F0 m 28 ls [])) : ∀ (x2 x3 x4 : Int32) (σ : ST) (H : Heap) (locs : List Loc) (ls : Array Slot), va_P D vwCl (wX a k σ) H → va_D (AX a) (wX a k σ) → va_S (AX a) s.heap H locs → lv_has ls 6 [(0, .ref (a 4)), (2, .int x2), (3, .int x3), (4, .int x4)] → fX1_explore_L58 k28 x2 x3 x4 σ = some o → W p l e ({ frames := 5, cells := 0, slots := 0, locals := 121 } : Room) s m args below meth c H locs 0 0 (MQ below (va_Qv (S := Unit) (fun _ => True) (fun _ t => va_P D vwCl (wX a k o) t.heap) (AX a)) args s 0 0 (AX a)) (F0 m 58 ls []) := by
  have C0 := C
  obtain ⟨hx, hb, hr, hml, hown, hts, hlocks⟩ := C0
  have hW : ∀ w ∈ WG, w.before args s = true := fun w h => hts w (List.mem_cons_of_mem _ h)
  intro x2 x3 x4 σ H locs ls hP hD hS hl h
  unfold fX1_explore_L58 at h
  refine lv_aload_n hx hb dX1_explore_58 rfl (lv_at hl 0 rfl) ?_
  refine va_get (D := D) (ci := 1) (v := .ref (a 14)) (C := RX1) (T := TX1) (N := 14) hx hb hW inX1G hown hK.1 hP 4 rfl rfl 3 (by decide) (hW _ wg70) (fun _ h9 => h9) rfl dX1_explore_59 ?_
  refine lv_iload hx hb dX1_explore_62 (lv_at hl 3 rfl) ?_
  obtain ⟨hi64, h⟩ := ix_o h
  refine va_iald (D := D) hx hb hK.1 hP 14 8 rfl rfl hi64 dX1_explore_64 ?_
  refine lv_topi (fun x5_65 ex5_65 => ?_)
  have h := nm_o h ex5_65
  refine lv_istore (lv' := [(5, .int x5_65), (0, .ref (a 4)), (2, .int x2), (3, .int x3), (4, .int x4)]) hx hb dX1_explore_65 hl (by decide) rfl (fun ls hl => ?_)
  refine lv_aload_n hx hb dX1_explore_67 rfl (lv_at hl 1 rfl) ?_
  refine lv_iload hx hb dX1_explore_68 (lv_at hl 0 rfl) ?_
  obtain ⟨r70, hc70, h⟩ := bd_o h
  refine callWV (va_runV (As := [.int x5_65]) (rest := []) ⟨hx, hb, hml, hown, hts⟩ (mX1_survey l D a k _ _ _ hc70) ⟨callB_of 1 hts (wg_c wg181) rfl rfl rfl (hW _ wg108) (hW _ wg180) hdX1_survey ⟨Nat.le_of_ble_eq_true rfl, Nat.le_of_ble_eq_true rfl⟩, hW _ wg182, hW _ wg183⟩ (pw_V hK hP hD (ci := 1) (q0 := 4) rfl rfl) rfl rfl hl.1 rfl (lv_room (Nat.le_of_ble_eq_true rfl)) dX1_explore_70 ⟨Nat.zero_le _, Nat.zero_le _⟩) hS (fun H locs hP hS => ?_)
  have hD : va_D (AX a) (wX a k r70) := dX hD
  refine lv_aload_n hx hb dX1_explore_73 rfl (lv_at hl 1 rfl) ?_
  refine va_get (D := D) (ci := 1) (v := .ref (a 3)) (C := RX1) (T := TX1) (N := 14) hx hb hW inX1G hown hK.1 hP 4 rfl rfl 2 (by decide) (hW _ wg161) (fun _ h9 => h9) rfl dX1_explore_74 ?_
  refine lv_iload hx hb dX1_explore_77 (lv_at hl 0 rfl) ?_
  obtain ⟨r79, hc79, h⟩ := bd_o h
  refine callRI (va_runVN (As := [.int x5_65]) (rest := []) ⟨hx, hb, hml, hown, hts⟩ (mX0_isEnd l D a k _ _ _ hc79) ⟨va_cnB 1 hts (wg_c wg184) rfl rfl rfl (hK.2 _ nw185) (hW _ wg78) hdX0_isEnd ⟨Nat.le_of_ble_eq_true rfl, Nat.le_of_ble_eq_true rfl⟩, hW _ wg186, hW _ wg187⟩ (pw_V hK hP hD (ci := 0) (q0 := 3) rfl rfl) rfl rfl hl.1 rfl (lv_room (Nat.le_of_ble_eq_true rfl)) dX1_explore_79 ⟨Nat.zero_le _, Nat.zero_le _⟩) ?_
  refine lv_if_eq (tgt := 95) hx hb dX1_explore_82 (by decide) (fun c82 => ?_) (fun c82 => ?_)
  · have h := ite_t h c82
    refine lv_aload_n hx hb dX1_explore_95 rfl (lv_at hl 1 rfl) ?_
    refine lv_iload hx hb dX1_explore_96 (lv_at hl 0 rfl) ?_
    refine lv_iload_n hx hb dX1_explore_98 rfl (lv_at hl 2 rfl) ?_
    obtain ⟨r99, hc99, h⟩ := bd_o h
    refine callWV (va_runV (As := [.int x5_65, .int x2]) (rest := []) ⟨hx, hb, hml, hown, hts⟩ (mX1_goOnFrom l D a k _ _ _ _ hc99) ⟨callB_of 2 hts (wg_c wg189) rfl rfl rfl (hW _ wg108) (hW _ wg188) hdX1_goOnFrom ⟨Nat.le_of_ble_eq_true rfl, Nat.le_of_ble_eq_true rfl⟩, hW _ wg190, hW _ wg191⟩ (pw_V hK hP hD (ci := 1) (q0 := 4) rfl rfl) rfl rfl hl.1 rfl (lv_room (Nat.le_of_ble_eq_true rfl)) dX1_explore_99 ⟨Nat.zero_le _, Nat.zero_le _⟩) hS (fun H locs hP hS => ?_)
    have hD : va_D (AX a) (wX a k r99) := dX hD
    exact bX1_explore_L102 C hK _ hk28 _ _ _ _ H locs ls hP hD hS (lv_sub hl [1, 2, 3, 4] rfl) h
  · have h := ite_f h c82
    refine lv_aload_n hx hb dX1_explore_85 rfl (lv_at hl 1 rfl) ?_
    refine lv_iload hx hb dX1_explore_86 (lv_at hl 0 rfl) ?_
    refine lv_iload_n hx hb dX1_explore_88 rfl (lv_at hl 2 rfl) ?_
    obtain ⟨r89, hc89, h⟩ := bd_o h
    refine callWV (va_runV (As := [.int x5_65, .int x2]) (rest := []) ⟨hx, hb, hml, hown, hts⟩ (mX1_noteLeft l D a k _ _ _ _ hc89) ⟨callB_of 2 hts (wg_c wg193) rfl rfl rfl (hW _ wg108) (hW _ wg192) hdX1_noteLeft ⟨Nat.le_of_ble_eq_true rfl, Nat.le_of_ble_eq_true rfl⟩, hW _ wg194, hW _ wg195⟩ (pw_V hK hP hD (ci := 1) (q0 := 4) rfl rfl) rfl rfl hl.1 rfl (lv_room (Nat.le_of_ble_eq_true rfl)) dX1_explore_89 ⟨Nat.zero_le _, Nat.zero_le _⟩) hS (fun H locs hP hS => ?_)
    have hD : va_D (AX a) (wX a k r89) := dX hD
    refine lv_goto (tgt := 102) hx hb dX1_explore_92 (by decide) ?_
    exact bX1_explore_L102 C hK _ hk28 _ _ _ _ H locs ls hP hD hS (lv_sub hl [1, 2, 3, 4] rfl) h
set_option maxHeartbeats 4000000 in
set_option maxRecDepth 100000 in
theorem bX1_explore_L28 {p : Program} {l : Launch} {e : Env} {s : State} {m : MethodId} {args : Array Value} {below : List Frame} {meth : Method} {c : Code} {D : va_G} {a : Nat → Nat} {k : Nat → ClassId} {o : ST} (C : Cx p s m args meth c cX1_explore 6 RX1 (Cond.code yX1_explore cX1_explore 6 none) none) (hK : Kx D (tX k) s) : ∀ (n : Nat) (x2 x3 x4 : Int32) (σ : ST) (H : Heap) (locs : List Loc) (ls : Array Slot), va_P D vwCl (wX a k σ) H → va_D (AX a) (wX a k σ) → va_S (AX a) s.heap H locs → lv_has ls 6 [(0, .ref (a 4)), (2, .int x2), (3, .int x3), (4, .int x4)] → fX1_explore_L28 n x2 x3 x4 σ = some o → W p l e ({ frames := 5, cells := 0, slots := 0, locals := 121 } : Room) s m args below meth c H locs 0 0 (MQ below (va_Qv (S := Unit) (fun _ => True) (fun _ t => va_P D vwCl (wX a k o) t.heap) (AX a)) args s 0 0 (AX a)) (F0 m 28 ls []) := by
  have C0 := C
  obtain ⟨hx, hb, hr, hml, hown, hts, hlocks⟩ := C0
  have hW : ∀ w ∈ WG, w.before args s = true := fun w h => hts w (List.mem_cons_of_mem _ h)
  intro n
  induction n with
  | zero =>
    intro x2 x3 x4 σ H locs ls hP hD hS hl h
    rw [fX1_explore_L28] at h
    cases h
  | succ n ih =>
      intro x2 x3 x4 σ H locs ls hP hD hS hl h
      rw [fX1_explore_L28] at h
      refine lv_iload hx hb dX1_explore_28 (lv_at hl 3 rfl) ?_
      refine lv_aload_n hx hb dX1_explore_30 rfl (lv_at hl 0 rfl) ?_
      refine va_get (D := D) (ci := 1) (v := .int (σ.1 3)) (C := RX1) (T := TX1) (N := 14) hx hb hW inX1G hown hK.1 hP 4 rfl rfl 9 (by decide) (hW _ wg57) (fun _ h9 => h9) rfl dX1_explore_31 ?_
      refine lv_icmp_ge (tgt := 108) hx hb dX1_explore_34 (by decide) (fun c34 => ?_) (fun c34 => ?_)
      · have h := ite_t h c34
        have h := Option.some.inj h
        subst h
        exact W.vret hx hb hr (fun t ht hW9 => ⟨⟨(), rfl, trivial, by show va_P _ _ _ t.heap; rw [ht]; exact hP⟩, hS.F ht⟩) hS.2.2 dX1_explore_108 hlocks
      · have h := ite_f h c34
        refine lv_iload hx hb dX1_explore_37 (lv_at hl 3 rfl) ?_
        refine lv_ldc (v := 43008) hx hb hown (hW _ wg81) dX1_explore_39 ?_
        refine lv_icmp_ge (tgt := 108) hx hb dX1_explore_41 (by decide) (fun c41 => ?_) (fun c41 => ?_)
        · have h := ite_t h c41
          have h := Option.some.inj h
          subst h
          exact W.vret hx hb hr (fun t ht hW9 => ⟨⟨(), rfl, trivial, by show va_P _ _ _ t.heap; rw [ht]; exact hP⟩, hS.F ht⟩) hS.2.2 dX1_explore_108 hlocks
        · have h := ite_f h c41
          refine lv_iload hx hb dX1_explore_44 (lv_at hl 3 rfl) ?_
          refine lv_iload_n hx hb dX1_explore_46 rfl (lv_at hl 2 rfl) ?_
          refine lv_icmp_ne (tgt := 58) hx hb dX1_explore_47 (by decide) (fun c47 => ?_) (fun c47 => ?_)
          · have h := ite_f h c47
            exact bX1_explore_L58 C hK _ ih _ _ _ _ H locs ls hP hD hS (lv_sub hl [0, 1, 2, 3] rfl) h
          · have h := ite_t h c47
            obtain ⟨x2_50, ex2_50⟩ : ∃ y : Int32, y = x2 + 1 := ⟨_, rfl⟩
            have h := nm_o h ex2_50
            refine lv_iinc (v := x2_50) (lv' := [(2, .int x2_50), (0, .ref (a 4)), (3, .int x3), (4, .int x4)]) hx hb dX1_explore_50 hl (k := 1) rfl (by rw [ex2_50]; rfl) (by decide) rfl (fun ls hl => ?_)
            refine lv_aload_n hx hb dX1_explore_53 rfl (lv_at hl 1 rfl) ?_
            refine va_get (D := D) (ci := 1) (v := .int (σ.1 3)) (C := RX1) (T := TX1) (N := 14) hx hb hW inX1G hown hK.1 hP 4 rfl rfl 9 (by decide) (hW _ wg57) (fun _ h9 => h9) rfl dX1_explore_54 ?_
            refine lv_topi (fun x3_57 ex3_57 => ?_)
            have h := nm_o h ex3_57
            refine lv_istore_n (lv' := [(3, .int x3_57), (2, .int x2_50), (0, .ref (a 4)), (4, .int x4)]) hx hb dX1_explore_57 rfl hl (by decide) rfl (fun ls hl => ?_)
            exact bX1_explore_L58 C hK _ ih _ _ _ _ H locs ls hP hD hS (lv_sub hl [2, 1, 0, 3] rfl) h
set_option maxHeartbeats 4000000 in
set_option maxRecDepth 100000 in
theorem mX1_explore (l : Launch) (D : va_G) (a : Nat → Nat) (k : Nat → ClassId) (σ : ST) (o : ST) (h : fX1_explore σ = some o) : Met l yX1_explore ((Cond.code yX1_explore cX1_explore 6 none) :: WG) ({ frames := 5, cells := 0, slots := 0, locals := 121 } : Room) (Pw D (tX k) (AX a) (wX a k σ) [.ref (a 4)]) (va_Qv (S := Unit) (fun _ => True) (fun _ t => va_P D vwCl (wX a k o) t.heap) (AX a)) 0 0 (AX a) := by
  refine Met.ofW (cc := cX1_explore) (maxL := 6) (ret := none) (by decide) rfl ?_
  intro p e s m args below meth c s₁ B hml0 hv
  have C : Cx p s m args meth c cX1_explore 6 RX1 (Cond.code yX1_explore cX1_explore 6 none) none := ⟨B.exec, B.bytes, B.returns, hml0, findClass_of_methodNamed B.named, atoms_spec (ws := (Cond.code yX1_explore cX1_explore 6 none) :: WG) B.pre, B.notSynchronized⟩
  obtain ⟨rfl, hP, hK, hD⟩ := hv
  have hK : Kx D (tX k) s := hK
  have C0 := C
  obtain ⟨hx, hb, hr, hml, hown, hts, hlocks⟩ := C0
  have hW : ∀ w ∈ WG, w.before _ s = true := fun w h => hts w (List.mem_cons_of_mem _ h)
  show W p l e ({ frames := 5, cells := 0, slots := 0, locals := 121 } : Room) s m _ below meth c s.heap [] 0 0 _ _
  have hl := lv_entry ([.ref (a 4)]) (n := 6) (Nat.le_of_ble_eq_true rfl)
  rw [lg_entry_eq]
  generalize (lg_sl ([.ref (a 4)]) ++ List.replicate (6 - (lg_sl ([.ref (a 4)])).length) Slot.unset).toArray = ls at hl ⊢
  have hl : lv_has ls 6 [(0, .ref (a 4))] := hl
  have hS : va_S (AX a) s.heap s.heap [] := va_S.rf
  suffices hgo : ∀ (H : Heap) (locs : List Loc), va_P D vwCl (wX a k σ) H → va_S (AX a) s.heap H locs → W p l e ({ frames := 5, cells := 0, slots := 0, locals := 121 } : Room) s m _ below meth c H locs 0 0 (MQ below (va_Qv (S := Unit) (fun _ => True) (fun _ t => va_P D vwCl (wX a k o) t.heap) (AX a)) _ s 0 0 (AX a)) (F0 m 0 ls []) from hgo _ _ hP hS
  clear hP hS
  intro H locs hP hS
  unfold fX1_explore at h
  refine lv_aload_n hx hb dX1_explore_0 rfl (lv_at hl 0 rfl) ?_
  obtain ⟨r1, hc1, h⟩ := bd_o h
  refine callWV (va_runV (As := []) (rest := []) ⟨hx, hb, hml, hown, hts⟩ (mX1_forget l D a k _ _ hc1) ⟨callB_of 0 hts (wg_c wg197) rfl rfl rfl (hW _ wg108) (hW _ wg196) hdX1_forget ⟨Nat.le_of_ble_eq_true rfl, Nat.le_of_ble_eq_true rfl⟩, hW _ wg198, hW _ wg199⟩ (pw_V hK hP hD (ci := 1) (q0 := 4) rfl rfl) rfl rfl hl.1 rfl (lv_room (Nat.le_of_ble_eq_true rfl)) dX1_explore_1 ⟨Nat.zero_le _, Nat.zero_le _⟩) hS (fun H locs hP hS => ?_)
  have hD : va_D (AX a) (wX a k r1) := dX hD
  refine lv_aload_n hx hb dX1_explore_4 rfl (lv_at hl 0 rfl) ?_
  refine va_get (D := D) (ci := 1) (v := .ref (a 3)) (C := RX1) (T := TX1) (N := 14) hx hb hW inX1G hown hK.1 hP 4 rfl rfl 2 (by decide) (hW _ wg161) (fun _ h9 => h9) rfl dX1_explore_5 ?_
  obtain ⟨r8, hc8, h⟩ := bd_o h
  refine callRI (va_runVN (As := []) (rest := []) ⟨hx, hb, hml, hown, hts⟩ (mX0_firstNode l D a k _ _ hc8) ⟨va_cnB 0 hts (wg_c wg200) rfl rfl rfl (hK.2 _ nw201) (hW _ wg78) hdX0_firstNode ⟨Nat.le_of_ble_eq_true rfl, Nat.le_of_ble_eq_true rfl⟩, hW _ wg202, hW _ wg203⟩ (pw_V hK hP hD (ci := 0) (q0 := 3) rfl rfl) rfl rfl hl.1 rfl (lv_room (Nat.le_of_ble_eq_true rfl)) dX1_explore_8 ⟨Nat.zero_le _, Nat.zero_le _⟩) ?_
  refine lv_istore_n (lv' := [(1, .int r8), (0, .ref (a 4))]) hx hb dX1_explore_11 rfl hl (by decide) rfl (fun ls hl => ?_)
  refine lv_aload_n hx hb dX1_explore_12 rfl (lv_at hl 1 rfl) ?_
  refine lv_iload_n hx hb dX1_explore_13 rfl (lv_at hl 0 rfl) ?_
  refine lv_iload_n hx hb dX1_explore_14 rfl (lv_at hl 0 rfl) ?_
  obtain ⟨r15, hc15, h⟩ := bd_o h
  refine callWV (va_runV (As := [.int r8, .int r8]) (rest := []) ⟨hx, hb, hml, hown, hts⟩ (mX1_reach l D a k _ _ _ _ hc15) ⟨callB_of 2 hts (wg_c wg167) rfl rfl rfl (hW _ wg108) (hW _ wg166) hdX1_reach ⟨Nat.le_of_ble_eq_true rfl, Nat.le_of_ble_eq_true rfl⟩, hW _ wg168, hW _ wg169⟩ (pw_V hK hP hD (ci := 1) (q0 := 4) rfl rfl) rfl rfl hl.1 rfl (lv_room (Nat.le_of_ble_eq_true rfl)) dX1_explore_15 ⟨Nat.zero_le _, Nat.zero_le _⟩) hS (fun H locs hP hS => ?_)
  have hD : va_D (AX a) (wX a k r15) := dX hD
  refine lv_iconst (v := 0) hx hb dX1_explore_18 (by decide) ?_
  refine lv_istore_n (lv' := [(2, .int 0), (1, .int r8), (0, .ref (a 4))]) hx hb dX1_explore_19 rfl hl (by decide) rfl (fun ls hl => ?_)
  refine lv_aload_n hx hb dX1_explore_20 rfl (lv_at hl 2 rfl) ?_
  refine va_get (D := D) (ci := 1) (v := .int (r15.1 3)) (C := RX1) (T := TX1) (N := 14) hx hb hW inX1G hown hK.1 hP 4 rfl rfl 9 (by decide) (hW _ wg57) (fun _ h9 => h9) rfl dX1_explore_21 ?_
  refine lv_topi (fun x3_24 ex3_24 => ?_)
  have h := nm_o h ex3_24
  refine lv_istore_n (lv' := [(3, .int x3_24), (2, .int 0), (1, .int r8), (0, .ref (a 4))]) hx hb dX1_explore_24 rfl hl (by decide) rfl (fun ls hl => ?_)
  refine lv_iconst (v := 0) hx hb dX1_explore_25 (by decide) ?_
  refine lv_istore (lv' := [(4, .int 0), (3, .int x3_24), (2, .int 0), (1, .int r8), (0, .ref (a 4))]) hx hb dX1_explore_26 hl (by decide) rfl (fun ls hl => ?_)
  exact bX1_explore_L28 C hK FUEL _ _ _ _ H locs ls hP hD hS (lv_sub hl [4, 2, 1, 0] rfl) h
set_option maxHeartbeats 4000000 in
set_option maxRecDepth 100000 in
theorem bX5_check_L19 {p : Program} {l : Launch} {e : Env} {s : State} {m : MethodId} {args : Array Value} {below : List Frame} {meth : Method} {c : Code} {D : va_G} {a : Nat → Nat} {k : Nat → ClassId} {o : Int32 × ST} (C : Cx p s m args meth c cX5_check 1 RX5 (Cond.code yX5_check cX5_check 1 (some .int)) (some .int)) (hK : Kx D (tX k) s) : ∀ (σ : ST) (H : Heap) (locs : List Loc) (ls : Array Slot), va_P D vwCl (wX a k σ) H → va_D (AX a) (wX a k σ) → va_S (AX a) s.heap H locs → lv_has ls 1 [(0, .ref (a 0))] → fX5_check_L19 σ = some o → W p l e ({ frames := 6, cells := 0, slots := 0, locals := 146 } : Room) s m args below meth c H locs 0 0 (MQ below (va_Qi (S := Unit) (fun z _ => z = o.1) (fun _ t => va_P D vwCl (wX a k o.2) t.heap) (AX a)) args s 0 0 (AX a)) (F0 m 19 ls []) := by
  have C0 := C
  obtain ⟨hx, hb, hr, hml, hown, hts, hlocks⟩ := C0
  have hW : ∀ w ∈ WG, w.before args s = true := fun w h => hts w (List.mem_cons_of_mem _ h)
  intro  σ H locs ls hP hD hS hl h
  unfold fX5_check_L19 at h
  refine lv_aload_n hx hb dX5_check_19 rfl (lv_at hl 0 rfl) ?_
  refine va_get (D := D) (ci := 5) (v := .ref (a 4)) (C := RX5) (T := TX5) (N := 6) hx hb hW inX5G hown hK.1 hP 0 rfl rfl 3 (by decide) (hW _ wg204) (fun _ h9 => h9) rfl dX5_check_20 ?_
  refine va_getN (D := D) (ci := 1) (v := .int (σ.1 4)) (C := RX1) (T := TX1) (N := 14) hx hb hW inX1G hown hK.1 hP 4 rfl rfl 10 (by decide) (hK.2.fld nw205) (fun _ h9 => h9) rfl dX5_check_23 ?_
  have h := Option.some.inj h
  subst h
  exact W.iret (v := (σ.1 4)) hx hb hr (fun t ht hW9 => ⟨⟨(σ.1 4), (), rfl, rfl, by show va_P _ _ _ t.heap; rw [ht]; exact hP⟩, hS.F ht⟩) hS.2.2 dX5_check_26 hlocks
set_option maxHeartbeats 4000000 in
set_option maxRecDepth 100000 in
theorem mX5_check (l : Launch) (D : va_G) (a : Nat → Nat) (k : Nat → ClassId) (σ : ST) (o : Int32 × ST) (h : fX5_check σ = some o) : Met l yX5_check ((Cond.code yX5_check cX5_check 1 (some .int)) :: WG) ({ frames := 6, cells := 0, slots := 0, locals := 146 } : Room) (Pw D (tX k) (AX a) (wX a k σ) [.ref (a 0)]) (va_Qi (S := Unit) (fun z _ => z = o.1) (fun _ t => va_P D vwCl (wX a k o.2) t.heap) (AX a)) 0 0 (AX a) := by
  refine Met.ofW (cc := cX5_check) (maxL := 1) (ret := (some .int)) (by decide) rfl ?_
  intro p e s m args below meth c s₁ B hml0 hv
  have C : Cx p s m args meth c cX5_check 1 RX5 (Cond.code yX5_check cX5_check 1 (some .int)) (some .int) := ⟨B.exec, B.bytes, B.returns, hml0, findClass_of_methodNamed B.named, atoms_spec (ws := (Cond.code yX5_check cX5_check 1 (some .int)) :: WG) B.pre, B.notSynchronized⟩
  obtain ⟨rfl, hP, hK, hD⟩ := hv
  have hK : Kx D (tX k) s := hK
  have C0 := C
  obtain ⟨hx, hb, hr, hml, hown, hts, hlocks⟩ := C0
  have hW : ∀ w ∈ WG, w.before _ s = true := fun w h => hts w (List.mem_cons_of_mem _ h)
  show W p l e ({ frames := 6, cells := 0, slots := 0, locals := 146 } : Room) s m _ below meth c s.heap [] 0 0 _ _
  have hl := lv_entry ([.ref (a 0)]) (n := 1) (Nat.le_of_ble_eq_true rfl)
  rw [lg_entry_eq]
  generalize (lg_sl ([.ref (a 0)]) ++ List.replicate (1 - (lg_sl ([.ref (a 0)])).length) Slot.unset).toArray = ls at hl ⊢
  have hl : lv_has ls 1 [(0, .ref (a 0))] := hl
  have hS : va_S (AX a) s.heap s.heap [] := va_S.rf
  suffices hgo : ∀ (H : Heap) (locs : List Loc), va_P D vwCl (wX a k σ) H → va_S (AX a) s.heap H locs → W p l e ({ frames := 6, cells := 0, slots := 0, locals := 146 } : Room) s m _ below meth c H locs 0 0 (MQ below (va_Qi (S := Unit) (fun z _ => z = o.1) (fun _ t => va_P D vwCl (wX a k o.2) t.heap) (AX a)) _ s 0 0 (AX a)) (F0 m 0 ls []) from hgo _ _ hP hS
  clear hP hS
  intro H locs hP hS
  unfold fX5_check at h
  refine lv_aload_n hx hb dX5_check_0 rfl (lv_at hl 0 rfl) ?_
  refine va_get (D := D) (ci := 5) (v := .int (σ.1 0)) (C := RX5) (T := TX5) (N := 6) hx hb hW inX5G hown hK.1 hP 0 rfl rfl 5 (by decide) (hW _ wg10) (fun _ h9 => h9) rfl dX5_check_1 ?_
  refine lv_if_ne (tgt := 19) hx hb dX5_check_4 (by decide) (fun c4 => ?_) (fun c4 => ?_)
  · have h := ite_f h c4
    exact bX5_check_L19 C hK  _ H locs ls hP hD hS (lv_sub hl [0] rfl) h
  · have h := ite_t h c4
    refine lv_aload_n hx hb dX5_check_7 rfl (lv_at hl 0 rfl) ?_
    refine va_get (D := D) (ci := 5) (v := .ref (a 4)) (C := RX5) (T := TX5) (N := 6) hx hb hW inX5G hown hK.1 hP 0 rfl rfl 3 (by decide) (hW _ wg204) (fun _ h9 => h9) rfl dX5_check_8 ?_
    obtain ⟨r11, hc11, h⟩ := bd_o h
    refine callWV (va_runVN (As := []) (rest := []) ⟨hx, hb, hml, hown, hts⟩ (mX1_explore l D a k _ _ hc11) ⟨va_cnB 0 hts (wg_c wg206) rfl rfl rfl (hK.2 _ nw207) (hW _ wg108) hdX1_explore ⟨Nat.le_of_ble_eq_true rfl, Nat.le_of_ble_eq_true rfl⟩, hW _ wg208, hW _ wg209⟩ (pw_V hK hP hD (ci := 1) (q0 := 4) rfl rfl) rfl rfl hl.1 rfl (lv_room (Nat.le_of_ble_eq_true rfl)) dX5_check_11 ⟨Nat.zero_le _, Nat.zero_le _⟩) hS (fun H locs hP hS => ?_)
    have hD : va_D (AX a) (wX a k r11) := dX hD
    refine lv_aload_n hx hb dX5_check_14 rfl (lv_at hl 0 rfl) ?_
    refine lv_iconst (v := 1) hx hb dX5_check_15 (by decide) ?_
    refine va_put (D := D) (ci := 5) (v := .int 1) (ty := .boolean) (C := RX5) (T := TX5) (N := 6) hx hb hW inX5G tyX5 tyX5_ok nmX5 hown hK.1 hP hD hS 0 rfl rfl 5 (by decide) (hW _ wg10) (fun _ h9 => h9) rfl (by decide +kernel) rfl rfl (Nat.le_of_ble_eq_true rfl) dX5_check_16 (fun H locs hP hD9 hS => ?_)
    obtain ⟨s16, es16⟩ : ∃ z : ST, z = setF r11 0 1 := ⟨_, rfl⟩
    have h := nm_o h es16
    have hP : va_P D vwCl (wX a k s16) H := by rw [es16]; exact hP
    have hD : va_D (AX a) (wX a k s16) := dX hD
    exact bX5_check_L19 C hK  _ H locs ls hP hD hS (lv_sub hl [0] rfl) h
