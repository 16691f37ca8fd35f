set_option maxHeartbeats 4000000 in
set_option maxRecDepth 100000 in
theorem bX4_drive_L87 {p : Program} {l : Launch} {e : Env} {s : State} {m : MethodId} {args : Array Value} {below : List Frame} {meth : Method} {c : Code} {D : va_G} {a : Nat → Nat} {k : Nat → ClassId} {o : ST} (C : Cx p s m args meth c cX4_drive 6 RX4 (Cond.code yX4_drive cX4_drive 6 none) none) (hK : Kx D (tX k) s) (k28 : Int32 → ST → Option (ST)) (hk28 : ∀ (x3 : Int32) (σ : ST) (H : Heap) (locs : List Loc) (ls : Array Slot), va_P D vwCl (wX a k σ) H → va_D (AX a) (wX a k σ) → va_S (AX a) s.heap H locs → lv_has ls 6 [(0, .ref (a 5)), (1, .ref (a 3)), (3, .int x3)] → k28 x3 σ = some o → W p l e ({ frames := 4, cells := 0, slots := 0, locals := 98 } : Room) s m args below meth c H locs 0 0 (MQ below (va_Qv (S := Unit) (fun _ => True) (fun _ t => va_P D vwCl (wX a k o) t.heap) (AX a)) args s 0 0 (AX a)) (F0 m 28 ls [])) : ∀ (x3 x4 y0 : Int32) (σ : ST) (H : Heap) (locs : List Loc) (ls : Array Slot), va_P D vwCl (wX a k σ) H → va_D (AX a) (wX a k σ) → va_S (AX a) s.heap H locs → lv_has ls 6 [(0, .ref (a 5)), (1, .ref (a 3)), (3, .int x3), (4, .int x4)] → fX4_drive_L87 k28 x3 x4 y0 σ = some o → W p l e ({ frames := 4, cells := 0, slots := 0, locals := 98 } : Room) s m args below meth c H locs 0 0 (MQ below (va_Qv (S := Unit) (fun _ => True) (fun _ t => va_P D vwCl (wX a k o) t.heap) (AX a)) args s 0 0 (AX a)) (F0 m 87 ls [.int y0]) := by
  have C0 := C
  obtain ⟨hx, hb, hr, hml, hown, hts, hlocks⟩ := C0
  have hW : ∀ w ∈ WG, w.before args s = true := fun w h => hts w (List.mem_cons_of_mem _ h)
  intro x3 x4 y0 σ H locs ls hP hD hS hl h
  unfold fX4_drive_L87 at h
  refine lv_topi (fun x5_87 ex5_87 => ?_)
  have h := nm_o h ex5_87
  refine lv_istore (lv' := [(5, .int x5_87), (0, .ref (a 5)), (1, .ref (a 3)), (3, .int x3), (4, .int x4)]) hx hb dX4_drive_87 hl (by decide) rfl (fun ls hl => ?_)
  refine lv_aload_n hx hb dX4_drive_89 rfl (lv_at hl 1 rfl) ?_
  refine va_get (D := D) (ci := 4) (v := .ref (a 20)) (C := RX4) (T := TX4) (N := 7) hx hb hW inX4G hown hK.1 hP 5 rfl rfl 0 (by decide) (hW _ wg233) (fun _ h9 => h9) rfl dX4_drive_90 ?_
  refine lv_aload_n hx hb dX4_drive_93 rfl (lv_at hl 1 rfl) ?_
  refine va_get (D := D) (ci := 4) (v := .int (σ.1 9)) (C := RX4) (T := TX4) (N := 7) hx hb hW inX4G hown hK.1 hP 5 rfl rfl 2 (by decide) (hW _ wg234) (fun _ h9 => h9) rfl dX4_drive_94 ?_
  refine lv_aload_n hx hb dX4_drive_97 rfl (lv_at hl 1 rfl) ?_
  refine va_get (D := D) (ci := 4) (v := .int (σ.1 11)) (C := RX4) (T := TX4) (N := 7) hx hb hW inX4G hown hK.1 hP 5 rfl rfl 4 (by decide) (hW _ wg235) (fun _ h9 => h9) rfl dX4_drive_98 ?_
  obtain ⟨r101, hc101, h⟩ := bd_o h
  refine callRI (va_runSN (As := [.int (σ.1 11)]) (rest := [.int (σ.1 9), .ref (a 20)]) ⟨hx, hb, hml, hown, hts⟩ (mX5_placeOf l _ _ hc101) ⟨va_cnB 1 hts (wg_c wg98) rfl rfl rfl (hK.2 _ nw236) (hW _ wg3) hdX5_placeOf ⟨Nat.le_of_ble_eq_true rfl, Nat.le_of_ble_eq_true rfl⟩, hW _ wg100, trivial⟩ preEq rfl rfl hl.1 rfl (lv_room (Nat.le_of_ble_eq_true rfl)) dX4_drive_101 ⟨Nat.zero_le _, Nat.zero_le _⟩) ?_
  obtain ⟨hi104, h⟩ := ix_o h
  refine va_iast (D := D) hx hb hK.1 hP hD hS 20 14 rfl rfl hi104 dX4_drive_104 (fun H locs hP hD9 hS => ?_)
  obtain ⟨s104, es104⟩ : ∃ z : ST, z = setA σ 14 (σ.1 9).toNatClampNeg r101 := ⟨_, rfl⟩
  have h := nm_o h es104
  have hP : va_P D vwCl (wX a k s104) H := by rw [es104]; exact hP
  have hD : va_D (AX a) (wX a k s104) := dX hD
  refine lv_aload_n hx hb dX4_drive_105 rfl (lv_at hl 1 rfl) ?_
  refine lv_dup hx hb dX4_drive_106 rfl ?_
  refine va_get (D := D) (ci := 4) (v := .int (s104.1 9)) (C := RX4) (T := TX4) (N := 7) hx hb hW inX4G hown hK.1 hP 5 rfl rfl 2 (by decide) (hW _ wg234) (fun _ h9 => h9) rfl dX4_drive_107 ?_
  refine lv_iconst (v := 1) hx hb dX4_drive_110 (by decide) ?_
  refine lv_iadd hx hb dX4_drive_111 ?_
  refine va_put (D := D) (ci := 4) (v := .int ((s104.1 9) + 1)) (ty := .int) (C := RX4) (T := TX4) (N := 7) hx hb hW inX4G tyX4 tyX4_ok nmX4 hown hK.1 hP hD hS 5 rfl rfl 2 (by decide) (hW _ wg234) (fun _ h9 => h9) rfl (by decide +kernel) rfl rfl (Nat.le_of_ble_eq_true rfl) dX4_drive_112 (fun H locs hP hD9 hS => ?_)
  obtain ⟨s112, es112⟩ : ∃ z : ST, z = setF s104 9 ((s104.1 9) + 1) := ⟨_, rfl⟩
  have h := nm_o h es112
  have hP : va_P D vwCl (wX a k s112) H := by rw [es112]; exact hP
  have hD : va_D (AX a) (wX a k s112) := dX hD
  refine lv_aload_n hx hb dX4_drive_115 rfl (lv_at hl 1 rfl) ?_
  refine lv_aload_n hx hb dX4_drive_116 rfl (lv_at hl 2 rfl) ?_
  refine lv_aload_n hx hb dX4_drive_117 rfl (lv_at hl 1 rfl) ?_
  refine va_get (D := D) (ci := 4) (v := .int (s112.1 11)) (C := RX4) (T := TX4) (N := 7) hx hb hW inX4G hown hK.1 hP 5 rfl rfl 4 (by decide) (hW _ wg235) (fun _ h9 => h9) rfl dX4_drive_118 ?_
  refine lv_iload hx hb dX4_drive_121 (lv_at hl 4 rfl) ?_
  refine lv_iload hx hb dX4_drive_123 (lv_at hl 0 rfl) ?_
  obtain ⟨r125, hc125, h⟩ := bd_o h
  refine callRI (va_runVN (As := [.int (s112.1 11), .int x4, .int x5_87]) (rest := [.ref (a 5)]) ⟨hx, hb, hml, hown, hts⟩ (mX0_follow l D a k _ _ _ _ _ hc125) ⟨va_cnB 3 hts (wg_c wg162) rfl rfl rfl (hK.2 _ nw237) (hW _ wg78) hdX0_follow ⟨Nat.le_of_ble_eq_true rfl, Nat.le_of_ble_eq_true rfl⟩, hW _ wg164, hW _ wg165⟩ (pw_V hK hP hD (ci := 0) (q0 := 3) rfl rfl) rfl rfl hl.1 rfl (lv_room (Nat.le_of_ble_eq_true rfl)) dX4_drive_125 ⟨Nat.zero_le _, Nat.zero_le _⟩) ?_
  refine va_put (D := D) (ci := 4) (v := .int r125) (ty := .int) (C := RX4) (T := TX4) (N := 7) hx hb hW inX4G tyX4 tyX4_ok nmX4 hown hK.1 hP hD hS 5 rfl rfl 4 (by decide) (hW _ wg235) (fun _ h9 => h9) rfl (by decide +kernel) rfl rfl (Nat.le_of_ble_eq_true rfl) dX4_drive_128 (fun H locs hP hD9 hS => ?_)
  obtain ⟨s128, es128⟩ : ∃ z : ST, z = setF s112 11 r125 := ⟨_, rfl⟩
  have h := nm_o h es128
  have hP : va_P D vwCl (wX a k s128) H := by rw [es128]; exact hP
  have hD : va_D (AX a) (wX a k s128) := dX hD
  refine lv_goto (tgt := 28) hx hb dX4_drive_131 (by decide) ?_
  exact hk28 _ _ H locs ls hP hD hS (lv_sub hl [1, 2, 3] rfl) h
set_option maxHeartbeats 4000000 in
set_option maxRecDepth 100000 in
theorem bX4_drive_L28 {p : Program} {l : Launch} {e : Env} {s : State} {m : MethodId} {args : Array Value} {below : List Frame} {meth : Method} {c : Code} {D : va_G} {a : Nat → Nat} {k : Nat → ClassId} {o : ST} (C : Cx p s m args meth c cX4_drive 6 RX4 (Cond.code yX4_drive cX4_drive 6 none) none) (hK : Kx D (tX k) s) : ∀ (n : Nat) (x3 : Int32) (σ : ST) (H : Heap) (locs : List Loc) (ls : Array Slot), va_P D vwCl (wX a k σ) H → va_D (AX a) (wX a k σ) → va_S (AX a) s.heap H locs → lv_has ls 6 [(0, .ref (a 5)), (1, .ref (a 3)), (3, .int x3)] → fX4_drive_L28 n x3 σ = some o → W p l e ({ frames := 4, cells := 0, slots := 0, locals := 98 } : Room) s m args below meth c H locs 0 0 (MQ below (va_Qv (S := Unit) (fun _ => True) (fun _ t => va_P D vwCl (wX a k o) t.heap) (AX a)) args s 0 0 (AX a)) (F0 m 28 ls []) := by
  have C0 := C
  obtain ⟨hx, hb, hr, hml, hown, hts, hlocks⟩ := C0
  have hW : ∀ w ∈ WG, w.before args s = true := fun w h => hts w (List.mem_cons_of_mem _ h)
  intro n
  induction n with
  | zero =>
    intro x3 σ H locs ls hP hD hS hl h
    rw [fX4_drive_L28] at h
    cases h
  | succ n ih =>
      intro x3 σ H locs ls hP hD hS hl h
      rw [fX4_drive_L28] at h
      refine lv_aload_n hx hb dX4_drive_28 rfl (lv_at hl 0 rfl) ?_
      refine va_get (D := D) (ci := 4) (v := .int (σ.1 9)) (C := RX4) (T := TX4) (N := 7) hx hb hW inX4G hown hK.1 hP 5 rfl rfl 2 (by decide) (hW _ wg234) (fun _ h9 => h9) rfl dX4_drive_29 ?_
      refine lv_iload_n hx hb dX4_drive_32 rfl (lv_at hl 2 rfl) ?_
      refine lv_icmp_ge (tgt := 134) hx hb dX4_drive_33 (by decide) (fun c33 => ?_) (fun c33 => ?_)
      · have h := ite_t h c33
        have h := Option.some.inj h
        subst h
        exact W.vret hx hb hr (fun t ht hW9 => ⟨⟨(), rfl, trivial, by show va_P _ _ _ t.heap; rw [ht]; exact hP⟩, hS.F ht⟩) hS.2.2 dX4_drive_134 hlocks
      · have h := ite_f h c33
        refine lv_aload_n hx hb dX4_drive_36 rfl (lv_at hl 0 rfl) ?_
        refine va_get (D := D) (ci := 4) (v := .int (σ.1 9)) (C := RX4) (T := TX4) (N := 7) hx hb hW inX4G hown hK.1 hP 5 rfl rfl 2 (by decide) (hW _ wg234) (fun _ h9 => h9) rfl dX4_drive_37 ?_
        refine lv_bipush (v := 100) hx hb dX4_drive_40 (by decide) ?_
        refine lv_icmp_ge (tgt := 134) hx hb dX4_drive_42 (by decide) (fun c42 => ?_) (fun c42 => ?_)
        · have h := ite_t h c42
          have h := Option.some.inj h
          subst h
          exact W.vret hx hb hr (fun t ht hW9 => ⟨⟨(), rfl, trivial, by show va_P _ _ _ t.heap; rw [ht]; exact hP⟩, hS.F ht⟩) hS.2.2 dX4_drive_134 hlocks
        · have h := ite_f h c42
          refine lv_aload_n hx hb dX4_drive_45 rfl (lv_at hl 1 rfl) ?_
          refine lv_aload_n hx hb dX4_drive_46 rfl (lv_at hl 0 rfl) ?_
          refine va_get (D := D) (ci := 4) (v := .int (σ.1 11)) (C := RX4) (T := TX4) (N := 7) hx hb hW inX4G hown hK.1 hP 5 rfl rfl 4 (by decide) (hW _ wg235) (fun _ h9 => h9) rfl dX4_drive_47 ?_
          obtain ⟨r50, hc50, h⟩ := bd_o h
          refine callRI (va_runVN (As := [.int (σ.1 11)]) (rest := []) ⟨hx, hb, hml, hown, hts⟩ (mX0_isEnd l D a k _ _ _ hc50) ⟨va_cnB 1 hts (wg_c wg184) rfl rfl rfl (hK.2 _ nw238) (hW _ wg78) hdX0_isEnd ⟨Nat.le_of_ble_eq_true rfl, Nat.le_of_ble_eq_true rfl⟩, hW _ wg186, hW _ wg187⟩ (pw_V hK hP hD (ci := 0) (q0 := 3) rfl rfl) rfl rfl hl.1 rfl (lv_room (Nat.le_of_ble_eq_true rfl)) dX4_drive_50 ⟨Nat.zero_le _, Nat.zero_le _⟩) ?_
          refine lv_if_ne (tgt := 134) hx hb dX4_drive_53 (by decide) (fun c53 => ?_) (fun c53 => ?_)
          · have h := ite_f h c53
            have h := Option.some.inj h
            subst h
            exact W.vret hx hb hr (fun t ht hW9 => ⟨⟨(), rfl, trivial, by show va_P _ _ _ t.heap; rw [ht]; exact hP⟩, hS.F ht⟩) hS.2.2 dX4_drive_134 hlocks
          · have h := ite_t h c53
            refine lv_aload_n hx hb dX4_drive_56 rfl (lv_at hl 1 rfl) ?_
            refine lv_aload_n hx hb dX4_drive_57 rfl (lv_at hl 0 rfl) ?_
            refine va_get (D := D) (ci := 4) (v := .int (σ.1 11)) (C := RX4) (T := TX4) (N := 7) hx hb hW inX4G hown hK.1 hP 5 rfl rfl 4 (by decide) (hW _ wg235) (fun _ h9 => h9) rfl dX4_drive_58 ?_
            obtain ⟨r61, hc61, h⟩ := bd_o h
            refine callRI (va_runVN (As := [.int (σ.1 11)]) (rest := []) ⟨hx, hb, hml, hown, hts⟩ (mX0_faultAt l D a k _ _ _ hc61) ⟨va_cnB 1 hts (wg_c wg174) rfl rfl rfl (hK.2 _ nw239) (hW _ wg78) hdX0_faultAt ⟨Nat.le_of_ble_eq_true rfl, Nat.le_of_ble_eq_true rfl⟩, hW _ wg176, hW _ wg177⟩ (pw_V hK hP hD (ci := 0) (q0 := 3) rfl rfl) rfl rfl hl.1 rfl (lv_room (Nat.le_of_ble_eq_true rfl)) dX4_drive_61 ⟨Nat.zero_le _, Nat.zero_le _⟩) ?_
            refine lv_istore (lv' := [(4, .int r61), (0, .ref (a 5)), (1, .ref (a 3)), (3, .int x3)]) hx hb dX4_drive_64 hl (by decide) rfl (fun ls hl => ?_)
            refine lv_aload_n hx hb dX4_drive_66 rfl (lv_at hl 2 rfl) ?_
            refine lv_aload_n hx hb dX4_drive_67 rfl (lv_at hl 1 rfl) ?_
            refine va_get (D := D) (ci := 4) (v := .int (σ.1 11)) (C := RX4) (T := TX4) (N := 7) hx hb hW inX4G hown hK.1 hP 5 rfl rfl 4 (by decide) (hW _ wg235) (fun _ h9 => h9) rfl dX4_drive_68 ?_
            refine lv_iload hx hb dX4_drive_71 (lv_at hl 0 rfl) ?_
            obtain ⟨r73, hc73, h⟩ := bd_o h
            refine callRI (va_runVN (As := [.int (σ.1 11), .int r61]) (rest := []) ⟨hx, hb, hml, hown, hts⟩ (mX0_hasTwoChoices l D a k _ _ _ _ hc73) ⟨va_cnB 2 hts (wg_c wg170) rfl rfl rfl (hK.2 _ nw240) (hW _ wg78) hdX0_hasTwoChoices ⟨Nat.le_of_ble_eq_true rfl, Nat.le_of_ble_eq_true rfl⟩, hW _ wg172, hW _ wg173⟩ (pw_V hK hP hD (ci := 0) (q0 := 3) rfl rfl) rfl rfl hl.1 rfl (lv_room (Nat.le_of_ble_eq_true rfl)) dX4_drive_73 ⟨Nat.zero_le _, Nat.zero_le _⟩) ?_
            refine lv_if_eq (tgt := 86) hx hb dX4_drive_76 (by decide) (fun c76 => ?_) (fun c76 => ?_)
            · have h := ite_t h c76
              refine lv_iconst (v := 0) hx hb dX4_drive_86 (by decide) ?_
              exact bX4_drive_L87 C hK _ ih _ _ _ _ H locs ls hP hD hS (lv_sub hl [1, 2, 3, 0] rfl) h
            · have h := ite_f h c76
              refine lv_aload_n hx hb dX4_drive_79 rfl (lv_at hl 1 rfl) ?_
              obtain ⟨r80, hc80, h⟩ := bd_o h
              refine callWI (va_runV (As := []) (rest := []) ⟨hx, hb, hml, hown, hts⟩ (mX4_draw l D a k _ _ hc80) ⟨callB_of 0 hts (wg_c wg242) rfl rfl rfl (hW _ wg243) (hW _ wg241) hdX4_draw ⟨Nat.le_of_ble_eq_true rfl, Nat.le_of_ble_eq_true rfl⟩, hW _ wg244, hW _ wg245⟩ (pw_V hK hP hD (ci := 4) (q0 := 5) rfl rfl) rfl rfl hl.1 rfl (lv_room (Nat.le_of_ble_eq_true rfl)) dX4_drive_80 ⟨Nat.zero_le _, Nat.zero_le _⟩) hS (fun H locs hP hS => ?_)
              have hD : va_D (AX a) (wX a k r80.2) := dX hD
              refine lv_goto (tgt := 87) hx hb dX4_drive_83 (by decide) ?_
              exact bX4_drive_L87 C hK _ ih _ _ _ _ H locs ls hP hD hS (lv_sub hl [1, 2, 3, 0] rfl) h
set_option maxHeartbeats 4000000 in
set_option maxRecDepth 100000 in
theorem mX4_drive (l : Launch) (D : va_G) (a : Nat → Nat) (k : Nat → ClassId) (σ : ST) (x2 x3 : Int32) (o : ST) (h : fX4_drive σ x2 x3 = some o) : Met l yX4_drive ((Cond.code yX4_drive cX4_drive 6 none) :: WG) ({ frames := 4, cells := 0, slots := 0, locals := 98 } : Room) (Pw D (tX k) (AX a) (wX a k σ) [.ref (a 5), .ref (a 3), .int x2, .int x3]) (va_Qv (S := Unit) (fun _ => True) (fun _ t => va_P D vwCl (wX a k o) t.heap) (AX a)) 0 0 (AX a) := by
  refine Met.ofW (cc := cX4_drive) (maxL := 6) (ret := none) (by decide) rfl ?_
  intro p e s m args below meth c s₁ B hml0 hv
  have C : Cx p s m args meth c cX4_drive 6 RX4 (Cond.code yX4_drive cX4_drive 6 none) none := ⟨B.exec, B.bytes, B.returns, hml0, findClass_of_methodNamed B.named, atoms_spec (ws := (Cond.code yX4_drive cX4_drive 6 none) :: WG) B.pre, B.notSynchronized⟩
  obtain ⟨rfl, hP, hK, hD⟩ := hv
  have hK : Kx D (tX k) s := hK
  have C0 := C
  obtain ⟨hx, hb, hr, hml, hown, hts, hlocks⟩ := C0
  have hW : ∀ w ∈ WG, w.before _ s = true := fun w h => hts w (List.mem_cons_of_mem _ h)
  show W p l e ({ frames := 4, cells := 0, slots := 0, locals := 98 } : Room) s m _ below meth c s.heap [] 0 0 _ _
  have hl := lv_entry ([.ref (a 5), .ref (a 3), .int x2, .int x3]) (n := 6) (Nat.le_of_ble_eq_true rfl)
  rw [lg_entry_eq]
  generalize (lg_sl ([.ref (a 5), .ref (a 3), .int x2, .int x3]) ++ List.replicate (6 - (lg_sl ([.ref (a 5), .ref (a 3), .int x2, .int x3])).length) Slot.unset).toArray = ls at hl ⊢
  have hl : lv_has ls 6 [(0, .ref (a 5)), (1, .ref (a 3)), (2, .int x2), (3, .int x3)] := hl
  have hS : va_S (AX a) s.heap s.heap [] := va_S.rf
  suffices hgo : ∀ (H : Heap) (locs : List Loc), va_P D vwCl (wX a k σ) H → va_S (AX a) s.heap H locs → W p l e ({ frames := 4, cells := 0, slots := 0, locals := 98 } : Room) s m _ below meth c H locs 0 0 (MQ below (va_Qv (S := Unit) (fun _ => True) (fun _ t => va_P D vwCl (wX a k o) t.heap) (AX a)) _ s 0 0 (AX a)) (F0 m 0 ls []) from hgo _ _ hP hS
  clear hP hS
  intro H locs hP hS
  unfold fX4_drive at h
  refine lv_aload_n hx hb dX4_drive_0 rfl (lv_at hl 0 rfl) ?_
  refine lv_iconst (v := 1) hx hb dX4_drive_1 (by decide) ?_
  refine va_put (D := D) (ci := 4) (v := .int 1) (ty := .boolean) (C := RX4) (T := TX4) (N := 7) hx hb hW inX4G tyX4 tyX4_ok nmX4 hown hK.1 hP hD hS 5 rfl rfl 1 (by decide) (hW _ wg246) (fun _ h9 => h9) rfl (by decide +kernel) rfl rfl (Nat.le_of_ble_eq_true rfl) dX4_drive_2 (fun H locs hP hD9 hS => ?_)
  obtain ⟨s2, es2⟩ : ∃ z : ST, z = setF σ 8 1 := ⟨_, rfl⟩
  have h := nm_o h es2
  have hP : va_P D vwCl (wX a k s2) H := by rw [es2]; exact hP
  have hD : va_D (AX a) (wX a k s2) := dX hD
  refine lv_aload_n hx hb dX4_drive_5 rfl (lv_at hl 0 rfl) ?_
  refine lv_iconst (v := 0) hx hb dX4_drive_6 (by decide) ?_
  refine va_put (D := D) (ci := 4) (v := .int 0) (ty := .int) (C := RX4) (T := TX4) (N := 7) hx hb hW inX4G tyX4 tyX4_ok nmX4 hown hK.1 hP hD hS 5 rfl rfl 2 (by decide) (hW _ wg234) (fun _ h9 => h9) rfl (by decide +kernel) rfl rfl (Nat.le_of_ble_eq_true rfl) dX4_drive_7 (fun H locs hP hD9 hS => ?_)
  obtain ⟨s7, es7⟩ : ∃ z : ST, z = setF s2 9 0 := ⟨_, rfl⟩
  have h := nm_o h es7
  have hP : va_P D vwCl (wX a k s7) H := by rw [es7]; exact hP
  have hD : va_D (AX a) (wX a k s7) := dX hD
  refine lv_aload_n hx hb dX4_drive_10 rfl (lv_at hl 0 rfl) ?_
  refine lv_iconst (v := 0) hx hb dX4_drive_11 (by decide) ?_
  refine va_put (D := D) (ci := 4) (v := .int 0) (ty := .int) (C := RX4) (T := TX4) (N := 7) hx hb hW inX4G tyX4 tyX4_ok nmX4 hown hK.1 hP hD hS 5 rfl rfl 3 (by decide) (hW _ wg232) (fun _ h9 => h9) rfl (by decide +kernel) rfl rfl (Nat.le_of_ble_eq_true rfl) dX4_drive_12 (fun H locs hP hD9 hS => ?_)
  obtain ⟨s12, es12⟩ : ∃ z : ST, z = setF s7 10 0 := ⟨_, rfl⟩
  have h := nm_o h es12
  have hP : va_P D vwCl (wX a k s12) H := by rw [es12]; exact hP
  have hD : va_D (AX a) (wX a k s12) := dX hD
  refine lv_aload_n hx hb dX4_drive_15 rfl (lv_at hl 0 rfl) ?_
  refine lv_iload_n hx hb dX4_drive_16 rfl (lv_at hl 2 rfl) ?_
  refine va_put (D := D) (ci := 4) (v := .int x2) (ty := .int) (C := RX4) (T := TX4) (N := 7) hx hb hW inX4G tyX4 tyX4_ok nmX4 hown hK.1 hP hD hS 5 rfl rfl 6 (by decide) (hW _ wg231) (fun _ h9 => h9) rfl (by decide +kernel) rfl rfl (Nat.le_of_ble_eq_true rfl) dX4_drive_17 (fun H locs hP hD9 hS => ?_)
  obtain ⟨s17, es17⟩ : ∃ z : ST, z = setF s12 13 x2 := ⟨_, rfl⟩
  have h := nm_o h es17
  have hP : va_P D vwCl (wX a k s17) H := by rw [es17]; exact hP
  have hD : va_D (AX a) (wX a k s17) := dX hD
  refine lv_aload_n hx hb dX4_drive_20 rfl (lv_at hl 0 rfl) ?_
  refine lv_aload_n hx hb dX4_drive_21 rfl (lv_at hl 1 rfl) ?_
  obtain ⟨r22, hc22, h⟩ := bd_o h
  refine callRI (va_runVN (As := []) (rest := [.ref (a 5)]) ⟨hx, hb, hml, hown, hts⟩ (mX0_firstNode l D a k _ _ hc22) ⟨va_cnB 0 hts (wg_c wg200) rfl rfl rfl (hK.2 _ nw247) (hW _ wg78) hdX0_firstNode ⟨Nat.le_of_ble_eq_true rfl, Nat.le_of_ble_eq_true rfl⟩, hW _ wg202, hW _ wg203⟩ (pw_V hK hP hD (ci := 0) (q0 := 3) rfl rfl) rfl rfl hl.1 rfl (lv_room (Nat.le_of_ble_eq_true rfl)) dX4_drive_22 ⟨Nat.zero_le _, Nat.zero_le _⟩) ?_
  refine va_put (D := D) (ci := 4) (v := .int r22) (ty := .int) (C := RX4) (T := TX4) (N := 7) hx hb hW inX4G tyX4 tyX4_ok nmX4 hown hK.1 hP hD hS 5 rfl rfl 4 (by decide) (hW _ wg235) (fun _ h9 => h9) rfl (by decide +kernel) rfl rfl (Nat.le_of_ble_eq_true rfl) dX4_drive_25 (fun H locs hP hD9 hS => ?_)
  obtain ⟨s25, es25⟩ : ∃ z : ST, z = setF s17 11 r22 := ⟨_, rfl⟩
  have h := nm_o h es25
  have hP : va_P D vwCl (wX a k s25) H := by rw [es25]; exact hP
  have hD : va_D (AX a) (wX a k s25) := dX hD
  exact bX4_drive_L28 C hK FUEL _ _ H locs ls hP hD hS (lv_sub hl [0, 1, 3] rfl) h
set_option maxHeartbeats 4000000 in
set_option maxRecDepth 100000 in
theorem mX5_run (l : Launch) (D : va_G) (a : Nat → Nat) (k : Nat → ClassId) (σ : ST) (x1 x2 : Int32) (o : Int32 × ST) (h : fX5_run σ x1 x2 = some o) : Met l yX5_run ((Cond.code yX5_run cX5_run 3 (some .int)) :: WG) ({ frames := 5, cells := 0, slots := 0, locals := 123 } : Room) (Pw D (tX k) (AX a) (wX a k σ) [.ref (a 0), .int x1, .int x2]) (va_Qi (S := Unit) (fun z _ => z = o.1) (fun _ t => va_P D vwCl (wX a k o.2) t.heap) (AX a)) 0 0 (AX a) := by
  refine Met.ofW (cc := cX5_run) (maxL := 3) (ret := (some .int)) (by decide) rfl ?_
  intro p e s m args below meth c s₁ B hml0 hv
  have C : Cx p s m args meth c cX5_run 3 RX5 (Cond.code yX5_run cX5_run 3 (some .int)) (some .int) := ⟨B.exec, B.bytes, B.returns, hml0, findClass_of_methodNamed B.named, atoms_spec (ws := (Cond.code yX5_run cX5_run 3 (some .int)) :: WG) B.pre, B.notSynchronized⟩
  obtain ⟨rfl, hP, hK, hD⟩ := hv
  have hK : Kx D (tX k) s := hK
  have C0 := C
  obtain ⟨hx, hb, hr, hml, hown, hts, hlocks⟩ := C0
  have hW : ∀ w ∈ WG, w.before _ s = true := fun w h => hts w (List.mem_cons_of_mem _ h)
  show W p l e ({ frames := 5, cells := 0, slots := 0, locals := 123 } : Room) s m _ below meth c s.heap [] 0 0 _ _
  have hl := lv_entry ([.ref (a 0), .int x1, .int x2]) (n := 3) (Nat.le_of_ble_eq_true rfl)
  rw [lg_entry_eq]
  generalize (lg_sl ([.ref (a 0), .int x1, .int x2]) ++ List.replicate (3 - (lg_sl ([.ref (a 0), .int x1, .int x2])).length) Slot.unset).toArray = ls at hl ⊢
  have hl : lv_has ls 3 [(0, .ref (a 0)), (1, .int x1), (2, .int x2)] := hl
  have hS : va_S (AX a) s.heap s.heap [] := va_S.rf
  suffices hgo : ∀ (H : Heap) (locs : List Loc), va_P D vwCl (wX a k σ) H → va_S (AX a) s.heap H locs → W p l e ({ frames := 5, cells := 0, slots := 0, locals := 123 } : Room) s m _ below meth c H locs 0 0 (MQ below (va_Qi (S := Unit) (fun z _ => z = o.1) (fun _ t => va_P D vwCl (wX a k o.2) t.heap) (AX a)) _ s 0 0 (AX a)) (F0 m 0 ls []) from hgo _ _ hP hS
  clear hP hS
  intro H locs hP hS
  unfold fX5_run at h
  refine lv_iload_n hx hb dX5_run_0 rfl (lv_at hl 2 rfl) ?_
  refine lv_iconst (v := 1) hx hb dX5_run_1 (by decide) ?_
  refine lv_icmp_lt (tgt := 11) hx hb dX5_run_2 (by decide) (fun c2 => ?_) (fun c2 => ?_)
  · have h := ite_t h c2
    refine lv_bipush (v := (-102)) hx hb dX5_run_11 (by decide) ?_
    have h := Option.some.inj h
    subst h
    exact W.iret (v := (-102)) hx hb hr (fun t ht hW9 => ⟨⟨(-102), (), rfl, rfl, by show va_P _ _ _ t.heap; rw [ht]; exact hP⟩, hS.F ht⟩) hS.2.2 dX5_run_13 hlocks
  · have h := ite_f h c2
    refine lv_iload_n hx hb dX5_run_5 rfl (lv_at hl 2 rfl) ?_
    refine lv_bipush (v := 100) hx hb dX5_run_6 (by decide) ?_
    refine lv_icmp_le (tgt := 14) hx hb dX5_run_8 (by decide) (fun c8 => ?_) (fun c8 => ?_)
    · have h := ite_t h c8
      refine lv_aload_n hx hb dX5_run_14 rfl (lv_at hl 0 rfl) ?_
      refine va_get (D := D) (ci := 5) (v := .ref (a 5)) (C := RX5) (T := TX5) (N := 6) hx hb hW inX5G hown hK.1 hP 0 rfl rfl 4 (by decide) (hW _ wg248) (fun _ h9 => h9) rfl dX5_run_15 ?_
      refine lv_aload_n hx hb dX5_run_18 rfl (lv_at hl 0 rfl) ?_
      refine va_get (D := D) (ci := 5) (v := .ref (a 3)) (C := RX5) (T := TX5) (N := 6) hx hb hW inX5G hown hK.1 hP 0 rfl rfl 2 (by decide) (hW _ wg249) (fun _ h9 => h9) rfl dX5_run_19 ?_
      refine lv_iload_n hx hb dX5_run_22 rfl (lv_at hl 1 rfl) ?_
      refine lv_iload_n hx hb dX5_run_23 rfl (lv_at hl 2 rfl) ?_
      obtain ⟨r24, hc24, h⟩ := bd_o h
      refine callWV (va_runVN (As := [.ref (a 3), .int x1, .int x2]) (rest := []) ⟨hx, hb, hml, hown, hts⟩ (mX4_drive l D a k _ _ _ _ hc24) ⟨va_cnB 3 hts (wg_c wg250) rfl rfl rfl (hK.2 _ nw251) (hW _ wg243) hdX4_drive ⟨Nat.le_of_ble_eq_true rfl, Nat.le_of_ble_eq_true rfl⟩, hW _ wg252, hW _ wg253⟩ (pw_V hK hP hD (ci := 4) (q0 := 5) rfl rfl) rfl rfl hl.1 rfl (lv_room (Nat.le_of_ble_eq_true rfl)) dX5_run_24 ⟨Nat.zero_le _, Nat.zero_le _⟩) hS (fun H locs hP hS => ?_)
      have hD : va_D (AX a) (wX a k r24) := dX hD
      refine lv_aload_n hx hb dX5_run_27 rfl (lv_at hl 0 rfl) ?_
      refine va_get (D := D) (ci := 5) (v := .ref (a 5)) (C := RX5) (T := TX5) (N := 6) hx hb hW inX5G hown hK.1 hP 0 rfl rfl 4 (by decide) (hW _ wg248) (fun _ h9 => h9) rfl dX5_run_28 ?_
      refine lv_aload_n hx hb dX5_run_31 rfl (lv_at hl 0 rfl) ?_
      refine va_get (D := D) (ci := 5) (v := .ref (a 1)) (C := RX5) (T := TX5) (N := 6) hx hb hW inX5G hown hK.1 hP 0 rfl rfl 0 (by decide) (hW _ wg8) (fun _ h9 => h9) rfl dX5_run_32 ?_
      refine va_getN (D := D) (ci := 3) (v := .int (r24.1 1)) (C := RX3) (T := TX3) (N := 4) hx hb hW inX3G hown hK.1 hP 1 rfl rfl 3 (by decide) (hK.2.fld nw9) (fun _ h9 => h9) rfl dX5_run_35 ?_
      refine va_putN (D := D) (ci := 4) (v := .int (r24.1 1)) (ty := .int) (C := RX4) (T := TX4) (N := 7) hx hb hW inX4G tyX4 tyX4_ok nmX4 hown hK.1 hP hD hS 5 rfl rfl 5 (by decide) (hK.2.fld nw254) (fun _ h9 => h9) rfl (by decide +kernel) rfl rfl (Nat.le_of_ble_eq_true rfl) dX5_run_38 (fun H locs hP hD9 hS => ?_)
      obtain ⟨s38, es38⟩ : ∃ z : ST, z = setF r24 12 (r24.1 1) := ⟨_, rfl⟩
      have h := nm_o h es38
      have hP : va_P D vwCl (wX a k s38) H := by rw [es38]; exact hP
      have hD : va_D (AX a) (wX a k s38) := dX hD
      refine lv_aload_n hx hb dX5_run_41 rfl (lv_at hl 0 rfl) ?_
      refine va_get (D := D) (ci := 5) (v := .ref (a 5)) (C := RX5) (T := TX5) (N := 6) hx hb hW inX5G hown hK.1 hP 0 rfl rfl 4 (by decide) (hW _ wg248) (fun _ h9 => h9) rfl dX5_run_42 ?_
      refine va_getN (D := D) (ci := 4) (v := .int (s38.1 9)) (C := RX4) (T := TX4) (N := 7) hx hb hW inX4G hown hK.1 hP 5 rfl rfl 2 (by decide) (hK.2.fld nw255) (fun _ h9 => h9) rfl dX5_run_45 ?_
      have h := Option.some.inj h
      subst h
      exact W.iret (v := (s38.1 9)) hx hb hr (fun t ht hW9 => ⟨⟨(s38.1 9), (), rfl, rfl, by show va_P _ _ _ t.heap; rw [ht]; exact hP⟩, hS.F ht⟩) hS.2.2 dX5_run_48 hlocks
    · have h := ite_f h c8
      refine lv_bipush (v := (-102)) hx hb dX5_run_11 (by decide) ?_
      have h := Option.some.inj h
      subst h
      exact W.iret (v := (-102)) hx hb hr (fun t ht hW9 => ⟨⟨(-102), (), rfl, rfl, by show va_P _ _ _ t.heap; rw [ht]; exact hP⟩, hS.F ht⟩) hS.2.2 dX5_run_13 hlocks
set_option maxHeartbeats 4000000 in
set_option maxRecDepth 100000 in
theorem mX5_ran (l : Launch) (D : va_G) (a : Nat → Nat) (k : Nat → ClassId) (σ : ST) (x1 : Int32) (o : Int32) (h : fX5_ran σ x1 = some o) : Met l yX5_ran ((Cond.code yX5_ran cX5_ran 2 (some .int)) :: WG) ({ frames := 1, cells := 0, slots := 0, locals := 21 } : Room) (Pw D (tX k) (AX a) (wX a k σ) [.ref (a 0), .int x1]) (vp_Si (fun z => z = o)) 0 0 (fun _ => False) := by
  refine Met.ofW (cc := cX5_ran) (maxL := 2) (ret := (some .int)) (by decide) rfl ?_
  intro p e s m args below meth c s₁ B hml0 hv
  have C : Cx p s m args meth c cX5_ran 2 RX5 (Cond.code yX5_ran cX5_ran 2 (some .int)) (some .int) := ⟨B.exec, B.bytes, B.returns, hml0, findClass_of_methodNamed B.named, atoms_spec (ws := (Cond.code yX5_ran cX5_ran 2 (some .int)) :: WG) B.pre, B.notSynchronized⟩
  obtain ⟨rfl, hP, hK, hD⟩ := hv
  have hK : Kx D (tX k) s := hK
  have C0 := C
  obtain ⟨hx, hb, hr, hml, hown, hts, hlocks⟩ := C0
  have hW : ∀ w ∈ WG, w.before _ s = true := fun w h => hts w (List.mem_cons_of_mem _ h)
  show W p l e ({ frames := 1, cells := 0, slots := 0, locals := 21 } : Room) s m _ below meth c s.heap [] 0 0 _ _
  have hl := lv_entry ([.ref (a 0), .int x1]) (n := 2) (Nat.le_of_ble_eq_true rfl)
  rw [lg_entry_eq]
  generalize (lg_sl ([.ref (a 0), .int x1]) ++ List.replicate (2 - (lg_sl ([.ref (a 0), .int x1])).length) Slot.unset).toArray = ls at hl ⊢
  have hl : lv_has ls 2 [(0, .ref (a 0)), (1, .int x1)] := hl
  unfold fX5_ran at h
  refine lv_iload_n hx hb dX5_ran_0 rfl (lv_at hl 1 rfl) ?_
  refine lv_aload_n hx hb dX5_ran_1 rfl (lv_at hl 0 rfl) ?_
  refine va_get (D := D) (ci := 5) (v := .ref (a 5)) (C := RX5) (T := TX5) (N := 6) hx hb hW inX5G hown hK.1 hP 0 rfl rfl 4 (by decide) (hW _ wg248) (fun _ h9 => h9) rfl dX5_ran_2 ?_
  refine va_getN (D := D) (ci := 4) (v := .int (σ.1 9)) (C := RX4) (T := TX4) (N := 7) hx hb hW inX4G hown hK.1 hP 5 rfl rfl 2 (by decide) (hK.2.fld nw255) (fun _ h9 => h9) rfl dX5_ran_5 ?_
  obtain ⟨r8, hc8, h⟩ := bd_o h
  refine callRI (va_runS (As := [.int x1, .int (σ.1 9)]) (rest := []) ⟨hx, hb, hml, hown, hts⟩ (mX5_isWithin l _ _ _ hc8) ⟨callB_of 2 hts (wg_c wg1) rfl rfl rfl (hW _ wg3) (hW _ wg27) hdX5_isWithin ⟨Nat.le_of_ble_eq_true rfl, Nat.le_of_ble_eq_true rfl⟩, hW _ wg4⟩ preEq rfl rfl hl.1 rfl (lv_room (Nat.le_of_ble_eq_true rfl)) dX5_ran_8 ⟨Nat.zero_le _, Nat.zero_le _⟩) ?_
  refine lv_if_eq (tgt := 26) hx hb dX5_ran_11 (by decide) (fun c11 => ?_) (fun c11 => ?_)
  · have h := ite_t h c11
    refine lv_iconst (v := (-1)) hx hb dX5_ran_26 (by decide) ?_
    have h := Option.some.inj h
    subst h
    exact W.iret (v := (-1)) hx hb hr (fun t ht hW9 => ⟨(-1), rfl, rfl, ht⟩) (fun _ h9 => absurd h9 List.not_mem_nil) dX5_ran_27 hlocks
  · have h := ite_f h c11
    refine lv_aload_n hx hb dX5_ran_14 rfl (lv_at hl 0 rfl) ?_
    refine va_get (D := D) (ci := 5) (v := .ref (a 5)) (C := RX5) (T := TX5) (N := 6) hx hb hW inX5G hown hK.1 hP 0 rfl rfl 4 (by decide) (hW _ wg248) (fun _ h9 => h9) rfl dX5_ran_15 ?_
    refine va_getN (D := D) (ci := 4) (v := .ref (a 20)) (C := RX4) (T := TX4) (N := 7) hx hb hW inX4G hown hK.1 hP 5 rfl rfl 0 (by decide) (hK.2.fld nw256) (fun _ h9 => h9) rfl dX5_ran_18 ?_
    refine lv_iload_n hx hb dX5_ran_21 rfl (lv_at hl 1 rfl) ?_
    obtain ⟨hi22, h⟩ := ix_o h
    refine va_iald (D := D) hx hb hK.1 hP 20 14 rfl rfl hi22 dX5_ran_22 ?_
    refine lv_goto (tgt := 27) hx hb dX5_ran_23 (by decide) ?_
    have h := Option.some.inj h
    subst h
    exact W.iret (v := (σ.2 14 x1.toNatClampNeg)) hx hb hr (fun t ht hW9 => ⟨(σ.2 14 x1.toNatClampNeg), rfl, rfl, ht⟩) (fun _ h9 => absurd h9 List.not_mem_nil) dX5_ran_27 hlocks
set_option maxHeartbeats 4000000 in
set_option maxRecDepth 100000 in
theorem mX5_came (l : Launch) (D : va_G) (a : Nat → Nat) (k : Nat → ClassId) (σ : ST) (x1 : Int32) (o : Int32) (h : fX5_came σ x1 = some o) : Met l yX5_came ((Cond.code yX5_came cX5_came 3 (some .int)) :: WG) ({ frames := 1, cells := 0, slots := 0, locals := 21 } : Room) (Pw D (tX k) (AX a) (wX a k σ) [.ref (a 0), .int x1]) (vp_Si (fun z => z = o)) 0 0 (fun _ => False) := by
  refine Met.ofW (cc := cX5_came) (maxL := 3) (ret := (some .int)) (by decide) rfl ?_
  intro p e s m args below meth c s₁ B hml0 hv
  have C : Cx p s m args meth c cX5_came 3 RX5 (Cond.code yX5_came cX5_came 3 (some .int)) (some .int) := ⟨B.exec, B.bytes, B.returns, hml0, findClass_of_methodNamed B.named, atoms_spec (ws := (Cond.code yX5_came cX5_came 3 (some .int)) :: WG) B.pre, B.notSynchronized⟩
  obtain ⟨rfl, hP, hK, hD⟩ := hv
  have hK : Kx D (tX k) s := hK
  have C0 := C
  obtain ⟨hx, hb, hr, hml, hown, hts, hlocks⟩ := C0
  have hW : ∀ w ∈ WG, w.before _ s = true := fun w h => hts w (List.mem_cons_of_mem _ h)
  show W p l e ({ frames := 1, cells := 0, slots := 0, locals := 21 } : Room) s m _ below meth c s.heap [] 0 0 _ _
  have hl := lv_entry ([.ref (a 0), .int x1]) (n := 3) (Nat.le_of_ble_eq_true rfl)
  rw [lg_entry_eq]
  generalize (lg_sl ([.ref (a 0), .int x1]) ++ List.replicate (3 - (lg_sl ([.ref (a 0), .int x1])).length) Slot.unset).toArray = ls at hl ⊢
  have hl : lv_has ls 3 [(0, .ref (a 0)), (1, .int x1)] := hl
  unfold fX5_came at h
  refine lv_iload_n hx hb dX5_came_0 rfl (lv_at hl 1 rfl) ?_
  refine lv_bipush (v := 7) hx hb dX5_came_1 (by decide) ?_
  obtain ⟨r3, hc3, h⟩ := bd_o h
  refine callRI (va_runS (As := [.int x1, .int 7]) (rest := []) ⟨hx, hb, hml, hown, hts⟩ (mX5_isWithin l _ _ _ hc3) ⟨callB_of 2 hts (wg_c wg1) rfl rfl rfl (hW _ wg3) (hW _ wg27) hdX5_isWithin ⟨Nat.le_of_ble_eq_true rfl, Nat.le_of_ble_eq_true rfl⟩, hW _ wg4⟩ preEq rfl rfl hl.1 rfl (lv_room (Nat.le_of_ble_eq_true rfl)) dX5_came_3 ⟨Nat.zero_le _, Nat.zero_le _⟩) ?_
  refine lv_if_ne (tgt := 12) hx hb dX5_came_6 (by decide) (fun c6 => ?_) (fun c6 => ?_)
  · have h := ite_f h c6
    refine lv_aload_n hx hb dX5_came_12 rfl (lv_at hl 0 rfl) ?_
    refine va_get (D := D) (ci := 5) (v := .ref (a 5)) (C := RX5) (T := TX5) (N := 6) hx hb hW inX5G hown hK.1 hP 0 rfl rfl 4 (by decide) (hW _ wg248) (fun _ h9 => h9) rfl dX5_came_13 ?_
    refine va_getN (D := D) (ci := 4) (v := .int (σ.1 8)) (C := RX4) (T := TX4) (N := 7) hx hb hW inX4G hown hK.1 hP 5 rfl rfl 1 (by decide) (hK.2.fld nw257) (fun _ h9 => h9) rfl dX5_came_16 ?_
    refine lv_if_ne (tgt := 25) hx hb dX5_came_19 (by decide) (fun c19 => ?_) (fun c19 => ?_)
    · have h := ite_f h c19
      refine lv_iload_n hx hb dX5_came_25 rfl (lv_at hl 1 rfl) ?_
      refine lv_if_ne (tgt := 40) hx hb dX5_came_26 (by decide) (fun c26 => ?_) (fun c26 => ?_)
      · have h := ite_f h c26
        refine lv_iload_n hx hb dX5_came_40 rfl (lv_at hl 1 rfl) ?_
        refine lv_iconst (v := 1) hx hb dX5_came_41 (by decide) ?_
        refine lv_icmp_ne (tgt := 53) hx hb dX5_came_42 (by decide) (fun c42 => ?_) (fun c42 => ?_)
        · have h := ite_f h c42
          refine lv_iload_n hx hb dX5_came_53 rfl (lv_at hl 1 rfl) ?_
          refine lv_iconst (v := 2) hx hb dX5_came_54 (by decide) ?_
          refine lv_isub hx hb dX5_came_55 ?_
          refine lv_topi (fun x2_56 ex2_56 => ?_)
          have h := nm_o h ex2_56
          refine lv_istore_n (lv' := [(2, .int x2_56), (0, .ref (a 0)), (1, .int x1)]) hx hb dX5_came_56 rfl hl (by decide) rfl (fun ls hl => ?_)
          refine lv_iload_n hx hb dX5_came_57 rfl (lv_at hl 0 rfl) ?_
          refine lv_aload_n hx hb dX5_came_58 rfl (lv_at hl 1 rfl) ?_
          refine va_get (D := D) (ci := 5) (v := .ref (a 5)) (C := RX5) (T := TX5) (N := 6) hx hb hW inX5G hown hK.1 hP 0 rfl rfl 4 (by decide) (hW _ wg248) (fun _ h9 => h9) rfl dX5_came_59 ?_
          refine va_getN (D := D) (ci := 4) (v := .int (σ.1 12)) (C := RX4) (T := TX4) (N := 7) hx hb hW inX4G hown hK.1 hP 5 rfl rfl 5 (by decide) (hK.2.fld nw254) (fun _ h9 => h9) rfl dX5_came_62 ?_
          refine lv_icmp_ge (tgt := 85) hx hb dX5_came_65 (by decide) (fun c65 => ?_) (fun c65 => ?_)
          · have h := ite_t h c65
            refine lv_bipush (v := (-103)) hx hb dX5_came_85 (by decide) ?_
            have h := Option.some.inj h
            subst h
            exact W.iret (v := (-103)) hx hb hr (fun t ht hW9 => ⟨(-103), rfl, rfl, ht⟩) (fun _ h9 => absurd h9 List.not_mem_nil) dX5_came_87 hlocks
          · have h := ite_f h c65
            refine lv_aload_n hx hb dX5_came_68 rfl (lv_at hl 1 rfl) ?_
            refine va_get (D := D) (ci := 5) (v := .ref (a 5)) (C := RX5) (T := TX5) (N := 6) hx hb hW inX5G hown hK.1 hP 0 rfl rfl 4 (by decide) (hW _ wg248) (fun _ h9 => h9) rfl dX5_came_69 ?_
            refine va_getN (D := D) (ci := 4) (v := .int (σ.1 11)) (C := RX4) (T := TX4) (N := 7) hx hb hW inX4G hown hK.1 hP 5 rfl rfl 4 (by decide) (hK.2.fld nw258) (fun _ h9 => h9) rfl dX5_came_72 ?_
            obtain ⟨r75, hc75, h⟩ := bd_o h
            refine callRI (va_runS (As := [.int (σ.1 11)]) (rest := []) ⟨hx, hb, hml, hown, hts⟩ (mX5_allOf l _ _ hc75) ⟨callB_of 1 hts (wg_c wg101) rfl rfl rfl (hW _ wg3) (hW _ wg259) hdX5_allOf ⟨Nat.le_of_ble_eq_true rfl, Nat.le_of_ble_eq_true rfl⟩, hW _ wg103⟩ preEq rfl rfl hl.1 rfl (lv_room (Nat.le_of_ble_eq_true rfl)) dX5_came_75 ⟨Nat.zero_le _, Nat.zero_le _⟩) ?_
            refine lv_iload_n hx hb dX5_came_78 rfl (lv_at hl 0 rfl) ?_
            obtain ⟨r79, hc79, h⟩ := bd_o h
            refine callRI (va_runS (As := [.int r75, .int x2_56]) (rest := []) ⟨hx, hb, hml, hown, hts⟩ (mX5_stateIn l _ _ _ hc79) ⟨callB_of 2 hts (wg_c wg82) rfl rfl rfl (hW _ wg3) (hW _ wg260) hdX5_stateIn ⟨Nat.le_of_ble_eq_true rfl, Nat.le_of_ble_eq_true rfl⟩, hW _ wg84⟩ preEq rfl rfl hl.1 rfl (lv_room (Nat.le_of_ble_eq_true rfl)) dX5_came_79 ⟨Nat.zero_le _, Nat.zero_le _⟩) ?_
            refine lv_goto (tgt := 87) hx hb dX5_came_82 (by decide) ?_
            have h := Option.some.inj h
            subst h
            exact W.iret (v := r79) hx hb hr (fun t ht hW9 => ⟨r79, rfl, rfl, ht⟩) (fun _ h9 => absurd h9 List.not_mem_nil) dX5_came_87 hlocks
        · have h := ite_t h c42
          refine lv_aload_n hx hb dX5_came_45 rfl (lv_at hl 0 rfl) ?_
          refine va_get (D := D) (ci := 5) (v := .ref (a 5)) (C := RX5) (T := TX5) (N := 6) hx hb hW inX5G hown hK.1 hP 0 rfl rfl 4 (by decide) (hW _ wg248) (fun _ h9 => h9) rfl dX5_came_46 ?_
          refine va_getN (D := D) (ci := 4) (v := .int (σ.1 10)) (C := RX4) (T := TX4) (N := 7) hx hb hW inX4G hown hK.1 hP 5 rfl rfl 3 (by decide) (hK.2.fld nw261) (fun _ h9 => h9) rfl dX5_came_49 ?_
          have h := Option.some.inj h
          subst h
          exact W.iret (v := (σ.1 10)) hx hb hr (fun t ht hW9 => ⟨(σ.1 10), rfl, rfl, ht⟩) (fun _ h9 => absurd h9 List.not_mem_nil) dX5_came_52 hlocks
      · have h := ite_t h c26
        refine lv_aload_n hx hb dX5_came_29 rfl (lv_at hl 0 rfl) ?_
        refine va_get (D := D) (ci := 5) (v := .ref (a 5)) (C := RX5) (T := TX5) (N := 6) hx hb hW inX5G hown hK.1 hP 0 rfl rfl 4 (by decide) (hW _ wg248) (fun _ h9 => h9) rfl dX5_came_30 ?_
        refine va_getN (D := D) (ci := 4) (v := .int (σ.1 11)) (C := RX4) (T := TX4) (N := 7) hx hb hW inX4G hown hK.1 hP 5 rfl rfl 4 (by decide) (hK.2.fld nw258) (fun _ h9 => h9) rfl dX5_came_33 ?_
        obtain ⟨r36, hc36, h⟩ := bd_o h
        refine callRI (va_runS (As := [.int (σ.1 11)]) (rest := []) ⟨hx, hb, hml, hown, hts⟩ (mX5_placeOf l _ _ hc36) ⟨callB_of 1 hts (wg_c wg98) rfl rfl rfl (hW _ wg3) (hW _ wg262) hdX5_placeOf ⟨Nat.le_of_ble_eq_true rfl, Nat.le_of_ble_eq_true rfl⟩, hW _ wg100⟩ preEq rfl rfl hl.1 rfl (lv_room (Nat.le_of_ble_eq_true rfl)) dX5_came_36 ⟨Nat.zero_le _, Nat.zero_le _⟩) ?_
        have h := Option.some.inj h
        subst h
        exact W.iret (v := r36) hx hb hr (fun t ht hW9 => ⟨r36, rfl, rfl, ht⟩) (fun _ h9 => absurd h9 List.not_mem_nil) dX5_came_39 hlocks
    · have h := ite_t h c19
      refine lv_bipush (v := (-103)) hx hb dX5_came_22 (by decide) ?_
      have h := Option.some.inj h
      subst h
      exact W.iret (v := (-103)) hx hb hr (fun t ht hW9 => ⟨(-103), rfl, rfl, ht⟩) (fun _ h9 => absurd h9 List.not_mem_nil) dX5_came_24 hlocks
  · have h := ite_t h c6
    refine lv_bipush (v := (-102)) hx hb dX5_came_9 (by decide) ?_
    have h := Option.some.inj h
    subst h
    exact W.iret (v := (-102)) hx hb hr (fun t ht hW9 => ⟨(-102), rfl, rfl, ht⟩) (fun _ h9 => absurd h9 List.not_mem_nil) dX5_came_11 hlocks
set_option maxHeartbeats 4000000 in
set_option maxRecDepth 100000 in
theorem mX5_told (l : Launch) (D : va_G) (a : Nat → Nat) (k : Nat → ClassId) (σ : ST) (x1 x2 : Int32) (o : Int32) (h : fX5_told σ x1 x2 = some o) : Met l yX5_told ((Cond.code yX5_told cX5_told 3 (some .int)) :: WG) ({ frames := 2, cells := 0, slots := 0, locals := 42 } : Room) (Pw D (tX k) (AX a) (wX a k σ) [.ref (a 0), .int x1, .int x2]) (vp_Si (fun z => z = o)) 0 0 (fun _ => False) := by
  refine Met.ofW (cc := cX5_told) (maxL := 3) (ret := (some .int)) (by decide) rfl ?_
  intro p e s m args below meth c s₁ B hml0 hv
  have C : Cx p s m args meth c cX5_told 3 RX5 (Cond.code yX5_told cX5_told 3 (some .int)) (some .int) := ⟨B.exec, B.bytes, B.returns, hml0, findClass_of_methodNamed B.named, atoms_spec (ws := (Cond.code yX5_told cX5_told 3 (some .int)) :: WG) B.pre, B.notSynchronized⟩
  obtain ⟨rfl, hP, hK, hD⟩ := hv
  have hK : Kx D (tX k) s := hK
  have C0 := C
  obtain ⟨hx, hb, hr, hml, hown, hts, hlocks⟩ := C0
  have hW : ∀ w ∈ WG, w.before _ s = true := fun w h => hts w (List.mem_cons_of_mem _ h)
  show W p l e ({ frames := 2, cells := 0, slots := 0, locals := 42 } : Room) s m _ below meth c s.heap [] 0 0 _ _
  have hl := lv_entry ([.ref (a 0), .int x1, .int x2]) (n := 3) (Nat.le_of_ble_eq_true rfl)
  rw [lg_entry_eq]
  generalize (lg_sl ([.ref (a 0), .int x1, .int x2]) ++ List.replicate (3 - (lg_sl ([.ref (a 0), .int x1, .int x2])).length) Slot.unset).toArray = ls at hl ⊢
  have hl : lv_has ls 3 [(0, .ref (a 0)), (1, .int x1), (2, .int x2)] := hl
  unfold fX5_told at h
  refine lv_aload_n hx hb dX5_told_0 rfl (lv_at hl 0 rfl) ?_
  refine va_get (D := D) (ci := 5) (v := .ref (a 2)) (C := RX5) (T := TX5) (N := 6) hx hb hW inX5G hown hK.1 hP 0 rfl rfl 1 (by decide) (hW _ wg43) (fun _ h9 => h9) rfl dX5_told_1 ?_
  refine lv_iload_n hx hb dX5_told_4 rfl (lv_at hl 1 rfl) ?_
  obtain ⟨r5, hc5, h⟩ := bd_o h
  refine callRI (va_runVN (As := [.int x1]) (rest := []) ⟨hx, hb, hml, hown, hts⟩ (mX2_has l D a k _ _ _ hc5) ⟨va_cnB 1 hts (wg_c wg52) rfl rfl rfl (hK.2 _ nw53) (hW _ wg47) hdX2_has ⟨Nat.le_of_ble_eq_true rfl, Nat.le_of_ble_eq_true rfl⟩, hW _ wg54, hW _ wg55⟩ (pw_V hK hP hD (ci := 2) (q0 := 2) rfl rfl) rfl rfl hl.1 rfl (lv_room (Nat.le_of_ble_eq_true rfl)) dX5_told_5 ⟨Nat.zero_le _, Nat.zero_le _⟩) ?_
  refine lv_if_ne (tgt := 14) hx hb dX5_told_8 (by decide) (fun c8 => ?_) (fun c8 => ?_)
  · have h := ite_f h c8
    refine lv_iload_n hx hb dX5_told_14 rfl (lv_at hl 2 rfl) ?_
    by_cases c15_0 : x2 = 0
    · have h := ite_t h c15_0
      refine lv_tableIn (tgt := 48) hx hb dX5_told_15 (by rw [c15_0]; decide) (by rw [c15_0]; decide) (by rw [c15_0]; rfl) (by decide) ?_
      refine lv_aload_n hx hb dX5_told_48 rfl (lv_at hl 0 rfl) ?_
      refine va_get (D := D) (ci := 5) (v := .ref (a 2)) (C := RX5) (T := TX5) (N := 6) hx hb hW inX5G hown hK.1 hP 0 rfl rfl 1 (by decide) (hW _ wg43) (fun _ h9 => h9) rfl dX5_told_49 ?_
      refine va_getN (D := D) (ci := 2) (v := .ref (a 9)) (C := RX2) (T := TX2) (N := 6) hx hb hW inX2G hown hK.1 hP 2 rfl rfl 0 (by decide) (hK.2.fld nw56) (fun _ h9 => h9) rfl dX5_told_52 ?_
      refine lv_iload_n hx hb dX5_told_55 rfl (lv_at hl 1 rfl) ?_
      obtain ⟨hi56, h⟩ := ix_o h
      refine va_iald (D := D) hx hb hK.1 hP 9 3 rfl rfl hi56 dX5_told_56 ?_
      have h := Option.some.inj h
      subst h
      exact W.iret (v := (σ.2 3 x1.toNatClampNeg)) hx hb hr (fun t ht hW9 => ⟨(σ.2 3 x1.toNatClampNeg), rfl, rfl, ht⟩) (fun _ h9 => absurd h9 List.not_mem_nil) dX5_told_57 hlocks
    · have h := ite_f h c15_0
      by_cases c15_1 : x2 = 1
      · have h := ite_t h c15_1
        refine lv_tableIn (tgt := 58) hx hb dX5_told_15 (by rw [c15_1]; decide) (by rw [c15_1]; decide) (by rw [c15_1]; rfl) (by decide) ?_
        refine lv_aload_n hx hb dX5_told_58 rfl (lv_at hl 0 rfl) ?_
        refine va_get (D := D) (ci := 5) (v := .ref (a 2)) (C := RX5) (T := TX5) (N := 6) hx hb hW inX5G hown hK.1 hP 0 rfl rfl 1 (by decide) (hW _ wg43) (fun _ h9 => h9) rfl dX5_told_59 ?_
        refine va_getN (D := D) (ci := 2) (v := .ref (a 10)) (C := RX2) (T := TX2) (N := 6) hx hb hW inX2G hown hK.1 hP 2 rfl rfl 1 (by decide) (hK.2.fld nw263) (fun _ h9 => h9) rfl dX5_told_62 ?_
        refine lv_iload_n hx hb dX5_told_65 rfl (lv_at hl 1 rfl) ?_
        obtain ⟨hi66, h⟩ := ix_o h
        refine va_iald (D := D) hx hb hK.1 hP 10 4 rfl rfl hi66 dX5_told_66 ?_
        have h := Option.some.inj h
        subst h
        exact W.iret (v := (σ.2 4 x1.toNatClampNeg)) hx hb hr (fun t ht hW9 => ⟨(σ.2 4 x1.toNatClampNeg), rfl, rfl, ht⟩) (fun _ h9 => absurd h9 List.not_mem_nil) dX5_told_67 hlocks
      · have h := ite_f h c15_1
        by_cases c15_2 : x2 = 2
        · have h := ite_t h c15_2
          refine lv_tableIn (tgt := 68) hx hb dX5_told_15 (by rw [c15_2]; decide) (by rw [c15_2]; decide) (by rw [c15_2]; rfl) (by decide) ?_
          refine lv_aload_n hx hb dX5_told_68 rfl (lv_at hl 0 rfl) ?_
          refine va_get (D := D) (ci := 5) (v := .ref (a 2)) (C := RX5) (T := TX5) (N := 6) hx hb hW inX5G hown hK.1 hP 0 rfl rfl 1 (by decide) (hW _ wg43) (fun _ h9 => h9) rfl dX5_told_69 ?_
          refine va_getN (D := D) (ci := 2) (v := .ref (a 11)) (C := RX2) (T := TX2) (N := 6) hx hb hW inX2G hown hK.1 hP 2 rfl rfl 2 (by decide) (hK.2.fld nw264) (fun _ h9 => h9) rfl dX5_told_72 ?_
          refine lv_iload_n hx hb dX5_told_75 rfl (lv_at hl 1 rfl) ?_
          obtain ⟨hi76, h⟩ := ix_o h
          refine va_iald (D := D) hx hb hK.1 hP 11 5 rfl rfl hi76 dX5_told_76 ?_
          have h := Option.some.inj h
          subst h
          exact W.iret (v := (σ.2 5 x1.toNatClampNeg)) hx hb hr (fun t ht hW9 => ⟨(σ.2 5 x1.toNatClampNeg), rfl, rfl, ht⟩) (fun _ h9 => absurd h9 List.not_mem_nil) dX5_told_77 hlocks
        · have h := ite_f h c15_2
          by_cases c15_3 : x2 = 3
          · have h := ite_t h c15_3
            refine lv_tableIn (tgt := 78) hx hb dX5_told_15 (by rw [c15_3]; decide) (by rw [c15_3]; decide) (by rw [c15_3]; rfl) (by decide) ?_
            refine lv_aload_n hx hb dX5_told_78 rfl (lv_at hl 0 rfl) ?_
            refine va_get (D := D) (ci := 5) (v := .ref (a 2)) (C := RX5) (T := TX5) (N := 6) hx hb hW inX5G hown hK.1 hP 0 rfl rfl 1 (by decide) (hW _ wg43) (fun _ h9 => h9) rfl dX5_told_79 ?_
            refine va_getN (D := D) (ci := 2) (v := .ref (a 13)) (C := RX2) (T := TX2) (N := 6) hx hb hW inX2G hown hK.1 hP 2 rfl rfl 4 (by decide) (hK.2.fld nw265) (fun _ h9 => h9) rfl dX5_told_82 ?_
            refine lv_iload_n hx hb dX5_told_85 rfl (lv_at hl 1 rfl) ?_
            obtain ⟨hi86, h⟩ := ix_o h
            refine va_iald (D := D) hx hb hK.1 hP 13 7 rfl rfl hi86 dX5_told_86 ?_
            have h := Option.some.inj h
            subst h
            exact W.iret (v := (σ.2 7 x1.toNatClampNeg)) hx hb hr (fun t ht hW9 => ⟨(σ.2 7 x1.toNatClampNeg), rfl, rfl, ht⟩) (fun _ h9 => absurd h9 List.not_mem_nil) dX5_told_87 hlocks
          · have h := ite_f h c15_3
            by_cases c15_4 : x2 = 4
            · have h := ite_t h c15_4
              refine lv_tableIn (tgt := 88) hx hb dX5_told_15 (by rw [c15_4]; decide) (by rw [c15_4]; decide) (by rw [c15_4]; rfl) (by decide) ?_
              refine lv_aload_n hx hb dX5_told_88 rfl (lv_at hl 0 rfl) ?_
              refine va_get (D := D) (ci := 5) (v := .ref (a 2)) (C := RX5) (T := TX5) (N := 6) hx hb hW inX5G hown hK.1 hP 0 rfl rfl 1 (by decide) (hW _ wg43) (fun _ h9 => h9) rfl dX5_told_89 ?_
              refine va_getN (D := D) (ci := 2) (v := .ref (a 12)) (C := RX2) (T := TX2) (N := 6) hx hb hW inX2G hown hK.1 hP 2 rfl rfl 3 (by decide) (hK.2.fld nw266) (fun _ h9 => h9) rfl dX5_told_92 ?_
              refine lv_iload_n hx hb dX5_told_95 rfl (lv_at hl 1 rfl) ?_
              obtain ⟨hi96, h⟩ := ix_o h
              refine va_zald (D := D) hx hb hK.1 hP 12 6 rfl rfl hi96 dX5_told_96 ?_
              refine lv_if_eq (tgt := 104) hx hb dX5_told_97 (by decide) (fun c97 => ?_) (fun c97 => ?_)
              · have h := ite_t h c97
                refine lv_iconst (v := 0) hx hb dX5_told_104 (by decide) ?_
                have h := Option.some.inj h
                subst h
                exact W.iret (v := 0) hx hb hr (fun t ht hW9 => ⟨0, rfl, rfl, ht⟩) (fun _ h9 => absurd h9 List.not_mem_nil) dX5_told_105 hlocks
              · have h := ite_f h c97
                refine lv_iconst (v := 1) hx hb dX5_told_100 (by decide) ?_
                refine lv_goto (tgt := 105) hx hb dX5_told_101 (by decide) ?_
                have h := Option.some.inj h
                subst h
                exact W.iret (v := 1) hx hb hr (fun t ht hW9 => ⟨1, rfl, rfl, ht⟩) (fun _ h9 => absurd h9 List.not_mem_nil) dX5_told_105 hlocks
            · have h := ite_f h c15_4
              refine lv_tableOut (tgt := 106) hx hb dX5_told_15 (by have z0 := lv_neT c15_0 (a := 0) (by decide); have z1 := lv_neT c15_1 (a := 1) (by decide); have z2 := lv_neT c15_2 (a := 2) (by decide); have z3 := lv_neT c15_3 (a := 3) (by decide); have z4 := lv_neT c15_4 (a := 4) (by decide); omega) (by decide) ?_
              refine lv_bipush (v := (-102)) hx hb dX5_told_106 (by decide) ?_
              have h := Option.some.inj h
              subst h
              exact W.iret (v := (-102)) hx hb hr (fun t ht hW9 => ⟨(-102), rfl, rfl, ht⟩) (fun _ h9 => absurd h9 List.not_mem_nil) dX5_told_108 hlocks
  · have h := ite_t h c8
    refine lv_bipush (v := (-102)) hx hb dX5_told_11 (by decide) ?_
    have h := Option.some.inj h
    subst h
    exact W.iret (v := (-102)) hx hb hr (fun t ht hW9 => ⟨(-102), rfl, rfl, ht⟩) (fun _ h9 => absurd h9 List.not_mem_nil) dX5_told_13 hlocks
set_option maxHeartbeats 4000000 in
set_option maxRecDepth 100000 in
theorem mX5_count (l : Launch) (D : va_G) (a : Nat → Nat) (k : Nat → ClassId) (σ : ST) (x1 : Int32) (o : Int32) (h : fX5_count σ x1 = some o) : Met l yX5_count ((Cond.code yX5_count cX5_count 2 (some .int)) :: WG) ({ frames := 0, cells := 0, slots := 0, locals := 0 } : Room) (Pw D (tX k) (AX a) (wX a k σ) [.ref (a 0), .int x1]) (vp_Si (fun z => z = o)) 0 0 (fun _ => False) := by
  refine Met.ofW (cc := cX5_count) (maxL := 2) (ret := (some .int)) (by decide) rfl ?_
  intro p e s m args below meth c s₁ B hml0 hv
  have C : Cx p s m args meth c cX5_count 2 RX5 (Cond.code yX5_count cX5_count 2 (some .int)) (some .int) := ⟨B.exec, B.bytes, B.returns, hml0, findClass_of_methodNamed B.named, atoms_spec (ws := (Cond.code yX5_count cX5_count 2 (some .int)) :: WG) B.pre, B.notSynchronized⟩
  obtain ⟨rfl, hP, hK, hD⟩ := hv
  have hK : Kx D (tX k) s := hK
  have C0 := C
  obtain ⟨hx, hb, hr, hml, hown, hts, hlocks⟩ := C0
  have hW : ∀ w ∈ WG, w.before _ s = true := fun w h => hts w (List.mem_cons_of_mem _ h)
  show W p l e ({ frames := 0, cells := 0, slots := 0, locals := 0 } : Room) s m _ below meth c s.heap [] 0 0 _ _
  have hl := lv_entry ([.ref (a 0), .int x1]) (n := 2) (Nat.le_of_ble_eq_true rfl)
  rw [lg_entry_eq]
  generalize (lg_sl ([.ref (a 0), .int x1]) ++ List.replicate (2 - (lg_sl ([.ref (a 0), .int x1])).length) Slot.unset).toArray = ls at hl ⊢
  have hl : lv_has ls 2 [(0, .ref (a 0)), (1, .int x1)] := hl
  unfold fX5_count at h
  refine lv_iload_n hx hb dX5_count_0 rfl (lv_at hl 1 rfl) ?_
  by_cases c1_0 : x1 = 0
  · have h := ite_t h c1_0
    refine lv_tableIn (tgt := 28) hx hb dX5_count_1 (by rw [c1_0]; decide) (by rw [c1_0]; decide) (by rw [c1_0]; rfl) (by decide) ?_
    refine lv_aload_n hx hb dX5_count_28 rfl (lv_at hl 0 rfl) ?_
    refine va_get (D := D) (ci := 5) (v := .ref (a 1)) (C := RX5) (T := TX5) (N := 6) hx hb hW inX5G hown hK.1 hP 0 rfl rfl 0 (by decide) (hW _ wg8) (fun _ h9 => h9) rfl dX5_count_29 ?_
    refine va_getN (D := D) (ci := 3) (v := .int (σ.1 1)) (C := RX3) (T := TX3) (N := 4) hx hb hW inX3G hown hK.1 hP 1 rfl rfl 3 (by decide) (hK.2.fld nw9) (fun _ h9 => h9) rfl dX5_count_32 ?_
    have h := Option.some.inj h
    subst h
    exact W.iret (v := (σ.1 1)) hx hb hr (fun t ht hW9 => ⟨(σ.1 1), rfl, rfl, ht⟩) (fun _ h9 => absurd h9 List.not_mem_nil) dX5_count_35 hlocks
  · have h := ite_f h c1_0
    by_cases c1_1 : x1 = 1
    · have h := ite_t h c1_1
      refine lv_tableIn (tgt := 36) hx hb dX5_count_1 (by rw [c1_1]; decide) (by rw [c1_1]; decide) (by rw [c1_1]; rfl) (by decide) ?_
      refine lv_aload_n hx hb dX5_count_36 rfl (lv_at hl 0 rfl) ?_
      refine va_get (D := D) (ci := 5) (v := .ref (a 2)) (C := RX5) (T := TX5) (N := 6) hx hb hW inX5G hown hK.1 hP 0 rfl rfl 1 (by decide) (hW _ wg43) (fun _ h9 => h9) rfl dX5_count_37 ?_
      refine va_getN (D := D) (ci := 2) (v := .int (σ.1 2)) (C := RX2) (T := TX2) (N := 6) hx hb hW inX2G hown hK.1 hP 2 rfl rfl 5 (by decide) (hK.2.fld nw44) (fun _ h9 => h9) rfl dX5_count_40 ?_
      have h := Option.some.inj h
      subst h
      exact W.iret (v := (σ.1 2)) hx hb hr (fun t ht hW9 => ⟨(σ.1 2), rfl, rfl, ht⟩) (fun _ h9 => absurd h9 List.not_mem_nil) dX5_count_43 hlocks
    · have h := ite_f h c1_1
      by_cases c1_2 : x1 = 2
      · have h := ite_t h c1_2
        refine lv_tableIn (tgt := 44) hx hb dX5_count_1 (by rw [c1_2]; decide) (by rw [c1_2]; decide) (by rw [c1_2]; rfl) (by decide) ?_
        refine lv_aload_n hx hb dX5_count_44 rfl (lv_at hl 0 rfl) ?_
        refine va_get (D := D) (ci := 5) (v := .int (σ.1 0)) (C := RX5) (T := TX5) (N := 6) hx hb hW inX5G hown hK.1 hP 0 rfl rfl 5 (by decide) (hW _ wg10) (fun _ h9 => h9) rfl dX5_count_45 ?_
        refine lv_if_eq (tgt := 55) hx hb dX5_count_48 (by decide) (fun c48 => ?_) (fun c48 => ?_)
        · have h := ite_t h c48
          refine lv_iconst (v := 0) hx hb dX5_count_55 (by decide) ?_
          have h := Option.some.inj h
          subst h
          exact W.iret (v := 0) hx hb hr (fun t ht hW9 => ⟨0, rfl, rfl, ht⟩) (fun _ h9 => absurd h9 List.not_mem_nil) dX5_count_56 hlocks
        · have h := ite_f h c48
          refine lv_iconst (v := 1) hx hb dX5_count_51 (by decide) ?_
          refine lv_goto (tgt := 56) hx hb dX5_count_52 (by decide) ?_
          have h := Option.some.inj h
          subst h
          exact W.iret (v := 1) hx hb hr (fun t ht hW9 => ⟨1, rfl, rfl, ht⟩) (fun _ h9 => absurd h9 List.not_mem_nil) dX5_count_56 hlocks
      · have h := ite_f h c1_2
        refine lv_tableOut (tgt := 57) hx hb dX5_count_1 (by have z0 := lv_neT c1_0 (a := 0) (by decide); have z1 := lv_neT c1_1 (a := 1) (by decide); have z2 := lv_neT c1_2 (a := 2) (by decide); omega) (by decide) ?_
        refine lv_bipush (v := (-102)) hx hb dX5_count_57 (by decide) ?_
        have h := Option.some.inj h
        subst h
        exact W.iret (v := (-102)) hx hb hr (fun t ht hW9 => ⟨(-102), rfl, rfl, ht⟩) (fun _ h9 => absurd h9 List.not_mem_nil) dX5_count_59 hlocks
set_option maxHeartbeats 4000000 in
set_option maxRecDepth 100000 in
theorem mX4_forget (l : Launch) (D : va_G) (a : Nat → Nat) (k : Nat → ClassId) (σ : ST) (o : ST) (h : fX4_forget σ = some o) : Met l yX4_forget ((Cond.code yX4_forget cX4_forget 1 none) :: WG) ({ frames := 0, cells := 0, slots := 0, locals := 0 } : Room) (Pw D (tX k) (AX a) (wX a k σ) [.ref (a 5)]) (va_Qv (S := Unit) (fun _ => True) (fun _ t => va_P D vwCl (wX a k o) t.heap) (AX a)) 0 0 (AX a) := by
  refine Met.ofW (cc := cX4_forget) (maxL := 1) (ret := none) (by decide) rfl ?_
  intro p e s m args below meth c s₁ B hml0 hv
  have C : Cx p s m args meth c cX4_forget 1 RX4 (Cond.code yX4_forget cX4_forget 1 none) none := ⟨B.exec, B.bytes, B.returns, hml0, findClass_of_methodNamed B.named, atoms_spec (ws := (Cond.code yX4_forget cX4_forget 1 none) :: WG) B.pre, B.notSynchronized⟩
  obtain ⟨rfl, hP, hK, hD⟩ := hv
  have hK : Kx D (tX k) s := hK
  have C0 := C
  obtain ⟨hx, hb, hr, hml, hown, hts, hlocks⟩ := C0
  have hW : ∀ w ∈ WG, w.before _ s = true := fun w h => hts w (List.mem_cons_of_mem _ h)
  show W p l e ({ frames := 0, cells := 0, slots := 0, locals := 0 } : Room) s m _ below meth c s.heap [] 0 0 _ _
  have hl := lv_entry ([.ref (a 5)]) (n := 1) (Nat.le_of_ble_eq_true rfl)
  rw [lg_entry_eq]
  generalize (lg_sl ([.ref (a 5)]) ++ List.replicate (1 - (lg_sl ([.ref (a 5)])).length) Slot.unset).toArray = ls at hl ⊢
  have hl : lv_has ls 1 [(0, .ref (a 5))] := hl
  have hS : va_S (AX a) s.heap s.heap [] := va_S.rf
  suffices hgo : ∀ (H : Heap) (locs : List Loc), va_P D vwCl (wX a k σ) H → va_S (AX a) s.heap H locs → W p l e ({ frames := 0, cells := 0, slots := 0, locals := 0 } : Room) s m _ below meth c H locs 0 0 (MQ below (va_Qv (S := Unit) (fun _ => True) (fun _ t => va_P D vwCl (wX a k o) t.heap) (AX a)) _ s 0 0 (AX a)) (F0 m 0 ls []) from hgo _ _ hP hS
  clear hP hS
  intro H locs hP hS
  unfold fX4_forget at h
  refine lv_aload_n hx hb dX4_forget_0 rfl (lv_at hl 0 rfl) ?_
  refine lv_iconst (v := 0) hx hb dX4_forget_1 (by decide) ?_
  refine va_put (D := D) (ci := 4) (v := .int 0) (ty := .boolean) (C := RX4) (T := TX4) (N := 7) hx hb hW inX4G tyX4 tyX4_ok nmX4 hown hK.1 hP hD hS 5 rfl rfl 1 (by decide) (hW _ wg246) (fun _ h9 => h9) rfl (by decide +kernel) rfl rfl (Nat.le_of_ble_eq_true rfl) dX4_forget_2 (fun H locs hP hD9 hS => ?_)
  obtain ⟨s2, es2⟩ : ∃ z : ST, z = setF σ 8 0 := ⟨_, rfl⟩
  have h := nm_o h es2
  have hP : va_P D vwCl (wX a k s2) H := by rw [es2]; exact hP
  have hD : va_D (AX a) (wX a k s2) := dX hD
  refine lv_aload_n hx hb dX4_forget_5 rfl (lv_at hl 0 rfl) ?_
  refine lv_iconst (v := 0) hx hb dX4_forget_6 (by decide) ?_
  refine va_put (D := D) (ci := 4) (v := .int 0) (ty := .int) (C := RX4) (T := TX4) (N := 7) hx hb hW inX4G tyX4 tyX4_ok nmX4 hown hK.1 hP hD hS 5 rfl rfl 2 (by decide) (hW _ wg234) (fun _ h9 => h9) rfl (by decide +kernel) rfl rfl (Nat.le_of_ble_eq_true rfl) dX4_forget_7 (fun H locs hP hD9 hS => ?_)
  obtain ⟨s7, es7⟩ : ∃ z : ST, z = setF s2 9 0 := ⟨_, rfl⟩
  have h := nm_o h es7
  have hP : va_P D vwCl (wX a k s7) H := by rw [es7]; exact hP
  have hD : va_D (AX a) (wX a k s7) := dX hD
  have h := Option.some.inj h
  subst h
  exact W.vret hx hb hr (fun t ht hW9 => ⟨⟨(), rfl, trivial, by show va_P _ _ _ t.heap; rw [ht]; exact hP⟩, hS.F ht⟩) hS.2.2 dX4_forget_10 hlocks
set_option maxHeartbeats 4000000 in
set_option maxRecDepth 100000 in
theorem mX5_clear (l : Launch) (D : va_G) (a : Nat → Nat) (k : Nat → ClassId) (σ : ST) (o : Int32 × ST) (h : fX5_clear σ = some o) : Met l yX5_clear ((Cond.code yX5_clear cX5_clear 2 (some .int)) :: WG) ({ frames := 1, cells := 0, slots := 0, locals := 20 } : Room) (Pw D (tX k) (AX a) (wX a k σ) [.ref (a 0)]) (va_Qi (S := Unit) (fun z _ => z = o.1) (fun _ t => va_P D vwCl (wX a k o.2) t.heap) (AX a)) 0 0 (AX a) := by
  refine Met.ofW (cc := cX5_clear) (maxL := 2) (ret := (some .int)) (by decide) rfl ?_
  intro p e s m args below meth c s₁ B hml0 hv
  have C : Cx p s m args meth c cX5_clear 2 RX5 (Cond.code yX5_clear cX5_clear 2 (some .int)) (some .int) := ⟨B.exec, B.bytes, B.returns, hml0, findClass_of_methodNamed B.named, atoms_spec (ws := (Cond.code yX5_clear cX5_clear 2 (some .int)) :: WG) B.pre, B.notSynchronized⟩
  obtain ⟨rfl, hP, hK, hD⟩ := hv
  have hK : Kx D (tX k) s := hK
  have C0 := C
  obtain ⟨hx, hb, hr, hml, hown, hts, hlocks⟩ := C0
  have hW : ∀ w ∈ WG, w.before _ s = true := fun w h => hts w (List.mem_cons_of_mem _ h)
  show W p l e ({ frames := 1, cells := 0, slots := 0, locals := 20 } : Room) s m _ below meth c s.heap [] 0 0 _ _
  have hl := lv_entry ([.ref (a 0)]) (n := 2) (Nat.le_of_ble_eq_true rfl)
  rw [lg_entry_eq]
  generalize (lg_sl ([.ref (a 0)]) ++ List.replicate (2 - (lg_sl ([.ref (a 0)])).length) Slot.unset).toArray = ls at hl ⊢
  have hl : lv_has ls 2 [(0, .ref (a 0))] := hl
  have hS : va_S (AX a) s.heap s.heap [] := va_S.rf
  suffices hgo : ∀ (H : Heap) (locs : List Loc), va_P D vwCl (wX a k σ) H → va_S (AX a) s.heap H locs → W p l e ({ frames := 1, cells := 0, slots := 0, locals := 20 } : Room) s m _ below meth c H locs 0 0 (MQ below (va_Qi (S := Unit) (fun z _ => z = o.1) (fun _ t => va_P D vwCl (wX a k o.2) t.heap) (AX a)) _ s 0 0 (AX a)) (F0 m 0 ls []) from hgo _ _ hP hS
  clear hP hS
  intro H locs hP hS
  unfold fX5_clear at h
  refine lv_aload_n hx hb dX5_clear_0 rfl (lv_at hl 0 rfl) ?_
  refine va_get (D := D) (ci := 5) (v := .ref (a 2)) (C := RX5) (T := TX5) (N := 6) hx hb hW inX5G hown hK.1 hP 0 rfl rfl 1 (by decide) (hW _ wg43) (fun _ h9 => h9) rfl dX5_clear_1 ?_
  refine va_getN (D := D) (ci := 2) (v := .int (σ.1 2)) (C := RX2) (T := TX2) (N := 6) hx hb hW inX2G hown hK.1 hP 2 rfl rfl 5 (by decide) (hK.2.fld nw44) (fun _ h9 => h9) rfl dX5_clear_4 ?_
  refine lv_topi (fun x1_7 ex1_7 => ?_)
  have h := nm_o h ex1_7
  refine lv_istore_n (lv' := [(1, .int x1_7), (0, .ref (a 0))]) hx hb dX5_clear_7 rfl hl (by decide) rfl (fun ls hl => ?_)
  refine lv_aload_n hx hb dX5_clear_8 rfl (lv_at hl 1 rfl) ?_
  refine va_get (D := D) (ci := 5) (v := .ref (a 1)) (C := RX5) (T := TX5) (N := 6) hx hb hW inX5G hown hK.1 hP 0 rfl rfl 0 (by decide) (hW _ wg8) (fun _ h9 => h9) rfl dX5_clear_9 ?_
  refine lv_iconst (v := 0) hx hb dX5_clear_12 (by decide) ?_
  refine va_putN (D := D) (ci := 3) (v := .int 0) (ty := .int) (C := RX3) (T := TX3) (N := 4) hx hb hW inX3G tyX3 tyX3_ok nmX3 hown hK.1 hP hD hS 1 rfl rfl 3 (by decide) (hK.2.fld nw9) (fun _ h9 => h9) rfl (by decide +kernel) rfl rfl (Nat.le_of_ble_eq_true rfl) dX5_clear_13 (fun H locs hP hD9 hS => ?_)
  obtain ⟨s13, es13⟩ : ∃ z : ST, z = setF σ 1 0 := ⟨_, rfl⟩
  have h := nm_o h es13
  have hP : va_P D vwCl (wX a k s13) H := by rw [es13]; exact hP
  have hD : va_D (AX a) (wX a k s13) := dX hD
  refine lv_aload_n hx hb dX5_clear_16 rfl (lv_at hl 1 rfl) ?_
  refine va_get (D := D) (ci := 5) (v := .ref (a 2)) (C := RX5) (T := TX5) (N := 6) hx hb hW inX5G hown hK.1 hP 0 rfl rfl 1 (by decide) (hW _ wg43) (fun _ h9 => h9) rfl dX5_clear_17 ?_
  refine lv_iconst (v := 0) hx hb dX5_clear_20 (by decide) ?_
  refine va_putN (D := D) (ci := 2) (v := .int 0) (ty := .int) (C := RX2) (T := TX2) (N := 6) hx hb hW inX2G tyX2 tyX2_ok nmX2 hown hK.1 hP hD hS 2 rfl rfl 5 (by decide) (hK.2.fld nw44) (fun _ h9 => h9) rfl (by decide +kernel) rfl rfl (Nat.le_of_ble_eq_true rfl) dX5_clear_21 (fun H locs hP hD9 hS => ?_)
  obtain ⟨s21, es21⟩ : ∃ z : ST, z = setF s13 2 0 := ⟨_, rfl⟩
  have h := nm_o h es21
  have hP : va_P D vwCl (wX a k s21) H := by rw [es21]; exact hP
  have hD : va_D (AX a) (wX a k s21) := dX hD
  refine lv_aload_n hx hb dX5_clear_24 rfl (lv_at hl 1 rfl) ?_
  refine va_get (D := D) (ci := 5) (v := .ref (a 5)) (C := RX5) (T := TX5) (N := 6) hx hb hW inX5G hown hK.1 hP 0 rfl rfl 4 (by decide) (hW _ wg248) (fun _ h9 => h9) rfl dX5_clear_25 ?_
  obtain ⟨r28, hc28, h⟩ := bd_o h
  refine callWV (va_runVN (As := []) (rest := []) ⟨hx, hb, hml, hown, hts⟩ (mX4_forget l D a k _ _ hc28) ⟨va_cnB 0 hts (wg_c wg267) rfl rfl rfl (hK.2 _ nw268) (hW _ wg243) hdX4_forget ⟨Nat.le_of_ble_eq_true rfl, Nat.le_of_ble_eq_true rfl⟩, hW _ wg269, hW _ wg270⟩ (pw_V hK hP hD (ci := 4) (q0 := 5) rfl rfl) rfl rfl hl.1 rfl (lv_room (Nat.le_of_ble_eq_true rfl)) dX5_clear_28 ⟨Nat.zero_le _, Nat.zero_le _⟩) hS (fun H locs hP hS => ?_)
  have hD : va_D (AX a) (wX a k r28) := dX hD
  refine lv_aload_n hx hb dX5_clear_31 rfl (lv_at hl 1 rfl) ?_
  refine lv_iconst (v := 0) hx hb dX5_clear_32 (by decide) ?_
  refine va_put (D := D) (ci := 5) (v := .int 0) (ty := .boolean) (C := RX5) (T := TX5) (N := 6) hx hb hW inX5G tyX5 tyX5_ok nmX5 hown hK.1 hP hD hS 0 rfl rfl 5 (by decide) (hW _ wg10) (fun _ h9 => h9) rfl (by decide +kernel) rfl rfl (Nat.le_of_ble_eq_true rfl) dX5_clear_33 (fun H locs hP hD9 hS => ?_)
  obtain ⟨s33, es33⟩ : ∃ z : ST, z = setF r28 0 0 := ⟨_, rfl⟩
  have h := nm_o h es33
  have hP : va_P D vwCl (wX a k s33) H := by rw [es33]; exact hP
  have hD : va_D (AX a) (wX a k s33) := dX hD
  refine lv_iload_n hx hb dX5_clear_36 rfl (lv_at hl 0 rfl) ?_
  have h := Option.some.inj h
  subst h
  exact W.iret (v := x1_7) hx hb hr (fun t ht hW9 => ⟨⟨x1_7, (), rfl, rfl, by show va_P _ _ _ t.heap; rw [ht]; exact hP⟩, hS.F ht⟩) hS.2.2 dX5_clear_37 hlocks
