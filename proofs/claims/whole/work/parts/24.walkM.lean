set_option maxHeartbeats 4000000 in
set_option maxRecDepth 100000 in
theorem bX6_way_L66 {p : Program} {l : Launch} {e : Env} {s : State} {m : MethodId} {args : Array Value} {below : List Frame} {meth : Method} {c : Code} {D : va_G} {a : Nat → Nat} {k : Nat → ClassId} {σ : ST} {o : Int32} (C : Cx p s m args meth c cX6_way 8 RX6 (Cond.code yX6_way cX6_way 8 (some .int)) (some .int)) (hK : Kx D (tM k) s) (hP : va_P D vwCl (wM a k σ) s.heap) (hD : va_D (AM a) (wM a k σ)) : ∀ (n : Nat) (x3 x6 x7 : Int32) (ls : Array Slot), lv_has ls 8 [(0, .ref (a 0)), (3, .int x3), (6, .int x6), (7, .int x7)] → fX6_way_L66 σ n x3 x6 x7 = some o → W p l e ({ frames := 3, cells := 0, slots := 0, locals := 65 } : Room) s m args below meth c s.heap [] 0 0 (MQ below (vp_Si (fun z => z = o)) args s 0 0 (fun _ => False)) (F0 m 66 ls []) := by
  have C0 := C
  obtain ⟨hx, hb, hr, hml, hown, hts, hlocks⟩ := C0
  have hW : ∀ w ∈ WG, w.before args s = true := fun w h => hts w (List.mem_cons_of_mem _ h)
  intro n
  induction n with
  | zero =>
    intro x3 x6 x7 ls hl h
    rw [fX6_way_L66] at h
    cases h
  | succ n ih =>
      intro x3 x6 x7 ls hl h
      rw [fX6_way_L66] at h
      refine lv_iload hx hb dX6_way_66 (lv_at hl 3 rfl) ?_
      refine lv_iload_n hx hb dX6_way_68 rfl (lv_at hl 1 rfl) ?_
      refine lv_icmp_le (tgt := 87) hx hb dX6_way_69 (by decide) (fun c69 => ?_) (fun c69 => ?_)
      · have h := ite_t h c69
        refine lv_aload_n hx hb dX6_way_87 rfl (lv_at hl 0 rfl) ?_
        refine va_get (D := D) (ci := 6) (v := .ref (a 9)) (C := RX6) (T := TX6) (N := 22) hx hb hW inX6G hown hK.1 hP 0 rfl rfl 11 (by decide) (hW _ wg330) (fun _ h9 => h9) rfl dX6_way_88 ?_
        refine lv_iload hx hb dX6_way_91 (lv_at hl 2 rfl) ?_
        obtain ⟨hi93, h⟩ := ix_o h
        refine va_iald (D := D) hx hb hK.1 hP 9 8 rfl rfl hi93 dX6_way_93 ?_
        obtain ⟨r94, hc94, h⟩ := bd_o h
        refine callRI (va_runS (As := [.int (σ.2 8 x6.toNatClampNeg)]) (rest := []) ⟨hx, hb, hml, hown, hts⟩ (mX6_place l _ _ hc94) ⟨callB_of 1 hts (wg_c wg302) rfl rfl rfl (hW _ wg274) (hW _ wg301) hdX6_place ⟨Nat.le_of_ble_eq_true rfl, Nat.le_of_ble_eq_true rfl⟩, hW _ wg303⟩ preEq rfl rfl hl.1 rfl (lv_room (Nat.le_of_ble_eq_true rfl)) dX6_way_94 ⟨Nat.zero_le _, Nat.zero_le _⟩) ?_
        have h := Option.some.inj h
        subst h
        exact W.iret (v := r94) hx hb hr (fun t ht hW9 => ⟨r94, rfl, rfl, ht⟩) (fun _ h9 => absurd h9 List.not_mem_nil) dX6_way_97 hlocks
      · have h := ite_f h c69
        refine lv_aload_n hx hb dX6_way_72 rfl (lv_at hl 0 rfl) ?_
        refine va_get (D := D) (ci := 6) (v := .ref (a 10)) (C := RX6) (T := TX6) (N := 22) hx hb hW inX6G hown hK.1 hP 0 rfl rfl 13 (by decide) (hW _ wg328) (fun _ h9 => h9) rfl dX6_way_73 ?_
        refine lv_iload hx hb dX6_way_76 (lv_at hl 2 rfl) ?_
        obtain ⟨hi78, h⟩ := ix_o h
        refine va_iald (D := D) hx hb hK.1 hP 10 9 rfl rfl hi78 dX6_way_78 ?_
        refine lv_topi (fun x6_79 ex6_79 => ?_)
        have h := nm_o h ex6_79
        refine lv_istore (lv' := [(6, .int x6_79), (0, .ref (a 0)), (3, .int x3), (7, .int x7)]) hx hb dX6_way_79 hl (by decide) rfl (fun ls hl => ?_)
        obtain ⟨x7_81, ex7_81⟩ : ∃ y : Int32, y = x7 + (-1) := ⟨_, rfl⟩
        have h := nm_o h ex7_81
        refine lv_iinc (v := x7_81) (lv' := [(7, .int x7_81), (6, .int x6_79), (0, .ref (a 0)), (3, .int x3)]) hx hb dX6_way_81 hl (k := 3) rfl (by rw [ex7_81]; rfl) (by decide) rfl (fun ls hl => ?_)
        refine lv_goto (tgt := 66) hx hb dX6_way_84 (by decide) ?_
        exact ih _ _ _ ls (lv_sub hl [2, 3, 1, 0] rfl) h
set_option maxHeartbeats 4000000 in
set_option maxRecDepth 100000 in
theorem bX6_way_L64 {p : Program} {l : Launch} {e : Env} {s : State} {m : MethodId} {args : Array Value} {below : List Frame} {meth : Method} {c : Code} {D : va_G} {a : Nat → Nat} {k : Nat → ClassId} {σ : ST} {o : Int32} (C : Cx p s m args meth c cX6_way 8 RX6 (Cond.code yX6_way cX6_way 8 (some .int)) (some .int)) (hK : Kx D (tM k) s) (hP : va_P D vwCl (wM a k σ) s.heap) (hD : va_D (AM a) (wM a k σ)) : ∀ (x3 x6 y0 : Int32) (ls : Array Slot), lv_has ls 8 [(0, .ref (a 0)), (3, .int x3), (6, .int x6)] → fX6_way_L64 σ x3 x6 y0 = some o → W p l e ({ frames := 3, cells := 0, slots := 0, locals := 65 } : Room) s m args below meth c s.heap [] 0 0 (MQ below (vp_Si (fun z => z = o)) args s 0 0 (fun _ => False)) (F0 m 64 ls [.int y0]) := by
  have C0 := C
  obtain ⟨hx, hb, hr, hml, hown, hts, hlocks⟩ := C0
  have hW : ∀ w ∈ WG, w.before args s = true := fun w h => hts w (List.mem_cons_of_mem _ h)
  intro x3 x6 y0 ls hl h
  unfold fX6_way_L64 at h
  refine lv_topi (fun x7_64 ex7_64 => ?_)
  have h := nm_o h ex7_64
  refine lv_istore (lv' := [(7, .int x7_64), (0, .ref (a 0)), (3, .int x3), (6, .int x6)]) hx hb dX6_way_64 hl (by decide) rfl (fun ls hl => ?_)
  exact bX6_way_L66 C hK hP hD FUEL _ _ _ ls (lv_sub hl [1, 2, 3, 0] rfl) h
set_option maxHeartbeats 4000000 in
set_option maxRecDepth 100000 in
theorem mX6_way (l : Launch) (D : va_G) (a : Nat → Nat) (k : Nat → ClassId) (σ : ST) (x1 x2 x3 : Int32) (o : Int32) (h : fX6_way σ x1 x2 x3 = some o) : Met l yX6_way ((Cond.code yX6_way cX6_way 8 (some .int)) :: WG) ({ frames := 3, cells := 0, slots := 0, locals := 65 } : Room) (Pw D (tM k) (AM a) (wM a k σ) [.ref (a 0), .int x1, .int x2, .int x3]) (vp_Si (fun z => z = o)) 0 0 (fun _ => False) := by
  refine Met.ofW (cc := cX6_way) (maxL := 8) (ret := (some .int)) (by decide) rfl ?_
  intro p e s m args below meth c s₁ B hml0 hv
  have C : Cx p s m args meth c cX6_way 8 RX6 (Cond.code yX6_way cX6_way 8 (some .int)) (some .int) := ⟨B.exec, B.bytes, B.returns, hml0, findClass_of_methodNamed B.named, atoms_spec (ws := (Cond.code yX6_way cX6_way 8 (some .int)) :: WG) B.pre, B.notSynchronized⟩
  obtain ⟨rfl, hP, hK, hD⟩ := hv
  have hK : Kx D (tM k) s := hK
  have C0 := C
  obtain ⟨hx, hb, hr, hml, hown, hts, hlocks⟩ := C0
  have hW : ∀ w ∈ WG, w.before _ s = true := fun w h => hts w (List.mem_cons_of_mem _ h)
  show W p l e ({ frames := 3, cells := 0, slots := 0, locals := 65 } : Room) s m _ below meth c s.heap [] 0 0 _ _
  have hl := lv_entry ([.ref (a 0), .int x1, .int x2, .int x3]) (n := 8) (Nat.le_of_ble_eq_true rfl)
  rw [lg_entry_eq]
  generalize (lg_sl ([.ref (a 0), .int x1, .int x2, .int x3]) ++ List.replicate (8 - (lg_sl ([.ref (a 0), .int x1, .int x2, .int x3])).length) Slot.unset).toArray = ls at hl ⊢
  have hl : lv_has ls 8 [(0, .ref (a 0)), (1, .int x1), (2, .int x2), (3, .int x3)] := hl
  unfold fX6_way at h
  refine lv_aload_n hx hb dX6_way_0 rfl (lv_at hl 0 rfl) ?_
  refine lv_iload_n hx hb dX6_way_1 rfl (lv_at hl 1 rfl) ?_
  refine lv_iload_n hx hb dX6_way_2 rfl (lv_at hl 2 rfl) ?_
  obtain ⟨r3, hc3, h⟩ := bd_o h
  refine callRI (va_runV (As := [.int x1, .int x2]) (rest := []) ⟨hx, hb, hml, hown, hts⟩ (mX6_asks l D a k _ _ _ _ hc3) ⟨callB_of 2 hts (wg_c wg354) rfl rfl rfl (hW _ wg274) (hW _ wg353) hdX6_asks ⟨Nat.le_of_ble_eq_true rfl, Nat.le_of_ble_eq_true rfl⟩, hW _ wg355, hW _ wg356⟩ (pw_V hK hP hD (ci := 6) (q0 := 0) rfl rfl) rfl rfl hl.1 rfl (lv_room (Nat.le_of_ble_eq_true rfl)) dX6_way_3 ⟨Nat.zero_le _, Nat.zero_le _⟩) ?_
  refine lv_istore (lv' := [(4, .int r3), (0, .ref (a 0)), (1, .int x1), (2, .int x2), (3, .int x3)]) hx hb dX6_way_6 hl (by decide) rfl (fun ls hl => ?_)
  refine lv_iload hx hb dX6_way_8 (lv_at hl 0 rfl) ?_
  refine lv_if_ge (tgt := 16) hx hb dX6_way_10 (by decide) (fun c10 => ?_) (fun c10 => ?_)
  · have h := ite_t h c10
    refine lv_aload_n hx hb dX6_way_16 rfl (lv_at hl 1 rfl) ?_
    refine lv_iload_n hx hb dX6_way_17 rfl (lv_at hl 2 rfl) ?_
    refine lv_iload_n hx hb dX6_way_18 rfl (lv_at hl 3 rfl) ?_
    obtain ⟨r19, hc19, h⟩ := bd_o h
    refine callRI (va_runV (As := [.int x1, .int x2]) (rest := []) ⟨hx, hb, hml, hown, hts⟩ (mX6_longOf l D a k _ _ _ _ hc19) ⟨callB_of 2 hts (wg_c wg358) rfl rfl rfl (hW _ wg274) (hW _ wg357) hdX6_longOf ⟨Nat.le_of_ble_eq_true rfl, Nat.le_of_ble_eq_true rfl⟩, hW _ wg359, hW _ wg360⟩ (pw_V hK hP hD (ci := 6) (q0 := 0) rfl rfl) rfl rfl hl.1 rfl (lv_room (Nat.le_of_ble_eq_true rfl)) dX6_way_19 ⟨Nat.zero_le _, Nat.zero_le _⟩) ?_
    refine lv_istore (lv' := [(5, .int r19), (4, .int r3), (0, .ref (a 0)), (1, .int x1), (2, .int x2), (3, .int x3)]) hx hb dX6_way_22 hl (by decide) rfl (fun ls hl => ?_)
    refine lv_iload_n hx hb dX6_way_24 rfl (lv_at hl 5 rfl) ?_
    refine lv_iconst (v := 0) hx hb dX6_way_25 (by decide) ?_
    refine lv_iload hx hb dX6_way_26 (lv_at hl 0 rfl) ?_
    refine lv_iconst (v := 1) hx hb dX6_way_28 (by decide) ?_
    refine lv_isub hx hb dX6_way_29 ?_
    obtain ⟨r30, hc30, h⟩ := bd_o h
    refine callRI (va_runS (As := [.int x3, .int 0, .int (r19 - 1)]) (rest := []) ⟨hx, hb, hml, hown, hts⟩ (mX6_in l _ _ _ _ hc30) ⟨callB_of 3 hts (wg_c wg273) rfl rfl rfl (hW _ wg274) (hW _ wg272) hdX6_in ⟨Nat.le_of_ble_eq_true rfl, Nat.le_of_ble_eq_true rfl⟩, hW _ wg275⟩ preEq rfl rfl hl.1 rfl (lv_room (Nat.le_of_ble_eq_true rfl)) dX6_way_30 ⟨Nat.zero_le _, Nat.zero_le _⟩) ?_
    refine lv_if_ne (tgt := 38) hx hb dX6_way_33 (by decide) (fun c33 => ?_) (fun c33 => ?_)
    · have h := ite_f h c33
      refine lv_aload_n hx hb dX6_way_38 rfl (lv_at hl 2 rfl) ?_
      refine va_get (D := D) (ci := 6) (v := .ref (a 12)) (C := RX6) (T := TX6) (N := 22) hx hb hW inX6G hown hK.1 hP 0 rfl rfl 15 (by decide) (hW _ wg331) (fun _ h9 => h9) rfl dX6_way_39 ?_
      refine lv_iconst (v := 5) hx hb dX6_way_42 (by decide) ?_
      refine lv_iload_n hx hb dX6_way_43 rfl (lv_at hl 3 rfl) ?_
      refine lv_imul hx hb dX6_way_44 ?_
      refine lv_iload_n hx hb dX6_way_45 rfl (lv_at hl 4 rfl) ?_
      refine lv_iadd hx hb dX6_way_46 ?_
      obtain ⟨hi47, h⟩ := ix_o h
      refine va_iald (D := D) hx hb hK.1 hP 12 11 rfl rfl hi47 dX6_way_47 ?_
      refine lv_topi (fun x6_48 ex6_48 => ?_)
      have h := nm_o h ex6_48
      refine lv_istore (lv' := [(6, .int x6_48), (5, .int r19), (4, .int r3), (0, .ref (a 0)), (1, .int x1), (2, .int x2), (3, .int x3)]) hx hb dX6_way_48 hl (by decide) rfl (fun ls hl => ?_)
      refine lv_iload_n hx hb dX6_way_50 rfl (lv_at hl 4 rfl) ?_
      refine lv_iconst (v := 1) hx hb dX6_way_51 (by decide) ?_
      refine lv_icmp_le (tgt := 62) hx hb dX6_way_52 (by decide) (fun c52 => ?_) (fun c52 => ?_)
      · have h := ite_t h c52
        refine lv_iload hx hb dX6_way_62 (lv_at hl 1 rfl) ?_
        exact bX6_way_L64 C hK hP hD _ _ _ ls (lv_sub hl [3, 6, 0] rfl) h
      · have h := ite_f h c52
        refine lv_iload hx hb dX6_way_55 (lv_at hl 1 rfl) ?_
        refine lv_iconst (v := 1) hx hb dX6_way_57 (by decide) ?_
        refine lv_isub hx hb dX6_way_58 ?_
        refine lv_goto (tgt := 64) hx hb dX6_way_59 (by decide) ?_
        exact bX6_way_L64 C hK hP hD _ _ _ ls (lv_sub hl [3, 6, 0] rfl) h
    · have h := ite_t h c33
      refine lv_iconst (v := (-1)) hx hb dX6_way_36 (by decide) ?_
      have h := Option.some.inj h
      subst h
      exact W.iret (v := (-1)) hx hb hr (fun t ht hW9 => ⟨(-1), rfl, rfl, ht⟩) (fun _ h9 => absurd h9 List.not_mem_nil) dX6_way_37 hlocks
  · have h := ite_f h c10
    refine lv_iload hx hb dX6_way_13 (lv_at hl 0 rfl) ?_
    have h := Option.some.inj h
    subst h
    exact W.iret (v := r3) hx hb hr (fun t ht hW9 => ⟨r3, rfl, rfl, ht⟩) (fun _ h9 => absurd h9 List.not_mem_nil) dX6_way_15 hlocks
set_option maxHeartbeats 4000000 in
set_option maxRecDepth 100000 in
theorem mX6_closed (l : Launch) (D : va_G) (a : Nat → Nat) (k : Nat → ClassId) (σ : ST) (x1 : Int32) (o : Int32) (h : fX6_closed σ x1 = some o) : Met l yX6_closed ((Cond.code yX6_closed cX6_closed 2 (some .int)) :: WG) ({ frames := 2, cells := 0, slots := 0, locals := 43 } : Room) (Pw D (tM k) (AM a) (wM a k σ) [.ref (a 0), .int x1]) (vp_Si (fun z => z = o)) 0 0 (fun _ => False) := by
  refine Met.ofW (cc := cX6_closed) (maxL := 2) (ret := (some .int)) (by decide) rfl ?_
  intro p e s m args below meth c s₁ B hml0 hv
  have C : Cx p s m args meth c cX6_closed 2 RX6 (Cond.code yX6_closed cX6_closed 2 (some .int)) (some .int) := ⟨B.exec, B.bytes, B.returns, hml0, findClass_of_methodNamed B.named, atoms_spec (ws := (Cond.code yX6_closed cX6_closed 2 (some .int)) :: WG) B.pre, B.notSynchronized⟩
  obtain ⟨rfl, hP, hK, hD⟩ := hv
  have hK : Kx D (tM k) s := hK
  have C0 := C
  obtain ⟨hx, hb, hr, hml, hown, hts, hlocks⟩ := C0
  have hW : ∀ w ∈ WG, w.before _ s = true := fun w h => hts w (List.mem_cons_of_mem _ h)
  show W p l e ({ frames := 2, cells := 0, slots := 0, locals := 43 } : Room) s m _ below meth c s.heap [] 0 0 _ _
  have hl := lv_entry ([.ref (a 0), .int x1]) (n := 2) (Nat.le_of_ble_eq_true rfl)
  rw [lg_entry_eq]
  generalize (lg_sl ([.ref (a 0), .int x1]) ++ List.replicate (2 - (lg_sl ([.ref (a 0), .int x1])).length) Slot.unset).toArray = ls at hl ⊢
  have hl : lv_has ls 2 [(0, .ref (a 0)), (1, .int x1)] := hl
  unfold fX6_closed at h
  refine lv_aload_n hx hb dX6_closed_0 rfl (lv_at hl 0 rfl) ?_
  refine lv_iload_n hx hb dX6_closed_1 rfl (lv_at hl 1 rfl) ?_
  obtain ⟨r2, hc2, h⟩ := bd_o h
  refine callRI (va_runV (As := [.int x1]) (rest := []) ⟨hx, hb, hml, hown, hts⟩ (mX6_isThing l D a k _ _ _ hc2) ⟨callB_of 1 hts (wg_c wg281) rfl rfl rfl (hW _ wg274) (hW _ wg280) hdX6_isThing ⟨Nat.le_of_ble_eq_true rfl, Nat.le_of_ble_eq_true rfl⟩, hW _ wg282, hW _ wg283⟩ (pw_V hK hP hD (ci := 6) (q0 := 0) rfl rfl) rfl rfl hl.1 rfl (lv_room (Nat.le_of_ble_eq_true rfl)) dX6_closed_2 ⟨Nat.zero_le _, Nat.zero_le _⟩) ?_
  refine lv_if_ne (tgt := 11) hx hb dX6_closed_5 (by decide) (fun c5 => ?_) (fun c5 => ?_)
  · have h := ite_f h c5
    refine lv_aload_n hx hb dX6_closed_11 rfl (lv_at hl 0 rfl) ?_
    refine va_get (D := D) (ci := 6) (v := .int (σ.1 2)) (C := RX6) (T := TX6) (N := 22) hx hb hW inX6G hown hK.1 hP 0 rfl rfl 10 (by decide) (hW _ wg279) (fun _ h9 => h9) rfl dX6_closed_12 ?_
    refine lv_if_ne (tgt := 23) hx hb dX6_closed_15 (by decide) (fun c15 => ?_) (fun c15 => ?_)
    · have h := ite_f h c15
      refine lv_aload_n hx hb dX6_closed_23 rfl (lv_at hl 0 rfl) ?_
      refine va_get (D := D) (ci := 6) (v := .ref (a 12)) (C := RX6) (T := TX6) (N := 22) hx hb hW inX6G hown hK.1 hP 0 rfl rfl 15 (by decide) (hW _ wg331) (fun _ h9 => h9) rfl dX6_closed_24 ?_
      refine lv_iload_n hx hb dX6_closed_27 rfl (lv_at hl 1 rfl) ?_
      obtain ⟨hi28, h⟩ := ix_o h
      refine va_iald (D := D) hx hb hK.1 hP 12 11 rfl rfl hi28 dX6_closed_28 ?_
      refine lv_iconst (v := (-1)) hx hb dX6_closed_29 (by decide) ?_
      refine lv_icmp_ne (tgt := 49) hx hb dX6_closed_30 (by decide) (fun c30 => ?_) (fun c30 => ?_)
      · have h := ite_f h c30
        refine lv_iconst (v := 0) hx hb dX6_closed_49 (by decide) ?_
        have h := Option.some.inj h
        subst h
        exact W.iret (v := 0) hx hb hr (fun t ht hW9 => ⟨0, rfl, rfl, ht⟩) (fun _ h9 => absurd h9 List.not_mem_nil) dX6_closed_50 hlocks
      · have h := ite_t h c30
        refine lv_aload_n hx hb dX6_closed_33 rfl (lv_at hl 0 rfl) ?_
        refine va_get (D := D) (ci := 6) (v := .ref (a 12)) (C := RX6) (T := TX6) (N := 22) hx hb hW inX6G hown hK.1 hP 0 rfl rfl 15 (by decide) (hW _ wg331) (fun _ h9 => h9) rfl dX6_closed_34 ?_
        refine lv_iconst (v := 5) hx hb dX6_closed_37 (by decide) ?_
        refine lv_iload_n hx hb dX6_closed_38 rfl (lv_at hl 1 rfl) ?_
        refine lv_iadd hx hb dX6_closed_39 ?_
        obtain ⟨hi40, h⟩ := ix_o h
        refine va_iald (D := D) hx hb hK.1 hP 12 11 rfl rfl hi40 dX6_closed_40 ?_
        refine lv_iconst (v := (-1)) hx hb dX6_closed_41 (by decide) ?_
        refine lv_icmp_ne (tgt := 49) hx hb dX6_closed_42 (by decide) (fun c42 => ?_) (fun c42 => ?_)
        · have h := ite_f h c42
          refine lv_iconst (v := 0) hx hb dX6_closed_49 (by decide) ?_
          have h := Option.some.inj h
          subst h
          exact W.iret (v := 0) hx hb hr (fun t ht hW9 => ⟨0, rfl, rfl, ht⟩) (fun _ h9 => absurd h9 List.not_mem_nil) dX6_closed_50 hlocks
        · have h := ite_t h c42
          refine lv_iconst (v := 1) hx hb dX6_closed_45 (by decide) ?_
          refine lv_goto (tgt := 50) hx hb dX6_closed_46 (by decide) ?_
          have h := Option.some.inj h
          subst h
          exact W.iret (v := 1) hx hb hr (fun t ht hW9 => ⟨1, rfl, rfl, ht⟩) (fun _ h9 => absurd h9 List.not_mem_nil) dX6_closed_50 hlocks
    · have h := ite_t h c15
      refine lv_bipush (v := (-103)) hx hb dX6_closed_18 (by decide) ?_
      refine lv_goto (tgt := 50) hx hb dX6_closed_20 (by decide) ?_
      have h := Option.some.inj h
      subst h
      exact W.iret (v := (-103)) hx hb hr (fun t ht hW9 => ⟨(-103), rfl, rfl, ht⟩) (fun _ h9 => absurd h9 List.not_mem_nil) dX6_closed_50 hlocks
  · have h := ite_t h c5
    refine lv_bipush (v := (-101)) hx hb dX6_closed_8 (by decide) ?_
    have h := Option.some.inj h
    subst h
    exact W.iret (v := (-101)) hx hb hr (fun t ht hW9 => ⟨(-101), rfl, rfl, ht⟩) (fun _ h9 => absurd h9 List.not_mem_nil) dX6_closed_10 hlocks
set_option maxHeartbeats 4000000 in
set_option maxRecDepth 100000 in
theorem bX6_states_L80 {p : Program} {l : Launch} {e : Env} {s : State} {m : MethodId} {args : Array Value} {below : List Frame} {meth : Method} {c : Code} {D : va_G} {a : Nat → Nat} {k : Nat → ClassId} {σ : ST} {o : Int32} (C : Cx p s m args meth c cX6_states 5 RX6 (Cond.code yX6_states cX6_states 5 (some .int)) (some .int)) (hK : Kx D (tM k) s) (hP : va_P D vwCl (wM a k σ) s.heap) (hD : va_D (AM a) (wM a k σ)) (k39 : Int32 → Int32 → Int32 → Int32 → Option (Int32)) (hk39 : ∀ (x1 x2 x3 x4 : Int32) (ls : Array Slot), lv_has ls 5 [(0, .ref (a 0)), (1, .int x1), (2, .int x2), (3, .int x3), (4, .int x4)] → k39 x1 x2 x3 x4 = some o → W p l e ({ frames := 2, cells := 0, slots := 0, locals := 43 } : Room) s m args below meth c s.heap [] 0 0 (MQ below (vp_Si (fun z => z = o)) args s 0 0 (fun _ => False)) (F0 m 39 ls [])) : ∀ (x1 x2 x4 y0 y1 : Int32) (ls : Array Slot), lv_has ls 5 [(0, .ref (a 0)), (1, .int x1), (2, .int x2), (4, .int x4)] → fX6_states_L80 σ k39 x1 x2 x4 y0 y1 = some o → W p l e ({ frames := 2, cells := 0, slots := 0, locals := 43 } : Room) s m args below meth c s.heap [] 0 0 (MQ below (vp_Si (fun z => z = o)) args s 0 0 (fun _ => False)) (F0 m 80 ls [.int y1, .int y0]) := by
  have C0 := C
  obtain ⟨hx, hb, hr, hml, hown, hts, hlocks⟩ := C0
  have hW : ∀ w ∈ WG, w.before args s = true := fun w h => hts w (List.mem_cons_of_mem _ h)
  intro x1 x2 x4 y0 y1 ls hl h
  unfold fX6_states_L80 at h
  refine lv_ior hx hb dX6_states_80 ?_
  refine lv_topi (fun x3_81 ex3_81 => ?_)
  have h := nm_o h ex3_81
  refine lv_istore_n (lv' := [(3, .int x3_81), (0, .ref (a 0)), (1, .int x1), (2, .int x2), (4, .int x4)]) hx hb dX6_states_81 rfl hl (by decide) rfl (fun ls hl => ?_)
  obtain ⟨x4_82, ex4_82⟩ : ∃ y : Int32, y = x4 + 1 := ⟨_, rfl⟩
  have h := nm_o h ex4_82
  refine lv_iinc (v := x4_82) (lv' := [(4, .int x4_82), (3, .int x3_81), (0, .ref (a 0)), (1, .int x1), (2, .int x2)]) hx hb dX6_states_82 hl (k := 4) rfl (by rw [ex4_82]; rfl) (by decide) rfl (fun ls hl => ?_)
  refine lv_goto (tgt := 39) hx hb dX6_states_85 (by decide) ?_
  exact hk39 _ _ _ _ ls (lv_sub hl [2, 3, 4, 1, 0] rfl) h
set_option maxHeartbeats 4000000 in
set_option maxRecDepth 100000 in
theorem bX6_states_L39 {p : Program} {l : Launch} {e : Env} {s : State} {m : MethodId} {args : Array Value} {below : List Frame} {meth : Method} {c : Code} {D : va_G} {a : Nat → Nat} {k : Nat → ClassId} {σ : ST} {o : Int32} (C : Cx p s m args meth c cX6_states 5 RX6 (Cond.code yX6_states cX6_states 5 (some .int)) (some .int)) (hK : Kx D (tM k) s) (hP : va_P D vwCl (wM a k σ) s.heap) (hD : va_D (AM a) (wM a k σ)) : ∀ (n : Nat) (x1 x2 x3 x4 : Int32) (ls : Array Slot), lv_has ls 5 [(0, .ref (a 0)), (1, .int x1), (2, .int x2), (3, .int x3), (4, .int x4)] → fX6_states_L39 σ n x1 x2 x3 x4 = some o → W p l e ({ frames := 2, cells := 0, slots := 0, locals := 43 } : Room) s m args below meth c s.heap [] 0 0 (MQ below (vp_Si (fun z => z = o)) args s 0 0 (fun _ => False)) (F0 m 39 ls []) := by
  have C0 := C
  obtain ⟨hx, hb, hr, hml, hown, hts, hlocks⟩ := C0
  have hW : ∀ w ∈ WG, w.before args s = true := fun w h => hts w (List.mem_cons_of_mem _ h)
  intro n
  induction n with
  | zero =>
    intro x1 x2 x3 x4 ls hl h
    rw [fX6_states_L39] at h
    cases h
  | succ n ih =>
      intro x1 x2 x3 x4 ls hl h
      rw [fX6_states_L39] at h
      refine lv_iload hx hb dX6_states_39 (lv_at hl 4 rfl) ?_
      refine lv_aload_n hx hb dX6_states_41 rfl (lv_at hl 0 rfl) ?_
      refine va_get (D := D) (ci := 6) (v := .int (σ.1 3)) (C := RX6) (T := TX6) (N := 22) hx hb hW inX6G hown hK.1 hP 0 rfl rfl 12 (by decide) (hW _ wg329) (fun _ h9 => h9) rfl dX6_states_42 ?_
      refine lv_icmp_ge (tgt := 88) hx hb dX6_states_45 (by decide) (fun c45 => ?_) (fun c45 => ?_)
      · have h := ite_t h c45
        refine lv_iload_n hx hb dX6_states_88 rfl (lv_at hl 3 rfl) ?_
        have h := Option.some.inj h
        subst h
        exact W.iret (v := x3) hx hb hr (fun t ht hW9 => ⟨x3, rfl, rfl, ht⟩) (fun _ h9 => absurd h9 List.not_mem_nil) dX6_states_89 hlocks
      · have h := ite_f h c45
        refine lv_iload_n hx hb dX6_states_48 rfl (lv_at hl 3 rfl) ?_
        refine lv_aload_n hx hb dX6_states_49 rfl (lv_at hl 0 rfl) ?_
        refine va_get (D := D) (ci := 6) (v := .ref (a 9)) (C := RX6) (T := TX6) (N := 22) hx hb hW inX6G hown hK.1 hP 0 rfl rfl 11 (by decide) (hW _ wg330) (fun _ h9 => h9) rfl dX6_states_50 ?_
        refine lv_iload hx hb dX6_states_53 (lv_at hl 4 rfl) ?_
        obtain ⟨hi55, h⟩ := ix_o h
        refine va_iald (D := D) hx hb hK.1 hP 9 8 rfl rfl hi55 dX6_states_55 ?_
        obtain ⟨r56, hc56, h⟩ := bd_o h
        refine callRI (va_runS (As := [.int (σ.2 8 x4.toNatClampNeg)]) (rest := [.int x3]) ⟨hx, hb, hml, hown, hts⟩ (mX6_place l _ _ hc56) ⟨callB_of 1 hts (wg_c wg302) rfl rfl rfl (hW _ wg274) (hW _ wg301) hdX6_place ⟨Nat.le_of_ble_eq_true rfl, Nat.le_of_ble_eq_true rfl⟩, hW _ wg303⟩ preEq rfl rfl hl.1 rfl (lv_room (Nat.le_of_ble_eq_true rfl)) dX6_states_56 ⟨Nat.zero_le _, Nat.zero_le _⟩) ?_
        refine lv_iload_n hx hb dX6_states_59 rfl (lv_at hl 1 rfl) ?_
        refine lv_icmp_ne (tgt := 79) hx hb dX6_states_60 (by decide) (fun c60 => ?_) (fun c60 => ?_)
        · have h := ite_f h c60
          refine lv_iconst (v := 0) hx hb dX6_states_79 (by decide) ?_
          exact bX6_states_L80 C hK hP hD _ ih _ _ _ _ _ ls (lv_sub hl [0, 1, 2, 4] rfl) h
        · have h := ite_t h c60
          refine lv_iconst (v := 1) hx hb dX6_states_63 (by decide) ?_
          refine lv_aload_n hx hb dX6_states_64 rfl (lv_at hl 0 rfl) ?_
          refine va_get (D := D) (ci := 6) (v := .ref (a 9)) (C := RX6) (T := TX6) (N := 22) hx hb hW inX6G hown hK.1 hP 0 rfl rfl 11 (by decide) (hW _ wg330) (fun _ h9 => h9) rfl dX6_states_65 ?_
          refine lv_iload hx hb dX6_states_68 (lv_at hl 4 rfl) ?_
          obtain ⟨hi70, h⟩ := ix_o h
          refine va_iald (D := D) hx hb hK.1 hP 9 8 rfl rfl hi70 dX6_states_70 ?_
          refine lv_iload_n hx hb dX6_states_71 rfl (lv_at hl 2 rfl) ?_
          obtain ⟨r72, hc72, h⟩ := bd_o h
          refine callRI (va_runS (As := [.int (σ.2 8 x4.toNatClampNeg), .int x2]) (rest := [.int 1, .int x3]) ⟨hx, hb, hml, hown, hts⟩ (mX6_what l _ _ _ hc72) ⟨callB_of 2 hts (wg_c wg299) rfl rfl rfl (hW _ wg274) (hW _ wg298) hdX6_what ⟨Nat.le_of_ble_eq_true rfl, Nat.le_of_ble_eq_true rfl⟩, hW _ wg300⟩ preEq rfl rfl hl.1 rfl (lv_room (Nat.le_of_ble_eq_true rfl)) dX6_states_72 ⟨Nat.zero_le _, Nat.zero_le _⟩) ?_
          refine lv_ishl hx hb dX6_states_75 ?_
          refine lv_goto (tgt := 80) hx hb dX6_states_76 (by decide) ?_
          exact bX6_states_L80 C hK hP hD _ ih _ _ _ _ _ ls (lv_sub hl [0, 1, 2, 4] rfl) h
set_option maxHeartbeats 4000000 in
set_option maxRecDepth 100000 in
theorem mX6_states (l : Launch) (D : va_G) (a : Nat → Nat) (k : Nat → ClassId) (σ : ST) (x1 x2 : Int32) (o : Int32) (h : fX6_states σ x1 x2 = some o) : Met l yX6_states ((Cond.code yX6_states cX6_states 5 (some .int)) :: WG) ({ frames := 2, cells := 0, slots := 0, locals := 43 } : Room) (Pw D (tM k) (AM a) (wM a k σ) [.ref (a 0), .int x1, .int x2]) (vp_Si (fun z => z = o)) 0 0 (fun _ => False) := by
  refine Met.ofW (cc := cX6_states) (maxL := 5) (ret := (some .int)) (by decide) rfl ?_
  intro p e s m args below meth c s₁ B hml0 hv
  have C : Cx p s m args meth c cX6_states 5 RX6 (Cond.code yX6_states cX6_states 5 (some .int)) (some .int) := ⟨B.exec, B.bytes, B.returns, hml0, findClass_of_methodNamed B.named, atoms_spec (ws := (Cond.code yX6_states cX6_states 5 (some .int)) :: WG) B.pre, B.notSynchronized⟩
  obtain ⟨rfl, hP, hK, hD⟩ := hv
  have hK : Kx D (tM k) s := hK
  have C0 := C
  obtain ⟨hx, hb, hr, hml, hown, hts, hlocks⟩ := C0
  have hW : ∀ w ∈ WG, w.before _ s = true := fun w h => hts w (List.mem_cons_of_mem _ h)
  show W p l e ({ frames := 2, cells := 0, slots := 0, locals := 43 } : Room) s m _ below meth c s.heap [] 0 0 _ _
  have hl := lv_entry ([.ref (a 0), .int x1, .int x2]) (n := 5) (Nat.le_of_ble_eq_true rfl)
  rw [lg_entry_eq]
  generalize (lg_sl ([.ref (a 0), .int x1, .int x2]) ++ List.replicate (5 - (lg_sl ([.ref (a 0), .int x1, .int x2])).length) Slot.unset).toArray = ls at hl ⊢
  have hl : lv_has ls 5 [(0, .ref (a 0)), (1, .int x1), (2, .int x2)] := hl
  unfold fX6_states at h
  refine lv_aload_n hx hb dX6_states_0 rfl (lv_at hl 0 rfl) ?_
  refine lv_iload_n hx hb dX6_states_1 rfl (lv_at hl 2 rfl) ?_
  obtain ⟨r2, hc2, h⟩ := bd_o h
  refine callRI (va_runV (As := [.int x2]) (rest := []) ⟨hx, hb, hml, hown, hts⟩ (mX6_isThing l D a k _ _ _ hc2) ⟨callB_of 1 hts (wg_c wg281) rfl rfl rfl (hW _ wg274) (hW _ wg280) hdX6_isThing ⟨Nat.le_of_ble_eq_true rfl, Nat.le_of_ble_eq_true rfl⟩, hW _ wg282, hW _ wg283⟩ (pw_V hK hP hD (ci := 6) (q0 := 0) rfl rfl) rfl rfl hl.1 rfl (lv_room (Nat.le_of_ble_eq_true rfl)) dX6_states_2 ⟨Nat.zero_le _, Nat.zero_le _⟩) ?_
  refine lv_if_ne (tgt := 11) hx hb dX6_states_5 (by decide) (fun c5 => ?_) (fun c5 => ?_)
  · have h := ite_f h c5
    refine lv_iload_n hx hb dX6_states_11 rfl (lv_at hl 1 rfl) ?_
    refine lv_iconst (v := 0) hx hb dX6_states_12 (by decide) ?_
    refine lv_bipush (v := 41) hx hb dX6_states_13 (by decide) ?_
    obtain ⟨r15, hc15, h⟩ := bd_o h
    refine callRI (va_runS (As := [.int x1, .int 0, .int 41]) (rest := []) ⟨hx, hb, hml, hown, hts⟩ (mX6_in l _ _ _ _ hc15) ⟨callB_of 3 hts (wg_c wg273) rfl rfl rfl (hW _ wg274) (hW _ wg272) hdX6_in ⟨Nat.le_of_ble_eq_true rfl, Nat.le_of_ble_eq_true rfl⟩, hW _ wg275⟩ preEq rfl rfl hl.1 rfl (lv_room (Nat.le_of_ble_eq_true rfl)) dX6_states_15 ⟨Nat.zero_le _, Nat.zero_le _⟩) ?_
    refine lv_if_ne (tgt := 24) hx hb dX6_states_18 (by decide) (fun c18 => ?_) (fun c18 => ?_)
    · have h := ite_f h c18
      refine lv_aload_n hx hb dX6_states_24 rfl (lv_at hl 0 rfl) ?_
      refine va_get (D := D) (ci := 6) (v := .int (σ.1 2)) (C := RX6) (T := TX6) (N := 22) hx hb hW inX6G hown hK.1 hP 0 rfl rfl 10 (by decide) (hW _ wg279) (fun _ h9 => h9) rfl dX6_states_25 ?_
      refine lv_if_ne (tgt := 34) hx hb dX6_states_28 (by decide) (fun c28 => ?_) (fun c28 => ?_)
      · have h := ite_f h c28
        refine lv_iconst (v := 0) hx hb dX6_states_34 (by decide) ?_
        refine lv_istore_n (lv' := [(3, .int 0), (0, .ref (a 0)), (1, .int x1), (2, .int x2)]) hx hb dX6_states_35 rfl hl (by decide) rfl (fun ls hl => ?_)
        refine lv_iconst (v := 0) hx hb dX6_states_36 (by decide) ?_
        refine lv_istore (lv' := [(4, .int 0), (3, .int 0), (0, .ref (a 0)), (1, .int x1), (2, .int x2)]) hx hb dX6_states_37 hl (by decide) rfl (fun ls hl => ?_)
        exact bX6_states_L39 C hK hP hD FUEL _ _ _ _ ls (lv_sub hl [2, 3, 4, 1, 0] rfl) h
      · have h := ite_t h c28
        refine lv_bipush (v := (-103)) hx hb dX6_states_31 (by decide) ?_
        have h := Option.some.inj h
        subst h
        exact W.iret (v := (-103)) hx hb hr (fun t ht hW9 => ⟨(-103), rfl, rfl, ht⟩) (fun _ h9 => absurd h9 List.not_mem_nil) dX6_states_33 hlocks
    · have h := ite_t h c18
      refine lv_bipush (v := (-102)) hx hb dX6_states_21 (by decide) ?_
      have h := Option.some.inj h
      subst h
      exact W.iret (v := (-102)) hx hb hr (fun t ht hW9 => ⟨(-102), rfl, rfl, ht⟩) (fun _ h9 => absurd h9 List.not_mem_nil) dX6_states_23 hlocks
  · have h := ite_t h c5
    refine lv_bipush (v := (-101)) hx hb dX6_states_8 (by decide) ?_
    have h := Option.some.inj h
    subst h
    exact W.iret (v := (-101)) hx hb hr (fun t ht hW9 => ⟨(-101), rfl, rfl, ht⟩) (fun _ h9 => absurd h9 List.not_mem_nil) dX6_states_10 hlocks
set_option maxHeartbeats 4000000 in
set_option maxRecDepth 100000 in
theorem bX6_nodes_L60 {p : Program} {l : Launch} {e : Env} {s : State} {m : MethodId} {args : Array Value} {below : List Frame} {meth : Method} {c : Code} {D : va_G} {a : Nat → Nat} {k : Nat → ClassId} {σ : ST} {o : Int32} (C : Cx p s m args meth c cX6_nodes 4 RX6 (Cond.code yX6_nodes cX6_nodes 4 (some .int)) (some .int)) (hK : Kx D (tM k) s) (hP : va_P D vwCl (wM a k σ) s.heap) (hD : va_D (AM a) (wM a k σ)) (k27 : Int32 → Int32 → Int32 → Option (Int32)) (hk27 : ∀ (x1 x2 x3 : Int32) (ls : Array Slot), lv_has ls 4 [(0, .ref (a 0)), (1, .int x1), (2, .int x2), (3, .int x3)] → k27 x1 x2 x3 = some o → W p l e ({ frames := 1, cells := 0, slots := 0, locals := 22 } : Room) s m args below meth c s.heap [] 0 0 (MQ below (vp_Si (fun z => z = o)) args s 0 0 (fun _ => False)) (F0 m 27 ls [])) : ∀ (x1 x3 y0 y1 : Int32) (ls : Array Slot), lv_has ls 4 [(0, .ref (a 0)), (1, .int x1), (3, .int x3)] → fX6_nodes_L60 σ k27 x1 x3 y0 y1 = some o → W p l e ({ frames := 1, cells := 0, slots := 0, locals := 22 } : Room) s m args below meth c s.heap [] 0 0 (MQ below (vp_Si (fun z => z = o)) args s 0 0 (fun _ => False)) (F0 m 60 ls [.int y1, .int y0]) := by
  have C0 := C
  obtain ⟨hx, hb, hr, hml, hown, hts, hlocks⟩ := C0
  have hW : ∀ w ∈ WG, w.before args s = true := fun w h => hts w (List.mem_cons_of_mem _ h)
  intro x1 x3 y0 y1 ls hl h
  unfold fX6_nodes_L60 at h
  refine lv_iadd hx hb dX6_nodes_60 ?_
  refine lv_topi (fun x2_61 ex2_61 => ?_)
  have h := nm_o h ex2_61
  refine lv_istore_n (lv' := [(2, .int x2_61), (0, .ref (a 0)), (1, .int x1), (3, .int x3)]) hx hb dX6_nodes_61 rfl hl (by decide) rfl (fun ls hl => ?_)
  obtain ⟨x3_62, ex3_62⟩ : ∃ y : Int32, y = x3 + 1 := ⟨_, rfl⟩
  have h := nm_o h ex3_62
  refine lv_iinc (v := x3_62) (lv' := [(3, .int x3_62), (2, .int x2_61), (0, .ref (a 0)), (1, .int x1)]) hx hb dX6_nodes_62 hl (k := 3) rfl (by rw [ex3_62]; rfl) (by decide) rfl (fun ls hl => ?_)
  refine lv_goto (tgt := 27) hx hb dX6_nodes_65 (by decide) ?_
  exact hk27 _ _ _ ls (lv_sub hl [2, 3, 1, 0] rfl) h
set_option maxHeartbeats 4000000 in
set_option maxRecDepth 100000 in
theorem bX6_nodes_L55 {p : Program} {l : Launch} {e : Env} {s : State} {m : MethodId} {args : Array Value} {below : List Frame} {meth : Method} {c : Code} {D : va_G} {a : Nat → Nat} {k : Nat → ClassId} {σ : ST} {o : Int32} (C : Cx p s m args meth c cX6_nodes 4 RX6 (Cond.code yX6_nodes cX6_nodes 4 (some .int)) (some .int)) (hK : Kx D (tM k) s) (hP : va_P D vwCl (wM a k σ) s.heap) (hD : va_D (AM a) (wM a k σ)) (k27 : Int32 → Int32 → Int32 → Option (Int32)) (hk27 : ∀ (x1 x2 x3 : Int32) (ls : Array Slot), lv_has ls 4 [(0, .ref (a 0)), (1, .int x1), (2, .int x2), (3, .int x3)] → k27 x1 x2 x3 = some o → W p l e ({ frames := 1, cells := 0, slots := 0, locals := 22 } : Room) s m args below meth c s.heap [] 0 0 (MQ below (vp_Si (fun z => z = o)) args s 0 0 (fun _ => False)) (F0 m 27 ls [])) : ∀ (x1 x3 y0 : Int32) (ls : Array Slot), lv_has ls 4 [(0, .ref (a 0)), (1, .int x1), (3, .int x3)] → fX6_nodes_L55 σ k27 x1 x3 y0 = some o → W p l e ({ frames := 1, cells := 0, slots := 0, locals := 22 } : Room) s m args below meth c s.heap [] 0 0 (MQ below (vp_Si (fun z => z = o)) args s 0 0 (fun _ => False)) (F0 m 55 ls [.int y0]) := by
  have C0 := C
  obtain ⟨hx, hb, hr, hml, hown, hts, hlocks⟩ := C0
  have hW : ∀ w ∈ WG, w.before args s = true := fun w h => hts w (List.mem_cons_of_mem _ h)
  intro x1 x3 y0 ls hl h
  unfold fX6_nodes_L55 at h
  refine lv_iconst (v := 1) hx hb dX6_nodes_55 (by decide) ?_
  refine lv_goto (tgt := 60) hx hb dX6_nodes_56 (by decide) ?_
  exact bX6_nodes_L60 C hK hP hD _ hk27 _ _ _ _ ls (lv_sub hl [0, 1, 2] rfl) h
set_option maxHeartbeats 4000000 in
set_option maxRecDepth 100000 in
theorem bX6_nodes_L27 {p : Program} {l : Launch} {e : Env} {s : State} {m : MethodId} {args : Array Value} {below : List Frame} {meth : Method} {c : Code} {D : va_G} {a : Nat → Nat} {k : Nat → ClassId} {σ : ST} {o : Int32} (C : Cx p s m args meth c cX6_nodes 4 RX6 (Cond.code yX6_nodes cX6_nodes 4 (some .int)) (some .int)) (hK : Kx D (tM k) s) (hP : va_P D vwCl (wM a k σ) s.heap) (hD : va_D (AM a) (wM a k σ)) : ∀ (n : Nat) (x1 x2 x3 : Int32) (ls : Array Slot), lv_has ls 4 [(0, .ref (a 0)), (1, .int x1), (2, .int x2), (3, .int x3)] → fX6_nodes_L27 σ n x1 x2 x3 = some o → W p l e ({ frames := 1, cells := 0, slots := 0, locals := 22 } : Room) s m args below meth c s.heap [] 0 0 (MQ below (vp_Si (fun z => z = o)) args s 0 0 (fun _ => False)) (F0 m 27 ls []) := by
  have C0 := C
  obtain ⟨hx, hb, hr, hml, hown, hts, hlocks⟩ := C0
  have hW : ∀ w ∈ WG, w.before args s = true := fun w h => hts w (List.mem_cons_of_mem _ h)
  intro n
  induction n with
  | zero =>
    intro x1 x2 x3 ls hl h
    rw [fX6_nodes_L27] at h
    cases h
  | succ n ih =>
      intro x1 x2 x3 ls hl h
      rw [fX6_nodes_L27] at h
      refine lv_iload_n hx hb dX6_nodes_27 rfl (lv_at hl 3 rfl) ?_
      refine lv_aload_n hx hb dX6_nodes_28 rfl (lv_at hl 0 rfl) ?_
      refine va_get (D := D) (ci := 6) (v := .int (σ.1 3)) (C := RX6) (T := TX6) (N := 22) hx hb hW inX6G hown hK.1 hP 0 rfl rfl 12 (by decide) (hW _ wg329) (fun _ h9 => h9) rfl dX6_nodes_29 ?_
      refine lv_icmp_ge (tgt := 68) hx hb dX6_nodes_32 (by decide) (fun c32 => ?_) (fun c32 => ?_)
      · have h := ite_t h c32
        refine lv_iload_n hx hb dX6_nodes_68 rfl (lv_at hl 2 rfl) ?_
        have h := Option.some.inj h
        subst h
        exact W.iret (v := x2) hx hb hr (fun t ht hW9 => ⟨x2, rfl, rfl, ht⟩) (fun _ h9 => absurd h9 List.not_mem_nil) dX6_nodes_69 hlocks
      · have h := ite_f h c32
        refine lv_iload_n hx hb dX6_nodes_35 rfl (lv_at hl 2 rfl) ?_
        refine lv_iload_n hx hb dX6_nodes_36 rfl (lv_at hl 1 rfl) ?_
        refine lv_bipush (v := 42) hx hb dX6_nodes_37 (by decide) ?_
        refine lv_icmp_eq (tgt := 55) hx hb dX6_nodes_39 (by decide) (fun c39 => ?_) (fun c39 => ?_)
        · have h := ite_t h c39
          exact bX6_nodes_L55 C hK hP hD _ ih _ _ _ ls (lv_sub hl [0, 1, 3] rfl) h
        · have h := ite_f h c39
          refine lv_aload_n hx hb dX6_nodes_42 rfl (lv_at hl 0 rfl) ?_
          refine va_get (D := D) (ci := 6) (v := .ref (a 9)) (C := RX6) (T := TX6) (N := 22) hx hb hW inX6G hown hK.1 hP 0 rfl rfl 11 (by decide) (hW _ wg330) (fun _ h9 => h9) rfl dX6_nodes_43 ?_
          refine lv_iload_n hx hb dX6_nodes_46 rfl (lv_at hl 3 rfl) ?_
          obtain ⟨hi47, h⟩ := ix_o h
          refine va_iald (D := D) hx hb hK.1 hP 9 8 rfl rfl hi47 dX6_nodes_47 ?_
          obtain ⟨r48, hc48, h⟩ := bd_o h
          refine callRI (va_runS (As := [.int (σ.2 8 x3.toNatClampNeg)]) (rest := [.int x2]) ⟨hx, hb, hml, hown, hts⟩ (mX6_place l _ _ hc48) ⟨callB_of 1 hts (wg_c wg302) rfl rfl rfl (hW _ wg274) (hW _ wg301) hdX6_place ⟨Nat.le_of_ble_eq_true rfl, Nat.le_of_ble_eq_true rfl⟩, hW _ wg303⟩ preEq rfl rfl hl.1 rfl (lv_room (Nat.le_of_ble_eq_true rfl)) dX6_nodes_48 ⟨Nat.zero_le _, Nat.zero_le _⟩) ?_
          refine lv_iload_n hx hb dX6_nodes_51 rfl (lv_at hl 1 rfl) ?_
          refine lv_icmp_ne (tgt := 59) hx hb dX6_nodes_52 (by decide) (fun c52 => ?_) (fun c52 => ?_)
          · have h := ite_f h c52
            refine lv_iconst (v := 0) hx hb dX6_nodes_59 (by decide) ?_
            exact bX6_nodes_L60 C hK hP hD _ ih _ _ _ _ ls (lv_sub hl [0, 1, 3] rfl) h
          · have h := ite_t h c52
            exact bX6_nodes_L55 C hK hP hD _ ih _ _ _ ls (lv_sub hl [0, 1, 3] rfl) h
set_option maxHeartbeats 4000000 in
set_option maxRecDepth 100000 in
theorem mX6_nodes (l : Launch) (D : va_G) (a : Nat → Nat) (k : Nat → ClassId) (σ : ST) (x1 : Int32) (o : Int32) (h : fX6_nodes σ x1 = some o) : Met l yX6_nodes ((Cond.code yX6_nodes cX6_nodes 4 (some .int)) :: WG) ({ frames := 1, cells := 0, slots := 0, locals := 22 } : Room) (Pw D (tM k) (AM a) (wM a k σ) [.ref (a 0), .int x1]) (vp_Si (fun z => z = o)) 0 0 (fun _ => False) := by
  refine Met.ofW (cc := cX6_nodes) (maxL := 4) (ret := (some .int)) (by decide) rfl ?_
  intro p e s m args below meth c s₁ B hml0 hv
  have C : Cx p s m args meth c cX6_nodes 4 RX6 (Cond.code yX6_nodes cX6_nodes 4 (some .int)) (some .int) := ⟨B.exec, B.bytes, B.returns, hml0, findClass_of_methodNamed B.named, atoms_spec (ws := (Cond.code yX6_nodes cX6_nodes 4 (some .int)) :: WG) B.pre, B.notSynchronized⟩
  obtain ⟨rfl, hP, hK, hD⟩ := hv
  have hK : Kx D (tM k) s := hK
  have C0 := C
  obtain ⟨hx, hb, hr, hml, hown, hts, hlocks⟩ := C0
  have hW : ∀ w ∈ WG, w.before _ s = true := fun w h => hts w (List.mem_cons_of_mem _ h)
  show W p l e ({ frames := 1, cells := 0, slots := 0, locals := 22 } : Room) s m _ below meth c s.heap [] 0 0 _ _
  have hl := lv_entry ([.ref (a 0), .int x1]) (n := 4) (Nat.le_of_ble_eq_true rfl)
  rw [lg_entry_eq]
  generalize (lg_sl ([.ref (a 0), .int x1]) ++ List.replicate (4 - (lg_sl ([.ref (a 0), .int x1])).length) Slot.unset).toArray = ls at hl ⊢
  have hl : lv_has ls 4 [(0, .ref (a 0)), (1, .int x1)] := hl
  unfold fX6_nodes at h
  refine lv_iload_n hx hb dX6_nodes_0 rfl (lv_at hl 1 rfl) ?_
  refine lv_iconst (v := 0) hx hb dX6_nodes_1 (by decide) ?_
  refine lv_bipush (v := 42) hx hb dX6_nodes_2 (by decide) ?_
  obtain ⟨r4, hc4, h⟩ := bd_o h
  refine callRI (va_runS (As := [.int x1, .int 0, .int 42]) (rest := []) ⟨hx, hb, hml, hown, hts⟩ (mX6_in l _ _ _ _ hc4) ⟨callB_of 3 hts (wg_c wg273) rfl rfl rfl (hW _ wg274) (hW _ wg272) hdX6_in ⟨Nat.le_of_ble_eq_true rfl, Nat.le_of_ble_eq_true rfl⟩, hW _ wg275⟩ preEq rfl rfl hl.1 rfl (lv_room (Nat.le_of_ble_eq_true rfl)) dX6_nodes_4 ⟨Nat.zero_le _, Nat.zero_le _⟩) ?_
  refine lv_if_ne (tgt := 13) hx hb dX6_nodes_7 (by decide) (fun c7 => ?_) (fun c7 => ?_)
  · have h := ite_f h c7
    refine lv_aload_n hx hb dX6_nodes_13 rfl (lv_at hl 0 rfl) ?_
    refine va_get (D := D) (ci := 6) (v := .int (σ.1 2)) (C := RX6) (T := TX6) (N := 22) hx hb hW inX6G hown hK.1 hP 0 rfl rfl 10 (by decide) (hW _ wg279) (fun _ h9 => h9) rfl dX6_nodes_14 ?_
    refine lv_if_ne (tgt := 23) hx hb dX6_nodes_17 (by decide) (fun c17 => ?_) (fun c17 => ?_)
    · have h := ite_f h c17
      refine lv_iconst (v := 0) hx hb dX6_nodes_23 (by decide) ?_
      refine lv_istore_n (lv' := [(2, .int 0), (0, .ref (a 0)), (1, .int x1)]) hx hb dX6_nodes_24 rfl hl (by decide) rfl (fun ls hl => ?_)
      refine lv_iconst (v := 0) hx hb dX6_nodes_25 (by decide) ?_
      refine lv_istore_n (lv' := [(3, .int 0), (2, .int 0), (0, .ref (a 0)), (1, .int x1)]) hx hb dX6_nodes_26 rfl hl (by decide) rfl (fun ls hl => ?_)
      exact bX6_nodes_L27 C hK hP hD FUEL _ _ _ ls (lv_sub hl [2, 3, 1, 0] rfl) h
    · have h := ite_t h c17
      refine lv_bipush (v := (-103)) hx hb dX6_nodes_20 (by decide) ?_
      have h := Option.some.inj h
      subst h
      exact W.iret (v := (-103)) hx hb hr (fun t ht hW9 => ⟨(-103), rfl, rfl, ht⟩) (fun _ h9 => absurd h9 List.not_mem_nil) dX6_nodes_22 hlocks
  · have h := ite_t h c7
    refine lv_bipush (v := (-102)) hx hb dX6_nodes_10 (by decide) ?_
    have h := Option.some.inj h
    subst h
    exact W.iret (v := (-102)) hx hb hr (fun t ht hW9 => ⟨(-102), rfl, rfl, ht⟩) (fun _ h9 => absurd h9 List.not_mem_nil) dX6_nodes_12 hlocks
