set_option maxHeartbeats 4000000 in
set_option maxRecDepth 100000 in
theorem mX6_what (l : Launch) (x0 x1 : Int32) (o : Int32) (h : fX6_what x0 x1 = some o) : Met l yX6_what ((Cond.code yX6_what cX6_what 2 (some .int)) :: WG) ({ frames := 0, cells := 0, slots := 0, locals := 0 } : Room) (fun v _ => v = ([.int x0, .int x1] : List Value).toArray) (vp_Si (fun z => z = o)) 0 0 (fun _ => False) := by
  refine Met.ofW (cc := cX6_what) (maxL := 2) (ret := (some .int)) (by decide) rfl ?_
  intro p e s m args below meth c s₁ B hml0 hv
  have C : Cx p s m args meth c cX6_what 2 RX6 (Cond.code yX6_what cX6_what 2 (some .int)) (some .int) := ⟨B.exec, B.bytes, B.returns, hml0, findClass_of_methodNamed B.named, atoms_spec (ws := (Cond.code yX6_what cX6_what 2 (some .int)) :: WG) B.pre, B.notSynchronized⟩
  subst hv
  have C0 := C
  obtain ⟨hx, hb, hr, hml, hown, hts, hlocks⟩ := C0
  have hW : ∀ w ∈ WG, w.before _ s = true := fun w h => hts w (List.mem_cons_of_mem _ h)
  show W p l e ({ frames := 0, cells := 0, slots := 0, locals := 0 } : Room) s m _ below meth c s.heap [] 0 0 _ _
  have hl := lv_entry ([.int x0, .int x1]) (n := 2) (Nat.le_of_ble_eq_true rfl)
  rw [lg_entry_eq]
  generalize (lg_sl ([.int x0, .int x1]) ++ List.replicate (2 - (lg_sl ([.int x0, .int x1])).length) Slot.unset).toArray = ls at hl ⊢
  have hl : lv_has ls 2 [(0, .int x0), (1, .int x1)] := hl
  unfold fX6_what at h
  refine lv_iload_n hx hb dX6_what_0 rfl (lv_at hl 0 rfl) ?_
  refine lv_iconst (v := 2) hx hb dX6_what_1 (by decide) ?_
  refine lv_iload_n hx hb dX6_what_2 rfl (lv_at hl 1 rfl) ?_
  refine lv_imul hx hb dX6_what_3 ?_
  refine lv_ishr hx hb dX6_what_4 ?_
  refine lv_iconst (v := 3) hx hb dX6_what_5 (by decide) ?_
  refine lv_iand hx hb dX6_what_6 ?_
  have h := Option.some.inj h
  subst h
  exact W.iret (v := ((x0 >>> ((2 * x1) &&& 31)) &&& 3)) hx hb hr (fun t ht hW9 => ⟨((x0 >>> ((2 * x1) &&& 31)) &&& 3), rfl, rfl, ht⟩) (fun _ h9 => absurd h9 List.not_mem_nil) dX6_what_7 hlocks
set_option maxHeartbeats 4000000 in
set_option maxRecDepth 100000 in
theorem mX6_with (l : Launch) (x0 x1 x2 : Int32) (o : Int32) (h : fX6_with x0 x1 x2 = some o) : Met l yX6_with ((Cond.code yX6_with cX6_with 3 (some .int)) :: WG) ({ frames := 1, cells := 0, slots := 0, locals := 21 } : Room) (fun v _ => v = ([.int x0, .int x1, .int x2] : List Value).toArray) (vp_Si (fun z => z = o)) 0 0 (fun _ => False) := by
  refine Met.ofW (cc := cX6_with) (maxL := 3) (ret := (some .int)) (by decide) rfl ?_
  intro p e s m args below meth c s₁ B hml0 hv
  have C : Cx p s m args meth c cX6_with 3 RX6 (Cond.code yX6_with cX6_with 3 (some .int)) (some .int) := ⟨B.exec, B.bytes, B.returns, hml0, findClass_of_methodNamed B.named, atoms_spec (ws := (Cond.code yX6_with cX6_with 3 (some .int)) :: WG) B.pre, B.notSynchronized⟩
  subst hv
  have C0 := C
  obtain ⟨hx, hb, hr, hml, hown, hts, hlocks⟩ := C0
  have hW : ∀ w ∈ WG, w.before _ s = true := fun w h => hts w (List.mem_cons_of_mem _ h)
  show W p l e ({ frames := 1, cells := 0, slots := 0, locals := 21 } : Room) s m _ below meth c s.heap [] 0 0 _ _
  have hl := lv_entry ([.int x0, .int x1, .int x2]) (n := 3) (Nat.le_of_ble_eq_true rfl)
  rw [lg_entry_eq]
  generalize (lg_sl ([.int x0, .int x1, .int x2]) ++ List.replicate (3 - (lg_sl ([.int x0, .int x1, .int x2])).length) Slot.unset).toArray = ls at hl ⊢
  have hl : lv_has ls 3 [(0, .int x0), (1, .int x1), (2, .int x2)] := hl
  unfold fX6_with at h
  refine lv_iload_n hx hb dX6_with_0 rfl (lv_at hl 0 rfl) ?_
  refine lv_iload_n hx hb dX6_with_1 rfl (lv_at hl 0 rfl) ?_
  refine lv_iload_n hx hb dX6_with_2 rfl (lv_at hl 1 rfl) ?_
  obtain ⟨r3, hc3, h⟩ := bd_o h
  refine callRI (va_runS (As := [.int x0, .int x1]) (rest := [.int x0]) ⟨hx, hb, hml, hown, hts⟩ (mX6_what l _ _ _ hc3) ⟨callB_of 2 hts (wg_c wg299) rfl rfl rfl (hW _ wg274) (hW _ wg298) hdX6_what ⟨Nat.le_of_ble_eq_true rfl, Nat.le_of_ble_eq_true rfl⟩, hW _ wg300⟩ preEq rfl rfl hl.1 rfl (lv_room (Nat.le_of_ble_eq_true rfl)) dX6_with_3 ⟨Nat.zero_le _, Nat.zero_le _⟩) ?_
  refine lv_iconst (v := 2) hx hb dX6_with_6 (by decide) ?_
  refine lv_iload_n hx hb dX6_with_7 rfl (lv_at hl 1 rfl) ?_
  refine lv_imul hx hb dX6_with_8 ?_
  refine lv_ishl hx hb dX6_with_9 ?_
  refine lv_isub hx hb dX6_with_10 ?_
  refine lv_iload_n hx hb dX6_with_11 rfl (lv_at hl 2 rfl) ?_
  refine lv_iconst (v := 2) hx hb dX6_with_12 (by decide) ?_
  refine lv_iload_n hx hb dX6_with_13 rfl (lv_at hl 1 rfl) ?_
  refine lv_imul hx hb dX6_with_14 ?_
  refine lv_ishl hx hb dX6_with_15 ?_
  refine lv_iadd hx hb dX6_with_16 ?_
  have h := Option.some.inj h
  subst h
  exact W.iret (v := ((x0 - (r3 <<< ((2 * x1) &&& 31))) + (x2 <<< ((2 * x1) &&& 31)))) hx hb hr (fun t ht hW9 => ⟨((x0 - (r3 <<< ((2 * x1) &&& 31))) + (x2 <<< ((2 * x1) &&& 31))), rfl, rfl, ht⟩) (fun _ h9 => absurd h9 List.not_mem_nil) dX6_with_17 hlocks
set_option maxHeartbeats 4000000 in
set_option maxRecDepth 100000 in
theorem mX6_isHeld (l : Launch) (D : va_G) (a : Nat → Nat) (k : Nat → ClassId) (σ : ST) (x1 x2 : Int32) (o : Int32) (h : fX6_isHeld σ x1 x2 = some o) : Met l yX6_isHeld ((Cond.code yX6_isHeld cX6_isHeld 3 (some .boolean)) :: WG) ({ frames := 1, cells := 0, slots := 0, locals := 21 } : Room) (Pw D (tM k) (AM a) (wM a k σ) [.ref (a 0), .int x1, .int x2]) (vp_Si (fun z => z = o)) 0 0 (fun _ => False) := by
  refine Met.ofW (cc := cX6_isHeld) (maxL := 3) (ret := (some .boolean)) (by decide) rfl ?_
  intro p e s m args below meth c s₁ B hml0 hv
  have C : Cx p s m args meth c cX6_isHeld 3 RX6 (Cond.code yX6_isHeld cX6_isHeld 3 (some .boolean)) (some .boolean) := ⟨B.exec, B.bytes, B.returns, hml0, findClass_of_methodNamed B.named, atoms_spec (ws := (Cond.code yX6_isHeld cX6_isHeld 3 (some .boolean)) :: WG) B.pre, B.notSynchronized⟩
  obtain ⟨rfl, hP, hK, hD⟩ := hv
  have hK : Kx D (tM k) s := hK
  have C0 := C
  obtain ⟨hx, hb, hr, hml, hown, hts, hlocks⟩ := C0
  have hW : ∀ w ∈ WG, w.before _ s = true := fun w h => hts w (List.mem_cons_of_mem _ h)
  show W p l e ({ frames := 1, cells := 0, slots := 0, locals := 21 } : Room) s m _ below meth c s.heap [] 0 0 _ _
  have hl := lv_entry ([.ref (a 0), .int x1, .int x2]) (n := 3) (Nat.le_of_ble_eq_true rfl)
  rw [lg_entry_eq]
  generalize (lg_sl ([.ref (a 0), .int x1, .int x2]) ++ List.replicate (3 - (lg_sl ([.ref (a 0), .int x1, .int x2])).length) Slot.unset).toArray = ls at hl ⊢
  have hl : lv_has ls 3 [(0, .ref (a 0)), (1, .int x1), (2, .int x2)] := hl
  unfold fX6_isHeld at h
  refine lv_aload_n hx hb dX6_isHeld_0 rfl (lv_at hl 0 rfl) ?_
  refine va_get (D := D) (ci := 6) (v := .ref (a 1)) (C := RX6) (T := TX6) (N := 22) hx hb hW inX6G hown hK.1 hP 0 rfl rfl 1 (by decide) (hW _ wg276) (fun _ h9 => h9) rfl dX6_isHeld_1 ?_
  refine lv_iload_n hx hb dX6_isHeld_4 rfl (lv_at hl 2 rfl) ?_
  obtain ⟨hi5, h⟩ := ix_o h
  refine va_iald (D := D) hx hb hK.1 hP 1 0 rfl rfl hi5 dX6_isHeld_5 ?_
  refine lv_iconst (v := 1) hx hb dX6_isHeld_6 (by decide) ?_
  refine lv_icmp_ne (tgt := 26) hx hb dX6_isHeld_7 (by decide) (fun c7 => ?_) (fun c7 => ?_)
  · have h := ite_f h c7
    refine lv_iload_n hx hb dX6_isHeld_26 rfl (lv_at hl 1 rfl) ?_
    refine lv_iload_n hx hb dX6_isHeld_27 rfl (lv_at hl 2 rfl) ?_
    obtain ⟨r28, hc28, h⟩ := bd_o h
    refine callRI (va_runS (As := [.int x1, .int x2]) (rest := []) ⟨hx, hb, hml, hown, hts⟩ (mX6_what l _ _ _ hc28) ⟨callB_of 2 hts (wg_c wg299) rfl rfl rfl (hW _ wg274) (hW _ wg298) hdX6_what ⟨Nat.le_of_ble_eq_true rfl, Nat.le_of_ble_eq_true rfl⟩, hW _ wg300⟩ preEq rfl rfl hl.1 rfl (lv_room (Nat.le_of_ble_eq_true rfl)) dX6_isHeld_28 ⟨Nat.zero_le _, Nat.zero_le _⟩) ?_
    refine lv_iconst (v := 1) hx hb dX6_isHeld_31 (by decide) ?_
    refine lv_icmp_ne (tgt := 39) hx hb dX6_isHeld_32 (by decide) (fun c32 => ?_) (fun c32 => ?_)
    · have h := ite_f h c32
      refine lv_iconst (v := 0) hx hb dX6_isHeld_39 (by decide) ?_
      have h := Option.some.inj h
      subst h
      exact W.zret (v := 0) hx hb hr rfl (fun t ht hW9 => ⟨0, rfl, rfl, ht⟩) (fun _ h9 => absurd h9 List.not_mem_nil) dX6_isHeld_40 hlocks
    · have h := ite_t h c32
      refine lv_iconst (v := 1) hx hb dX6_isHeld_35 (by decide) ?_
      refine lv_goto (tgt := 40) hx hb dX6_isHeld_36 (by decide) ?_
      have h := Option.some.inj h
      subst h
      exact W.zret (v := 1) hx hb hr rfl (fun t ht hW9 => ⟨1, rfl, rfl, ht⟩) (fun _ h9 => absurd h9 List.not_mem_nil) dX6_isHeld_40 hlocks
  · have h := ite_t h c7
    refine lv_iload_n hx hb dX6_isHeld_10 rfl (lv_at hl 1 rfl) ?_
    refine lv_iload_n hx hb dX6_isHeld_11 rfl (lv_at hl 2 rfl) ?_
    obtain ⟨r12, hc12, h⟩ := bd_o h
    refine callRI (va_runS (As := [.int x1, .int x2]) (rest := []) ⟨hx, hb, hml, hown, hts⟩ (mX6_what l _ _ _ hc12) ⟨callB_of 2 hts (wg_c wg299) rfl rfl rfl (hW _ wg274) (hW _ wg298) hdX6_what ⟨Nat.le_of_ble_eq_true rfl, Nat.le_of_ble_eq_true rfl⟩, hW _ wg300⟩ preEq rfl rfl hl.1 rfl (lv_room (Nat.le_of_ble_eq_true rfl)) dX6_isHeld_12 ⟨Nat.zero_le _, Nat.zero_le _⟩) ?_
    refine lv_if_le (tgt := 22) hx hb dX6_isHeld_15 (by decide) (fun c15 => ?_) (fun c15 => ?_)
    · have h := ite_t h c15
      refine lv_iconst (v := 0) hx hb dX6_isHeld_22 (by decide) ?_
      refine lv_goto (tgt := 40) hx hb dX6_isHeld_23 (by decide) ?_
      have h := Option.some.inj h
      subst h
      exact W.zret (v := 0) hx hb hr rfl (fun t ht hW9 => ⟨0, rfl, rfl, ht⟩) (fun _ h9 => absurd h9 List.not_mem_nil) dX6_isHeld_40 hlocks
    · have h := ite_f h c15
      refine lv_iconst (v := 1) hx hb dX6_isHeld_18 (by decide) ?_
      refine lv_goto (tgt := 40) hx hb dX6_isHeld_19 (by decide) ?_
      have h := Option.some.inj h
      subst h
      exact W.zret (v := 1) hx hb hr rfl (fun t ht hW9 => ⟨1, rfl, rfl, ht⟩) (fun _ h9 => absurd h9 List.not_mem_nil) dX6_isHeld_40 hlocks
set_option maxHeartbeats 4000000 in
set_option maxRecDepth 100000 in
theorem bX6_at_L20 {p : Program} {l : Launch} {e : Env} {s : State} {m : MethodId} {args : Array Value} {below : List Frame} {meth : Method} {c : Code} {D : va_G} {a : Nat → Nat} {k : Nat → ClassId} {σ : ST} {o : Int32} (C : Cx p s m args meth c cX6_at 4 RX6 (Cond.code yX6_at cX6_at 4 (some .int)) (some .int)) (hK : Kx D (tM k) s) (hP : va_P D vwCl (wM a k σ) s.heap) (hD : va_D (AM a) (wM a k σ)) : ∀ (x1 y0 : Int32) (ls : Array Slot), lv_has ls 4 [(1, .int x1)] → fX6_at_L20 σ x1 y0 = some o → W p l e ({ frames := 0, cells := 0, slots := 0, locals := 0 } : Room) s m args below meth c s.heap [] 0 0 (MQ below (vp_Si (fun z => z = o)) args s 0 0 (fun _ => False)) (F0 m 20 ls [.int y0]) := by
  have C0 := C
  obtain ⟨hx, hb, hr, hml, hown, hts, hlocks⟩ := C0
  have hW : ∀ w ∈ WG, w.before args s = true := fun w h => hts w (List.mem_cons_of_mem _ h)
  intro x1 y0 ls hl h
  unfold fX6_at_L20 at h
  refine lv_topi (fun x3_20 ex3_20 => ?_)
  have h := nm_o h ex3_20
  refine lv_istore_n (lv' := [(3, .int x3_20), (1, .int x1)]) hx hb dX6_at_20 rfl hl (by decide) rfl (fun ls hl => ?_)
  refine lv_sipush (v := 1024) hx hb dX6_at_21 (by decide) ?_
  refine lv_iload_n hx hb dX6_at_24 rfl (lv_at hl 0 rfl) ?_
  refine lv_imul hx hb dX6_at_25 ?_
  refine lv_iload_n hx hb dX6_at_26 rfl (lv_at hl 1 rfl) ?_
  refine lv_sipush (v := 1024) hx hb dX6_at_27 (by decide) ?_
  refine lv_irem hx hb dX6_at_30 (by decide) ?_
  refine lv_iadd hx hb dX6_at_31 ?_
  have h := Option.some.inj h
  subst h
  exact W.iret (v := ((1024 * x3_20) + (x1 - x1 / 1024 * 1024))) hx hb hr (fun t ht hW9 => ⟨((1024 * x3_20) + (x1 - x1 / 1024 * 1024)), rfl, rfl, ht⟩) (fun _ h9 => absurd h9 List.not_mem_nil) dX6_at_32 hlocks
set_option maxHeartbeats 4000000 in
set_option maxRecDepth 100000 in
theorem bX6_at_L14 {p : Program} {l : Launch} {e : Env} {s : State} {m : MethodId} {args : Array Value} {below : List Frame} {meth : Method} {c : Code} {D : va_G} {a : Nat → Nat} {k : Nat → ClassId} {σ : ST} {o : Int32} (C : Cx p s m args meth c cX6_at 4 RX6 (Cond.code yX6_at cX6_at 4 (some .int)) (some .int)) (hK : Kx D (tM k) s) (hP : va_P D vwCl (wM a k σ) s.heap) (hD : va_D (AM a) (wM a k σ)) : ∀ (x1 x2 : Int32) (ls : Array Slot), lv_has ls 4 [(1, .int x1), (2, .int x2)] → fX6_at_L14 σ x1 x2 = some o → W p l e ({ frames := 0, cells := 0, slots := 0, locals := 0 } : Room) s m args below meth c s.heap [] 0 0 (MQ below (vp_Si (fun z => z = o)) args s 0 0 (fun _ => False)) (F0 m 14 ls []) := by
  have C0 := C
  obtain ⟨hx, hb, hr, hml, hown, hts, hlocks⟩ := C0
  have hW : ∀ w ∈ WG, w.before args s = true := fun w h => hts w (List.mem_cons_of_mem _ h)
  intro x1 x2 ls hl h
  unfold fX6_at_L14 at h
  refine lv_iload_n hx hb dX6_at_14 rfl (lv_at hl 1 rfl) ?_
  refine lv_goto (tgt := 20) hx hb dX6_at_15 (by decide) ?_
  exact bX6_at_L20 C hK hP hD _ _ ls (lv_sub hl [0] rfl) h
set_option maxHeartbeats 4000000 in
set_option maxRecDepth 100000 in
theorem mX6_at (l : Launch) (D : va_G) (a : Nat → Nat) (k : Nat → ClassId) (σ : ST) (x1 x2 : Int32) (o : Int32) (h : fX6_at σ x1 x2 = some o) : Met l yX6_at ((Cond.code yX6_at cX6_at 4 (some .int)) :: WG) ({ frames := 0, cells := 0, slots := 0, locals := 0 } : Room) (Pw D (tM k) (AM a) (wM a k σ) [.ref (a 0), .int x1, .int x2]) (vp_Si (fun z => z = o)) 0 0 (fun _ => False) := by
  refine Met.ofW (cc := cX6_at) (maxL := 4) (ret := (some .int)) (by decide) rfl ?_
  intro p e s m args below meth c s₁ B hml0 hv
  have C : Cx p s m args meth c cX6_at 4 RX6 (Cond.code yX6_at cX6_at 4 (some .int)) (some .int) := ⟨B.exec, B.bytes, B.returns, hml0, findClass_of_methodNamed B.named, atoms_spec (ws := (Cond.code yX6_at cX6_at 4 (some .int)) :: WG) B.pre, B.notSynchronized⟩
  obtain ⟨rfl, hP, hK, hD⟩ := hv
  have hK : Kx D (tM k) s := hK
  have C0 := C
  obtain ⟨hx, hb, hr, hml, hown, hts, hlocks⟩ := C0
  have hW : ∀ w ∈ WG, w.before _ s = true := fun w h => hts w (List.mem_cons_of_mem _ h)
  show W p l e ({ frames := 0, cells := 0, slots := 0, locals := 0 } : Room) s m _ below meth c s.heap [] 0 0 _ _
  have hl := lv_entry ([.ref (a 0), .int x1, .int x2]) (n := 4) (Nat.le_of_ble_eq_true rfl)
  rw [lg_entry_eq]
  generalize (lg_sl ([.ref (a 0), .int x1, .int x2]) ++ List.replicate (4 - (lg_sl ([.ref (a 0), .int x1, .int x2])).length) Slot.unset).toArray = ls at hl ⊢
  have hl : lv_has ls 4 [(0, .ref (a 0)), (1, .int x1), (2, .int x2)] := hl
  unfold fX6_at at h
  refine lv_iload_n hx hb dX6_at_0 rfl (lv_at hl 2 rfl) ?_
  refine lv_bipush (v := 41) hx hb dX6_at_1 (by decide) ?_
  refine lv_icmp_eq (tgt := 14) hx hb dX6_at_3 (by decide) (fun c3 => ?_) (fun c3 => ?_)
  · have h := ite_t h c3
    exact bX6_at_L14 C hK hP hD _ _ ls (lv_sub hl [1, 2] rfl) h
  · have h := ite_f h c3
    refine lv_iload_n hx hb dX6_at_6 rfl (lv_at hl 2 rfl) ?_
    refine lv_aload_n hx hb dX6_at_7 rfl (lv_at hl 0 rfl) ?_
    refine va_get (D := D) (ci := 6) (v := .int (σ.1 1)) (C := RX6) (T := TX6) (N := 22) hx hb hW inX6G hown hK.1 hP 0 rfl rfl 4 (by decide) (hW _ wg293) (fun _ h9 => h9) rfl dX6_at_8 ?_
    refine lv_icmp_ge (tgt := 18) hx hb dX6_at_11 (by decide) (fun c11 => ?_) (fun c11 => ?_)
    · have h := ite_t h c11
      refine lv_bipush (v := 40) hx hb dX6_at_18 (by decide) ?_
      exact bX6_at_L20 C hK hP hD _ _ ls (lv_sub hl [1] rfl) h
    · have h := ite_f h c11
      exact bX6_at_L14 C hK hP hD _ _ ls (lv_sub hl [1, 2] rfl) h
set_option maxHeartbeats 4000000 in
set_option maxRecDepth 100000 in
theorem bX6_faultOf_L160 {p : Program} {l : Launch} {e : Env} {s : State} {m : MethodId} {args : Array Value} {below : List Frame} {meth : Method} {c : Code} {D : va_G} {a : Nat → Nat} {k : Nat → ClassId} {σ : ST} {o : Int32} (C : Cx p s m args meth c cX6_faultOf 4 RX6 (Cond.code yX6_faultOf cX6_faultOf 4 (some .int)) (some .int)) (hK : Kx D (tM k) s) (hP : va_P D vwCl (wM a k σ) s.heap) (hD : va_D (AM a) (wM a k σ)) : ∀ (ls : Array Slot), lv_has ls 4 [] → fX6_faultOf_L160 σ  = some o → W p l e ({ frames := 2, cells := 0, slots := 0, locals := 43 } : Room) s m args below meth c s.heap [] 0 0 (MQ below (vp_Si (fun z => z = o)) args s 0 0 (fun _ => False)) (F0 m 160 ls []) := by
  have C0 := C
  obtain ⟨hx, hb, hr, hml, hown, hts, hlocks⟩ := C0
  have hW : ∀ w ∈ WG, w.before args s = true := fun w h => hts w (List.mem_cons_of_mem _ h)
  intro  ls hl h
  unfold fX6_faultOf_L160 at h
  refine lv_iconst (v := 0) hx hb dX6_faultOf_160 (by decide) ?_
  refine lv_goto (tgt := 165) hx hb dX6_faultOf_161 (by decide) ?_
  have h := Option.some.inj h
  subst h
  exact W.iret (v := 0) hx hb hr (fun t ht hW9 => ⟨0, rfl, rfl, ht⟩) (fun _ h9 => absurd h9 List.not_mem_nil) dX6_faultOf_165 hlocks
set_option maxHeartbeats 4000000 in
set_option maxRecDepth 100000 in
theorem bX6_faultOf_L118 {p : Program} {l : Launch} {e : Env} {s : State} {m : MethodId} {args : Array Value} {below : List Frame} {meth : Method} {c : Code} {D : va_G} {a : Nat → Nat} {k : Nat → ClassId} {σ : ST} {o : Int32} (C : Cx p s m args meth c cX6_faultOf 4 RX6 (Cond.code yX6_faultOf cX6_faultOf 4 (some .int)) (some .int)) (hK : Kx D (tM k) s) (hP : va_P D vwCl (wM a k σ) s.heap) (hD : va_D (AM a) (wM a k σ)) : ∀ (ls : Array Slot), lv_has ls 4 [] → fX6_faultOf_L118 σ  = some o → W p l e ({ frames := 2, cells := 0, slots := 0, locals := 43 } : Room) s m args below meth c s.heap [] 0 0 (MQ below (vp_Si (fun z => z = o)) args s 0 0 (fun _ => False)) (F0 m 118 ls []) := by
  have C0 := C
  obtain ⟨hx, hb, hr, hml, hown, hts, hlocks⟩ := C0
  have hW : ∀ w ∈ WG, w.before args s = true := fun w h => hts w (List.mem_cons_of_mem _ h)
  intro  ls hl h
  unfold fX6_faultOf_L118 at h
  refine lv_iconst (v := 0) hx hb dX6_faultOf_118 (by decide) ?_
  refine lv_goto (tgt := 123) hx hb dX6_faultOf_119 (by decide) ?_
  have h := Option.some.inj h
  subst h
  exact W.iret (v := 0) hx hb hr (fun t ht hW9 => ⟨0, rfl, rfl, ht⟩) (fun _ h9 => absurd h9 List.not_mem_nil) dX6_faultOf_123 hlocks
set_option maxHeartbeats 4000000 in
set_option maxRecDepth 100000 in
theorem bX6_faultOf_L85 {p : Program} {l : Launch} {e : Env} {s : State} {m : MethodId} {args : Array Value} {below : List Frame} {meth : Method} {c : Code} {D : va_G} {a : Nat → Nat} {k : Nat → ClassId} {σ : ST} {o : Int32} (C : Cx p s m args meth c cX6_faultOf 4 RX6 (Cond.code yX6_faultOf cX6_faultOf 4 (some .int)) (some .int)) (hK : Kx D (tM k) s) (hP : va_P D vwCl (wM a k σ) s.heap) (hD : va_D (AM a) (wM a k σ)) : ∀ (ls : Array Slot), lv_has ls 4 [] → fX6_faultOf_L85 σ  = some o → W p l e ({ frames := 2, cells := 0, slots := 0, locals := 43 } : Room) s m args below meth c s.heap [] 0 0 (MQ below (vp_Si (fun z => z = o)) args s 0 0 (fun _ => False)) (F0 m 85 ls []) := by
  have C0 := C
  obtain ⟨hx, hb, hr, hml, hown, hts, hlocks⟩ := C0
  have hW : ∀ w ∈ WG, w.before args s = true := fun w h => hts w (List.mem_cons_of_mem _ h)
  intro  ls hl h
  unfold fX6_faultOf_L85 at h
  refine lv_iconst (v := 2) hx hb dX6_faultOf_85 (by decide) ?_
  refine lv_goto (tgt := 90) hx hb dX6_faultOf_86 (by decide) ?_
  have h := Option.some.inj h
  subst h
  exact W.iret (v := 2) hx hb hr (fun t ht hW9 => ⟨2, rfl, rfl, ht⟩) (fun _ h9 => absurd h9 List.not_mem_nil) dX6_faultOf_90 hlocks
set_option maxHeartbeats 4000000 in
set_option maxRecDepth 100000 in
theorem bX6_faultOf_L67 {p : Program} {l : Launch} {e : Env} {s : State} {m : MethodId} {args : Array Value} {below : List Frame} {meth : Method} {c : Code} {D : va_G} {a : Nat → Nat} {k : Nat → ClassId} {σ : ST} {o : Int32} (C : Cx p s m args meth c cX6_faultOf 4 RX6 (Cond.code yX6_faultOf cX6_faultOf 4 (some .int)) (some .int)) (hK : Kx D (tM k) s) (hP : va_P D vwCl (wM a k σ) s.heap) (hD : va_D (AM a) (wM a k σ)) : ∀ (x1 x3 : Int32) (ls : Array Slot), lv_has ls 4 [(0, .ref (a 0)), (1, .int x1), (3, .int x3)] → fX6_faultOf_L67 σ x1 x3 = some o → W p l e ({ frames := 2, cells := 0, slots := 0, locals := 43 } : Room) s m args below meth c s.heap [] 0 0 (MQ below (vp_Si (fun z => z = o)) args s 0 0 (fun _ => False)) (F0 m 67 ls []) := by
  have C0 := C
  obtain ⟨hx, hb, hr, hml, hown, hts, hlocks⟩ := C0
  have hW : ∀ w ∈ WG, w.before args s = true := fun w h => hts w (List.mem_cons_of_mem _ h)
  intro x1 x3 ls hl h
  unfold fX6_faultOf_L67 at h
  refine lv_aload_n hx hb dX6_faultOf_67 rfl (lv_at hl 0 rfl) ?_
  refine va_get (D := D) (ci := 6) (v := .ref (a 1)) (C := RX6) (T := TX6) (N := 22) hx hb hW inX6G hown hK.1 hP 0 rfl rfl 1 (by decide) (hW _ wg276) (fun _ h9 => h9) rfl dX6_faultOf_68 ?_
  refine lv_iload_n hx hb dX6_faultOf_71 rfl (lv_at hl 2 rfl) ?_
  obtain ⟨hi72, h⟩ := ix_o h
  refine va_iald (D := D) hx hb hK.1 hP 1 0 rfl rfl hi72 dX6_faultOf_72 ?_
  refine lv_if_ne (tgt := 89) hx hb dX6_faultOf_73 (by decide) (fun c73 => ?_) (fun c73 => ?_)
  · have h := ite_f h c73
    refine lv_iconst (v := 0) hx hb dX6_faultOf_89 (by decide) ?_
    have h := Option.some.inj h
    subst h
    exact W.iret (v := 0) hx hb hr (fun t ht hW9 => ⟨0, rfl, rfl, ht⟩) (fun _ h9 => absurd h9 List.not_mem_nil) dX6_faultOf_90 hlocks
  · have h := ite_t h c73
    refine lv_iload_n hx hb dX6_faultOf_76 rfl (lv_at hl 1 rfl) ?_
    refine lv_iload_n hx hb dX6_faultOf_77 rfl (lv_at hl 2 rfl) ?_
    obtain ⟨r78, hc78, h⟩ := bd_o h
    refine callRI (va_runS (As := [.int x1, .int x3]) (rest := []) ⟨hx, hb, hml, hown, hts⟩ (mX6_what l _ _ _ hc78) ⟨callB_of 2 hts (wg_c wg299) rfl rfl rfl (hW _ wg274) (hW _ wg298) hdX6_what ⟨Nat.le_of_ble_eq_true rfl, Nat.le_of_ble_eq_true rfl⟩, hW _ wg300⟩ preEq rfl rfl hl.1 rfl (lv_room (Nat.le_of_ble_eq_true rfl)) dX6_faultOf_78 ⟨Nat.zero_le _, Nat.zero_le _⟩) ?_
    refine lv_iconst (v := 1) hx hb dX6_faultOf_81 (by decide) ?_
    refine lv_icmp_ne (tgt := 89) hx hb dX6_faultOf_82 (by decide) (fun c82 => ?_) (fun c82 => ?_)
    · have h := ite_f h c82
      refine lv_iconst (v := 0) hx hb dX6_faultOf_89 (by decide) ?_
      have h := Option.some.inj h
      subst h
      exact W.iret (v := 0) hx hb hr (fun t ht hW9 => ⟨0, rfl, rfl, ht⟩) (fun _ h9 => absurd h9 List.not_mem_nil) dX6_faultOf_90 hlocks
    · have h := ite_t h c82
      exact bX6_faultOf_L85 C hK hP hD  ls (lv_sub hl [] rfl) h
set_option maxHeartbeats 4000000 in
set_option maxRecDepth 100000 in
theorem mX6_faultOf (l : Launch) (D : va_G) (a : Nat → Nat) (k : Nat → ClassId) (σ : ST) (x1 : Int32) (o : Int32) (h : fX6_faultOf σ x1 = some o) : Met l yX6_faultOf ((Cond.code yX6_faultOf cX6_faultOf 4 (some .int)) :: WG) ({ frames := 2, cells := 0, slots := 0, locals := 43 } : Room) (Pw D (tM k) (AM a) (wM a k σ) [.ref (a 0), .int x1]) (vp_Si (fun z => z = o)) 0 0 (fun _ => False) := by
  refine Met.ofW (cc := cX6_faultOf) (maxL := 4) (ret := (some .int)) (by decide) rfl ?_
  intro p e s m args below meth c s₁ B hml0 hv
  have C : Cx p s m args meth c cX6_faultOf 4 RX6 (Cond.code yX6_faultOf cX6_faultOf 4 (some .int)) (some .int) := ⟨B.exec, B.bytes, B.returns, hml0, findClass_of_methodNamed B.named, atoms_spec (ws := (Cond.code yX6_faultOf cX6_faultOf 4 (some .int)) :: WG) B.pre, B.notSynchronized⟩
  obtain ⟨rfl, hP, hK, hD⟩ := hv
  have hK : Kx D (tM k) s := hK
  have C0 := C
  obtain ⟨hx, hb, hr, hml, hown, hts, hlocks⟩ := C0
  have hW : ∀ w ∈ WG, w.before _ s = true := fun w h => hts w (List.mem_cons_of_mem _ h)
  show W p l e ({ frames := 2, cells := 0, slots := 0, locals := 43 } : Room) s m _ below meth c s.heap [] 0 0 _ _
  have hl := lv_entry ([.ref (a 0), .int x1]) (n := 4) (Nat.le_of_ble_eq_true rfl)
  rw [lg_entry_eq]
  generalize (lg_sl ([.ref (a 0), .int x1]) ++ List.replicate (4 - (lg_sl ([.ref (a 0), .int x1])).length) Slot.unset).toArray = ls at hl ⊢
  have hl : lv_has ls 4 [(0, .ref (a 0)), (1, .int x1)] := hl
  unfold fX6_faultOf at h
  refine lv_iload_n hx hb dX6_faultOf_0 rfl (lv_at hl 1 rfl) ?_
  obtain ⟨r1, hc1, h⟩ := bd_o h
  refine callRI (va_runS (As := [.int x1]) (rest := []) ⟨hx, hb, hml, hown, hts⟩ (mX6_place l _ _ hc1) ⟨callB_of 1 hts (wg_c wg302) rfl rfl rfl (hW _ wg274) (hW _ wg301) hdX6_place ⟨Nat.le_of_ble_eq_true rfl, Nat.le_of_ble_eq_true rfl⟩, hW _ wg303⟩ preEq rfl rfl hl.1 rfl (lv_room (Nat.le_of_ble_eq_true rfl)) dX6_faultOf_1 ⟨Nat.zero_le _, Nat.zero_le _⟩) ?_
  refine lv_istore_n (lv' := [(2, .int r1), (0, .ref (a 0)), (1, .int x1)]) hx hb dX6_faultOf_4 rfl hl (by decide) rfl (fun ls hl => ?_)
  refine lv_aload_n hx hb dX6_faultOf_5 rfl (lv_at hl 1 rfl) ?_
  refine va_get (D := D) (ci := 6) (v := .ref (a 5)) (C := RX6) (T := TX6) (N := 22) hx hb hW inX6G hown hK.1 hP 0 rfl rfl 6 (by decide) (hW _ wg286) (fun _ h9 => h9) rfl dX6_faultOf_6 ?_
  refine lv_iload_n hx hb dX6_faultOf_9 rfl (lv_at hl 0 rfl) ?_
  obtain ⟨hi10, h⟩ := ix_o h
  refine va_iald (D := D) hx hb hK.1 hP 5 4 rfl rfl hi10 dX6_faultOf_10 ?_
  refine lv_topi (fun x3_11 ex3_11 => ?_)
  have h := nm_o h ex3_11
  refine lv_istore_n (lv' := [(3, .int x3_11), (2, .int r1), (0, .ref (a 0)), (1, .int x1)]) hx hb dX6_faultOf_11 rfl hl (by decide) rfl (fun ls hl => ?_)
  refine lv_aload_n hx hb dX6_faultOf_12 rfl (lv_at hl 2 rfl) ?_
  refine va_get (D := D) (ci := 6) (v := .ref (a 4)) (C := RX6) (T := TX6) (N := 22) hx hb hW inX6G hown hK.1 hP 0 rfl rfl 5 (by decide) (hW _ wg285) (fun _ h9 => h9) rfl dX6_faultOf_13 ?_
  refine lv_iload_n hx hb dX6_faultOf_16 rfl (lv_at hl 1 rfl) ?_
  obtain ⟨hi17, h⟩ := ix_o h
  refine va_iald (D := D) hx hb hK.1 hP 4 3 rfl rfl hi17 dX6_faultOf_17 ?_
  by_cases c18_0 : (σ.2 3 r1.toNatClampNeg) = 0
  · have h := ite_t h c18_0
    refine lv_tableIn (tgt := 48) hx hb dX6_faultOf_18 (by rw [c18_0]; decide) (by rw [c18_0]; decide) (by rw [c18_0]; rfl) (by decide) ?_
    refine lv_aload_n hx hb dX6_faultOf_48 rfl (lv_at hl 2 rfl) ?_
    refine va_get (D := D) (ci := 6) (v := .ref (a 1)) (C := RX6) (T := TX6) (N := 22) hx hb hW inX6G hown hK.1 hP 0 rfl rfl 1 (by decide) (hW _ wg276) (fun _ h9 => h9) rfl dX6_faultOf_49 ?_
    refine lv_iload_n hx hb dX6_faultOf_52 rfl (lv_at hl 0 rfl) ?_
    obtain ⟨hi53, h⟩ := ix_o h
    refine va_iald (D := D) hx hb hK.1 hP 1 0 rfl rfl hi53 dX6_faultOf_53 ?_
    refine lv_iconst (v := 1) hx hb dX6_faultOf_54 (by decide) ?_
    refine lv_icmp_ne (tgt := 67) hx hb dX6_faultOf_55 (by decide) (fun c55 => ?_) (fun c55 => ?_)
    · have h := ite_f h c55
      exact bX6_faultOf_L67 C hK hP hD _ _ ls (lv_sub hl [2, 3, 0] rfl) h
    · have h := ite_t h c55
      refine lv_iload_n hx hb dX6_faultOf_58 rfl (lv_at hl 3 rfl) ?_
      refine lv_iload_n hx hb dX6_faultOf_59 rfl (lv_at hl 0 rfl) ?_
      obtain ⟨r60, hc60, h⟩ := bd_o h
      refine callRI (va_runS (As := [.int x1, .int x3_11]) (rest := []) ⟨hx, hb, hml, hown, hts⟩ (mX6_what l _ _ _ hc60) ⟨callB_of 2 hts (wg_c wg299) rfl rfl rfl (hW _ wg274) (hW _ wg298) hdX6_what ⟨Nat.le_of_ble_eq_true rfl, Nat.le_of_ble_eq_true rfl⟩, hW _ wg300⟩ preEq rfl rfl hl.1 rfl (lv_room (Nat.le_of_ble_eq_true rfl)) dX6_faultOf_60 ⟨Nat.zero_le _, Nat.zero_le _⟩) ?_
      refine lv_iconst (v := 3) hx hb dX6_faultOf_63 (by decide) ?_
      refine lv_icmp_eq (tgt := 85) hx hb dX6_faultOf_64 (by decide) (fun c64 => ?_) (fun c64 => ?_)
      · have h := ite_t h c64
        exact bX6_faultOf_L85 C hK hP hD  ls (lv_sub hl [] rfl) h
      · have h := ite_f h c64
        exact bX6_faultOf_L67 C hK hP hD _ _ ls (lv_sub hl [2, 3, 0] rfl) h
  · have h := ite_f h c18_0
    by_cases c18_1 : (σ.2 3 r1.toNatClampNeg) = 1
    · have h := ite_t h c18_1
      refine lv_tableIn (tgt := 91) hx hb dX6_faultOf_18 (by rw [c18_1]; decide) (by rw [c18_1]; decide) (by rw [c18_1]; rfl) (by decide) ?_
      refine lv_aload_n hx hb dX6_faultOf_91 rfl (lv_at hl 2 rfl) ?_
      refine lv_iload_n hx hb dX6_faultOf_92 rfl (lv_at hl 3 rfl) ?_
      refine lv_iload_n hx hb dX6_faultOf_93 rfl (lv_at hl 0 rfl) ?_
      obtain ⟨r94, hc94, h⟩ := bd_o h
      refine callRI (va_runV (As := [.int x1, .int x3_11]) (rest := []) ⟨hx, hb, hml, hown, hts⟩ (mX6_isHeld l D a k _ _ _ _ hc94) ⟨callB_of 2 hts (wg_c wg305) rfl rfl rfl (hW _ wg274) (hW _ wg304) hdX6_isHeld ⟨Nat.le_of_ble_eq_true rfl, Nat.le_of_ble_eq_true rfl⟩, hW _ wg306, hW _ wg307⟩ (pw_V hK hP hD (ci := 6) (q0 := 0) rfl rfl) rfl rfl hl.1 rfl (lv_room (Nat.le_of_ble_eq_true rfl)) dX6_faultOf_94 ⟨Nat.zero_le _, Nat.zero_le _⟩) ?_
      refine lv_if_ne (tgt := 118) hx hb dX6_faultOf_97 (by decide) (fun c97 => ?_) (fun c97 => ?_)
      · have h := ite_f h c97
        exact bX6_faultOf_L118 C hK hP hD  ls (lv_sub hl [] rfl) h
      · have h := ite_t h c97
        refine lv_aload_n hx hb dX6_faultOf_100 rfl (lv_at hl 2 rfl) ?_
        refine va_get (D := D) (ci := 6) (v := .ref (a 1)) (C := RX6) (T := TX6) (N := 22) hx hb hW inX6G hown hK.1 hP 0 rfl rfl 1 (by decide) (hW _ wg276) (fun _ h9 => h9) rfl dX6_faultOf_101 ?_
        refine lv_iload_n hx hb dX6_faultOf_104 rfl (lv_at hl 0 rfl) ?_
        obtain ⟨hi105, h⟩ := ix_o h
        refine va_iald (D := D) hx hb hK.1 hP 1 0 rfl rfl hi105 dX6_faultOf_105 ?_
        refine lv_if_ne (tgt := 122) hx hb dX6_faultOf_106 (by decide) (fun c106 => ?_) (fun c106 => ?_)
        · have h := ite_f h c106
          refine lv_iconst (v := 3) hx hb dX6_faultOf_122 (by decide) ?_
          have h := Option.some.inj h
          subst h
          exact W.iret (v := 3) hx hb hr (fun t ht hW9 => ⟨3, rfl, rfl, ht⟩) (fun _ h9 => absurd h9 List.not_mem_nil) dX6_faultOf_123 hlocks
        · have h := ite_t h c106
          refine lv_iload_n hx hb dX6_faultOf_109 rfl (lv_at hl 3 rfl) ?_
          refine lv_iload_n hx hb dX6_faultOf_110 rfl (lv_at hl 0 rfl) ?_
          obtain ⟨r111, hc111, h⟩ := bd_o h
          refine callRI (va_runS (As := [.int x1, .int x3_11]) (rest := []) ⟨hx, hb, hml, hown, hts⟩ (mX6_what l _ _ _ hc111) ⟨callB_of 2 hts (wg_c wg299) rfl rfl rfl (hW _ wg274) (hW _ wg298) hdX6_what ⟨Nat.le_of_ble_eq_true rfl, Nat.le_of_ble_eq_true rfl⟩, hW _ wg300⟩ preEq rfl rfl hl.1 rfl (lv_room (Nat.le_of_ble_eq_true rfl)) dX6_faultOf_111 ⟨Nat.zero_le _, Nat.zero_le _⟩) ?_
          refine lv_iconst (v := 3) hx hb dX6_faultOf_114 (by decide) ?_
          refine lv_icmp_ne (tgt := 122) hx hb dX6_faultOf_115 (by decide) (fun c115 => ?_) (fun c115 => ?_)
          · have h := ite_f h c115
            refine lv_iconst (v := 3) hx hb dX6_faultOf_122 (by decide) ?_
            have h := Option.some.inj h
            subst h
            exact W.iret (v := 3) hx hb hr (fun t ht hW9 => ⟨3, rfl, rfl, ht⟩) (fun _ h9 => absurd h9 List.not_mem_nil) dX6_faultOf_123 hlocks
          · have h := ite_t h c115
            exact bX6_faultOf_L118 C hK hP hD  ls (lv_sub hl [] rfl) h
    · have h := ite_f h c18_1
      by_cases c18_2 : (σ.2 3 r1.toNatClampNeg) = 2
      · have h := ite_t h c18_2
        refine lv_tableIn (tgt := 124) hx hb dX6_faultOf_18 (by rw [c18_2]; decide) (by rw [c18_2]; decide) (by rw [c18_2]; rfl) (by decide) ?_
        refine lv_aload_n hx hb dX6_faultOf_124 rfl (lv_at hl 2 rfl) ?_
        refine lv_iload_n hx hb dX6_faultOf_125 rfl (lv_at hl 3 rfl) ?_
        refine lv_iload_n hx hb dX6_faultOf_126 rfl (lv_at hl 0 rfl) ?_
        obtain ⟨r127, hc127, h⟩ := bd_o h
        refine callRI (va_runV (As := [.int x1, .int x3_11]) (rest := []) ⟨hx, hb, hml, hown, hts⟩ (mX6_isHeld l D a k _ _ _ _ hc127) ⟨callB_of 2 hts (wg_c wg305) rfl rfl rfl (hW _ wg274) (hW _ wg304) hdX6_isHeld ⟨Nat.le_of_ble_eq_true rfl, Nat.le_of_ble_eq_true rfl⟩, hW _ wg306, hW _ wg307⟩ (pw_V hK hP hD (ci := 6) (q0 := 0) rfl rfl) rfl rfl hl.1 rfl (lv_room (Nat.le_of_ble_eq_true rfl)) dX6_faultOf_127 ⟨Nat.zero_le _, Nat.zero_le _⟩) ?_
        refine lv_if_ne (tgt := 160) hx hb dX6_faultOf_130 (by decide) (fun c130 => ?_) (fun c130 => ?_)
        · have h := ite_f h c130
          exact bX6_faultOf_L160 C hK hP hD  ls (lv_sub hl [] rfl) h
        · have h := ite_t h c130
          refine lv_aload_n hx hb dX6_faultOf_133 rfl (lv_at hl 2 rfl) ?_
          refine va_get (D := D) (ci := 6) (v := .ref (a 1)) (C := RX6) (T := TX6) (N := 22) hx hb hW inX6G hown hK.1 hP 0 rfl rfl 1 (by decide) (hW _ wg276) (fun _ h9 => h9) rfl dX6_faultOf_134 ?_
          refine lv_iload_n hx hb dX6_faultOf_137 rfl (lv_at hl 0 rfl) ?_
          obtain ⟨hi138, h⟩ := ix_o h
          refine va_iald (D := D) hx hb hK.1 hP 1 0 rfl rfl hi138 dX6_faultOf_138 ?_
          refine lv_if_ne (tgt := 164) hx hb dX6_faultOf_139 (by decide) (fun c139 => ?_) (fun c139 => ?_)
          · have h := ite_f h c139
            refine lv_iconst (v := 4) hx hb dX6_faultOf_164 (by decide) ?_
            have h := Option.some.inj h
            subst h
            exact W.iret (v := 4) hx hb hr (fun t ht hW9 => ⟨4, rfl, rfl, ht⟩) (fun _ h9 => absurd h9 List.not_mem_nil) dX6_faultOf_165 hlocks
          · have h := ite_t h c139
            refine lv_aload_n hx hb dX6_faultOf_142 rfl (lv_at hl 2 rfl) ?_
            refine va_get (D := D) (ci := 6) (v := .ref (a 2)) (C := RX6) (T := TX6) (N := 22) hx hb hW inX6G hown hK.1 hP 0 rfl rfl 2 (by decide) (hW _ wg277) (fun _ h9 => h9) rfl dX6_faultOf_143 ?_
            refine lv_iload_n hx hb dX6_faultOf_146 rfl (lv_at hl 0 rfl) ?_
            obtain ⟨hi147, h⟩ := ix_o h
            refine va_zald (D := D) hx hb hK.1 hP 2 1 rfl rfl hi147 dX6_faultOf_147 ?_
            refine lv_if_eq (tgt := 164) hx hb dX6_faultOf_148 (by decide) (fun c148 => ?_) (fun c148 => ?_)
            · have h := ite_t h c148
              refine lv_iconst (v := 4) hx hb dX6_faultOf_164 (by decide) ?_
              have h := Option.some.inj h
              subst h
              exact W.iret (v := 4) hx hb hr (fun t ht hW9 => ⟨4, rfl, rfl, ht⟩) (fun _ h9 => absurd h9 List.not_mem_nil) dX6_faultOf_165 hlocks
            · have h := ite_f h c148
              refine lv_iload_n hx hb dX6_faultOf_151 rfl (lv_at hl 3 rfl) ?_
              refine lv_iload_n hx hb dX6_faultOf_152 rfl (lv_at hl 0 rfl) ?_
              obtain ⟨r153, hc153, h⟩ := bd_o h
              refine callRI (va_runS (As := [.int x1, .int x3_11]) (rest := []) ⟨hx, hb, hml, hown, hts⟩ (mX6_what l _ _ _ hc153) ⟨callB_of 2 hts (wg_c wg299) rfl rfl rfl (hW _ wg274) (hW _ wg298) hdX6_what ⟨Nat.le_of_ble_eq_true rfl, Nat.le_of_ble_eq_true rfl⟩, hW _ wg300⟩ preEq rfl rfl hl.1 rfl (lv_room (Nat.le_of_ble_eq_true rfl)) dX6_faultOf_153 ⟨Nat.zero_le _, Nat.zero_le _⟩) ?_
              refine lv_iconst (v := 2) hx hb dX6_faultOf_156 (by decide) ?_
              refine lv_icmp_ne (tgt := 164) hx hb dX6_faultOf_157 (by decide) (fun c157 => ?_) (fun c157 => ?_)
              · have h := ite_f h c157
                refine lv_iconst (v := 4) hx hb dX6_faultOf_164 (by decide) ?_
                have h := Option.some.inj h
                subst h
                exact W.iret (v := 4) hx hb hr (fun t ht hW9 => ⟨4, rfl, rfl, ht⟩) (fun _ h9 => absurd h9 List.not_mem_nil) dX6_faultOf_165 hlocks
              · have h := ite_t h c157
                exact bX6_faultOf_L160 C hK hP hD  ls (lv_sub hl [] rfl) h
      · have h := ite_f h c18_2
        by_cases c18_3 : (σ.2 3 r1.toNatClampNeg) = 3
        · have h := ite_t h c18_3
          refine lv_tableIn (tgt := 166) hx hb dX6_faultOf_18 (by rw [c18_3]; decide) (by rw [c18_3]; decide) (by rw [c18_3]; rfl) (by decide) ?_
          refine lv_iload_n hx hb dX6_faultOf_166 rfl (lv_at hl 3 rfl) ?_
          refine lv_iload_n hx hb dX6_faultOf_167 rfl (lv_at hl 0 rfl) ?_
          obtain ⟨r168, hc168, h⟩ := bd_o h
          refine callRI (va_runS (As := [.int x1, .int x3_11]) (rest := []) ⟨hx, hb, hml, hown, hts⟩ (mX6_what l _ _ _ hc168) ⟨callB_of 2 hts (wg_c wg299) rfl rfl rfl (hW _ wg274) (hW _ wg298) hdX6_what ⟨Nat.le_of_ble_eq_true rfl, Nat.le_of_ble_eq_true rfl⟩, hW _ wg300⟩ preEq rfl rfl hl.1 rfl (lv_room (Nat.le_of_ble_eq_true rfl)) dX6_faultOf_168 ⟨Nat.zero_le _, Nat.zero_le _⟩) ?_
          refine lv_iconst (v := 1) hx hb dX6_faultOf_171 (by decide) ?_
          refine lv_icmp_ne (tgt := 179) hx hb dX6_faultOf_172 (by decide) (fun c172 => ?_) (fun c172 => ?_)
          · have h := ite_f h c172
            refine lv_iconst (v := 3) hx hb dX6_faultOf_179 (by decide) ?_
            have h := Option.some.inj h
            subst h
            exact W.iret (v := 3) hx hb hr (fun t ht hW9 => ⟨3, rfl, rfl, ht⟩) (fun _ h9 => absurd h9 List.not_mem_nil) dX6_faultOf_180 hlocks
          · have h := ite_t h c172
            refine lv_iconst (v := 0) hx hb dX6_faultOf_175 (by decide) ?_
            refine lv_goto (tgt := 180) hx hb dX6_faultOf_176 (by decide) ?_
            have h := Option.some.inj h
            subst h
            exact W.iret (v := 0) hx hb hr (fun t ht hW9 => ⟨0, rfl, rfl, ht⟩) (fun _ h9 => absurd h9 List.not_mem_nil) dX6_faultOf_180 hlocks
        · have h := ite_f h c18_3
          refine lv_tableOut (tgt := 181) hx hb dX6_faultOf_18 (by have z0 := lv_neT c18_0 (a := 0) (by decide); have z1 := lv_neT c18_1 (a := 1) (by decide); have z2 := lv_neT c18_2 (a := 2) (by decide); have z3 := lv_neT c18_3 (a := 3) (by decide); omega) (by decide) ?_
          refine lv_iconst (v := 0) hx hb dX6_faultOf_181 (by decide) ?_
          have h := Option.some.inj h
          subst h
          exact W.iret (v := 0) hx hb hr (fun t ht hW9 => ⟨0, rfl, rfl, ht⟩) (fun _ h9 => absurd h9 List.not_mem_nil) dX6_faultOf_182 hlocks
set_option maxHeartbeats 4000000 in
set_option maxRecDepth 100000 in
theorem bX6_done_L104 {p : Program} {l : Launch} {e : Env} {s : State} {m : MethodId} {args : Array Value} {below : List Frame} {meth : Method} {c : Code} {D : va_G} {a : Nat → Nat} {k : Nat → ClassId} {σ : ST} {o : Int32} (C : Cx p s m args meth c cX6_done 6 RX6 (Cond.code yX6_done cX6_done 6 (some .int)) (some .int)) (hK : Kx D (tM k) s) (hP : va_P D vwCl (wM a k σ) s.heap) (hD : va_D (AM a) (wM a k σ)) : ∀ (n : Nat) (x4 x5 : Int32) (ls : Array Slot), lv_has ls 6 [(0, .ref (a 0)), (4, .int x4), (5, .int x5)] → fX6_done_L104 σ n x4 x5 = some o → W p l e ({ frames := 2, cells := 0, slots := 0, locals := 43 } : Room) s m args below meth c s.heap [] 0 0 (MQ below (vp_Si (fun z => z = o)) args s 0 0 (fun _ => False)) (F0 m 104 ls []) := by
  have C0 := C
  obtain ⟨hx, hb, hr, hml, hown, hts, hlocks⟩ := C0
  have hW : ∀ w ∈ WG, w.before args s = true := fun w h => hts w (List.mem_cons_of_mem _ h)
  intro n
  induction n with
  | zero =>
    intro x4 x5 ls hl h
    rw [fX6_done_L104] at h
    cases h
  | succ n ih =>
      intro x4 x5 ls hl h
      rw [fX6_done_L104] at h
      refine lv_iload hx hb dX6_done_104 (lv_at hl 2 rfl) ?_
      refine lv_iconst (v := (-1)) hx hb dX6_done_106 (by decide) ?_
      refine lv_icmp_eq (tgt := 143) hx hb dX6_done_107 (by decide) (fun c107 => ?_) (fun c107 => ?_)
      · have h := ite_t h c107
        refine lv_iload hx hb dX6_done_143 (lv_at hl 1 rfl) ?_
        have h := Option.some.inj h
        subst h
        exact W.iret (v := x4) hx hb hr (fun t ht hW9 => ⟨x4, rfl, rfl, ht⟩) (fun _ h9 => absurd h9 List.not_mem_nil) dX6_done_145 hlocks
      · have h := ite_f h c107
        refine lv_iload hx hb dX6_done_110 (lv_at hl 1 rfl) ?_
        refine lv_iload hx hb dX6_done_112 (lv_at hl 2 rfl) ?_
        obtain ⟨r114, hc114, h⟩ := bd_o h
        refine callRI (va_runS (As := [.int x4, .int x5]) (rest := []) ⟨hx, hb, hml, hown, hts⟩ (mX6_what l _ _ _ hc114) ⟨callB_of 2 hts (wg_c wg299) rfl rfl rfl (hW _ wg274) (hW _ wg298) hdX6_what ⟨Nat.le_of_ble_eq_true rfl, Nat.le_of_ble_eq_true rfl⟩, hW _ wg300⟩ preEq rfl rfl hl.1 rfl (lv_room (Nat.le_of_ble_eq_true rfl)) dX6_done_114 ⟨Nat.zero_le _, Nat.zero_le _⟩) ?_
        refine lv_iconst (v := 1) hx hb dX6_done_117 (by decide) ?_
        refine lv_icmp_ne (tgt := 143) hx hb dX6_done_118 (by decide) (fun c118 => ?_) (fun c118 => ?_)
        · have h := ite_f h c118
          refine lv_iload hx hb dX6_done_143 (lv_at hl 1 rfl) ?_
          have h := Option.some.inj h
          subst h
          exact W.iret (v := x4) hx hb hr (fun t ht hW9 => ⟨x4, rfl, rfl, ht⟩) (fun _ h9 => absurd h9 List.not_mem_nil) dX6_done_145 hlocks
        · have h := ite_t h c118
          refine lv_iload hx hb dX6_done_121 (lv_at hl 1 rfl) ?_
          refine lv_iload hx hb dX6_done_123 (lv_at hl 2 rfl) ?_
          refine lv_iconst (v := 2) hx hb dX6_done_125 (by decide) ?_
          obtain ⟨r126, hc126, h⟩ := bd_o h
          refine callRI (va_runS (As := [.int x4, .int x5, .int 2]) (rest := []) ⟨hx, hb, hml, hown, hts⟩ (mX6_with l _ _ _ _ hc126) ⟨callB_of 3 hts (wg_c wg309) rfl rfl rfl (hW _ wg274) (hW _ wg308) hdX6_with ⟨Nat.le_of_ble_eq_true rfl, Nat.le_of_ble_eq_true rfl⟩, hW _ wg310⟩ preEq rfl rfl hl.1 rfl (lv_room (Nat.le_of_ble_eq_true rfl)) dX6_done_126 ⟨Nat.zero_le _, Nat.zero_le _⟩) ?_
          refine lv_istore (lv' := [(4, .int r126), (0, .ref (a 0)), (5, .int x5)]) hx hb dX6_done_129 hl (by decide) rfl (fun ls hl => ?_)
          refine lv_aload_n hx hb dX6_done_131 rfl (lv_at hl 1 rfl) ?_
          refine va_get (D := D) (ci := 6) (v := .ref (a 3)) (C := RX6) (T := TX6) (N := 22) hx hb hW inX6G hown hK.1 hP 0 rfl rfl 3 (by decide) (hW _ wg278) (fun _ h9 => h9) rfl dX6_done_132 ?_
          refine lv_iload hx hb dX6_done_135 (lv_at hl 2 rfl) ?_
          obtain ⟨hi137, h⟩ := ix_o h
          refine va_iald (D := D) hx hb hK.1 hP 3 2 rfl rfl hi137 dX6_done_137 ?_
          refine lv_topi (fun x5_138 ex5_138 => ?_)
          have h := nm_o h ex5_138
          refine lv_istore (lv' := [(5, .int x5_138), (4, .int r126), (0, .ref (a 0))]) hx hb dX6_done_138 hl (by decide) rfl (fun ls hl => ?_)
          refine lv_goto (tgt := 104) hx hb dX6_done_140 (by decide) ?_
          exact ih _ _ ls (lv_sub hl [2, 1, 0] rfl) h
set_option maxHeartbeats 4000000 in
set_option maxRecDepth 100000 in
theorem bX6_done_L71 {p : Program} {l : Launch} {e : Env} {s : State} {m : MethodId} {args : Array Value} {below : List Frame} {meth : Method} {c : Code} {D : va_G} {a : Nat → Nat} {k : Nat → ClassId} {σ : ST} {o : Int32} (C : Cx p s m args meth c cX6_done 6 RX6 (Cond.code yX6_done cX6_done 6 (some .int)) (some .int)) (hK : Kx D (tM k) s) (hP : va_P D vwCl (wM a k σ) s.heap) (hD : va_D (AM a) (wM a k σ)) : ∀ (y0 y1 y2 : Int32) (ls : Array Slot), lv_has ls 6 [] → fX6_done_L71 σ y0 y1 y2 = some o → W p l e ({ frames := 2, cells := 0, slots := 0, locals := 43 } : Room) s m args below meth c s.heap [] 0 0 (MQ below (vp_Si (fun z => z = o)) args s 0 0 (fun _ => False)) (F0 m 71 ls [.int y2, .int y1, .int y0]) := by
  have C0 := C
  obtain ⟨hx, hb, hr, hml, hown, hts, hlocks⟩ := C0
  have hW : ∀ w ∈ WG, w.before args s = true := fun w h => hts w (List.mem_cons_of_mem _ h)
  intro y0 y1 y2 ls hl h
  unfold fX6_done_L71 at h
  obtain ⟨r71, hc71, h⟩ := bd_o h
  refine callRI (va_runS (As := [.int y0, .int y1, .int y2]) (rest := []) ⟨hx, hb, hml, hown, hts⟩ (mX6_with l _ _ _ _ hc71) ⟨callB_of 3 hts (wg_c wg309) rfl rfl rfl (hW _ wg274) (hW _ wg308) hdX6_with ⟨Nat.le_of_ble_eq_true rfl, Nat.le_of_ble_eq_true rfl⟩, hW _ wg310⟩ preEq rfl rfl hl.1 rfl (lv_room (Nat.le_of_ble_eq_true rfl)) dX6_done_71 ⟨Nat.zero_le _, Nat.zero_le _⟩) ?_
  have h := Option.some.inj h
  subst h
  exact W.iret (v := r71) hx hb hr (fun t ht hW9 => ⟨r71, rfl, rfl, ht⟩) (fun _ h9 => absurd h9 List.not_mem_nil) dX6_done_74 hlocks
set_option maxHeartbeats 4000000 in
set_option maxRecDepth 100000 in
theorem mX6_done (l : Launch) (D : va_G) (a : Nat → Nat) (k : Nat → ClassId) (σ : ST) (x1 : Int32) (o : Int32) (h : fX6_done σ x1 = some o) : Met l yX6_done ((Cond.code yX6_done cX6_done 6 (some .int)) :: WG) ({ frames := 2, cells := 0, slots := 0, locals := 43 } : Room) (Pw D (tM k) (AM a) (wM a k σ) [.ref (a 0), .int x1]) (vp_Si (fun z => z = o)) 0 0 (fun _ => False) := by
  refine Met.ofW (cc := cX6_done) (maxL := 6) (ret := (some .int)) (by decide) rfl ?_
  intro p e s m args below meth c s₁ B hml0 hv
  have C : Cx p s m args meth c cX6_done 6 RX6 (Cond.code yX6_done cX6_done 6 (some .int)) (some .int) := ⟨B.exec, B.bytes, B.returns, hml0, findClass_of_methodNamed B.named, atoms_spec (ws := (Cond.code yX6_done cX6_done 6 (some .int)) :: WG) B.pre, B.notSynchronized⟩
  obtain ⟨rfl, hP, hK, hD⟩ := hv
  have hK : Kx D (tM k) s := hK
  have C0 := C
  obtain ⟨hx, hb, hr, hml, hown, hts, hlocks⟩ := C0
  have hW : ∀ w ∈ WG, w.before _ s = true := fun w h => hts w (List.mem_cons_of_mem _ h)
  show W p l e ({ frames := 2, cells := 0, slots := 0, locals := 43 } : Room) s m _ below meth c s.heap [] 0 0 _ _
  have hl := lv_entry ([.ref (a 0), .int x1]) (n := 6) (Nat.le_of_ble_eq_true rfl)
  rw [lg_entry_eq]
  generalize (lg_sl ([.ref (a 0), .int x1]) ++ List.replicate (6 - (lg_sl ([.ref (a 0), .int x1])).length) Slot.unset).toArray = ls at hl ⊢
  have hl : lv_has ls 6 [(0, .ref (a 0)), (1, .int x1)] := hl
  unfold fX6_done at h
  refine lv_iload_n hx hb dX6_done_0 rfl (lv_at hl 1 rfl) ?_
  obtain ⟨r1, hc1, h⟩ := bd_o h
  refine callRI (va_runS (As := [.int x1]) (rest := []) ⟨hx, hb, hml, hown, hts⟩ (mX6_place l _ _ hc1) ⟨callB_of 1 hts (wg_c wg302) rfl rfl rfl (hW _ wg274) (hW _ wg301) hdX6_place ⟨Nat.le_of_ble_eq_true rfl, Nat.le_of_ble_eq_true rfl⟩, hW _ wg303⟩ preEq rfl rfl hl.1 rfl (lv_room (Nat.le_of_ble_eq_true rfl)) dX6_done_1 ⟨Nat.zero_le _, Nat.zero_le _⟩) ?_
  refine lv_istore_n (lv' := [(2, .int r1), (0, .ref (a 0)), (1, .int x1)]) hx hb dX6_done_4 rfl hl (by decide) rfl (fun ls hl => ?_)
  refine lv_aload_n hx hb dX6_done_5 rfl (lv_at hl 1 rfl) ?_
  refine va_get (D := D) (ci := 6) (v := .ref (a 5)) (C := RX6) (T := TX6) (N := 22) hx hb hW inX6G hown hK.1 hP 0 rfl rfl 6 (by decide) (hW _ wg286) (fun _ h9 => h9) rfl dX6_done_6 ?_
  refine lv_iload_n hx hb dX6_done_9 rfl (lv_at hl 0 rfl) ?_
  obtain ⟨hi10, h⟩ := ix_o h
  refine va_iald (D := D) hx hb hK.1 hP 5 4 rfl rfl hi10 dX6_done_10 ?_
  refine lv_topi (fun x3_11 ex3_11 => ?_)
  have h := nm_o h ex3_11
  refine lv_istore_n (lv' := [(3, .int x3_11), (2, .int r1), (0, .ref (a 0)), (1, .int x1)]) hx hb dX6_done_11 rfl hl (by decide) rfl (fun ls hl => ?_)
  refine lv_aload_n hx hb dX6_done_12 rfl (lv_at hl 2 rfl) ?_
  refine va_get (D := D) (ci := 6) (v := .ref (a 4)) (C := RX6) (T := TX6) (N := 22) hx hb hW inX6G hown hK.1 hP 0 rfl rfl 5 (by decide) (hW _ wg285) (fun _ h9 => h9) rfl dX6_done_13 ?_
  refine lv_iload_n hx hb dX6_done_16 rfl (lv_at hl 1 rfl) ?_
  obtain ⟨hi17, h⟩ := ix_o h
  refine va_iald (D := D) hx hb hK.1 hP 4 3 rfl rfl hi17 dX6_done_17 ?_
  by_cases c18_0 : (σ.2 3 r1.toNatClampNeg) = 0
  · have h := ite_t h c18_0
    refine lv_tableIn (tgt := 48) hx hb dX6_done_18 (by rw [c18_0]; decide) (by rw [c18_0]; decide) (by rw [c18_0]; rfl) (by decide) ?_
    refine lv_iload_n hx hb dX6_done_48 rfl (lv_at hl 3 rfl) ?_
    refine lv_iload_n hx hb dX6_done_49 rfl (lv_at hl 0 rfl) ?_
    refine lv_aload_n hx hb dX6_done_50 rfl (lv_at hl 2 rfl) ?_
    refine va_get (D := D) (ci := 6) (v := .ref (a 1)) (C := RX6) (T := TX6) (N := 22) hx hb hW inX6G hown hK.1 hP 0 rfl rfl 1 (by decide) (hW _ wg276) (fun _ h9 => h9) rfl dX6_done_51 ?_
    refine lv_iload_n hx hb dX6_done_54 rfl (lv_at hl 0 rfl) ?_
    obtain ⟨hi55, h⟩ := ix_o h
    refine va_iald (D := D) hx hb hK.1 hP 1 0 rfl rfl hi55 dX6_done_55 ?_
    refine lv_iconst (v := 1) hx hb dX6_done_56 (by decide) ?_
    refine lv_icmp_ne (tgt := 70) hx hb dX6_done_57 (by decide) (fun c57 => ?_) (fun c57 => ?_)
    · have h := ite_f h c57
      refine lv_iconst (v := 1) hx hb dX6_done_70 (by decide) ?_
      exact bX6_done_L71 C hK hP hD _ _ _ ls (lv_sub hl [] rfl) h
    · have h := ite_t h c57
      refine lv_iload_n hx hb dX6_done_60 rfl (lv_at hl 3 rfl) ?_
      refine lv_iload_n hx hb dX6_done_61 rfl (lv_at hl 0 rfl) ?_
      obtain ⟨r62, hc62, h⟩ := bd_o h
      refine callRI (va_runS (As := [.int x1, .int x3_11]) (rest := [.int x3_11, .int x1]) ⟨hx, hb, hml, hown, hts⟩ (mX6_what l _ _ _ hc62) ⟨callB_of 2 hts (wg_c wg299) rfl rfl rfl (hW _ wg274) (hW _ wg298) hdX6_what ⟨Nat.le_of_ble_eq_true rfl, Nat.le_of_ble_eq_true rfl⟩, hW _ wg300⟩ preEq rfl rfl hl.1 rfl (lv_room (Nat.le_of_ble_eq_true rfl)) dX6_done_62 ⟨Nat.zero_le _, Nat.zero_le _⟩) ?_
      refine lv_iconst (v := 1) hx hb dX6_done_65 (by decide) ?_
      refine lv_iadd hx hb dX6_done_66 ?_
      refine lv_goto (tgt := 71) hx hb dX6_done_67 (by decide) ?_
      exact bX6_done_L71 C hK hP hD _ _ _ ls (lv_sub hl [] rfl) h
  · have h := ite_f h c18_0
    by_cases c18_1 : (σ.2 3 r1.toNatClampNeg) = 1
    · have h := ite_t h c18_1
      refine lv_tableIn (tgt := 153) hx hb dX6_done_18 (by rw [c18_1]; decide) (by rw [c18_1]; decide) (by rw [c18_1]; rfl) (by decide) ?_
      refine lv_iload_n hx hb dX6_done_153 rfl (lv_at hl 3 rfl) ?_
      have h := Option.some.inj h
      subst h
      exact W.iret (v := x1) hx hb hr (fun t ht hW9 => ⟨x1, rfl, rfl, ht⟩) (fun _ h9 => absurd h9 List.not_mem_nil) dX6_done_154 hlocks
    · have h := ite_f h c18_1
      by_cases c18_2 : (σ.2 3 r1.toNatClampNeg) = 2
      · have h := ite_t h c18_2
        refine lv_tableIn (tgt := 75) hx hb dX6_done_18 (by rw [c18_2]; decide) (by rw [c18_2]; decide) (by rw [c18_2]; rfl) (by decide) ?_
        refine lv_aload_n hx hb dX6_done_75 rfl (lv_at hl 2 rfl) ?_
        refine va_get (D := D) (ci := 6) (v := .ref (a 1)) (C := RX6) (T := TX6) (N := 22) hx hb hW inX6G hown hK.1 hP 0 rfl rfl 1 (by decide) (hW _ wg276) (fun _ h9 => h9) rfl dX6_done_76 ?_
        refine lv_iload_n hx hb dX6_done_79 rfl (lv_at hl 0 rfl) ?_
        obtain ⟨hi80, h⟩ := ix_o h
        refine va_iald (D := D) hx hb hK.1 hP 1 0 rfl rfl hi80 dX6_done_80 ?_
        refine lv_iconst (v := 1) hx hb dX6_done_81 (by decide) ?_
        refine lv_icmp_ne (tgt := 98) hx hb dX6_done_82 (by decide) (fun c82 => ?_) (fun c82 => ?_)
        · have h := ite_f h c82
          refine lv_iload_n hx hb dX6_done_98 rfl (lv_at hl 3 rfl) ?_
          refine lv_istore (lv' := [(4, .int x1), (3, .int x3_11), (2, .int r1), (0, .ref (a 0)), (1, .int x1)]) hx hb dX6_done_99 hl (by decide) rfl (fun ls hl => ?_)
          refine lv_iload_n hx hb dX6_done_101 rfl (lv_at hl 1 rfl) ?_
          refine lv_istore (lv' := [(5, .int x3_11), (4, .int x1), (3, .int x3_11), (2, .int r1), (0, .ref (a 0)), (1, .int x1)]) hx hb dX6_done_102 hl (by decide) rfl (fun ls hl => ?_)
          exact bX6_done_L104 C hK hP hD FUEL _ _ ls (lv_sub hl [4, 1, 0] rfl) h
        · have h := ite_t h c82
          refine lv_iload_n hx hb dX6_done_85 rfl (lv_at hl 3 rfl) ?_
          refine lv_iload_n hx hb dX6_done_86 rfl (lv_at hl 0 rfl) ?_
          refine lv_iload_n hx hb dX6_done_87 rfl (lv_at hl 3 rfl) ?_
          refine lv_iload_n hx hb dX6_done_88 rfl (lv_at hl 0 rfl) ?_
          obtain ⟨r89, hc89, h⟩ := bd_o h
          refine callRI (va_runS (As := [.int x1, .int x3_11]) (rest := [.int x3_11, .int x1]) ⟨hx, hb, hml, hown, hts⟩ (mX6_what l _ _ _ hc89) ⟨callB_of 2 hts (wg_c wg299) rfl rfl rfl (hW _ wg274) (hW _ wg298) hdX6_what ⟨Nat.le_of_ble_eq_true rfl, Nat.le_of_ble_eq_true rfl⟩, hW _ wg300⟩ preEq rfl rfl hl.1 rfl (lv_room (Nat.le_of_ble_eq_true rfl)) dX6_done_89 ⟨Nat.zero_le _, Nat.zero_le _⟩) ?_
          refine lv_iconst (v := 1) hx hb dX6_done_92 (by decide) ?_
          refine lv_isub hx hb dX6_done_93 ?_
          obtain ⟨r94, hc94, h⟩ := bd_o h
          refine callRI (va_runS (As := [.int x1, .int x3_11, .int (r89 - 1)]) (rest := []) ⟨hx, hb, hml, hown, hts⟩ (mX6_with l _ _ _ _ hc94) ⟨callB_of 3 hts (wg_c wg309) rfl rfl rfl (hW _ wg274) (hW _ wg308) hdX6_with ⟨Nat.le_of_ble_eq_true rfl, Nat.le_of_ble_eq_true rfl⟩, hW _ wg310⟩ preEq rfl rfl hl.1 rfl (lv_room (Nat.le_of_ble_eq_true rfl)) dX6_done_94 ⟨Nat.zero_le _, Nat.zero_le _⟩) ?_
          have h := Option.some.inj h
          subst h
          exact W.iret (v := r94) hx hb hr (fun t ht hW9 => ⟨r94, rfl, rfl, ht⟩) (fun _ h9 => absurd h9 List.not_mem_nil) dX6_done_97 hlocks
      · have h := ite_f h c18_2
        by_cases c18_3 : (σ.2 3 r1.toNatClampNeg) = 3
        · have h := ite_t h c18_3
          refine lv_tableIn (tgt := 146) hx hb dX6_done_18 (by rw [c18_3]; decide) (by rw [c18_3]; decide) (by rw [c18_3]; rfl) (by decide) ?_
          refine lv_iload_n hx hb dX6_done_146 rfl (lv_at hl 3 rfl) ?_
          refine lv_iload_n hx hb dX6_done_147 rfl (lv_at hl 0 rfl) ?_
          refine lv_iconst (v := 3) hx hb dX6_done_148 (by decide) ?_
          obtain ⟨r149, hc149, h⟩ := bd_o h
          refine callRI (va_runS (As := [.int x1, .int x3_11, .int 3]) (rest := []) ⟨hx, hb, hml, hown, hts⟩ (mX6_with l _ _ _ _ hc149) ⟨callB_of 3 hts (wg_c wg309) rfl rfl rfl (hW _ wg274) (hW _ wg308) hdX6_with ⟨Nat.le_of_ble_eq_true rfl, Nat.le_of_ble_eq_true rfl⟩, hW _ wg310⟩ preEq rfl rfl hl.1 rfl (lv_room (Nat.le_of_ble_eq_true rfl)) dX6_done_149 ⟨Nat.zero_le _, Nat.zero_le _⟩) ?_
          have h := Option.some.inj h
          subst h
          exact W.iret (v := r149) hx hb hr (fun t ht hW9 => ⟨r149, rfl, rfl, ht⟩) (fun _ h9 => absurd h9 List.not_mem_nil) dX6_done_152 hlocks
        · have h := ite_f h c18_3
          refine lv_tableOut (tgt := 153) hx hb dX6_done_18 (by have z0 := lv_neT c18_0 (a := 0) (by decide); have z1 := lv_neT c18_1 (a := 1) (by decide); have z2 := lv_neT c18_2 (a := 2) (by decide); have z3 := lv_neT c18_3 (a := 3) (by decide); omega) (by decide) ?_
          refine lv_iload_n hx hb dX6_done_153 rfl (lv_at hl 3 rfl) ?_
          have h := Option.some.inj h
          subst h
          exact W.iret (v := x1) hx hb hr (fun t ht hW9 => ⟨x1, rfl, rfl, ht⟩) (fun _ h9 => absurd h9 List.not_mem_nil) dX6_done_154 hlocks
set_option maxHeartbeats 4000000 in
set_option maxRecDepth 100000 in
theorem bX6_throwsTo_L23 {p : Program} {l : Launch} {e : Env} {s : State} {m : MethodId} {args : Array Value} {below : List Frame} {meth : Method} {c : Code} {D : va_G} {a : Nat → Nat} {k : Nat → ClassId} {σ : ST} {o : Int32} (C : Cx p s m args meth c cX6_throwsTo 3 RX6 (Cond.code yX6_throwsTo cX6_throwsTo 3 (some .int)) (some .int)) (hK : Kx D (tM k) s) (hP : va_P D vwCl (wM a k σ) s.heap) (hD : va_D (AM a) (wM a k σ)) : ∀ (y1 y2 : Int32) (ls : Array Slot), lv_has ls 3 [] → fX6_throwsTo_L23 σ y1 y2 = some o → W p l e ({ frames := 1, cells := 0, slots := 0, locals := 23 } : Room) s m args below meth c s.heap [] 0 0 (MQ below (vp_Si (fun z => z = o)) args s 0 0 (fun _ => False)) (F0 m 23 ls [.int y2, .int y1, .ref (a 0)]) := by
  have C0 := C
  obtain ⟨hx, hb, hr, hml, hown, hts, hlocks⟩ := C0
  have hW : ∀ w ∈ WG, w.before args s = true := fun w h => hts w (List.mem_cons_of_mem _ h)
  intro y1 y2 ls hl h
  unfold fX6_throwsTo_L23 at h
  obtain ⟨r23, hc23, h⟩ := bd_o h
  refine callRI (va_runV (As := [.int y1, .int y2]) (rest := []) ⟨hx, hb, hml, hown, hts⟩ (mX6_at l D a k _ _ _ _ hc23) ⟨callB_of 2 hts (wg_c wg312) rfl rfl rfl (hW _ wg274) (hW _ wg311) hdX6_at ⟨Nat.le_of_ble_eq_true rfl, Nat.le_of_ble_eq_true rfl⟩, hW _ wg313, hW _ wg314⟩ (pw_V hK hP hD (ci := 6) (q0 := 0) rfl rfl) rfl rfl hl.1 rfl (lv_room (Nat.le_of_ble_eq_true rfl)) dX6_throwsTo_23 ⟨Nat.zero_le _, Nat.zero_le _⟩) ?_
  have h := Option.some.inj h
  subst h
  exact W.iret (v := r23) hx hb hr (fun t ht hW9 => ⟨r23, rfl, rfl, ht⟩) (fun _ h9 => absurd h9 List.not_mem_nil) dX6_throwsTo_26 hlocks
set_option maxHeartbeats 4000000 in
set_option maxRecDepth 100000 in
theorem mX6_throwsTo (l : Launch) (D : va_G) (a : Nat → Nat) (k : Nat → ClassId) (σ : ST) (x1 : Int32) (o : Int32) (h : fX6_throwsTo σ x1 = some o) : Met l yX6_throwsTo ((Cond.code yX6_throwsTo cX6_throwsTo 3 (some .int)) :: WG) ({ frames := 1, cells := 0, slots := 0, locals := 23 } : Room) (Pw D (tM k) (AM a) (wM a k σ) [.ref (a 0), .int x1]) (vp_Si (fun z => z = o)) 0 0 (fun _ => False) := by
  refine Met.ofW (cc := cX6_throwsTo) (maxL := 3) (ret := (some .int)) (by decide) rfl ?_
  intro p e s m args below meth c s₁ B hml0 hv
  have C : Cx p s m args meth c cX6_throwsTo 3 RX6 (Cond.code yX6_throwsTo cX6_throwsTo 3 (some .int)) (some .int) := ⟨B.exec, B.bytes, B.returns, hml0, findClass_of_methodNamed B.named, atoms_spec (ws := (Cond.code yX6_throwsTo cX6_throwsTo 3 (some .int)) :: WG) B.pre, B.notSynchronized⟩
  obtain ⟨rfl, hP, hK, hD⟩ := hv
  have hK : Kx D (tM k) s := hK
  have C0 := C
  obtain ⟨hx, hb, hr, hml, hown, hts, hlocks⟩ := C0
  have hW : ∀ w ∈ WG, w.before _ s = true := fun w h => hts w (List.mem_cons_of_mem _ h)
  show W p l e ({ frames := 1, cells := 0, slots := 0, locals := 23 } : Room) s m _ below meth c s.heap [] 0 0 _ _
  have hl := lv_entry ([.ref (a 0), .int x1]) (n := 3) (Nat.le_of_ble_eq_true rfl)
  rw [lg_entry_eq]
  generalize (lg_sl ([.ref (a 0), .int x1]) ++ List.replicate (3 - (lg_sl ([.ref (a 0), .int x1])).length) Slot.unset).toArray = ls at hl ⊢
  have hl : lv_has ls 3 [(0, .ref (a 0)), (1, .int x1)] := hl
  unfold fX6_throwsTo at h
  refine lv_aload_n hx hb dX6_throwsTo_0 rfl (lv_at hl 0 rfl) ?_
  refine va_get (D := D) (ci := 6) (v := .ref (a 8)) (C := RX6) (T := TX6) (N := 22) hx hb hW inX6G hown hK.1 hP 0 rfl rfl 9 (by decide) (hW _ wg284) (fun _ h9 => h9) rfl dX6_throwsTo_1 ?_
  refine lv_iload_n hx hb dX6_throwsTo_4 rfl (lv_at hl 1 rfl) ?_
  obtain ⟨r5, hc5, h⟩ := bd_o h
  refine callRI (va_runS (As := [.int x1]) (rest := [.ref (a 8)]) ⟨hx, hb, hml, hown, hts⟩ (mX6_place l _ _ hc5) ⟨callB_of 1 hts (wg_c wg302) rfl rfl rfl (hW _ wg274) (hW _ wg301) hdX6_place ⟨Nat.le_of_ble_eq_true rfl, Nat.le_of_ble_eq_true rfl⟩, hW _ wg303⟩ preEq rfl rfl hl.1 rfl (lv_room (Nat.le_of_ble_eq_true rfl)) dX6_throwsTo_5 ⟨Nat.zero_le _, Nat.zero_le _⟩) ?_
  obtain ⟨hi8, h⟩ := ix_o h
  refine va_iald (D := D) hx hb hK.1 hP 8 7 rfl rfl hi8 dX6_throwsTo_8 ?_
  refine lv_topi (fun x2_9 ex2_9 => ?_)
  have h := nm_o h ex2_9
  refine lv_istore_n (lv' := [(2, .int x2_9), (0, .ref (a 0)), (1, .int x1)]) hx hb dX6_throwsTo_9 rfl hl (by decide) rfl (fun ls hl => ?_)
  refine lv_aload_n hx hb dX6_throwsTo_10 rfl (lv_at hl 1 rfl) ?_
  refine lv_iload_n hx hb dX6_throwsTo_11 rfl (lv_at hl 2 rfl) ?_
  refine lv_iload_n hx hb dX6_throwsTo_12 rfl (lv_at hl 0 rfl) ?_
  refine lv_iconst (v := (-1)) hx hb dX6_throwsTo_13 (by decide) ?_
  refine lv_icmp_ne (tgt := 22) hx hb dX6_throwsTo_14 (by decide) (fun c14 => ?_) (fun c14 => ?_)
  · have h := ite_f h c14
    refine lv_iload_n hx hb dX6_throwsTo_22 rfl (lv_at hl 0 rfl) ?_
    exact bX6_throwsTo_L23 C hK hP hD _ _ ls (lv_sub hl [] rfl) h
  · have h := ite_t h c14
    refine lv_bipush (v := 41) hx hb dX6_throwsTo_17 (by decide) ?_
    refine lv_goto (tgt := 23) hx hb dX6_throwsTo_19 (by decide) ?_
    exact bX6_throwsTo_L23 C hK hP hD _ _ ls (lv_sub hl [] rfl) h
