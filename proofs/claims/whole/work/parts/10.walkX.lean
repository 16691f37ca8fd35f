set_option maxHeartbeats 4000000 in
set_option maxRecDepth 100000 in
theorem mX5_isWithin (l : Launch) (x0 x1 : Int32) (o : Int32) (h : fX5_isWithin x0 x1 = some o) : Met l yX5_isWithin ((Cond.code yX5_isWithin cX5_isWithin 2 (some .boolean)) :: WG) ({ frames := 0, cells := 0, slots := 0, locals := 0 } : Room) (fun v _ => v = ([.int x0, .int x1] : List Value).toArray) (vp_Si (fun z => z = o)) 0 0 (fun _ => False) := by
  refine Met.ofW (cc := cX5_isWithin) (maxL := 2) (ret := (some .boolean)) (by decide) rfl ?_
  intro p e s m args below meth c s₁ B hml0 hv
  have C : Cx p s m args meth c cX5_isWithin 2 RX5 (Cond.code yX5_isWithin cX5_isWithin 2 (some .boolean)) (some .boolean) := ⟨B.exec, B.bytes, B.returns, hml0, findClass_of_methodNamed B.named, atoms_spec (ws := (Cond.code yX5_isWithin cX5_isWithin 2 (some .boolean)) :: WG) B.pre, B.notSynchronized⟩
  subst hv
  have C0 := C
  obtain ⟨hx, hb, hr, hml, hown, hts, hlocks⟩ := C0
  have hW : ∀ w ∈ WG, w.before _ s = true := fun w h => hts w (List.mem_cons_of_mem _ h)
  show W p l e ({ frames := 0, cells := 0, slots := 0, locals := 0 } : Room) s m _ below meth c s.heap [] 0 0 _ _
  have hl := lv_entry ([.int x0, .int x1]) (n := 2) (Nat.le_of_ble_eq_true rfl)
  rw [lg_entry_eq]
  generalize (lg_sl ([.int x0, .int x1]) ++ List.replicate (2 - (lg_sl ([.int x0, .int x1])).length) Slot.unset).toArray = ls at hl ⊢
  have hl : lv_has ls 2 [(0, .int x0), (1, .int x1)] := hl
  unfold fX5_isWithin at h
  refine lv_iload_n hx hb dX5_isWithin_0 rfl (lv_at hl 0 rfl) ?_
  refine lv_if_lt (tgt := 13) hx hb dX5_isWithin_1 (by decide) (fun c1 => ?_) (fun c1 => ?_)
  · have h := ite_t h c1
    refine lv_iconst (v := 0) hx hb dX5_isWithin_13 (by decide) ?_
    have h := Option.some.inj h
    subst h
    exact W.zret (v := 0) hx hb hr rfl (fun t ht hW9 => ⟨0, rfl, rfl, ht⟩) (fun _ h9 => absurd h9 List.not_mem_nil) dX5_isWithin_14 hlocks
  · have h := ite_f h c1
    refine lv_iload_n hx hb dX5_isWithin_4 rfl (lv_at hl 0 rfl) ?_
    refine lv_iload_n hx hb dX5_isWithin_5 rfl (lv_at hl 1 rfl) ?_
    refine lv_icmp_ge (tgt := 13) hx hb dX5_isWithin_6 (by decide) (fun c6 => ?_) (fun c6 => ?_)
    · have h := ite_t h c6
      refine lv_iconst (v := 0) hx hb dX5_isWithin_13 (by decide) ?_
      have h := Option.some.inj h
      subst h
      exact W.zret (v := 0) hx hb hr rfl (fun t ht hW9 => ⟨0, rfl, rfl, ht⟩) (fun _ h9 => absurd h9 List.not_mem_nil) dX5_isWithin_14 hlocks
    · have h := ite_f h c6
      refine lv_iconst (v := 1) hx hb dX5_isWithin_9 (by decide) ?_
      refine lv_goto (tgt := 14) hx hb dX5_isWithin_10 (by decide) ?_
      have h := Option.some.inj h
      subst h
      exact W.zret (v := 1) hx hb hr rfl (fun t ht hW9 => ⟨1, rfl, rfl, ht⟩) (fun _ h9 => absurd h9 List.not_mem_nil) dX5_isWithin_14 hlocks
set_option maxHeartbeats 4000000 in
set_option maxRecDepth 100000 in
theorem mX3_has (l : Launch) (D : va_G) (a : Nat → Nat) (k : Nat → ClassId) (σ : ST) (x1 : Int32) (o : Int32) (h : fX3_has σ x1 = some o) : Met l yX3_has ((Cond.code yX3_has cX3_has 2 (some .boolean)) :: WG) ({ frames := 1, cells := 0, slots := 0, locals := 21 } : Room) (Pw D (tX k) (AX a) (wX a k σ) [.ref (a 1), .int x1]) (vp_Si (fun z => z = o)) 0 0 (fun _ => False) := by
  refine Met.ofW (cc := cX3_has) (maxL := 2) (ret := (some .boolean)) (by decide) rfl ?_
  intro p e s m args below meth c s₁ B hml0 hv
  have C : Cx p s m args meth c cX3_has 2 RX3 (Cond.code yX3_has cX3_has 2 (some .boolean)) (some .boolean) := ⟨B.exec, B.bytes, B.returns, hml0, findClass_of_methodNamed B.named, atoms_spec (ws := (Cond.code yX3_has cX3_has 2 (some .boolean)) :: WG) B.pre, B.notSynchronized⟩
  obtain ⟨rfl, hP, hK, hD⟩ := hv
  have hK : Kx D (tX k) s := hK
  have C0 := C
  obtain ⟨hx, hb, hr, hml, hown, hts, hlocks⟩ := C0
  have hW : ∀ w ∈ WG, w.before _ s = true := fun w h => hts w (List.mem_cons_of_mem _ h)
  show W p l e ({ frames := 1, cells := 0, slots := 0, locals := 21 } : Room) s m _ below meth c s.heap [] 0 0 _ _
  have hl := lv_entry ([.ref (a 1), .int x1]) (n := 2) (Nat.le_of_ble_eq_true rfl)
  rw [lg_entry_eq]
  generalize (lg_sl ([.ref (a 1), .int x1]) ++ List.replicate (2 - (lg_sl ([.ref (a 1), .int x1])).length) Slot.unset).toArray = ls at hl ⊢
  have hl : lv_has ls 2 [(0, .ref (a 1)), (1, .int x1)] := hl
  unfold fX3_has at h
  refine lv_iload_n hx hb dX3_has_0 rfl (lv_at hl 1 rfl) ?_
  refine lv_aload_n hx hb dX3_has_1 rfl (lv_at hl 0 rfl) ?_
  refine va_get (D := D) (ci := 3) (v := .int (σ.1 1)) (C := RX3) (T := TX3) (N := 4) hx hb hW inX3G hown hK.1 hP 1 rfl rfl 3 (by decide) (hW _ wg0) (fun _ h9 => h9) rfl dX3_has_2 ?_
  obtain ⟨r5, hc5, h⟩ := bd_o h
  refine callRI (va_runSN (As := [.int x1, .int (σ.1 1)]) (rest := []) ⟨hx, hb, hml, hown, hts⟩ (mX5_isWithin l _ _ _ hc5) ⟨va_cnB 2 hts (wg_c wg1) rfl rfl rfl (hK.2 _ nw2) (hW _ wg3) hdX5_isWithin ⟨Nat.le_of_ble_eq_true rfl, Nat.le_of_ble_eq_true rfl⟩, hW _ wg4, trivial⟩ preEq rfl rfl hl.1 rfl (lv_room (Nat.le_of_ble_eq_true rfl)) dX3_has_5 ⟨Nat.zero_le _, Nat.zero_le _⟩) ?_
  obtain ⟨hz8, h⟩ := zb_o h
  have h := Option.some.inj h
  subst h
  exact W.zret (v := r5) hx hb hr hz8 (fun t ht hW9 => ⟨r5, rfl, rfl, ht⟩) (fun _ h9 => absurd h9 List.not_mem_nil) dX3_has_8 hlocks
set_option maxHeartbeats 4000000 in
set_option maxRecDepth 100000 in
theorem mX3_isFile (l : Launch) (D : va_G) (a : Nat → Nat) (k : Nat → ClassId) (σ : ST) (x1 : Int32) (o : Int32) (h : fX3_isFile σ x1 = some o) : Met l yX3_isFile ((Cond.code yX3_isFile cX3_isFile 2 (some .boolean)) :: WG) ({ frames := 0, cells := 0, slots := 0, locals := 0 } : Room) (Pw D (tX k) (AX a) (wX a k σ) [.ref (a 1), .int x1]) (vp_Si (fun z => z = o)) 0 0 (fun _ => False) := by
  refine Met.ofW (cc := cX3_isFile) (maxL := 2) (ret := (some .boolean)) (by decide) rfl ?_
  intro p e s m args below meth c s₁ B hml0 hv
  have C : Cx p s m args meth c cX3_isFile 2 RX3 (Cond.code yX3_isFile cX3_isFile 2 (some .boolean)) (some .boolean) := ⟨B.exec, B.bytes, B.returns, hml0, findClass_of_methodNamed B.named, atoms_spec (ws := (Cond.code yX3_isFile cX3_isFile 2 (some .boolean)) :: WG) B.pre, B.notSynchronized⟩
  obtain ⟨rfl, hP, hK, hD⟩ := hv
  have hK : Kx D (tX k) s := hK
  have C0 := C
  obtain ⟨hx, hb, hr, hml, hown, hts, hlocks⟩ := C0
  have hW : ∀ w ∈ WG, w.before _ s = true := fun w h => hts w (List.mem_cons_of_mem _ h)
  show W p l e ({ frames := 0, cells := 0, slots := 0, locals := 0 } : Room) s m _ below meth c s.heap [] 0 0 _ _
  have hl := lv_entry ([.ref (a 1), .int x1]) (n := 2) (Nat.le_of_ble_eq_true rfl)
  rw [lg_entry_eq]
  generalize (lg_sl ([.ref (a 1), .int x1]) ++ List.replicate (2 - (lg_sl ([.ref (a 1), .int x1])).length) Slot.unset).toArray = ls at hl ⊢
  have hl : lv_has ls 2 [(0, .ref (a 1)), (1, .int x1)] := hl
  unfold fX3_isFile at h
  refine lv_aload_n hx hb dX3_isFile_0 rfl (lv_at hl 0 rfl) ?_
  refine va_get (D := D) (ci := 3) (v := .ref (a 6)) (C := RX3) (T := TX3) (N := 4) hx hb hW inX3G hown hK.1 hP 1 rfl rfl 0 (by decide) (hW _ wg5) (fun _ h9 => h9) rfl dX3_isFile_1 ?_
  refine lv_iload_n hx hb dX3_isFile_4 rfl (lv_at hl 1 rfl) ?_
  obtain ⟨hi5, h⟩ := ix_o h
  refine va_iald (D := D) hx hb hK.1 hP 6 0 rfl rfl hi5 dX3_isFile_5 ?_
  refine lv_if_ne (tgt := 13) hx hb dX3_isFile_6 (by decide) (fun c6 => ?_) (fun c6 => ?_)
  · have h := ite_f h c6
    refine lv_iconst (v := 0) hx hb dX3_isFile_13 (by decide) ?_
    have h := Option.some.inj h
    subst h
    exact W.zret (v := 0) hx hb hr rfl (fun t ht hW9 => ⟨0, rfl, rfl, ht⟩) (fun _ h9 => absurd h9 List.not_mem_nil) dX3_isFile_14 hlocks
  · have h := ite_t h c6
    refine lv_iconst (v := 1) hx hb dX3_isFile_9 (by decide) ?_
    refine lv_goto (tgt := 14) hx hb dX3_isFile_10 (by decide) ?_
    have h := Option.some.inj h
    subst h
    exact W.zret (v := 1) hx hb hr rfl (fun t ht hW9 => ⟨1, rfl, rfl, ht⟩) (fun _ h9 => absurd h9 List.not_mem_nil) dX3_isFile_14 hlocks
set_option maxHeartbeats 4000000 in
set_option maxRecDepth 100000 in
theorem mX3_add (l : Launch) (D : va_G) (a : Nat → Nat) (k : Nat → ClassId) (σ : ST) (x1 x2 x3 : Int32) (o : Int32 × ST) (h : fX3_add σ x1 x2 x3 = some o) : Met l yX3_add ((Cond.code yX3_add cX3_add 5 (some .int)) :: WG) ({ frames := 0, cells := 0, slots := 0, locals := 0 } : Room) (Pw D (tX k) (AX a) (wX a k σ) [.ref (a 1), .int x1, .int x2, .int x3]) (va_Qi (S := Unit) (fun z _ => z = o.1) (fun _ t => va_P D vwCl (wX a k o.2) t.heap) (AX a)) 0 0 (AX a) := by
  refine Met.ofW (cc := cX3_add) (maxL := 5) (ret := (some .int)) (by decide) rfl ?_
  intro p e s m args below meth c s₁ B hml0 hv
  have C : Cx p s m args meth c cX3_add 5 RX3 (Cond.code yX3_add cX3_add 5 (some .int)) (some .int) := ⟨B.exec, B.bytes, B.returns, hml0, findClass_of_methodNamed B.named, atoms_spec (ws := (Cond.code yX3_add cX3_add 5 (some .int)) :: WG) B.pre, B.notSynchronized⟩
  obtain ⟨rfl, hP, hK, hD⟩ := hv
  have hK : Kx D (tX k) s := hK
  have C0 := C
  obtain ⟨hx, hb, hr, hml, hown, hts, hlocks⟩ := C0
  have hW : ∀ w ∈ WG, w.before _ s = true := fun w h => hts w (List.mem_cons_of_mem _ h)
  show W p l e ({ frames := 0, cells := 0, slots := 0, locals := 0 } : Room) s m _ below meth c s.heap [] 0 0 _ _
  have hl := lv_entry ([.ref (a 1), .int x1, .int x2, .int x3]) (n := 5) (Nat.le_of_ble_eq_true rfl)
  rw [lg_entry_eq]
  generalize (lg_sl ([.ref (a 1), .int x1, .int x2, .int x3]) ++ List.replicate (5 - (lg_sl ([.ref (a 1), .int x1, .int x2, .int x3])).length) Slot.unset).toArray = ls at hl ⊢
  have hl : lv_has ls 5 [(0, .ref (a 1)), (1, .int x1), (2, .int x2), (3, .int x3)] := hl
  have hS : va_S (AX a) s.heap s.heap [] := va_S.rf
  suffices hgo : ∀ (H : Heap) (locs : List Loc), va_P D vwCl (wX a k σ) H → va_S (AX a) s.heap H locs → W p l e ({ frames := 0, cells := 0, slots := 0, locals := 0 } : Room) s m _ below meth c H locs 0 0 (MQ below (va_Qi (S := Unit) (fun z _ => z = o.1) (fun _ t => va_P D vwCl (wX a k o.2) t.heap) (AX a)) _ s 0 0 (AX a)) (F0 m 0 ls []) from hgo _ _ hP hS
  clear hP hS
  intro H locs hP hS
  unfold fX3_add at h
  refine lv_aload_n hx hb dX3_add_0 rfl (lv_at hl 0 rfl) ?_
  refine va_get (D := D) (ci := 3) (v := .int (σ.1 1)) (C := RX3) (T := TX3) (N := 4) hx hb hW inX3G hown hK.1 hP 1 rfl rfl 3 (by decide) (hW _ wg0) (fun _ h9 => h9) rfl dX3_add_1 ?_
  refine lv_topi (fun x4_4 ex4_4 => ?_)
  have h := nm_o h ex4_4
  refine lv_istore (lv' := [(4, .int x4_4), (0, .ref (a 1)), (1, .int x1), (2, .int x2), (3, .int x3)]) hx hb dX3_add_4 hl (by decide) rfl (fun ls hl => ?_)
  refine lv_aload_n hx hb dX3_add_6 rfl (lv_at hl 1 rfl) ?_
  refine va_get (D := D) (ci := 3) (v := .ref (a 6)) (C := RX3) (T := TX3) (N := 4) hx hb hW inX3G hown hK.1 hP 1 rfl rfl 0 (by decide) (hW _ wg5) (fun _ h9 => h9) rfl dX3_add_7 ?_
  refine lv_iload hx hb dX3_add_10 (lv_at hl 0 rfl) ?_
  refine lv_iload_n hx hb dX3_add_12 rfl (lv_at hl 2 rfl) ?_
  obtain ⟨hi13, h⟩ := ix_o h
  refine va_iast (D := D) hx hb hK.1 hP hD hS 6 0 rfl rfl hi13 dX3_add_13 (fun H locs hP hD9 hS => ?_)
  obtain ⟨s13, es13⟩ : ∃ z : ST, z = setA σ 0 x4_4.toNatClampNeg x1 := ⟨_, rfl⟩
  have h := nm_o h es13
  have hP : va_P D vwCl (wX a k s13) H := by rw [es13]; exact hP
  have hD : va_D (AX a) (wX a k s13) := dX hD
  refine lv_aload_n hx hb dX3_add_14 rfl (lv_at hl 1 rfl) ?_
  refine va_get (D := D) (ci := 3) (v := .ref (a 7)) (C := RX3) (T := TX3) (N := 4) hx hb hW inX3G hown hK.1 hP 1 rfl rfl 1 (by decide) (hW _ wg6) (fun _ h9 => h9) rfl dX3_add_15 ?_
  refine lv_iload hx hb dX3_add_18 (lv_at hl 0 rfl) ?_
  refine lv_iload_n hx hb dX3_add_20 rfl (lv_at hl 3 rfl) ?_
  obtain ⟨hi21, h⟩ := ix_o h
  refine va_zast (D := D) hx hb hK.1 hP hD hS 7 1 rfl rfl hi21 dX3_add_21 (fun H locs hP hD9 hS => ?_)
  obtain ⟨s21, es21⟩ : ∃ z : ST, z = setA s13 1 x4_4.toNatClampNeg (vp_nar .boolean x2) := ⟨_, rfl⟩
  have h := nm_o h es21
  have hP : va_P D vwCl (wX a k s21) H := by rw [es21]; exact hP
  have hD : va_D (AX a) (wX a k s21) := dX hD
  refine lv_aload_n hx hb dX3_add_22 rfl (lv_at hl 1 rfl) ?_
  refine va_get (D := D) (ci := 3) (v := .ref (a 8)) (C := RX3) (T := TX3) (N := 4) hx hb hW inX3G hown hK.1 hP 1 rfl rfl 2 (by decide) (hW _ wg7) (fun _ h9 => h9) rfl dX3_add_23 ?_
  refine lv_iload hx hb dX3_add_26 (lv_at hl 0 rfl) ?_
  refine lv_iload_n hx hb dX3_add_28 rfl (lv_at hl 4 rfl) ?_
  obtain ⟨hi29, h⟩ := ix_o h
  refine va_iast (D := D) hx hb hK.1 hP hD hS 8 2 rfl rfl hi29 dX3_add_29 (fun H locs hP hD9 hS => ?_)
  obtain ⟨s29, es29⟩ : ∃ z : ST, z = setA s21 2 x4_4.toNatClampNeg x3 := ⟨_, rfl⟩
  have h := nm_o h es29
  have hP : va_P D vwCl (wX a k s29) H := by rw [es29]; exact hP
  have hD : va_D (AX a) (wX a k s29) := dX hD
  refine lv_aload_n hx hb dX3_add_30 rfl (lv_at hl 1 rfl) ?_
  refine lv_dup hx hb dX3_add_31 rfl ?_
  refine va_get (D := D) (ci := 3) (v := .int (s29.1 1)) (C := RX3) (T := TX3) (N := 4) hx hb hW inX3G hown hK.1 hP 1 rfl rfl 3 (by decide) (hW _ wg0) (fun _ h9 => h9) rfl dX3_add_32 ?_
  refine lv_iconst (v := 1) hx hb dX3_add_35 (by decide) ?_
  refine lv_iadd hx hb dX3_add_36 ?_
  refine va_put (D := D) (ci := 3) (v := .int ((s29.1 1) + 1)) (ty := .int) (C := RX3) (T := TX3) (N := 4) hx hb hW inX3G tyX3 tyX3_ok nmX3 hown hK.1 hP hD hS 1 rfl rfl 3 (by decide) (hW _ wg0) (fun _ h9 => h9) rfl (by decide +kernel) rfl rfl (Nat.le_of_ble_eq_true rfl) dX3_add_37 (fun H locs hP hD9 hS => ?_)
  obtain ⟨s37, es37⟩ : ∃ z : ST, z = setF s29 1 ((s29.1 1) + 1) := ⟨_, rfl⟩
  have h := nm_o h es37
  have hP : va_P D vwCl (wX a k s37) H := by rw [es37]; exact hP
  have hD : va_D (AX a) (wX a k s37) := dX hD
  refine lv_iload hx hb dX3_add_40 (lv_at hl 0 rfl) ?_
  have h := Option.some.inj h
  subst h
  exact W.iret (v := x4_4) hx hb hr (fun t ht hW9 => ⟨⟨x4_4, (), rfl, rfl, by show va_P _ _ _ t.heap; rw [ht]; exact hP⟩, hS.F ht⟩) hS.2.2 dX3_add_42 hlocks
set_option maxHeartbeats 4000000 in
set_option maxRecDepth 100000 in
theorem bX5_thing_L55 {p : Program} {l : Launch} {e : Env} {s : State} {m : MethodId} {args : Array Value} {below : List Frame} {meth : Method} {c : Code} {D : va_G} {a : Nat → Nat} {k : Nat → ClassId} {o : Int32 × ST} (C : Cx p s m args meth c cX5_thing 4 RX5 (Cond.code yX5_thing cX5_thing 4 (some .int)) (some .int)) (hK : Kx D (tX k) s) : ∀ (x1 x2 x3 : Int32) (σ : ST) (H : Heap) (locs : List Loc) (ls : Array Slot), va_P D vwCl (wX a k σ) H → va_D (AX a) (wX a k σ) → va_S (AX a) s.heap H locs → lv_has ls 4 [(0, .ref (a 0)), (1, .int x1), (2, .int x2), (3, .int x3)] → fX5_thing_L55 x1 x2 x3 σ = some o → W p l e ({ frames := 2, cells := 0, slots := 0, locals := 42 } : Room) s m args below meth c H locs 0 0 (MQ below (va_Qi (S := Unit) (fun z _ => z = o.1) (fun _ t => va_P D vwCl (wX a k o.2) t.heap) (AX a)) args s 0 0 (AX a)) (F0 m 55 ls []) := by
  have C0 := C
  obtain ⟨hx, hb, hr, hml, hown, hts, hlocks⟩ := C0
  have hW : ∀ w ∈ WG, w.before args s = true := fun w h => hts w (List.mem_cons_of_mem _ h)
  intro x1 x2 x3 σ H locs ls hP hD hS hl h
  unfold fX5_thing_L55 at h
  refine lv_aload_n hx hb dX5_thing_55 rfl (lv_at hl 0 rfl) ?_
  refine va_get (D := D) (ci := 5) (v := .ref (a 1)) (C := RX5) (T := TX5) (N := 6) hx hb hW inX5G hown hK.1 hP 0 rfl rfl 0 (by decide) (hW _ wg8) (fun _ h9 => h9) rfl dX5_thing_56 ?_
  refine va_getN (D := D) (ci := 3) (v := .int (σ.1 1)) (C := RX3) (T := TX3) (N := 4) hx hb hW inX3G hown hK.1 hP 1 rfl rfl 3 (by decide) (hK.2.fld nw9) (fun _ h9 => h9) rfl dX5_thing_59 ?_
  refine lv_iconst (v := 5) hx hb dX5_thing_62 (by decide) ?_
  refine lv_icmp_lt (tgt := 69) hx hb dX5_thing_63 (by decide) (fun c63 => ?_) (fun c63 => ?_)
  · have h := ite_t h c63
    refine lv_aload_n hx hb dX5_thing_69 rfl (lv_at hl 0 rfl) ?_
    refine lv_iconst (v := 0) hx hb dX5_thing_70 (by decide) ?_
    refine va_put (D := D) (ci := 5) (v := .int 0) (ty := .boolean) (C := RX5) (T := TX5) (N := 6) hx hb hW inX5G tyX5 tyX5_ok nmX5 hown hK.1 hP hD hS 0 rfl rfl 5 (by decide) (hW _ wg10) (fun _ h9 => h9) rfl (by decide +kernel) rfl rfl (Nat.le_of_ble_eq_true rfl) dX5_thing_71 (fun H locs hP hD9 hS => ?_)
    obtain ⟨s71, es71⟩ : ∃ z : ST, z = setF σ 0 0 := ⟨_, rfl⟩
    have h := nm_o h es71
    have hP : va_P D vwCl (wX a k s71) H := by rw [es71]; exact hP
    have hD : va_D (AX a) (wX a k s71) := dX hD
    refine lv_aload_n hx hb dX5_thing_74 rfl (lv_at hl 0 rfl) ?_
    refine va_get (D := D) (ci := 5) (v := .ref (a 1)) (C := RX5) (T := TX5) (N := 6) hx hb hW inX5G hown hK.1 hP 0 rfl rfl 0 (by decide) (hW _ wg8) (fun _ h9 => h9) rfl dX5_thing_75 ?_
    refine lv_iload_n hx hb dX5_thing_78 rfl (lv_at hl 1 rfl) ?_
    refine lv_iload_n hx hb dX5_thing_79 rfl (lv_at hl 2 rfl) ?_
    refine lv_iload_n hx hb dX5_thing_80 rfl (lv_at hl 3 rfl) ?_
    obtain ⟨r81, hc81, h⟩ := bd_o h
    refine callWI (va_runVN (As := [.int x1, .int x2, .int x3]) (rest := []) ⟨hx, hb, hml, hown, hts⟩ (mX3_add l D a k _ _ _ _ _ hc81) ⟨va_cnB 3 hts (wg_c wg11) rfl rfl rfl (hK.2 _ nw12) (hW _ wg13) hdX3_add ⟨Nat.le_of_ble_eq_true rfl, Nat.le_of_ble_eq_true rfl⟩, hW _ wg14, hW _ wg15⟩ (pw_V hK hP hD (ci := 3) (q0 := 1) rfl rfl) rfl rfl hl.1 rfl (lv_room (Nat.le_of_ble_eq_true rfl)) dX5_thing_81 ⟨Nat.zero_le _, Nat.zero_le _⟩) hS (fun H locs hP hS => ?_)
    have hD : va_D (AX a) (wX a k r81.2) := dX hD
    have h := Option.some.inj h
    subst h
    exact W.iret (v := r81.1) hx hb hr (fun t ht hW9 => ⟨⟨r81.1, (), rfl, rfl, by show va_P _ _ _ t.heap; rw [ht]; exact hP⟩, hS.F ht⟩) hS.2.2 dX5_thing_84 hlocks
  · have h := ite_f h c63
    refine lv_bipush (v := (-104)) hx hb dX5_thing_66 (by decide) ?_
    have h := Option.some.inj h
    subst h
    exact W.iret (v := (-104)) hx hb hr (fun t ht hW9 => ⟨⟨(-104), (), rfl, rfl, by show va_P _ _ _ t.heap; rw [ht]; exact hP⟩, hS.F ht⟩) hS.2.2 dX5_thing_68 hlocks
set_option maxHeartbeats 4000000 in
set_option maxRecDepth 100000 in
theorem bX5_thing_L31 {p : Program} {l : Launch} {e : Env} {s : State} {m : MethodId} {args : Array Value} {below : List Frame} {meth : Method} {c : Code} {D : va_G} {a : Nat → Nat} {k : Nat → ClassId} {o : Int32 × ST} (C : Cx p s m args meth c cX5_thing 4 RX5 (Cond.code yX5_thing cX5_thing 4 (some .int)) (some .int)) (hK : Kx D (tX k) s) : ∀ (x1 x2 x3 : Int32) (σ : ST) (H : Heap) (locs : List Loc) (ls : Array Slot), va_P D vwCl (wX a k σ) H → va_D (AX a) (wX a k σ) → va_S (AX a) s.heap H locs → lv_has ls 4 [(0, .ref (a 0)), (1, .int x1), (2, .int x2), (3, .int x3)] → fX5_thing_L31 x1 x2 x3 σ = some o → W p l e ({ frames := 2, cells := 0, slots := 0, locals := 42 } : Room) s m args below meth c H locs 0 0 (MQ below (va_Qi (S := Unit) (fun z _ => z = o.1) (fun _ t => va_P D vwCl (wX a k o.2) t.heap) (AX a)) args s 0 0 (AX a)) (F0 m 31 ls []) := by
  have C0 := C
  obtain ⟨hx, hb, hr, hml, hown, hts, hlocks⟩ := C0
  have hW : ∀ w ∈ WG, w.before args s = true := fun w h => hts w (List.mem_cons_of_mem _ h)
  intro x1 x2 x3 σ H locs ls hP hD hS hl h
  unfold fX5_thing_L31 at h
  refine lv_iload_n hx hb dX5_thing_31 rfl (lv_at hl 3 rfl) ?_
  refine lv_iconst (v := (-1)) hx hb dX5_thing_32 (by decide) ?_
  refine lv_icmp_eq (tgt := 55) hx hb dX5_thing_33 (by decide) (fun c33 => ?_) (fun c33 => ?_)
  · have h := ite_t h c33
    exact bX5_thing_L55 C hK _ _ _ _ H locs ls hP hD hS (lv_sub hl [0, 1, 2, 3] rfl) h
  · have h := ite_f h c33
    refine lv_iload_n hx hb dX5_thing_36 rfl (lv_at hl 1 rfl) ?_
    refine lv_iconst (v := 1) hx hb dX5_thing_37 (by decide) ?_
    refine lv_icmp_eq (tgt := 52) hx hb dX5_thing_38 (by decide) (fun c38 => ?_) (fun c38 => ?_)
    · have h := ite_t h c38
      refine lv_bipush (v := (-102)) hx hb dX5_thing_52 (by decide) ?_
      have h := Option.some.inj h
      subst h
      exact W.iret (v := (-102)) hx hb hr (fun t ht hW9 => ⟨⟨(-102), (), rfl, rfl, by show va_P _ _ _ t.heap; rw [ht]; exact hP⟩, hS.F ht⟩) hS.2.2 dX5_thing_54 hlocks
    · have h := ite_f h c38
      refine lv_aload_n hx hb dX5_thing_41 rfl (lv_at hl 0 rfl) ?_
      refine va_get (D := D) (ci := 5) (v := .ref (a 1)) (C := RX5) (T := TX5) (N := 6) hx hb hW inX5G hown hK.1 hP 0 rfl rfl 0 (by decide) (hW _ wg8) (fun _ h9 => h9) rfl dX5_thing_42 ?_
      refine lv_iload_n hx hb dX5_thing_45 rfl (lv_at hl 3 rfl) ?_
      obtain ⟨r46, hc46, h⟩ := bd_o h
      refine callRI (va_runVN (As := [.int x3]) (rest := []) ⟨hx, hb, hml, hown, hts⟩ (mX3_isFile l D a k _ _ _ hc46) ⟨va_cnB 1 hts (wg_c wg16) rfl rfl rfl (hK.2 _ nw17) (hW _ wg13) hdX3_isFile ⟨Nat.le_of_ble_eq_true rfl, Nat.le_of_ble_eq_true rfl⟩, hW _ wg18, hW _ wg19⟩ (pw_V hK hP hD (ci := 3) (q0 := 1) rfl rfl) rfl rfl hl.1 rfl (lv_room (Nat.le_of_ble_eq_true rfl)) dX5_thing_46 ⟨Nat.zero_le _, Nat.zero_le _⟩) ?_
      refine lv_if_ne (tgt := 55) hx hb dX5_thing_49 (by decide) (fun c49 => ?_) (fun c49 => ?_)
      · have h := ite_f h c49
        exact bX5_thing_L55 C hK _ _ _ _ H locs ls hP hD hS (lv_sub hl [0, 1, 2, 3] rfl) h
      · have h := ite_t h c49
        refine lv_bipush (v := (-102)) hx hb dX5_thing_52 (by decide) ?_
        have h := Option.some.inj h
        subst h
        exact W.iret (v := (-102)) hx hb hr (fun t ht hW9 => ⟨⟨(-102), (), rfl, rfl, by show va_P _ _ _ t.heap; rw [ht]; exact hP⟩, hS.F ht⟩) hS.2.2 dX5_thing_54 hlocks
set_option maxHeartbeats 4000000 in
set_option maxRecDepth 100000 in
theorem bX5_thing_L19 {p : Program} {l : Launch} {e : Env} {s : State} {m : MethodId} {args : Array Value} {below : List Frame} {meth : Method} {c : Code} {D : va_G} {a : Nat → Nat} {k : Nat → ClassId} {o : Int32 × ST} (C : Cx p s m args meth c cX5_thing 4 RX5 (Cond.code yX5_thing cX5_thing 4 (some .int)) (some .int)) (hK : Kx D (tX k) s) : ∀ (x1 x2 x3 : Int32) (σ : ST) (H : Heap) (locs : List Loc) (ls : Array Slot), va_P D vwCl (wX a k σ) H → va_D (AX a) (wX a k σ) → va_S (AX a) s.heap H locs → lv_has ls 4 [(0, .ref (a 0)), (1, .int x1), (2, .int x2), (3, .int x3)] → fX5_thing_L19 x1 x2 x3 σ = some o → W p l e ({ frames := 2, cells := 0, slots := 0, locals := 42 } : Room) s m args below meth c H locs 0 0 (MQ below (va_Qi (S := Unit) (fun z _ => z = o.1) (fun _ t => va_P D vwCl (wX a k o.2) t.heap) (AX a)) args s 0 0 (AX a)) (F0 m 19 ls []) := by
  have C0 := C
  obtain ⟨hx, hb, hr, hml, hown, hts, hlocks⟩ := C0
  have hW : ∀ w ∈ WG, w.before args s = true := fun w h => hts w (List.mem_cons_of_mem _ h)
  intro x1 x2 x3 σ H locs ls hP hD hS hl h
  unfold fX5_thing_L19 at h
  refine lv_iload_n hx hb dX5_thing_19 rfl (lv_at hl 1 rfl) ?_
  refine lv_if_eq (tgt := 31) hx hb dX5_thing_20 (by decide) (fun c20 => ?_) (fun c20 => ?_)
  · have h := ite_t h c20
    exact bX5_thing_L31 C hK _ _ _ _ H locs ls hP hD hS (lv_sub hl [0, 1, 2, 3] rfl) h
  · have h := ite_f h c20
    refine lv_iload_n hx hb dX5_thing_23 rfl (lv_at hl 1 rfl) ?_
    refine lv_iconst (v := 1) hx hb dX5_thing_24 (by decide) ?_
    refine lv_icmp_eq (tgt := 31) hx hb dX5_thing_25 (by decide) (fun c25 => ?_) (fun c25 => ?_)
    · have h := ite_t h c25
      exact bX5_thing_L31 C hK _ _ _ _ H locs ls hP hD hS (lv_sub hl [0, 1, 2, 3] rfl) h
    · have h := ite_f h c25
      refine lv_bipush (v := (-102)) hx hb dX5_thing_28 (by decide) ?_
      have h := Option.some.inj h
      subst h
      exact W.iret (v := (-102)) hx hb hr (fun t ht hW9 => ⟨⟨(-102), (), rfl, rfl, by show va_P _ _ _ t.heap; rw [ht]; exact hP⟩, hS.F ht⟩) hS.2.2 dX5_thing_30 hlocks
set_option maxHeartbeats 4000000 in
set_option maxRecDepth 100000 in
theorem mX5_thing (l : Launch) (D : va_G) (a : Nat → Nat) (k : Nat → ClassId) (σ : ST) (x1 x2 x3 : Int32) (o : Int32 × ST) (h : fX5_thing σ x1 x2 x3 = some o) : Met l yX5_thing ((Cond.code yX5_thing cX5_thing 4 (some .int)) :: WG) ({ frames := 2, cells := 0, slots := 0, locals := 42 } : Room) (Pw D (tX k) (AX a) (wX a k σ) [.ref (a 0), .int x1, .int x2, .int x3]) (va_Qi (S := Unit) (fun z _ => z = o.1) (fun _ t => va_P D vwCl (wX a k o.2) t.heap) (AX a)) 0 0 (AX a) := by
  refine Met.ofW (cc := cX5_thing) (maxL := 4) (ret := (some .int)) (by decide) rfl ?_
  intro p e s m args below meth c s₁ B hml0 hv
  have C : Cx p s m args meth c cX5_thing 4 RX5 (Cond.code yX5_thing cX5_thing 4 (some .int)) (some .int) := ⟨B.exec, B.bytes, B.returns, hml0, findClass_of_methodNamed B.named, atoms_spec (ws := (Cond.code yX5_thing cX5_thing 4 (some .int)) :: WG) B.pre, B.notSynchronized⟩
  obtain ⟨rfl, hP, hK, hD⟩ := hv
  have hK : Kx D (tX k) s := hK
  have C0 := C
  obtain ⟨hx, hb, hr, hml, hown, hts, hlocks⟩ := C0
  have hW : ∀ w ∈ WG, w.before _ s = true := fun w h => hts w (List.mem_cons_of_mem _ h)
  show W p l e ({ frames := 2, cells := 0, slots := 0, locals := 42 } : Room) s m _ below meth c s.heap [] 0 0 _ _
  have hl := lv_entry ([.ref (a 0), .int x1, .int x2, .int x3]) (n := 4) (Nat.le_of_ble_eq_true rfl)
  rw [lg_entry_eq]
  generalize (lg_sl ([.ref (a 0), .int x1, .int x2, .int x3]) ++ List.replicate (4 - (lg_sl ([.ref (a 0), .int x1, .int x2, .int x3])).length) Slot.unset).toArray = ls at hl ⊢
  have hl : lv_has ls 4 [(0, .ref (a 0)), (1, .int x1), (2, .int x2), (3, .int x3)] := hl
  have hS : va_S (AX a) s.heap s.heap [] := va_S.rf
  suffices hgo : ∀ (H : Heap) (locs : List Loc), va_P D vwCl (wX a k σ) H → va_S (AX a) s.heap H locs → W p l e ({ frames := 2, cells := 0, slots := 0, locals := 42 } : Room) s m _ below meth c H locs 0 0 (MQ below (va_Qi (S := Unit) (fun z _ => z = o.1) (fun _ t => va_P D vwCl (wX a k o.2) t.heap) (AX a)) _ s 0 0 (AX a)) (F0 m 0 ls []) from hgo _ _ hP hS
  clear hP hS
  intro H locs hP hS
  unfold fX5_thing at h
  refine lv_iload_n hx hb dX5_thing_0 rfl (lv_at hl 3 rfl) ?_
  refine lv_iconst (v := (-1)) hx hb dX5_thing_1 (by decide) ?_
  refine lv_icmp_eq (tgt := 19) hx hb dX5_thing_2 (by decide) (fun c2 => ?_) (fun c2 => ?_)
  · have h := ite_t h c2
    exact bX5_thing_L19 C hK _ _ _ _ H locs ls hP hD hS (lv_sub hl [0, 1, 2, 3] rfl) h
  · have h := ite_f h c2
    refine lv_aload_n hx hb dX5_thing_5 rfl (lv_at hl 0 rfl) ?_
    refine va_get (D := D) (ci := 5) (v := .ref (a 1)) (C := RX5) (T := TX5) (N := 6) hx hb hW inX5G hown hK.1 hP 0 rfl rfl 0 (by decide) (hW _ wg8) (fun _ h9 => h9) rfl dX5_thing_6 ?_
    refine lv_iload_n hx hb dX5_thing_9 rfl (lv_at hl 3 rfl) ?_
    obtain ⟨r10, hc10, h⟩ := bd_o h
    refine callRI (va_runVN (As := [.int x3]) (rest := []) ⟨hx, hb, hml, hown, hts⟩ (mX3_has l D a k _ _ _ hc10) ⟨va_cnB 1 hts (wg_c wg20) rfl rfl rfl (hK.2 _ nw21) (hW _ wg13) hdX3_has ⟨Nat.le_of_ble_eq_true rfl, Nat.le_of_ble_eq_true rfl⟩, hW _ wg22, hW _ wg23⟩ (pw_V hK hP hD (ci := 3) (q0 := 1) rfl rfl) rfl rfl hl.1 rfl (lv_room (Nat.le_of_ble_eq_true rfl)) dX5_thing_10 ⟨Nat.zero_le _, Nat.zero_le _⟩) ?_
    refine lv_if_ne (tgt := 19) hx hb dX5_thing_13 (by decide) (fun c13 => ?_) (fun c13 => ?_)
    · have h := ite_f h c13
      exact bX5_thing_L19 C hK _ _ _ _ H locs ls hP hD hS (lv_sub hl [0, 1, 2, 3] rfl) h
    · have h := ite_t h c13
      refine lv_bipush (v := (-101)) hx hb dX5_thing_16 (by decide) ?_
      have h := Option.some.inj h
      subst h
      exact W.iret (v := (-101)) hx hb hr (fun t ht hW9 => ⟨⟨(-101), (), rfl, rfl, by show va_P _ _ _ t.heap; rw [ht]; exact hP⟩, hS.F ht⟩) hS.2.2 dX5_thing_18 hlocks
set_option maxHeartbeats 4000000 in
set_option maxRecDepth 100000 in
theorem mX5_actsOnThing (l : Launch) (x0 : Int32) (o : Int32) (h : fX5_actsOnThing x0 = some o) : Met l yX5_actsOnThing ((Cond.code yX5_actsOnThing cX5_actsOnThing 1 (some .boolean)) :: WG) ({ frames := 0, cells := 0, slots := 0, locals := 0 } : Room) (fun v _ => v = ([.int x0] : List Value).toArray) (vp_Si (fun z => z = o)) 0 0 (fun _ => False) := by
  refine Met.ofW (cc := cX5_actsOnThing) (maxL := 1) (ret := (some .boolean)) (by decide) rfl ?_
  intro p e s m args below meth c s₁ B hml0 hv
  have C : Cx p s m args meth c cX5_actsOnThing 1 RX5 (Cond.code yX5_actsOnThing cX5_actsOnThing 1 (some .boolean)) (some .boolean) := ⟨B.exec, B.bytes, B.returns, hml0, findClass_of_methodNamed B.named, atoms_spec (ws := (Cond.code yX5_actsOnThing cX5_actsOnThing 1 (some .boolean)) :: WG) B.pre, B.notSynchronized⟩
  subst hv
  have C0 := C
  obtain ⟨hx, hb, hr, hml, hown, hts, hlocks⟩ := C0
  have hW : ∀ w ∈ WG, w.before _ s = true := fun w h => hts w (List.mem_cons_of_mem _ h)
  show W p l e ({ frames := 0, cells := 0, slots := 0, locals := 0 } : Room) s m _ below meth c s.heap [] 0 0 _ _
  have hl := lv_entry ([.int x0]) (n := 1) (Nat.le_of_ble_eq_true rfl)
  rw [lg_entry_eq]
  generalize (lg_sl ([.int x0]) ++ List.replicate (1 - (lg_sl ([.int x0])).length) Slot.unset).toArray = ls at hl ⊢
  have hl : lv_has ls 1 [(0, .int x0)] := hl
  unfold fX5_actsOnThing at h
  refine lv_iload_n hx hb dX5_actsOnThing_0 rfl (lv_at hl 0 rfl) ?_
  refine lv_if_lt (tgt := 13) hx hb dX5_actsOnThing_1 (by decide) (fun c1 => ?_) (fun c1 => ?_)
  · have h := ite_t h c1
    refine lv_iconst (v := 0) hx hb dX5_actsOnThing_13 (by decide) ?_
    have h := Option.some.inj h
    subst h
    exact W.zret (v := 0) hx hb hr rfl (fun t ht hW9 => ⟨0, rfl, rfl, ht⟩) (fun _ h9 => absurd h9 List.not_mem_nil) dX5_actsOnThing_14 hlocks
  · have h := ite_f h c1
    refine lv_iload_n hx hb dX5_actsOnThing_4 rfl (lv_at hl 0 rfl) ?_
    refine lv_iconst (v := 3) hx hb dX5_actsOnThing_5 (by decide) ?_
    refine lv_icmp_gt (tgt := 13) hx hb dX5_actsOnThing_6 (by decide) (fun c6 => ?_) (fun c6 => ?_)
    · have h := ite_t h c6
      refine lv_iconst (v := 0) hx hb dX5_actsOnThing_13 (by decide) ?_
      have h := Option.some.inj h
      subst h
      exact W.zret (v := 0) hx hb hr rfl (fun t ht hW9 => ⟨0, rfl, rfl, ht⟩) (fun _ h9 => absurd h9 List.not_mem_nil) dX5_actsOnThing_14 hlocks
    · have h := ite_f h c6
      refine lv_iconst (v := 1) hx hb dX5_actsOnThing_9 (by decide) ?_
      refine lv_goto (tgt := 14) hx hb dX5_actsOnThing_10 (by decide) ?_
      have h := Option.some.inj h
      subst h
      exact W.zret (v := 1) hx hb hr rfl (fun t ht hW9 => ⟨1, rfl, rfl, ht⟩) (fun _ h9 => absurd h9 List.not_mem_nil) dX5_actsOnThing_14 hlocks
set_option maxHeartbeats 4000000 in
set_option maxRecDepth 100000 in
theorem bX5_namesThing_L13 {p : Program} {l : Launch} {e : Env} {s : State} {m : MethodId} {args : Array Value} {below : List Frame} {meth : Method} {c : Code} {o : Int32} (C : Cx p s m args meth c cX5_namesThing 1 RX5 (Cond.code yX5_namesThing cX5_namesThing 1 (some .boolean)) (some .boolean)) : ∀ (ls : Array Slot), lv_has ls 1 [] → fX5_namesThing_L13  = some o → W p l e ({ frames := 1, cells := 0, slots := 0, locals := 20 } : Room) s m args below meth c s.heap [] 0 0 (MQ below (vp_Si (fun z => z = o)) args s 0 0 (fun _ => False)) (F0 m 13 ls []) := by
  have C0 := C
  obtain ⟨hx, hb, hr, hml, hown, hts, hlocks⟩ := C0
  have hW : ∀ w ∈ WG, w.before args s = true := fun w h => hts w (List.mem_cons_of_mem _ h)
  intro  ls hl h
  unfold fX5_namesThing_L13 at h
  refine lv_iconst (v := 1) hx hb dX5_namesThing_13 (by decide) ?_
  refine lv_goto (tgt := 18) hx hb dX5_namesThing_14 (by decide) ?_
  have h := Option.some.inj h
  subst h
  exact W.zret (v := 1) hx hb hr rfl (fun t ht hW9 => ⟨1, rfl, rfl, ht⟩) (fun _ h9 => absurd h9 List.not_mem_nil) dX5_namesThing_18 hlocks
set_option maxHeartbeats 4000000 in
set_option maxRecDepth 100000 in
theorem mX5_namesThing (l : Launch) (x0 : Int32) (o : Int32) (h : fX5_namesThing x0 = some o) : Met l yX5_namesThing ((Cond.code yX5_namesThing cX5_namesThing 1 (some .boolean)) :: WG) ({ frames := 1, cells := 0, slots := 0, locals := 20 } : Room) (fun v _ => v = ([.int x0] : List Value).toArray) (vp_Si (fun z => z = o)) 0 0 (fun _ => False) := by
  refine Met.ofW (cc := cX5_namesThing) (maxL := 1) (ret := (some .boolean)) (by decide) rfl ?_
  intro p e s m args below meth c s₁ B hml0 hv
  have C : Cx p s m args meth c cX5_namesThing 1 RX5 (Cond.code yX5_namesThing cX5_namesThing 1 (some .boolean)) (some .boolean) := ⟨B.exec, B.bytes, B.returns, hml0, findClass_of_methodNamed B.named, atoms_spec (ws := (Cond.code yX5_namesThing cX5_namesThing 1 (some .boolean)) :: WG) B.pre, B.notSynchronized⟩
  subst hv
  have C0 := C
  obtain ⟨hx, hb, hr, hml, hown, hts, hlocks⟩ := C0
  have hW : ∀ w ∈ WG, w.before _ s = true := fun w h => hts w (List.mem_cons_of_mem _ h)
  show W p l e ({ frames := 1, cells := 0, slots := 0, locals := 20 } : Room) s m _ below meth c s.heap [] 0 0 _ _
  have hl := lv_entry ([.int x0]) (n := 1) (Nat.le_of_ble_eq_true rfl)
  rw [lg_entry_eq]
  generalize (lg_sl ([.int x0]) ++ List.replicate (1 - (lg_sl ([.int x0])).length) Slot.unset).toArray = ls at hl ⊢
  have hl : lv_has ls 1 [(0, .int x0)] := hl
  unfold fX5_namesThing at h
  refine lv_iload_n hx hb dX5_namesThing_0 rfl (lv_at hl 0 rfl) ?_
  obtain ⟨r1, hc1, h⟩ := bd_o h
  refine callRI (va_runS (As := [.int x0]) (rest := []) ⟨hx, hb, hml, hown, hts⟩ (mX5_actsOnThing l _ _ hc1) ⟨callB_of 1 hts (wg_c wg25) rfl rfl rfl (hW _ wg3) (hW _ wg24) hdX5_actsOnThing ⟨Nat.le_of_ble_eq_true rfl, Nat.le_of_ble_eq_true rfl⟩, hW _ wg26⟩ preEq rfl rfl hl.1 rfl (lv_room (Nat.le_of_ble_eq_true rfl)) dX5_namesThing_1 ⟨Nat.zero_le _, Nat.zero_le _⟩) ?_
  refine lv_if_ne (tgt := 13) hx hb dX5_namesThing_4 (by decide) (fun c4 => ?_) (fun c4 => ?_)
  · have h := ite_f h c4
    exact bX5_namesThing_L13 C   ls (lv_sub hl [] rfl) h
  · have h := ite_t h c4
    refine lv_iload_n hx hb dX5_namesThing_7 rfl (lv_at hl 0 rfl) ?_
    refine lv_bipush (v := 8) hx hb dX5_namesThing_8 (by decide) ?_
    refine lv_icmp_ne (tgt := 17) hx hb dX5_namesThing_10 (by decide) (fun c10 => ?_) (fun c10 => ?_)
    · have h := ite_f h c10
      refine lv_iconst (v := 0) hx hb dX5_namesThing_17 (by decide) ?_
      have h := Option.some.inj h
      subst h
      exact W.zret (v := 0) hx hb hr rfl (fun t ht hW9 => ⟨0, rfl, rfl, ht⟩) (fun _ h9 => absurd h9 List.not_mem_nil) dX5_namesThing_18 hlocks
    · have h := ite_t h c10
      exact bX5_namesThing_L13 C   ls (lv_sub hl [] rfl) h
set_option maxHeartbeats 4000000 in
set_option maxRecDepth 100000 in
theorem bX5_namesStep_L16 {p : Program} {l : Launch} {e : Env} {s : State} {m : MethodId} {args : Array Value} {below : List Frame} {meth : Method} {c : Code} {o : Int32} (C : Cx p s m args meth c cX5_namesStep 1 RX5 (Cond.code yX5_namesStep cX5_namesStep 1 (some .boolean)) (some .boolean)) : ∀ (ls : Array Slot), lv_has ls 1 [] → fX5_namesStep_L16  = some o → W p l e ({ frames := 0, cells := 0, slots := 0, locals := 0 } : Room) s m args below meth c s.heap [] 0 0 (MQ below (vp_Si (fun z => z = o)) args s 0 0 (fun _ => False)) (F0 m 16 ls []) := by
  have C0 := C
  obtain ⟨hx, hb, hr, hml, hown, hts, hlocks⟩ := C0
  have hW : ∀ w ∈ WG, w.before args s = true := fun w h => hts w (List.mem_cons_of_mem _ h)
  intro  ls hl h
  unfold fX5_namesStep_L16 at h
  refine lv_iconst (v := 1) hx hb dX5_namesStep_16 (by decide) ?_
  refine lv_goto (tgt := 21) hx hb dX5_namesStep_17 (by decide) ?_
  have h := Option.some.inj h
  subst h
  exact W.zret (v := 1) hx hb hr rfl (fun t ht hW9 => ⟨1, rfl, rfl, ht⟩) (fun _ h9 => absurd h9 List.not_mem_nil) dX5_namesStep_21 hlocks
set_option maxHeartbeats 4000000 in
set_option maxRecDepth 100000 in
theorem mX5_namesStep (l : Launch) (x0 : Int32) (o : Int32) (h : fX5_namesStep x0 = some o) : Met l yX5_namesStep ((Cond.code yX5_namesStep cX5_namesStep 1 (some .boolean)) :: WG) ({ frames := 0, cells := 0, slots := 0, locals := 0 } : Room) (fun v _ => v = ([.int x0] : List Value).toArray) (vp_Si (fun z => z = o)) 0 0 (fun _ => False) := by
  refine Met.ofW (cc := cX5_namesStep) (maxL := 1) (ret := (some .boolean)) (by decide) rfl ?_
  intro p e s m args below meth c s₁ B hml0 hv
  have C : Cx p s m args meth c cX5_namesStep 1 RX5 (Cond.code yX5_namesStep cX5_namesStep 1 (some .boolean)) (some .boolean) := ⟨B.exec, B.bytes, B.returns, hml0, findClass_of_methodNamed B.named, atoms_spec (ws := (Cond.code yX5_namesStep cX5_namesStep 1 (some .boolean)) :: WG) B.pre, B.notSynchronized⟩
  subst hv
  have C0 := C
  obtain ⟨hx, hb, hr, hml, hown, hts, hlocks⟩ := C0
  have hW : ∀ w ∈ WG, w.before _ s = true := fun w h => hts w (List.mem_cons_of_mem _ h)
  show W p l e ({ frames := 0, cells := 0, slots := 0, locals := 0 } : Room) s m _ below meth c s.heap [] 0 0 _ _
  have hl := lv_entry ([.int x0]) (n := 1) (Nat.le_of_ble_eq_true rfl)
  rw [lg_entry_eq]
  generalize (lg_sl ([.int x0]) ++ List.replicate (1 - (lg_sl ([.int x0])).length) Slot.unset).toArray = ls at hl ⊢
  have hl : lv_has ls 1 [(0, .int x0)] := hl
  unfold fX5_namesStep at h
  refine lv_iload_n hx hb dX5_namesStep_0 rfl (lv_at hl 0 rfl) ?_
  refine lv_iconst (v := 4) hx hb dX5_namesStep_1 (by decide) ?_
  refine lv_icmp_eq (tgt := 16) hx hb dX5_namesStep_2 (by decide) (fun c2 => ?_) (fun c2 => ?_)
  · have h := ite_t h c2
    exact bX5_namesStep_L16 C   ls (lv_sub hl [] rfl) h
  · have h := ite_f h c2
    refine lv_iload_n hx hb dX5_namesStep_5 rfl (lv_at hl 0 rfl) ?_
    refine lv_iconst (v := 5) hx hb dX5_namesStep_6 (by decide) ?_
    refine lv_icmp_eq (tgt := 16) hx hb dX5_namesStep_7 (by decide) (fun c7 => ?_) (fun c7 => ?_)
    · have h := ite_t h c7
      exact bX5_namesStep_L16 C   ls (lv_sub hl [] rfl) h
    · have h := ite_f h c7
      refine lv_iload_n hx hb dX5_namesStep_10 rfl (lv_at hl 0 rfl) ?_
      refine lv_bipush (v := 8) hx hb dX5_namesStep_11 (by decide) ?_
      refine lv_icmp_ne (tgt := 20) hx hb dX5_namesStep_13 (by decide) (fun c13 => ?_) (fun c13 => ?_)
      · have h := ite_f h c13
        refine lv_iconst (v := 0) hx hb dX5_namesStep_20 (by decide) ?_
        have h := Option.some.inj h
        subst h
        exact W.zret (v := 0) hx hb hr rfl (fun t ht hW9 => ⟨0, rfl, rfl, ht⟩) (fun _ h9 => absurd h9 List.not_mem_nil) dX5_namesStep_21 hlocks
      · have h := ite_t h c13
        exact bX5_namesStep_L16 C   ls (lv_sub hl [] rfl) h
set_option maxHeartbeats 4000000 in
set_option maxRecDepth 100000 in
theorem bX5_refusalOf_L72 {p : Program} {l : Launch} {e : Env} {s : State} {m : MethodId} {args : Array Value} {below : List Frame} {meth : Method} {c : Code} {D : va_G} {a : Nat → Nat} {k : Nat → ClassId} {σ : ST} {o : Int32} (C : Cx p s m args meth c cX5_refusalOf 5 RX5 (Cond.code yX5_refusalOf cX5_refusalOf 5 (some .int)) (some .int)) (hK : Kx D (tX k) s) (hP : va_P D vwCl (wX a k σ) s.heap) (hD : va_D (AX a) (wX a k σ)) : ∀ (x1 x2 : Int32) (ls : Array Slot), lv_has ls 5 [(0, .ref (a 0)), (1, .int x1), (2, .int x2)] → fX5_refusalOf_L72 σ x1 x2 = some o → W p l e ({ frames := 2, cells := 0, slots := 0, locals := 42 } : Room) s m args below meth c s.heap [] 0 0 (MQ below (vp_Si (fun z => z = o)) args s 0 0 (fun _ => False)) (F0 m 72 ls []) := by
  have C0 := C
  obtain ⟨hx, hb, hr, hml, hown, hts, hlocks⟩ := C0
  have hW : ∀ w ∈ WG, w.before args s = true := fun w h => hts w (List.mem_cons_of_mem _ h)
  intro x1 x2 ls hl h
  unfold fX5_refusalOf_L72 at h
  refine lv_iload_n hx hb dX5_refusalOf_72 rfl (lv_at hl 1 rfl) ?_
  refine lv_iconst (v := 3) hx hb dX5_refusalOf_73 (by decide) ?_
  refine lv_icmp_ne (tgt := 91) hx hb dX5_refusalOf_74 (by decide) (fun c74 => ?_) (fun c74 => ?_)
  · have h := ite_f h c74
    refine lv_iconst (v := 0) hx hb dX5_refusalOf_91 (by decide) ?_
    have h := Option.some.inj h
    subst h
    exact W.iret (v := 0) hx hb hr (fun t ht hW9 => ⟨0, rfl, rfl, ht⟩) (fun _ h9 => absurd h9 List.not_mem_nil) dX5_refusalOf_92 hlocks
  · have h := ite_t h c74
    refine lv_aload_n hx hb dX5_refusalOf_77 rfl (lv_at hl 0 rfl) ?_
    refine va_get (D := D) (ci := 5) (v := .ref (a 1)) (C := RX5) (T := TX5) (N := 6) hx hb hW inX5G hown hK.1 hP 0 rfl rfl 0 (by decide) (hW _ wg8) (fun _ h9 => h9) rfl dX5_refusalOf_78 ?_
    refine lv_iload_n hx hb dX5_refusalOf_81 rfl (lv_at hl 2 rfl) ?_
    obtain ⟨r82, hc82, h⟩ := bd_o h
    refine callRI (va_runVN (As := [.int x2]) (rest := []) ⟨hx, hb, hml, hown, hts⟩ (mX3_isFile l D a k _ _ _ hc82) ⟨va_cnB 1 hts (wg_c wg16) rfl rfl rfl (hK.2 _ nw17) (hW _ wg13) hdX3_isFile ⟨Nat.le_of_ble_eq_true rfl, Nat.le_of_ble_eq_true rfl⟩, hW _ wg18, hW _ wg19⟩ (pw_V hK hP hD (ci := 3) (q0 := 1) rfl rfl) rfl rfl hl.1 rfl (lv_room (Nat.le_of_ble_eq_true rfl)) dX5_refusalOf_82 ⟨Nat.zero_le _, Nat.zero_le _⟩) ?_
    refine lv_if_ne (tgt := 91) hx hb dX5_refusalOf_85 (by decide) (fun c85 => ?_) (fun c85 => ?_)
    · have h := ite_f h c85
      refine lv_iconst (v := 0) hx hb dX5_refusalOf_91 (by decide) ?_
      have h := Option.some.inj h
      subst h
      exact W.iret (v := 0) hx hb hr (fun t ht hW9 => ⟨0, rfl, rfl, ht⟩) (fun _ h9 => absurd h9 List.not_mem_nil) dX5_refusalOf_92 hlocks
    · have h := ite_t h c85
      refine lv_bipush (v := (-102)) hx hb dX5_refusalOf_88 (by decide) ?_
      have h := Option.some.inj h
      subst h
      exact W.iret (v := (-102)) hx hb hr (fun t ht hW9 => ⟨(-102), rfl, rfl, ht⟩) (fun _ h9 => absurd h9 List.not_mem_nil) dX5_refusalOf_90 hlocks
set_option maxHeartbeats 4000000 in
set_option maxRecDepth 100000 in
theorem bX5_refusalOf_L53 {p : Program} {l : Launch} {e : Env} {s : State} {m : MethodId} {args : Array Value} {below : List Frame} {meth : Method} {c : Code} {D : va_G} {a : Nat → Nat} {k : Nat → ClassId} {σ : ST} {o : Int32} (C : Cx p s m args meth c cX5_refusalOf 5 RX5 (Cond.code yX5_refusalOf cX5_refusalOf 5 (some .int)) (some .int)) (hK : Kx D (tX k) s) (hP : va_P D vwCl (wX a k σ) s.heap) (hD : va_D (AX a) (wX a k σ)) : ∀ (x1 x2 x4 : Int32) (ls : Array Slot), lv_has ls 5 [(0, .ref (a 0)), (1, .int x1), (2, .int x2), (4, .int x4)] → fX5_refusalOf_L53 σ x1 x2 x4 = some o → W p l e ({ frames := 2, cells := 0, slots := 0, locals := 42 } : Room) s m args below meth c s.heap [] 0 0 (MQ below (vp_Si (fun z => z = o)) args s 0 0 (fun _ => False)) (F0 m 53 ls []) := by
  have C0 := C
  obtain ⟨hx, hb, hr, hml, hown, hts, hlocks⟩ := C0
  have hW : ∀ w ∈ WG, w.before args s = true := fun w h => hts w (List.mem_cons_of_mem _ h)
  intro x1 x2 x4 ls hl h
  unfold fX5_refusalOf_L53 at h
  refine lv_iload hx hb dX5_refusalOf_53 (lv_at hl 3 rfl) ?_
  refine lv_iconst (v := (-1)) hx hb dX5_refusalOf_55 (by decide) ?_
  refine lv_icmp_eq (tgt := 72) hx hb dX5_refusalOf_56 (by decide) (fun c56 => ?_) (fun c56 => ?_)
  · have h := ite_t h c56
    exact bX5_refusalOf_L72 C hK hP hD _ _ ls (lv_sub hl [0, 1, 2] rfl) h
  · have h := ite_f h c56
    refine lv_iload hx hb dX5_refusalOf_59 (lv_at hl 3 rfl) ?_
    refine lv_bipush (v := 40) hx hb dX5_refusalOf_61 (by decide) ?_
    obtain ⟨r63, hc63, h⟩ := bd_o h
    refine callRI (va_runS (As := [.int x4, .int 40]) (rest := []) ⟨hx, hb, hml, hown, hts⟩ (mX5_isWithin l _ _ _ hc63) ⟨callB_of 2 hts (wg_c wg1) rfl rfl rfl (hW _ wg3) (hW _ wg27) hdX5_isWithin ⟨Nat.le_of_ble_eq_true rfl, Nat.le_of_ble_eq_true rfl⟩, hW _ wg4⟩ preEq rfl rfl hl.1 rfl (lv_room (Nat.le_of_ble_eq_true rfl)) dX5_refusalOf_63 ⟨Nat.zero_le _, Nat.zero_le _⟩) ?_
    refine lv_if_ne (tgt := 72) hx hb dX5_refusalOf_66 (by decide) (fun c66 => ?_) (fun c66 => ?_)
    · have h := ite_f h c66
      exact bX5_refusalOf_L72 C hK hP hD _ _ ls (lv_sub hl [0, 1, 2] rfl) h
    · have h := ite_t h c66
      refine lv_bipush (v := (-102)) hx hb dX5_refusalOf_69 (by decide) ?_
      have h := Option.some.inj h
      subst h
      exact W.iret (v := (-102)) hx hb hr (fun t ht hW9 => ⟨(-102), rfl, rfl, ht⟩) (fun _ h9 => absurd h9 List.not_mem_nil) dX5_refusalOf_71 hlocks
set_option maxHeartbeats 4000000 in
set_option maxRecDepth 100000 in
theorem bX5_refusalOf_L21 {p : Program} {l : Launch} {e : Env} {s : State} {m : MethodId} {args : Array Value} {below : List Frame} {meth : Method} {c : Code} {D : va_G} {a : Nat → Nat} {k : Nat → ClassId} {σ : ST} {o : Int32} (C : Cx p s m args meth c cX5_refusalOf 5 RX5 (Cond.code yX5_refusalOf cX5_refusalOf 5 (some .int)) (some .int)) (hK : Kx D (tX k) s) (hP : va_P D vwCl (wX a k σ) s.heap) (hD : va_D (AX a) (wX a k σ)) : ∀ (x1 x2 x3 x4 : Int32) (ls : Array Slot), lv_has ls 5 [(0, .ref (a 0)), (1, .int x1), (2, .int x2), (3, .int x3), (4, .int x4)] → fX5_refusalOf_L21 σ x1 x2 x3 x4 = some o → W p l e ({ frames := 2, cells := 0, slots := 0, locals := 42 } : Room) s m args below meth c s.heap [] 0 0 (MQ below (vp_Si (fun z => z = o)) args s 0 0 (fun _ => False)) (F0 m 21 ls []) := by
  have C0 := C
  obtain ⟨hx, hb, hr, hml, hown, hts, hlocks⟩ := C0
  have hW : ∀ w ∈ WG, w.before args s = true := fun w h => hts w (List.mem_cons_of_mem _ h)
  intro x1 x2 x3 x4 ls hl h
  unfold fX5_refusalOf_L21 at h
  refine lv_iload_n hx hb dX5_refusalOf_21 rfl (lv_at hl 1 rfl) ?_
  refine lv_if_lt (tgt := 31) hx hb dX5_refusalOf_22 (by decide) (fun c22 => ?_) (fun c22 => ?_)
  · have h := ite_t h c22
    refine lv_bipush (v := (-102)) hx hb dX5_refusalOf_31 (by decide) ?_
    have h := Option.some.inj h
    subst h
    exact W.iret (v := (-102)) hx hb hr (fun t ht hW9 => ⟨(-102), rfl, rfl, ht⟩) (fun _ h9 => absurd h9 List.not_mem_nil) dX5_refusalOf_33 hlocks
  · have h := ite_f h c22
    refine lv_iload_n hx hb dX5_refusalOf_25 rfl (lv_at hl 1 rfl) ?_
    refine lv_bipush (v := 8) hx hb dX5_refusalOf_26 (by decide) ?_
    refine lv_icmp_le (tgt := 34) hx hb dX5_refusalOf_28 (by decide) (fun c28 => ?_) (fun c28 => ?_)
    · have h := ite_t h c28
      refine lv_iload_n hx hb dX5_refusalOf_34 rfl (lv_at hl 1 rfl) ?_
      obtain ⟨r35, hc35, h⟩ := bd_o h
      refine callRI (va_runS (As := [.int x1]) (rest := []) ⟨hx, hb, hml, hown, hts⟩ (mX5_namesStep l _ _ hc35) ⟨callB_of 1 hts (wg_c wg29) rfl rfl rfl (hW _ wg3) (hW _ wg28) hdX5_namesStep ⟨Nat.le_of_ble_eq_true rfl, Nat.le_of_ble_eq_true rfl⟩, hW _ wg30⟩ preEq rfl rfl hl.1 rfl (lv_room (Nat.le_of_ble_eq_true rfl)) dX5_refusalOf_35 ⟨Nat.zero_le _, Nat.zero_le _⟩) ?_
      refine lv_if_eq (tgt := 53) hx hb dX5_refusalOf_38 (by decide) (fun c38 => ?_) (fun c38 => ?_)
      · have h := ite_t h c38
        exact bX5_refusalOf_L53 C hK hP hD _ _ _ ls (lv_sub hl [0, 1, 2, 4] rfl) h
      · have h := ite_f h c38
        refine lv_iload_n hx hb dX5_refusalOf_41 rfl (lv_at hl 3 rfl) ?_
        refine lv_bipush (v := 40) hx hb dX5_refusalOf_42 (by decide) ?_
        obtain ⟨r44, hc44, h⟩ := bd_o h
        refine callRI (va_runS (As := [.int x3, .int 40]) (rest := []) ⟨hx, hb, hml, hown, hts⟩ (mX5_isWithin l _ _ _ hc44) ⟨callB_of 2 hts (wg_c wg1) rfl rfl rfl (hW _ wg3) (hW _ wg27) hdX5_isWithin ⟨Nat.le_of_ble_eq_true rfl, Nat.le_of_ble_eq_true rfl⟩, hW _ wg4⟩ preEq rfl rfl hl.1 rfl (lv_room (Nat.le_of_ble_eq_true rfl)) dX5_refusalOf_44 ⟨Nat.zero_le _, Nat.zero_le _⟩) ?_
        refine lv_if_ne (tgt := 53) hx hb dX5_refusalOf_47 (by decide) (fun c47 => ?_) (fun c47 => ?_)
        · have h := ite_f h c47
          exact bX5_refusalOf_L53 C hK hP hD _ _ _ ls (lv_sub hl [0, 1, 2, 4] rfl) h
        · have h := ite_t h c47
          refine lv_bipush (v := (-102)) hx hb dX5_refusalOf_50 (by decide) ?_
          have h := Option.some.inj h
          subst h
          exact W.iret (v := (-102)) hx hb hr (fun t ht hW9 => ⟨(-102), rfl, rfl, ht⟩) (fun _ h9 => absurd h9 List.not_mem_nil) dX5_refusalOf_52 hlocks
    · have h := ite_f h c28
      refine lv_bipush (v := (-102)) hx hb dX5_refusalOf_31 (by decide) ?_
      have h := Option.some.inj h
      subst h
      exact W.iret (v := (-102)) hx hb hr (fun t ht hW9 => ⟨(-102), rfl, rfl, ht⟩) (fun _ h9 => absurd h9 List.not_mem_nil) dX5_refusalOf_33 hlocks
set_option maxHeartbeats 4000000 in
set_option maxRecDepth 100000 in
theorem mX5_refusalOf (l : Launch) (D : va_G) (a : Nat → Nat) (k : Nat → ClassId) (σ : ST) (x1 x2 x3 x4 : Int32) (o : Int32) (h : fX5_refusalOf σ x1 x2 x3 x4 = some o) : Met l yX5_refusalOf ((Cond.code yX5_refusalOf cX5_refusalOf 5 (some .int)) :: WG) ({ frames := 2, cells := 0, slots := 0, locals := 42 } : Room) (Pw D (tX k) (AX a) (wX a k σ) [.ref (a 0), .int x1, .int x2, .int x3, .int x4]) (vp_Si (fun z => z = o)) 0 0 (fun _ => False) := by
  refine Met.ofW (cc := cX5_refusalOf) (maxL := 5) (ret := (some .int)) (by decide) rfl ?_
  intro p e s m args below meth c s₁ B hml0 hv
  have C : Cx p s m args meth c cX5_refusalOf 5 RX5 (Cond.code yX5_refusalOf cX5_refusalOf 5 (some .int)) (some .int) := ⟨B.exec, B.bytes, B.returns, hml0, findClass_of_methodNamed B.named, atoms_spec (ws := (Cond.code yX5_refusalOf cX5_refusalOf 5 (some .int)) :: WG) B.pre, B.notSynchronized⟩
  obtain ⟨rfl, hP, hK, hD⟩ := hv
  have hK : Kx D (tX k) s := hK
  have C0 := C
  obtain ⟨hx, hb, hr, hml, hown, hts, hlocks⟩ := C0
  have hW : ∀ w ∈ WG, w.before _ s = true := fun w h => hts w (List.mem_cons_of_mem _ h)
  show W p l e ({ frames := 2, cells := 0, slots := 0, locals := 42 } : Room) s m _ below meth c s.heap [] 0 0 _ _
  have hl := lv_entry ([.ref (a 0), .int x1, .int x2, .int x3, .int x4]) (n := 5) (Nat.le_of_ble_eq_true rfl)
  rw [lg_entry_eq]
  generalize (lg_sl ([.ref (a 0), .int x1, .int x2, .int x3, .int x4]) ++ List.replicate (5 - (lg_sl ([.ref (a 0), .int x1, .int x2, .int x3, .int x4])).length) Slot.unset).toArray = ls at hl ⊢
  have hl : lv_has ls 5 [(0, .ref (a 0)), (1, .int x1), (2, .int x2), (3, .int x3), (4, .int x4)] := hl
  unfold fX5_refusalOf at h
  refine lv_iload_n hx hb dX5_refusalOf_0 rfl (lv_at hl 1 rfl) ?_
  obtain ⟨r1, hc1, h⟩ := bd_o h
  refine callRI (va_runS (As := [.int x1]) (rest := []) ⟨hx, hb, hml, hown, hts⟩ (mX5_namesThing l _ _ hc1) ⟨callB_of 1 hts (wg_c wg32) rfl rfl rfl (hW _ wg3) (hW _ wg31) hdX5_namesThing ⟨Nat.le_of_ble_eq_true rfl, Nat.le_of_ble_eq_true rfl⟩, hW _ wg33⟩ preEq rfl rfl hl.1 rfl (lv_room (Nat.le_of_ble_eq_true rfl)) dX5_refusalOf_1 ⟨Nat.zero_le _, Nat.zero_le _⟩) ?_
  refine lv_if_eq (tgt := 21) hx hb dX5_refusalOf_4 (by decide) (fun c4 => ?_) (fun c4 => ?_)
  · have h := ite_t h c4
    exact bX5_refusalOf_L21 C hK hP hD _ _ _ _ ls (lv_sub hl [0, 1, 2, 3, 4] rfl) h
  · have h := ite_f h c4
    refine lv_aload_n hx hb dX5_refusalOf_7 rfl (lv_at hl 0 rfl) ?_
    refine va_get (D := D) (ci := 5) (v := .ref (a 1)) (C := RX5) (T := TX5) (N := 6) hx hb hW inX5G hown hK.1 hP 0 rfl rfl 0 (by decide) (hW _ wg8) (fun _ h9 => h9) rfl dX5_refusalOf_8 ?_
    refine lv_iload_n hx hb dX5_refusalOf_11 rfl (lv_at hl 2 rfl) ?_
    obtain ⟨r12, hc12, h⟩ := bd_o h
    refine callRI (va_runVN (As := [.int x2]) (rest := []) ⟨hx, hb, hml, hown, hts⟩ (mX3_has l D a k _ _ _ hc12) ⟨va_cnB 1 hts (wg_c wg20) rfl rfl rfl (hK.2 _ nw21) (hW _ wg13) hdX3_has ⟨Nat.le_of_ble_eq_true rfl, Nat.le_of_ble_eq_true rfl⟩, hW _ wg22, hW _ wg23⟩ (pw_V hK hP hD (ci := 3) (q0 := 1) rfl rfl) rfl rfl hl.1 rfl (lv_room (Nat.le_of_ble_eq_true rfl)) dX5_refusalOf_12 ⟨Nat.zero_le _, Nat.zero_le _⟩) ?_
    refine lv_if_ne (tgt := 21) hx hb dX5_refusalOf_15 (by decide) (fun c15 => ?_) (fun c15 => ?_)
    · have h := ite_f h c15
      exact bX5_refusalOf_L21 C hK hP hD _ _ _ _ ls (lv_sub hl [0, 1, 2, 3, 4] rfl) h
    · have h := ite_t h c15
      refine lv_bipush (v := (-101)) hx hb dX5_refusalOf_18 (by decide) ?_
      have h := Option.some.inj h
      subst h
      exact W.iret (v := (-101)) hx hb hr (fun t ht hW9 => ⟨(-101), rfl, rfl, ht⟩) (fun _ h9 => absurd h9 List.not_mem_nil) dX5_refusalOf_20 hlocks
set_option maxHeartbeats 4000000 in
set_option maxRecDepth 100000 in
theorem mX2_write (l : Launch) (D : va_G) (a : Nat → Nat) (k : Nat → ClassId) (σ : ST) (x1 x2 x3 x4 x5 x6 : Int32) (o : ST) (h : fX2_write σ x1 x2 x3 x4 x5 x6 = some o) : Met l yX2_write ((Cond.code yX2_write cX2_write 7 none) :: WG) ({ frames := 0, cells := 0, slots := 0, locals := 0 } : Room) (Pw D (tX k) (AX a) (wX a k σ) [.ref (a 2), .int x1, .int x2, .int x3, .int x4, .int x5, .int x6]) (va_Qv (S := Unit) (fun _ => True) (fun _ t => va_P D vwCl (wX a k o) t.heap) (AX a)) 0 0 (AX a) := by
  refine Met.ofW (cc := cX2_write) (maxL := 7) (ret := none) (by decide) rfl ?_
  intro p e s m args below meth c s₁ B hml0 hv
  have C : Cx p s m args meth c cX2_write 7 RX2 (Cond.code yX2_write cX2_write 7 none) none := ⟨B.exec, B.bytes, B.returns, hml0, findClass_of_methodNamed B.named, atoms_spec (ws := (Cond.code yX2_write cX2_write 7 none) :: WG) B.pre, B.notSynchronized⟩
  obtain ⟨rfl, hP, hK, hD⟩ := hv
  have hK : Kx D (tX k) s := hK
  have C0 := C
  obtain ⟨hx, hb, hr, hml, hown, hts, hlocks⟩ := C0
  have hW : ∀ w ∈ WG, w.before _ s = true := fun w h => hts w (List.mem_cons_of_mem _ h)
  show W p l e ({ frames := 0, cells := 0, slots := 0, locals := 0 } : Room) s m _ below meth c s.heap [] 0 0 _ _
  have hl := lv_entry ([.ref (a 2), .int x1, .int x2, .int x3, .int x4, .int x5, .int x6]) (n := 7) (Nat.le_of_ble_eq_true rfl)
  rw [lg_entry_eq]
  generalize (lg_sl ([.ref (a 2), .int x1, .int x2, .int x3, .int x4, .int x5, .int x6]) ++ List.replicate (7 - (lg_sl ([.ref (a 2), .int x1, .int x2, .int x3, .int x4, .int x5, .int x6])).length) Slot.unset).toArray = ls at hl ⊢
  have hl : lv_has ls 7 [(0, .ref (a 2)), (1, .int x1), (2, .int x2), (3, .int x3), (4, .int x4), (5, .int x5), (6, .int x6)] := hl
  have hS : va_S (AX a) s.heap s.heap [] := va_S.rf
  suffices hgo : ∀ (H : Heap) (locs : List Loc), va_P D vwCl (wX a k σ) H → va_S (AX a) s.heap H locs → W p l e ({ frames := 0, cells := 0, slots := 0, locals := 0 } : Room) s m _ below meth c H locs 0 0 (MQ below (va_Qv (S := Unit) (fun _ => True) (fun _ t => va_P D vwCl (wX a k o) t.heap) (AX a)) _ s 0 0 (AX a)) (F0 m 0 ls []) from hgo _ _ hP hS
  clear hP hS
  intro H locs hP hS
  unfold fX2_write at h
  refine lv_aload_n hx hb dX2_write_0 rfl (lv_at hl 0 rfl) ?_
  refine va_get (D := D) (ci := 2) (v := .ref (a 9)) (C := RX2) (T := TX2) (N := 6) hx hb hW inX2G hown hK.1 hP 2 rfl rfl 0 (by decide) (hW _ wg34) (fun _ h9 => h9) rfl dX2_write_1 ?_
  refine lv_iload_n hx hb dX2_write_4 rfl (lv_at hl 1 rfl) ?_
  refine lv_iload_n hx hb dX2_write_5 rfl (lv_at hl 2 rfl) ?_
  obtain ⟨hi6, h⟩ := ix_o h
  refine va_iast (D := D) hx hb hK.1 hP hD hS 9 3 rfl rfl hi6 dX2_write_6 (fun H locs hP hD9 hS => ?_)
  obtain ⟨s6, es6⟩ : ∃ z : ST, z = setA σ 3 x1.toNatClampNeg x2 := ⟨_, rfl⟩
  have h := nm_o h es6
  have hP : va_P D vwCl (wX a k s6) H := by rw [es6]; exact hP
  have hD : va_D (AX a) (wX a k s6) := dX hD
  refine lv_aload_n hx hb dX2_write_7 rfl (lv_at hl 0 rfl) ?_
  refine va_get (D := D) (ci := 2) (v := .ref (a 10)) (C := RX2) (T := TX2) (N := 6) hx hb hW inX2G hown hK.1 hP 2 rfl rfl 1 (by decide) (hW _ wg35) (fun _ h9 => h9) rfl dX2_write_8 ?_
  refine lv_iload_n hx hb dX2_write_11 rfl (lv_at hl 1 rfl) ?_
  refine lv_iload_n hx hb dX2_write_12 rfl (lv_at hl 3 rfl) ?_
  obtain ⟨hi13, h⟩ := ix_o h
  refine va_iast (D := D) hx hb hK.1 hP hD hS 10 4 rfl rfl hi13 dX2_write_13 (fun H locs hP hD9 hS => ?_)
  obtain ⟨s13, es13⟩ : ∃ z : ST, z = setA s6 4 x1.toNatClampNeg x3 := ⟨_, rfl⟩
  have h := nm_o h es13
  have hP : va_P D vwCl (wX a k s13) H := by rw [es13]; exact hP
  have hD : va_D (AX a) (wX a k s13) := dX hD
  refine lv_aload_n hx hb dX2_write_14 rfl (lv_at hl 0 rfl) ?_
  refine va_get (D := D) (ci := 2) (v := .ref (a 11)) (C := RX2) (T := TX2) (N := 6) hx hb hW inX2G hown hK.1 hP 2 rfl rfl 2 (by decide) (hW _ wg36) (fun _ h9 => h9) rfl dX2_write_15 ?_
  refine lv_iload_n hx hb dX2_write_18 rfl (lv_at hl 1 rfl) ?_
  refine lv_iload hx hb dX2_write_19 (lv_at hl 4 rfl) ?_
  obtain ⟨hi21, h⟩ := ix_o h
  refine va_iast (D := D) hx hb hK.1 hP hD hS 11 5 rfl rfl hi21 dX2_write_21 (fun H locs hP hD9 hS => ?_)
  obtain ⟨s21, es21⟩ : ∃ z : ST, z = setA s13 5 x1.toNatClampNeg x4 := ⟨_, rfl⟩
  have h := nm_o h es21
  have hP : va_P D vwCl (wX a k s21) H := by rw [es21]; exact hP
  have hD : va_D (AX a) (wX a k s21) := dX hD
  refine lv_aload_n hx hb dX2_write_22 rfl (lv_at hl 0 rfl) ?_
  refine va_get (D := D) (ci := 2) (v := .ref (a 12)) (C := RX2) (T := TX2) (N := 6) hx hb hW inX2G hown hK.1 hP 2 rfl rfl 3 (by decide) (hW _ wg37) (fun _ h9 => h9) rfl dX2_write_23 ?_
  refine lv_iload_n hx hb dX2_write_26 rfl (lv_at hl 1 rfl) ?_
  refine lv_iload hx hb dX2_write_27 (lv_at hl 5 rfl) ?_
  obtain ⟨hi29, h⟩ := ix_o h
  refine va_zast (D := D) hx hb hK.1 hP hD hS 12 6 rfl rfl hi29 dX2_write_29 (fun H locs hP hD9 hS => ?_)
  obtain ⟨s29, es29⟩ : ∃ z : ST, z = setA s21 6 x1.toNatClampNeg (vp_nar .boolean x5) := ⟨_, rfl⟩
  have h := nm_o h es29
  have hP : va_P D vwCl (wX a k s29) H := by rw [es29]; exact hP
  have hD : va_D (AX a) (wX a k s29) := dX hD
  refine lv_aload_n hx hb dX2_write_30 rfl (lv_at hl 0 rfl) ?_
  refine va_get (D := D) (ci := 2) (v := .ref (a 13)) (C := RX2) (T := TX2) (N := 6) hx hb hW inX2G hown hK.1 hP 2 rfl rfl 4 (by decide) (hW _ wg38) (fun _ h9 => h9) rfl dX2_write_31 ?_
  refine lv_iload_n hx hb dX2_write_34 rfl (lv_at hl 1 rfl) ?_
  refine lv_iload hx hb dX2_write_35 (lv_at hl 6 rfl) ?_
  obtain ⟨hi37, h⟩ := ix_o h
  refine va_iast (D := D) hx hb hK.1 hP hD hS 13 7 rfl rfl hi37 dX2_write_37 (fun H locs hP hD9 hS => ?_)
  obtain ⟨s37, es37⟩ : ∃ z : ST, z = setA s29 7 x1.toNatClampNeg x6 := ⟨_, rfl⟩
  have h := nm_o h es37
  have hP : va_P D vwCl (wX a k s37) H := by rw [es37]; exact hP
  have hD : va_D (AX a) (wX a k s37) := dX hD
  have h := Option.some.inj h
  subst h
  exact W.vret hx hb hr (fun t ht hW9 => ⟨⟨(), rfl, trivial, by show va_P _ _ _ t.heap; rw [ht]; exact hP⟩, hS.F ht⟩) hS.2.2 dX2_write_38 hlocks
set_option maxHeartbeats 4000000 in
set_option maxRecDepth 100000 in
theorem mX5_step (l : Launch) (D : va_G) (a : Nat → Nat) (k : Nat → ClassId) (σ : ST) (x1 x2 x3 x4 x5 : Int32) (o : Int32 × ST) (h : fX5_step σ x1 x2 x3 x4 x5 = some o) : Met l yX5_step ((Cond.code yX5_step cX5_step 8 (some .int)) :: WG) ({ frames := 3, cells := 0, slots := 0, locals := 66 } : Room) (Pw D (tX k) (AX a) (wX a k σ) [.ref (a 0), .int x1, .int x2, .int x3, .int x4, .int x5]) (va_Qi (S := Unit) (fun z _ => z = o.1) (fun _ t => va_P D vwCl (wX a k o.2) t.heap) (AX a)) 0 0 (AX a) := by
  refine Met.ofW (cc := cX5_step) (maxL := 8) (ret := (some .int)) (by decide) rfl ?_
  intro p e s m args below meth c s₁ B hml0 hv
  have C : Cx p s m args meth c cX5_step 8 RX5 (Cond.code yX5_step cX5_step 8 (some .int)) (some .int) := ⟨B.exec, B.bytes, B.returns, hml0, findClass_of_methodNamed B.named, atoms_spec (ws := (Cond.code yX5_step cX5_step 8 (some .int)) :: WG) B.pre, B.notSynchronized⟩
  obtain ⟨rfl, hP, hK, hD⟩ := hv
  have hK : Kx D (tX k) s := hK
  have C0 := C
  obtain ⟨hx, hb, hr, hml, hown, hts, hlocks⟩ := C0
  have hW : ∀ w ∈ WG, w.before _ s = true := fun w h => hts w (List.mem_cons_of_mem _ h)
  show W p l e ({ frames := 3, cells := 0, slots := 0, locals := 66 } : Room) s m _ below meth c s.heap [] 0 0 _ _
  have hl := lv_entry ([.ref (a 0), .int x1, .int x2, .int x3, .int x4, .int x5]) (n := 8) (Nat.le_of_ble_eq_true rfl)
  rw [lg_entry_eq]
  generalize (lg_sl ([.ref (a 0), .int x1, .int x2, .int x3, .int x4, .int x5]) ++ List.replicate (8 - (lg_sl ([.ref (a 0), .int x1, .int x2, .int x3, .int x4, .int x5])).length) Slot.unset).toArray = ls at hl ⊢
  have hl : lv_has ls 8 [(0, .ref (a 0)), (1, .int x1), (2, .int x2), (3, .int x3), (4, .int x4), (5, .int x5)] := hl
  have hS : va_S (AX a) s.heap s.heap [] := va_S.rf
  suffices hgo : ∀ (H : Heap) (locs : List Loc), va_P D vwCl (wX a k σ) H → va_S (AX a) s.heap H locs → W p l e ({ frames := 3, cells := 0, slots := 0, locals := 66 } : Room) s m _ below meth c H locs 0 0 (MQ below (va_Qi (S := Unit) (fun z _ => z = o.1) (fun _ t => va_P D vwCl (wX a k o.2) t.heap) (AX a)) _ s 0 0 (AX a)) (F0 m 0 ls []) from hgo _ _ hP hS
  clear hP hS
  intro H locs hP hS
  unfold fX5_step at h
  refine lv_aload_n hx hb dX5_step_0 rfl (lv_at hl 0 rfl) ?_
  refine lv_iload_n hx hb dX5_step_1 rfl (lv_at hl 1 rfl) ?_
  refine lv_iload_n hx hb dX5_step_2 rfl (lv_at hl 2 rfl) ?_
  refine lv_iload_n hx hb dX5_step_3 rfl (lv_at hl 3 rfl) ?_
  refine lv_iload hx hb dX5_step_4 (lv_at hl 5 rfl) ?_
  obtain ⟨r6, hc6, h⟩ := bd_o h
  refine callRI (va_runV (As := [.int x1, .int x2, .int x3, .int x5]) (rest := []) ⟨hx, hb, hml, hown, hts⟩ (mX5_refusalOf l D a k _ _ _ _ _ _ hc6) ⟨callB_of 4 hts (wg_c wg40) rfl rfl rfl (hW _ wg3) (hW _ wg39) hdX5_refusalOf ⟨Nat.le_of_ble_eq_true rfl, Nat.le_of_ble_eq_true rfl⟩, hW _ wg41, hW _ wg42⟩ (pw_V hK hP hD (ci := 5) (q0 := 0) rfl rfl) rfl rfl hl.1 rfl (lv_room (Nat.le_of_ble_eq_true rfl)) dX5_step_6 ⟨Nat.zero_le _, Nat.zero_le _⟩) ?_
  refine lv_istore (lv' := [(6, .int r6), (0, .ref (a 0)), (1, .int x1), (2, .int x2), (3, .int x3), (4, .int x4), (5, .int x5)]) hx hb dX5_step_9 hl (by decide) rfl (fun ls hl => ?_)
  refine lv_iload hx hb dX5_step_11 (lv_at hl 0 rfl) ?_
  refine lv_if_eq (tgt := 19) hx hb dX5_step_13 (by decide) (fun c13 => ?_) (fun c13 => ?_)
  · have h := ite_t h c13
    refine lv_aload_n hx hb dX5_step_19 rfl (lv_at hl 1 rfl) ?_
    refine va_get (D := D) (ci := 5) (v := .ref (a 2)) (C := RX5) (T := TX5) (N := 6) hx hb hW inX5G hown hK.1 hP 0 rfl rfl 1 (by decide) (hW _ wg43) (fun _ h9 => h9) rfl dX5_step_20 ?_
    refine va_getN (D := D) (ci := 2) (v := .int (σ.1 2)) (C := RX2) (T := TX2) (N := 6) hx hb hW inX2G hown hK.1 hP 2 rfl rfl 5 (by decide) (hK.2.fld nw44) (fun _ h9 => h9) rfl dX5_step_23 ?_
    refine lv_bipush (v := 40) hx hb dX5_step_26 (by decide) ?_
    refine lv_icmp_lt (tgt := 34) hx hb dX5_step_28 (by decide) (fun c28 => ?_) (fun c28 => ?_)
    · have h := ite_t h c28
      refine lv_aload_n hx hb dX5_step_34 rfl (lv_at hl 1 rfl) ?_
      refine va_get (D := D) (ci := 5) (v := .ref (a 2)) (C := RX5) (T := TX5) (N := 6) hx hb hW inX5G hown hK.1 hP 0 rfl rfl 1 (by decide) (hW _ wg43) (fun _ h9 => h9) rfl dX5_step_35 ?_
      refine va_getN (D := D) (ci := 2) (v := .int (σ.1 2)) (C := RX2) (T := TX2) (N := 6) hx hb hW inX2G hown hK.1 hP 2 rfl rfl 5 (by decide) (hK.2.fld nw44) (fun _ h9 => h9) rfl dX5_step_38 ?_
      refine lv_topi (fun x7_41 ex7_41 => ?_)
      have h := nm_o h ex7_41
      refine lv_istore (lv' := [(7, .int x7_41), (6, .int r6), (0, .ref (a 0)), (1, .int x1), (2, .int x2), (3, .int x3), (4, .int x4), (5, .int x5)]) hx hb dX5_step_41 hl (by decide) rfl (fun ls hl => ?_)
      refine lv_aload_n hx hb dX5_step_43 rfl (lv_at hl 2 rfl) ?_
      refine va_get (D := D) (ci := 5) (v := .ref (a 2)) (C := RX5) (T := TX5) (N := 6) hx hb hW inX5G hown hK.1 hP 0 rfl rfl 1 (by decide) (hW _ wg43) (fun _ h9 => h9) rfl dX5_step_44 ?_
      refine lv_dup hx hb dX5_step_47 rfl ?_
      refine va_getN (D := D) (ci := 2) (v := .int (σ.1 2)) (C := RX2) (T := TX2) (N := 6) hx hb hW inX2G hown hK.1 hP 2 rfl rfl 5 (by decide) (hK.2.fld nw44) (fun _ h9 => h9) rfl dX5_step_48 ?_
      refine lv_iconst (v := 1) hx hb dX5_step_51 (by decide) ?_
      refine lv_iadd hx hb dX5_step_52 ?_
      refine va_putN (D := D) (ci := 2) (v := .int ((σ.1 2) + 1)) (ty := .int) (C := RX2) (T := TX2) (N := 6) hx hb hW inX2G tyX2 tyX2_ok nmX2 hown hK.1 hP hD hS 2 rfl rfl 5 (by decide) (hK.2.fld nw44) (fun _ h9 => h9) rfl (by decide +kernel) rfl rfl (Nat.le_of_ble_eq_true rfl) dX5_step_53 (fun H locs hP hD9 hS => ?_)
      obtain ⟨s53, es53⟩ : ∃ z : ST, z = setF σ 2 ((σ.1 2) + 1) := ⟨_, rfl⟩
      have h := nm_o h es53
      have hP : va_P D vwCl (wX a k s53) H := by rw [es53]; exact hP
      have hD : va_D (AX a) (wX a k s53) := dX hD
      refine lv_aload_n hx hb dX5_step_56 rfl (lv_at hl 2 rfl) ?_
      refine va_get (D := D) (ci := 5) (v := .ref (a 2)) (C := RX5) (T := TX5) (N := 6) hx hb hW inX5G hown hK.1 hP 0 rfl rfl 1 (by decide) (hW _ wg43) (fun _ h9 => h9) rfl dX5_step_57 ?_
      refine lv_iload hx hb dX5_step_60 (lv_at hl 0 rfl) ?_
      refine lv_iload_n hx hb dX5_step_62 rfl (lv_at hl 3 rfl) ?_
      refine lv_iload_n hx hb dX5_step_63 rfl (lv_at hl 4 rfl) ?_
      refine lv_iload_n hx hb dX5_step_64 rfl (lv_at hl 5 rfl) ?_
      refine lv_iload hx hb dX5_step_65 (lv_at hl 6 rfl) ?_
      refine lv_iload hx hb dX5_step_67 (lv_at hl 7 rfl) ?_
      obtain ⟨r69, hc69, h⟩ := bd_o h
      refine callWV (va_runVN (As := [.int x7_41, .int x1, .int x2, .int x3, .int x4, .int x5]) (rest := []) ⟨hx, hb, hml, hown, hts⟩ (mX2_write l D a k _ _ _ _ _ _ _ _ hc69) ⟨va_cnB 6 hts (wg_c wg45) rfl rfl rfl (hK.2 _ nw46) (hW _ wg47) hdX2_write ⟨Nat.le_of_ble_eq_true rfl, Nat.le_of_ble_eq_true rfl⟩, hW _ wg48, hW _ wg49⟩ (pw_V hK hP hD (ci := 2) (q0 := 2) rfl rfl) rfl rfl hl.1 rfl (lv_room (Nat.le_of_ble_eq_true rfl)) dX5_step_69 ⟨Nat.zero_le _, Nat.zero_le _⟩) hS (fun H locs hP hS => ?_)
      have hD : va_D (AX a) (wX a k r69) := dX hD
      refine lv_aload_n hx hb dX5_step_72 rfl (lv_at hl 2 rfl) ?_
      refine lv_iconst (v := 0) hx hb dX5_step_73 (by decide) ?_
      refine va_put (D := D) (ci := 5) (v := .int 0) (ty := .boolean) (C := RX5) (T := TX5) (N := 6) hx hb hW inX5G tyX5 tyX5_ok nmX5 hown hK.1 hP hD hS 0 rfl rfl 5 (by decide) (hW _ wg10) (fun _ h9 => h9) rfl (by decide +kernel) rfl rfl (Nat.le_of_ble_eq_true rfl) dX5_step_74 (fun H locs hP hD9 hS => ?_)
      obtain ⟨s74, es74⟩ : ∃ z : ST, z = setF r69 0 0 := ⟨_, rfl⟩
      have h := nm_o h es74
      have hP : va_P D vwCl (wX a k s74) H := by rw [es74]; exact hP
      have hD : va_D (AX a) (wX a k s74) := dX hD
      refine lv_iload hx hb dX5_step_77 (lv_at hl 0 rfl) ?_
      have h := Option.some.inj h
      subst h
      exact W.iret (v := x7_41) hx hb hr (fun t ht hW9 => ⟨⟨x7_41, (), rfl, rfl, by show va_P _ _ _ t.heap; rw [ht]; exact hP⟩, hS.F ht⟩) hS.2.2 dX5_step_79 hlocks
    · have h := ite_f h c28
      refine lv_bipush (v := (-104)) hx hb dX5_step_31 (by decide) ?_
      have h := Option.some.inj h
      subst h
      exact W.iret (v := (-104)) hx hb hr (fun t ht hW9 => ⟨⟨(-104), (), rfl, rfl, by show va_P _ _ _ t.heap; rw [ht]; exact hP⟩, hS.F ht⟩) hS.2.2 dX5_step_33 hlocks
  · have h := ite_f h c13
    refine lv_iload hx hb dX5_step_16 (lv_at hl 0 rfl) ?_
    have h := Option.some.inj h
    subst h
    exact W.iret (v := r6) hx hb hr (fun t ht hW9 => ⟨⟨r6, (), rfl, rfl, by show va_P _ _ _ t.heap; rw [ht]; exact hP⟩, hS.F ht⟩) hS.2.2 dX5_step_18 hlocks
set_option maxHeartbeats 4000000 in
set_option maxRecDepth 100000 in
theorem mX2_has (l : Launch) (D : va_G) (a : Nat → Nat) (k : Nat → ClassId) (σ : ST) (x1 : Int32) (o : Int32) (h : fX2_has σ x1 = some o) : Met l yX2_has ((Cond.code yX2_has cX2_has 2 (some .boolean)) :: WG) ({ frames := 1, cells := 0, slots := 0, locals := 21 } : Room) (Pw D (tX k) (AX a) (wX a k σ) [.ref (a 2), .int x1]) (vp_Si (fun z => z = o)) 0 0 (fun _ => False) := by
  refine Met.ofW (cc := cX2_has) (maxL := 2) (ret := (some .boolean)) (by decide) rfl ?_
  intro p e s m args below meth c s₁ B hml0 hv
  have C : Cx p s m args meth c cX2_has 2 RX2 (Cond.code yX2_has cX2_has 2 (some .boolean)) (some .boolean) := ⟨B.exec, B.bytes, B.returns, hml0, findClass_of_methodNamed B.named, atoms_spec (ws := (Cond.code yX2_has cX2_has 2 (some .boolean)) :: WG) B.pre, B.notSynchronized⟩
  obtain ⟨rfl, hP, hK, hD⟩ := hv
  have hK : Kx D (tX k) s := hK
  have C0 := C
  obtain ⟨hx, hb, hr, hml, hown, hts, hlocks⟩ := C0
  have hW : ∀ w ∈ WG, w.before _ s = true := fun w h => hts w (List.mem_cons_of_mem _ h)
  show W p l e ({ frames := 1, cells := 0, slots := 0, locals := 21 } : Room) s m _ below meth c s.heap [] 0 0 _ _
  have hl := lv_entry ([.ref (a 2), .int x1]) (n := 2) (Nat.le_of_ble_eq_true rfl)
  rw [lg_entry_eq]
  generalize (lg_sl ([.ref (a 2), .int x1]) ++ List.replicate (2 - (lg_sl ([.ref (a 2), .int x1])).length) Slot.unset).toArray = ls at hl ⊢
  have hl : lv_has ls 2 [(0, .ref (a 2)), (1, .int x1)] := hl
  unfold fX2_has at h
  refine lv_iload_n hx hb dX2_has_0 rfl (lv_at hl 1 rfl) ?_
  refine lv_aload_n hx hb dX2_has_1 rfl (lv_at hl 0 rfl) ?_
  refine va_get (D := D) (ci := 2) (v := .int (σ.1 2)) (C := RX2) (T := TX2) (N := 6) hx hb hW inX2G hown hK.1 hP 2 rfl rfl 5 (by decide) (hW _ wg50) (fun _ h9 => h9) rfl dX2_has_2 ?_
  obtain ⟨r5, hc5, h⟩ := bd_o h
  refine callRI (va_runSN (As := [.int x1, .int (σ.1 2)]) (rest := []) ⟨hx, hb, hml, hown, hts⟩ (mX5_isWithin l _ _ _ hc5) ⟨va_cnB 2 hts (wg_c wg1) rfl rfl rfl (hK.2 _ nw51) (hW _ wg3) hdX5_isWithin ⟨Nat.le_of_ble_eq_true rfl, Nat.le_of_ble_eq_true rfl⟩, hW _ wg4, trivial⟩ preEq rfl rfl hl.1 rfl (lv_room (Nat.le_of_ble_eq_true rfl)) dX2_has_5 ⟨Nat.zero_le _, Nat.zero_le _⟩) ?_
  obtain ⟨hz8, h⟩ := zb_o h
  have h := Option.some.inj h
  subst h
  exact W.zret (v := r5) hx hb hr hz8 (fun t ht hW9 => ⟨r5, rfl, rfl, ht⟩) (fun _ h9 => absurd h9 List.not_mem_nil) dX2_has_8 hlocks
