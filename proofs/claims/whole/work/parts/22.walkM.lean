set_option maxHeartbeats 4000000 in
set_option maxRecDepth 100000 in
theorem bX6_isTwofold_L43 {p : Program} {l : Launch} {e : Env} {s : State} {m : MethodId} {args : Array Value} {below : List Frame} {meth : Method} {c : Code} {D : va_G} {a : Nat → Nat} {k : Nat → ClassId} {σ : ST} {o : Int32} (C : Cx p s m args meth c cX6_isTwofold 3 RX6 (Cond.code yX6_isTwofold cX6_isTwofold 3 (some .boolean)) (some .boolean)) (hK : Kx D (tM k) s) (hP : va_P D vwCl (wM a k σ) s.heap) (hD : va_D (AM a) (wM a k σ)) : ∀ (ls : Array Slot), lv_has ls 3 [] → fX6_isTwofold_L43 σ  = some o → W p l e ({ frames := 3, cells := 0, slots := 0, locals := 66 } : Room) s m args below meth c s.heap [] 0 0 (MQ below (vp_Si (fun z => z = o)) args s 0 0 (fun _ => False)) (F0 m 43 ls []) := by
  have C0 := C
  obtain ⟨hx, hb, hr, hml, hown, hts, hlocks⟩ := C0
  have hW : ∀ w ∈ WG, w.before args s = true := fun w h => hts w (List.mem_cons_of_mem _ h)
  intro  ls hl h
  unfold fX6_isTwofold_L43 at h
  refine lv_iconst (v := 1) hx hb dX6_isTwofold_43 (by decide) ?_
  refine lv_goto (tgt := 48) hx hb dX6_isTwofold_44 (by decide) ?_
  have h := Option.some.inj h
  subst h
  exact W.zret (v := 1) hx hb hr rfl (fun t ht hW9 => ⟨1, rfl, rfl, ht⟩) (fun _ h9 => absurd h9 List.not_mem_nil) dX6_isTwofold_48 hlocks
set_option maxHeartbeats 4000000 in
set_option maxRecDepth 100000 in
theorem mX6_isTwofold (l : Launch) (D : va_G) (a : Nat → Nat) (k : Nat → ClassId) (σ : ST) (x1 : Int32) (o : Int32) (h : fX6_isTwofold σ x1 = some o) : Met l yX6_isTwofold ((Cond.code yX6_isTwofold cX6_isTwofold 3 (some .boolean)) :: WG) ({ frames := 3, cells := 0, slots := 0, locals := 66 } : Room) (Pw D (tM k) (AM a) (wM a k σ) [.ref (a 0), .int x1]) (vp_Si (fun z => z = o)) 0 0 (fun _ => False) := by
  refine Met.ofW (cc := cX6_isTwofold) (maxL := 3) (ret := (some .boolean)) (by decide) rfl ?_
  intro p e s m args below meth c s₁ B hml0 hv
  have C : Cx p s m args meth c cX6_isTwofold 3 RX6 (Cond.code yX6_isTwofold cX6_isTwofold 3 (some .boolean)) (some .boolean) := ⟨B.exec, B.bytes, B.returns, hml0, findClass_of_methodNamed B.named, atoms_spec (ws := (Cond.code yX6_isTwofold cX6_isTwofold 3 (some .boolean)) :: WG) B.pre, B.notSynchronized⟩
  obtain ⟨rfl, hP, hK, hD⟩ := hv
  have hK : Kx D (tM k) s := hK
  have C0 := C
  obtain ⟨hx, hb, hr, hml, hown, hts, hlocks⟩ := C0
  have hW : ∀ w ∈ WG, w.before _ s = true := fun w h => hts w (List.mem_cons_of_mem _ h)
  show W p l e ({ frames := 3, cells := 0, slots := 0, locals := 66 } : Room) s m _ below meth c s.heap [] 0 0 _ _
  have hl := lv_entry ([.ref (a 0), .int x1]) (n := 3) (Nat.le_of_ble_eq_true rfl)
  rw [lg_entry_eq]
  generalize (lg_sl ([.ref (a 0), .int x1]) ++ List.replicate (3 - (lg_sl ([.ref (a 0), .int x1])).length) Slot.unset).toArray = ls at hl ⊢
  have hl : lv_has ls 3 [(0, .ref (a 0)), (1, .int x1)] := hl
  unfold fX6_isTwofold at h
  refine lv_iload_n hx hb dX6_isTwofold_0 rfl (lv_at hl 1 rfl) ?_
  obtain ⟨r1, hc1, h⟩ := bd_o h
  refine callRI (va_runS (As := [.int x1]) (rest := []) ⟨hx, hb, hml, hown, hts⟩ (mX6_place l _ _ hc1) ⟨callB_of 1 hts (wg_c wg302) rfl rfl rfl (hW _ wg274) (hW _ wg301) hdX6_place ⟨Nat.le_of_ble_eq_true rfl, Nat.le_of_ble_eq_true rfl⟩, hW _ wg303⟩ preEq rfl rfl hl.1 rfl (lv_room (Nat.le_of_ble_eq_true rfl)) dX6_isTwofold_1 ⟨Nat.zero_le _, Nat.zero_le _⟩) ?_
  refine lv_istore_n (lv' := [(2, .int r1), (0, .ref (a 0)), (1, .int x1)]) hx hb dX6_isTwofold_4 rfl hl (by decide) rfl (fun ls hl => ?_)
  refine lv_aload_n hx hb dX6_isTwofold_5 rfl (lv_at hl 1 rfl) ?_
  refine va_get (D := D) (ci := 6) (v := .ref (a 4)) (C := RX6) (T := TX6) (N := 22) hx hb hW inX6G hown hK.1 hP 0 rfl rfl 5 (by decide) (hW _ wg285) (fun _ h9 => h9) rfl dX6_isTwofold_6 ?_
  refine lv_iload_n hx hb dX6_isTwofold_9 rfl (lv_at hl 0 rfl) ?_
  obtain ⟨hi10, h⟩ := ix_o h
  refine va_iald (D := D) hx hb hK.1 hP 4 3 rfl rfl hi10 dX6_isTwofold_10 ?_
  refine lv_iconst (v := 4) hx hb dX6_isTwofold_11 (by decide) ?_
  refine lv_icmp_eq (tgt := 43) hx hb dX6_isTwofold_12 (by decide) (fun c12 => ?_) (fun c12 => ?_)
  · have h := ite_t h c12
    exact bX6_isTwofold_L43 C hK hP hD  ls (lv_sub hl [] rfl) h
  · have h := ite_f h c12
    refine lv_aload_n hx hb dX6_isTwofold_15 rfl (lv_at hl 1 rfl) ?_
    refine va_get (D := D) (ci := 6) (v := .ref (a 4)) (C := RX6) (T := TX6) (N := 22) hx hb hW inX6G hown hK.1 hP 0 rfl rfl 5 (by decide) (hW _ wg285) (fun _ h9 => h9) rfl dX6_isTwofold_16 ?_
    refine lv_iload_n hx hb dX6_isTwofold_19 rfl (lv_at hl 0 rfl) ?_
    obtain ⟨hi20, h⟩ := ix_o h
    refine va_iald (D := D) hx hb hK.1 hP 4 3 rfl rfl hi20 dX6_isTwofold_20 ?_
    refine lv_iconst (v := 4) hx hb dX6_isTwofold_21 (by decide) ?_
    refine lv_icmp_ge (tgt := 47) hx hb dX6_isTwofold_22 (by decide) (fun c22 => ?_) (fun c22 => ?_)
    · have h := ite_t h c22
      refine lv_iconst (v := 0) hx hb dX6_isTwofold_47 (by decide) ?_
      have h := Option.some.inj h
      subst h
      exact W.zret (v := 0) hx hb hr rfl (fun t ht hW9 => ⟨0, rfl, rfl, ht⟩) (fun _ h9 => absurd h9 List.not_mem_nil) dX6_isTwofold_48 hlocks
    · have h := ite_f h c22
      refine lv_aload_n hx hb dX6_isTwofold_25 rfl (lv_at hl 1 rfl) ?_
      refine va_get (D := D) (ci := 6) (v := .ref (a 7)) (C := RX6) (T := TX6) (N := 22) hx hb hW inX6G hown hK.1 hP 0 rfl rfl 8 (by decide) (hW _ wg288) (fun _ h9 => h9) rfl dX6_isTwofold_26 ?_
      refine lv_iload_n hx hb dX6_isTwofold_29 rfl (lv_at hl 0 rfl) ?_
      obtain ⟨hi30, h⟩ := ix_o h
      refine va_iald (D := D) hx hb hK.1 hP 7 6 rfl rfl hi30 dX6_isTwofold_30 ?_
      refine lv_iconst (v := 1) hx hb dX6_isTwofold_31 (by decide) ?_
      refine lv_icmp_ne (tgt := 47) hx hb dX6_isTwofold_32 (by decide) (fun c32 => ?_) (fun c32 => ?_)
      · have h := ite_f h c32
        refine lv_iconst (v := 0) hx hb dX6_isTwofold_47 (by decide) ?_
        have h := Option.some.inj h
        subst h
        exact W.zret (v := 0) hx hb hr rfl (fun t ht hW9 => ⟨0, rfl, rfl, ht⟩) (fun _ h9 => absurd h9 List.not_mem_nil) dX6_isTwofold_48 hlocks
      · have h := ite_t h c32
        refine lv_aload_n hx hb dX6_isTwofold_35 rfl (lv_at hl 1 rfl) ?_
        refine lv_iload_n hx hb dX6_isTwofold_36 rfl (lv_at hl 2 rfl) ?_
        obtain ⟨r37, hc37, h⟩ := bd_o h
        refine callRI (va_runV (As := [.int x1]) (rest := []) ⟨hx, hb, hml, hown, hts⟩ (mX6_faultOf l D a k _ _ _ hc37) ⟨callB_of 1 hts (wg_c wg316) rfl rfl rfl (hW _ wg274) (hW _ wg315) hdX6_faultOf ⟨Nat.le_of_ble_eq_true rfl, Nat.le_of_ble_eq_true rfl⟩, hW _ wg317, hW _ wg318⟩ (pw_V hK hP hD (ci := 6) (q0 := 0) rfl rfl) rfl rfl hl.1 rfl (lv_room (Nat.le_of_ble_eq_true rfl)) dX6_isTwofold_37 ⟨Nat.zero_le _, Nat.zero_le _⟩) ?_
        refine lv_if_ne (tgt := 47) hx hb dX6_isTwofold_40 (by decide) (fun c40 => ?_) (fun c40 => ?_)
        · have h := ite_f h c40
          refine lv_iconst (v := 0) hx hb dX6_isTwofold_47 (by decide) ?_
          have h := Option.some.inj h
          subst h
          exact W.zret (v := 0) hx hb hr rfl (fun t ht hW9 => ⟨0, rfl, rfl, ht⟩) (fun _ h9 => absurd h9 List.not_mem_nil) dX6_isTwofold_48 hlocks
        · have h := ite_t h c40
          exact bX6_isTwofold_L43 C hK hP hD  ls (lv_sub hl [] rfl) h
set_option maxHeartbeats 4000000 in
set_option maxRecDepth 100000 in
theorem bX6_next_L163 {p : Program} {l : Launch} {e : Env} {s : State} {m : MethodId} {args : Array Value} {below : List Frame} {meth : Method} {c : Code} {D : va_G} {a : Nat → Nat} {k : Nat → ClassId} {σ : ST} {o : Int32} (C : Cx p s m args meth c cX6_next 4 RX6 (Cond.code yX6_next cX6_next 4 (some .int)) (some .int)) (hK : Kx D (tM k) s) (hP : va_P D vwCl (wM a k σ) s.heap) (hD : va_D (AM a) (wM a k σ)) : ∀ (y1 : Int32) (ls : Array Slot), lv_has ls 4 [] → fX6_next_L163 σ y1 = some o → W p l e ({ frames := 3, cells := 0, slots := 0, locals := 68 } : Room) s m args below meth c s.heap [] 0 0 (MQ below (vp_Si (fun z => z = o)) args s 0 0 (fun _ => False)) (F0 m 163 ls [.int y1, .ref (a 0)]) := by
  have C0 := C
  obtain ⟨hx, hb, hr, hml, hown, hts, hlocks⟩ := C0
  have hW : ∀ w ∈ WG, w.before args s = true := fun w h => hts w (List.mem_cons_of_mem _ h)
  intro y1 ls hl h
  unfold fX6_next_L163 at h
  obtain ⟨r163, hc163, h⟩ := bd_o h
  refine callRI (va_runV (As := [.int y1]) (rest := []) ⟨hx, hb, hml, hown, hts⟩ (mX6_throwsTo l D a k _ _ _ hc163) ⟨callB_of 1 hts (wg_c wg320) rfl rfl rfl (hW _ wg274) (hW _ wg319) hdX6_throwsTo ⟨Nat.le_of_ble_eq_true rfl, Nat.le_of_ble_eq_true rfl⟩, hW _ wg321, hW _ wg322⟩ (pw_V hK hP hD (ci := 6) (q0 := 0) rfl rfl) rfl rfl hl.1 rfl (lv_room (Nat.le_of_ble_eq_true rfl)) dX6_next_163 ⟨Nat.zero_le _, Nat.zero_le _⟩) ?_
  have h := Option.some.inj h
  subst h
  exact W.iret (v := r163) hx hb hr (fun t ht hW9 => ⟨r163, rfl, rfl, ht⟩) (fun _ h9 => absurd h9 List.not_mem_nil) dX6_next_166 hlocks
set_option maxHeartbeats 4000000 in
set_option maxRecDepth 100000 in
theorem bX6_next_L120 {p : Program} {l : Launch} {e : Env} {s : State} {m : MethodId} {args : Array Value} {below : List Frame} {meth : Method} {c : Code} {D : va_G} {a : Nat → Nat} {k : Nat → ClassId} {σ : ST} {o : Int32} (C : Cx p s m args meth c cX6_next 4 RX6 (Cond.code yX6_next cX6_next 4 (some .int)) (some .int)) (hK : Kx D (tM k) s) (hP : va_P D vwCl (wM a k σ) s.heap) (hD : va_D (AM a) (wM a k σ)) : ∀ (y1 y2 : Int32) (ls : Array Slot), lv_has ls 4 [] → fX6_next_L120 σ y1 y2 = some o → W p l e ({ frames := 3, cells := 0, slots := 0, locals := 68 } : Room) s m args below meth c s.heap [] 0 0 (MQ below (vp_Si (fun z => z = o)) args s 0 0 (fun _ => False)) (F0 m 120 ls [.int y2, .int y1, .ref (a 0)]) := by
  have C0 := C
  obtain ⟨hx, hb, hr, hml, hown, hts, hlocks⟩ := C0
  have hW : ∀ w ∈ WG, w.before args s = true := fun w h => hts w (List.mem_cons_of_mem _ h)
  intro y1 y2 ls hl h
  unfold fX6_next_L120 at h
  obtain ⟨r120, hc120, h⟩ := bd_o h
  refine callRI (va_runV (As := [.int y1, .int y2]) (rest := []) ⟨hx, hb, hml, hown, hts⟩ (mX6_at l D a k _ _ _ _ hc120) ⟨callB_of 2 hts (wg_c wg312) rfl rfl rfl (hW _ wg274) (hW _ wg311) hdX6_at ⟨Nat.le_of_ble_eq_true rfl, Nat.le_of_ble_eq_true rfl⟩, hW _ wg313, hW _ wg314⟩ (pw_V hK hP hD (ci := 6) (q0 := 0) rfl rfl) rfl rfl hl.1 rfl (lv_room (Nat.le_of_ble_eq_true rfl)) dX6_next_120 ⟨Nat.zero_le _, Nat.zero_le _⟩) ?_
  have h := Option.some.inj h
  subst h
  exact W.iret (v := r120) hx hb hr (fun t ht hW9 => ⟨r120, rfl, rfl, ht⟩) (fun _ h9 => absurd h9 List.not_mem_nil) dX6_next_123 hlocks
set_option maxHeartbeats 4000000 in
set_option maxRecDepth 100000 in
theorem bX6_next_L62 {p : Program} {l : Launch} {e : Env} {s : State} {m : MethodId} {args : Array Value} {below : List Frame} {meth : Method} {c : Code} {D : va_G} {a : Nat → Nat} {k : Nat → ClassId} {σ : ST} {o : Int32} (C : Cx p s m args meth c cX6_next 4 RX6 (Cond.code yX6_next cX6_next 4 (some .int)) (some .int)) (hK : Kx D (tM k) s) (hP : va_P D vwCl (wM a k σ) s.heap) (hD : va_D (AM a) (wM a k σ)) : ∀ (y1 y2 : Int32) (ls : Array Slot), lv_has ls 4 [] → fX6_next_L62 σ y1 y2 = some o → W p l e ({ frames := 3, cells := 0, slots := 0, locals := 68 } : Room) s m args below meth c s.heap [] 0 0 (MQ below (vp_Si (fun z => z = o)) args s 0 0 (fun _ => False)) (F0 m 62 ls [.int y2, .int y1, .ref (a 0)]) := by
  have C0 := C
  obtain ⟨hx, hb, hr, hml, hown, hts, hlocks⟩ := C0
  have hW : ∀ w ∈ WG, w.before args s = true := fun w h => hts w (List.mem_cons_of_mem _ h)
  intro y1 y2 ls hl h
  unfold fX6_next_L62 at h
  obtain ⟨r62, hc62, h⟩ := bd_o h
  refine callRI (va_runV (As := [.int y1, .int y2]) (rest := []) ⟨hx, hb, hml, hown, hts⟩ (mX6_at l D a k _ _ _ _ hc62) ⟨callB_of 2 hts (wg_c wg312) rfl rfl rfl (hW _ wg274) (hW _ wg311) hdX6_at ⟨Nat.le_of_ble_eq_true rfl, Nat.le_of_ble_eq_true rfl⟩, hW _ wg313, hW _ wg314⟩ (pw_V hK hP hD (ci := 6) (q0 := 0) rfl rfl) rfl rfl hl.1 rfl (lv_room (Nat.le_of_ble_eq_true rfl)) dX6_next_62 ⟨Nat.zero_le _, Nat.zero_le _⟩) ?_
  have h := Option.some.inj h
  subst h
  exact W.iret (v := r62) hx hb hr (fun t ht hW9 => ⟨r62, rfl, rfl, ht⟩) (fun _ h9 => absurd h9 List.not_mem_nil) dX6_next_65 hlocks
set_option maxHeartbeats 4000000 in
set_option maxRecDepth 100000 in
theorem mX6_next (l : Launch) (D : va_G) (a : Nat → Nat) (k : Nat → ClassId) (σ : ST) (x1 x2 : Int32) (o : Int32) (h : fX6_next σ x1 x2 = some o) : Met l yX6_next ((Cond.code yX6_next cX6_next 4 (some .int)) :: WG) ({ frames := 3, cells := 0, slots := 0, locals := 68 } : Room) (Pw D (tM k) (AM a) (wM a k σ) [.ref (a 0), .int x1, .int x2]) (vp_Si (fun z => z = o)) 0 0 (fun _ => False) := by
  refine Met.ofW (cc := cX6_next) (maxL := 4) (ret := (some .int)) (by decide) rfl ?_
  intro p e s m args below meth c s₁ B hml0 hv
  have C : Cx p s m args meth c cX6_next 4 RX6 (Cond.code yX6_next cX6_next 4 (some .int)) (some .int) := ⟨B.exec, B.bytes, B.returns, hml0, findClass_of_methodNamed B.named, atoms_spec (ws := (Cond.code yX6_next cX6_next 4 (some .int)) :: WG) B.pre, B.notSynchronized⟩
  obtain ⟨rfl, hP, hK, hD⟩ := hv
  have hK : Kx D (tM k) s := hK
  have C0 := C
  obtain ⟨hx, hb, hr, hml, hown, hts, hlocks⟩ := C0
  have hW : ∀ w ∈ WG, w.before _ s = true := fun w h => hts w (List.mem_cons_of_mem _ h)
  show W p l e ({ frames := 3, cells := 0, slots := 0, locals := 68 } : Room) s m _ below meth c s.heap [] 0 0 _ _
  have hl := lv_entry ([.ref (a 0), .int x1, .int x2]) (n := 4) (Nat.le_of_ble_eq_true rfl)
  rw [lg_entry_eq]
  generalize (lg_sl ([.ref (a 0), .int x1, .int x2]) ++ List.replicate (4 - (lg_sl ([.ref (a 0), .int x1, .int x2])).length) Slot.unset).toArray = ls at hl ⊢
  have hl : lv_has ls 4 [(0, .ref (a 0)), (1, .int x1), (2, .int x2)] := hl
  unfold fX6_next at h
  refine lv_iload_n hx hb dX6_next_0 rfl (lv_at hl 1 rfl) ?_
  obtain ⟨r1, hc1, h⟩ := bd_o h
  refine callRI (va_runS (As := [.int x1]) (rest := []) ⟨hx, hb, hml, hown, hts⟩ (mX6_place l _ _ hc1) ⟨callB_of 1 hts (wg_c wg302) rfl rfl rfl (hW _ wg274) (hW _ wg301) hdX6_place ⟨Nat.le_of_ble_eq_true rfl, Nat.le_of_ble_eq_true rfl⟩, hW _ wg303⟩ preEq rfl rfl hl.1 rfl (lv_room (Nat.le_of_ble_eq_true rfl)) dX6_next_1 ⟨Nat.zero_le _, Nat.zero_le _⟩) ?_
  refine lv_istore_n (lv' := [(3, .int r1), (0, .ref (a 0)), (1, .int x1), (2, .int x2)]) hx hb dX6_next_4 rfl hl (by decide) rfl (fun ls hl => ?_)
  refine lv_aload_n hx hb dX6_next_5 rfl (lv_at hl 1 rfl) ?_
  refine va_get (D := D) (ci := 6) (v := .ref (a 4)) (C := RX6) (T := TX6) (N := 22) hx hb hW inX6G hown hK.1 hP 0 rfl rfl 5 (by decide) (hW _ wg285) (fun _ h9 => h9) rfl dX6_next_6 ?_
  refine lv_iload_n hx hb dX6_next_9 rfl (lv_at hl 0 rfl) ?_
  obtain ⟨hi10, h⟩ := ix_o h
  refine va_iald (D := D) hx hb hK.1 hP 4 3 rfl rfl hi10 dX6_next_10 ?_
  by_cases c11_4 : (σ.2 3 r1.toNatClampNeg) = 4
  · have h := ite_t h c11_4
    refine lv_tableIn (tgt := 44) hx hb dX6_next_11 (by rw [c11_4]; decide) (by rw [c11_4]; decide) (by rw [c11_4]; rfl) (by decide) ?_
    refine lv_aload_n hx hb dX6_next_44 rfl (lv_at hl 1 rfl) ?_
    refine lv_iload_n hx hb dX6_next_45 rfl (lv_at hl 2 rfl) ?_
    refine lv_iload_n hx hb dX6_next_46 rfl (lv_at hl 3 rfl) ?_
    refine lv_if_ne (tgt := 56) hx hb dX6_next_47 (by decide) (fun c47 => ?_) (fun c47 => ?_)
    · have h := ite_f h c47
      refine lv_aload_n hx hb dX6_next_56 rfl (lv_at hl 1 rfl) ?_
      refine va_get (D := D) (ci := 6) (v := .ref (a 6)) (C := RX6) (T := TX6) (N := 22) hx hb hW inX6G hown hK.1 hP 0 rfl rfl 7 (by decide) (hW _ wg287) (fun _ h9 => h9) rfl dX6_next_57 ?_
      refine lv_iload_n hx hb dX6_next_60 rfl (lv_at hl 0 rfl) ?_
      obtain ⟨hi61, h⟩ := ix_o h
      refine va_iald (D := D) hx hb hK.1 hP 6 5 rfl rfl hi61 dX6_next_61 ?_
      exact bX6_next_L62 C hK hP hD _ _ ls (lv_sub hl [] rfl) h
    · have h := ite_t h c47
      refine lv_iload_n hx hb dX6_next_50 rfl (lv_at hl 0 rfl) ?_
      refine lv_iconst (v := 1) hx hb dX6_next_51 (by decide) ?_
      refine lv_iadd hx hb dX6_next_52 ?_
      refine lv_goto (tgt := 62) hx hb dX6_next_53 (by decide) ?_
      exact bX6_next_L62 C hK hP hD _ _ ls (lv_sub hl [] rfl) h
  · have h := ite_f h c11_4
    by_cases c11_5 : (σ.2 3 r1.toNatClampNeg) = 5
    · have h := ite_t h c11_5
      refine lv_tableIn (tgt := 66) hx hb dX6_next_11 (by rw [c11_5]; decide) (by rw [c11_5]; decide) (by rw [c11_5]; rfl) (by decide) ?_
      refine lv_aload_n hx hb dX6_next_66 rfl (lv_at hl 1 rfl) ?_
      refine lv_iload_n hx hb dX6_next_67 rfl (lv_at hl 2 rfl) ?_
      refine lv_aload_n hx hb dX6_next_68 rfl (lv_at hl 1 rfl) ?_
      refine va_get (D := D) (ci := 6) (v := .ref (a 6)) (C := RX6) (T := TX6) (N := 22) hx hb hW inX6G hown hK.1 hP 0 rfl rfl 7 (by decide) (hW _ wg287) (fun _ h9 => h9) rfl dX6_next_69 ?_
      refine lv_iload_n hx hb dX6_next_72 rfl (lv_at hl 0 rfl) ?_
      obtain ⟨hi73, h⟩ := ix_o h
      refine va_iald (D := D) hx hb hK.1 hP 6 5 rfl rfl hi73 dX6_next_73 ?_
      obtain ⟨r74, hc74, h⟩ := bd_o h
      refine callRI (va_runV (As := [.int x1, .int (σ.2 5 r1.toNatClampNeg)]) (rest := []) ⟨hx, hb, hml, hown, hts⟩ (mX6_at l D a k _ _ _ _ hc74) ⟨callB_of 2 hts (wg_c wg312) rfl rfl rfl (hW _ wg274) (hW _ wg311) hdX6_at ⟨Nat.le_of_ble_eq_true rfl, Nat.le_of_ble_eq_true rfl⟩, hW _ wg313, hW _ wg314⟩ (pw_V hK hP hD (ci := 6) (q0 := 0) rfl rfl) rfl rfl hl.1 rfl (lv_room (Nat.le_of_ble_eq_true rfl)) dX6_next_74 ⟨Nat.zero_le _, Nat.zero_le _⟩) ?_
      have h := Option.some.inj h
      subst h
      exact W.iret (v := r74) hx hb hr (fun t ht hW9 => ⟨r74, rfl, rfl, ht⟩) (fun _ h9 => absurd h9 List.not_mem_nil) dX6_next_77 hlocks
    · have h := ite_f h c11_5
      by_cases c11_6 : (σ.2 3 r1.toNatClampNeg) = 6
      · have h := ite_t h c11_6
        refine lv_tableIn (tgt := 78) hx hb dX6_next_11 (by rw [c11_6]; decide) (by rw [c11_6]; decide) (by rw [c11_6]; rfl) (by decide) ?_
        refine lv_aload_n hx hb dX6_next_78 rfl (lv_at hl 1 rfl) ?_
        refine lv_iload_n hx hb dX6_next_79 rfl (lv_at hl 2 rfl) ?_
        refine lv_bipush (v := 40) hx hb dX6_next_80 (by decide) ?_
        obtain ⟨r82, hc82, h⟩ := bd_o h
        refine callRI (va_runV (As := [.int x1, .int 40]) (rest := []) ⟨hx, hb, hml, hown, hts⟩ (mX6_at l D a k _ _ _ _ hc82) ⟨callB_of 2 hts (wg_c wg312) rfl rfl rfl (hW _ wg274) (hW _ wg311) hdX6_at ⟨Nat.le_of_ble_eq_true rfl, Nat.le_of_ble_eq_true rfl⟩, hW _ wg313, hW _ wg314⟩ (pw_V hK hP hD (ci := 6) (q0 := 0) rfl rfl) rfl rfl hl.1 rfl (lv_room (Nat.le_of_ble_eq_true rfl)) dX6_next_82 ⟨Nat.zero_le _, Nat.zero_le _⟩) ?_
        have h := Option.some.inj h
        subst h
        exact W.iret (v := r82) hx hb hr (fun t ht hW9 => ⟨r82, rfl, rfl, ht⟩) (fun _ h9 => absurd h9 List.not_mem_nil) dX6_next_85 hlocks
      · have h := ite_f h c11_6
        by_cases c11_7 : (σ.2 3 r1.toNatClampNeg) = 7
        · have h := ite_t h c11_7
          refine lv_tableIn (tgt := 86) hx hb dX6_next_11 (by rw [c11_7]; decide) (by rw [c11_7]; decide) (by rw [c11_7]; rfl) (by decide) ?_
          refine lv_aload_n hx hb dX6_next_86 rfl (lv_at hl 1 rfl) ?_
          refine lv_iload_n hx hb dX6_next_87 rfl (lv_at hl 2 rfl) ?_
          obtain ⟨r88, hc88, h⟩ := bd_o h
          refine callRI (va_runV (As := [.int x1]) (rest := []) ⟨hx, hb, hml, hown, hts⟩ (mX6_throwsTo l D a k _ _ _ hc88) ⟨callB_of 1 hts (wg_c wg320) rfl rfl rfl (hW _ wg274) (hW _ wg319) hdX6_throwsTo ⟨Nat.le_of_ble_eq_true rfl, Nat.le_of_ble_eq_true rfl⟩, hW _ wg321, hW _ wg322⟩ (pw_V hK hP hD (ci := 6) (q0 := 0) rfl rfl) rfl rfl hl.1 rfl (lv_room (Nat.le_of_ble_eq_true rfl)) dX6_next_88 ⟨Nat.zero_le _, Nat.zero_le _⟩) ?_
          have h := Option.some.inj h
          subst h
          exact W.iret (v := r88) hx hb hr (fun t ht hW9 => ⟨r88, rfl, rfl, ht⟩) (fun _ h9 => absurd h9 List.not_mem_nil) dX6_next_91 hlocks
        · have h := ite_f h c11_7
          by_cases c11_8 : (σ.2 3 r1.toNatClampNeg) = 8
          · have h := ite_t h c11_8
            refine lv_tableIn (tgt := 92) hx hb dX6_next_11 (by rw [c11_8]; decide) (by rw [c11_8]; decide) (by rw [c11_8]; rfl) (by decide) ?_
            refine lv_aload_n hx hb dX6_next_92 rfl (lv_at hl 1 rfl) ?_
            refine lv_iload_n hx hb dX6_next_93 rfl (lv_at hl 2 rfl) ?_
            refine lv_aload_n hx hb dX6_next_94 rfl (lv_at hl 1 rfl) ?_
            refine lv_iload_n hx hb dX6_next_95 rfl (lv_at hl 2 rfl) ?_
            refine lv_aload_n hx hb dX6_next_96 rfl (lv_at hl 1 rfl) ?_
            refine va_get (D := D) (ci := 6) (v := .ref (a 5)) (C := RX6) (T := TX6) (N := 22) hx hb hW inX6G hown hK.1 hP 0 rfl rfl 6 (by decide) (hW _ wg286) (fun _ h9 => h9) rfl dX6_next_97 ?_
            refine lv_iload_n hx hb dX6_next_100 rfl (lv_at hl 0 rfl) ?_
            obtain ⟨hi101, h⟩ := ix_o h
            refine va_iald (D := D) hx hb hK.1 hP 5 4 rfl rfl hi101 dX6_next_101 ?_
            obtain ⟨r102, hc102, h⟩ := bd_o h
            refine callRI (va_runV (As := [.int x1, .int (σ.2 4 r1.toNatClampNeg)]) (rest := [.int x1, .ref (a 0)]) ⟨hx, hb, hml, hown, hts⟩ (mX6_isHeld l D a k _ _ _ _ hc102) ⟨callB_of 2 hts (wg_c wg305) rfl rfl rfl (hW _ wg274) (hW _ wg304) hdX6_isHeld ⟨Nat.le_of_ble_eq_true rfl, Nat.le_of_ble_eq_true rfl⟩, hW _ wg306, hW _ wg307⟩ (pw_V hK hP hD (ci := 6) (q0 := 0) rfl rfl) rfl rfl hl.1 rfl (lv_room (Nat.le_of_ble_eq_true rfl)) dX6_next_102 ⟨Nat.zero_le _, Nat.zero_le _⟩) ?_
            refine lv_if_eq (tgt := 117) hx hb dX6_next_105 (by decide) (fun c105 => ?_) (fun c105 => ?_)
            · have h := ite_t h c105
              refine lv_iload_n hx hb dX6_next_117 rfl (lv_at hl 0 rfl) ?_
              refine lv_iconst (v := 1) hx hb dX6_next_118 (by decide) ?_
              refine lv_iadd hx hb dX6_next_119 ?_
              exact bX6_next_L120 C hK hP hD _ _ ls (lv_sub hl [] rfl) h
            · have h := ite_f h c105
              refine lv_aload_n hx hb dX6_next_108 rfl (lv_at hl 1 rfl) ?_
              refine va_get (D := D) (ci := 6) (v := .ref (a 6)) (C := RX6) (T := TX6) (N := 22) hx hb hW inX6G hown hK.1 hP 0 rfl rfl 7 (by decide) (hW _ wg287) (fun _ h9 => h9) rfl dX6_next_109 ?_
              refine lv_iload_n hx hb dX6_next_112 rfl (lv_at hl 0 rfl) ?_
              obtain ⟨hi113, h⟩ := ix_o h
              refine va_iald (D := D) hx hb hK.1 hP 6 5 rfl rfl hi113 dX6_next_113 ?_
              refine lv_goto (tgt := 120) hx hb dX6_next_114 (by decide) ?_
              exact bX6_next_L120 C hK hP hD _ _ ls (lv_sub hl [] rfl) h
          · have h := ite_f h c11_8
            refine lv_tableOut (tgt := 124) hx hb dX6_next_11 (by have z0 := lv_neT c11_4 (a := 4) (by decide); have z1 := lv_neT c11_5 (a := 5) (by decide); have z2 := lv_neT c11_6 (a := 6) (by decide); have z3 := lv_neT c11_7 (a := 7) (by decide); have z4 := lv_neT c11_8 (a := 8) (by decide); omega) (by decide) ?_
            refine lv_aload_n hx hb dX6_next_124 rfl (lv_at hl 1 rfl) ?_
            refine lv_iload_n hx hb dX6_next_125 rfl (lv_at hl 2 rfl) ?_
            obtain ⟨r126, hc126, h⟩ := bd_o h
            refine callRI (va_runV (As := [.int x1]) (rest := []) ⟨hx, hb, hml, hown, hts⟩ (mX6_faultOf l D a k _ _ _ hc126) ⟨callB_of 1 hts (wg_c wg316) rfl rfl rfl (hW _ wg274) (hW _ wg315) hdX6_faultOf ⟨Nat.le_of_ble_eq_true rfl, Nat.le_of_ble_eq_true rfl⟩, hW _ wg317, hW _ wg318⟩ (pw_V hK hP hD (ci := 6) (q0 := 0) rfl rfl) rfl rfl hl.1 rfl (lv_room (Nat.le_of_ble_eq_true rfl)) dX6_next_126 ⟨Nat.zero_le _, Nat.zero_le _⟩) ?_
            refine lv_if_le (tgt := 138) hx hb dX6_next_129 (by decide) (fun c129 => ?_) (fun c129 => ?_)
            · have h := ite_t h c129
              refine lv_iload_n hx hb dX6_next_138 rfl (lv_at hl 3 rfl) ?_
              refine lv_iconst (v := 1) hx hb dX6_next_139 (by decide) ?_
              refine lv_icmp_ne (tgt := 167) hx hb dX6_next_140 (by decide) (fun c140 => ?_) (fun c140 => ?_)
              · have h := ite_f h c140
                refine lv_aload_n hx hb dX6_next_167 rfl (lv_at hl 1 rfl) ?_
                refine lv_aload_n hx hb dX6_next_168 rfl (lv_at hl 1 rfl) ?_
                refine lv_iload_n hx hb dX6_next_169 rfl (lv_at hl 2 rfl) ?_
                obtain ⟨r170, hc170, h⟩ := bd_o h
                refine callRI (va_runV (As := [.int x1]) (rest := [.ref (a 0)]) ⟨hx, hb, hml, hown, hts⟩ (mX6_done l D a k _ _ _ hc170) ⟨callB_of 1 hts (wg_c wg324) rfl rfl rfl (hW _ wg274) (hW _ wg323) hdX6_done ⟨Nat.le_of_ble_eq_true rfl, Nat.le_of_ble_eq_true rfl⟩, hW _ wg325, hW _ wg326⟩ (pw_V hK hP hD (ci := 6) (q0 := 0) rfl rfl) rfl rfl hl.1 rfl (lv_room (Nat.le_of_ble_eq_true rfl)) dX6_next_170 ⟨Nat.zero_le _, Nat.zero_le _⟩) ?_
                refine lv_iload_n hx hb dX6_next_173 rfl (lv_at hl 0 rfl) ?_
                refine lv_iconst (v := 1) hx hb dX6_next_174 (by decide) ?_
                refine lv_iadd hx hb dX6_next_175 ?_
                obtain ⟨r176, hc176, h⟩ := bd_o h
                refine callRI (va_runV (As := [.int r170, .int (r1 + 1)]) (rest := []) ⟨hx, hb, hml, hown, hts⟩ (mX6_at l D a k _ _ _ _ hc176) ⟨callB_of 2 hts (wg_c wg312) rfl rfl rfl (hW _ wg274) (hW _ wg311) hdX6_at ⟨Nat.le_of_ble_eq_true rfl, Nat.le_of_ble_eq_true rfl⟩, hW _ wg313, hW _ wg314⟩ (pw_V hK hP hD (ci := 6) (q0 := 0) rfl rfl) rfl rfl hl.1 rfl (lv_room (Nat.le_of_ble_eq_true rfl)) dX6_next_176 ⟨Nat.zero_le _, Nat.zero_le _⟩) ?_
                have h := Option.some.inj h
                subst h
                exact W.iret (v := r176) hx hb hr (fun t ht hW9 => ⟨r176, rfl, rfl, ht⟩) (fun _ h9 => absurd h9 List.not_mem_nil) dX6_next_179 hlocks
              · have h := ite_t h c140
                refine lv_aload_n hx hb dX6_next_143 rfl (lv_at hl 1 rfl) ?_
                refine lv_aload_n hx hb dX6_next_144 rfl (lv_at hl 1 rfl) ?_
                refine va_get (D := D) (ci := 6) (v := .ref (a 4)) (C := RX6) (T := TX6) (N := 22) hx hb hW inX6G hown hK.1 hP 0 rfl rfl 5 (by decide) (hW _ wg285) (fun _ h9 => h9) rfl dX6_next_145 ?_
                refine lv_iload_n hx hb dX6_next_148 rfl (lv_at hl 0 rfl) ?_
                obtain ⟨hi149, h⟩ := ix_o h
                refine va_iald (D := D) hx hb hK.1 hP 4 3 rfl rfl hi149 dX6_next_149 ?_
                refine lv_iconst (v := 2) hx hb dX6_next_150 (by decide) ?_
                refine lv_icmp_ne (tgt := 162) hx hb dX6_next_151 (by decide) (fun c151 => ?_) (fun c151 => ?_)
                · have h := ite_f h c151
                  refine lv_iload_n hx hb dX6_next_162 rfl (lv_at hl 2 rfl) ?_
                  exact bX6_next_L163 C hK hP hD _ ls (lv_sub hl [] rfl) h
                · have h := ite_t h c151
                  refine lv_aload_n hx hb dX6_next_154 rfl (lv_at hl 1 rfl) ?_
                  refine lv_iload_n hx hb dX6_next_155 rfl (lv_at hl 2 rfl) ?_
                  obtain ⟨r156, hc156, h⟩ := bd_o h
                  refine callRI (va_runV (As := [.int x1]) (rest := [.ref (a 0)]) ⟨hx, hb, hml, hown, hts⟩ (mX6_done l D a k _ _ _ hc156) ⟨callB_of 1 hts (wg_c wg324) rfl rfl rfl (hW _ wg274) (hW _ wg323) hdX6_done ⟨Nat.le_of_ble_eq_true rfl, Nat.le_of_ble_eq_true rfl⟩, hW _ wg325, hW _ wg326⟩ (pw_V hK hP hD (ci := 6) (q0 := 0) rfl rfl) rfl rfl hl.1 rfl (lv_room (Nat.le_of_ble_eq_true rfl)) dX6_next_156 ⟨Nat.zero_le _, Nat.zero_le _⟩) ?_
                  refine lv_goto (tgt := 163) hx hb dX6_next_159 (by decide) ?_
                  exact bX6_next_L163 C hK hP hD _ ls (lv_sub hl [] rfl) h
            · have h := ite_f h c129
              refine lv_aload_n hx hb dX6_next_132 rfl (lv_at hl 1 rfl) ?_
              refine lv_iload_n hx hb dX6_next_133 rfl (lv_at hl 2 rfl) ?_
              obtain ⟨r134, hc134, h⟩ := bd_o h
              refine callRI (va_runV (As := [.int x1]) (rest := []) ⟨hx, hb, hml, hown, hts⟩ (mX6_throwsTo l D a k _ _ _ hc134) ⟨callB_of 1 hts (wg_c wg320) rfl rfl rfl (hW _ wg274) (hW _ wg319) hdX6_throwsTo ⟨Nat.le_of_ble_eq_true rfl, Nat.le_of_ble_eq_true rfl⟩, hW _ wg321, hW _ wg322⟩ (pw_V hK hP hD (ci := 6) (q0 := 0) rfl rfl) rfl rfl hl.1 rfl (lv_room (Nat.le_of_ble_eq_true rfl)) dX6_next_134 ⟨Nat.zero_le _, Nat.zero_le _⟩) ?_
              have h := Option.some.inj h
              subst h
              exact W.iret (v := r134) hx hb hr (fun t ht hW9 => ⟨r134, rfl, rfl, ht⟩) (fun _ h9 => absurd h9 List.not_mem_nil) dX6_next_137 hlocks
set_option maxHeartbeats 4000000 in
set_option maxRecDepth 100000 in
theorem mX6_come (l : Launch) (D : va_G) (a : Nat → Nat) (k : Nat → ClassId) (σ : ST) (x1 x2 : Int32) (o : ST) (h : fX6_come σ x1 x2 = some o) : Met l yX6_come ((Cond.code yX6_come cX6_come 3 none) :: WG) ({ frames := 0, cells := 0, slots := 0, locals := 0 } : Room) (Pw D (tM k) (AM a) (wM a k σ) [.ref (a 0), .int x1, .int x2]) (va_Qv (S := Unit) (fun _ => True) (fun _ t => va_P D vwCl (wM a k o) t.heap) (AM a)) 0 0 (AM a) := by
  refine Met.ofW (cc := cX6_come) (maxL := 3) (ret := none) (by decide) rfl ?_
  intro p e s m args below meth c s₁ B hml0 hv
  have C : Cx p s m args meth c cX6_come 3 RX6 (Cond.code yX6_come cX6_come 3 none) none := ⟨B.exec, B.bytes, B.returns, hml0, findClass_of_methodNamed B.named, atoms_spec (ws := (Cond.code yX6_come cX6_come 3 none) :: WG) B.pre, B.notSynchronized⟩
  obtain ⟨rfl, hP, hK, hD⟩ := hv
  have hK : Kx D (tM k) s := hK
  have C0 := C
  obtain ⟨hx, hb, hr, hml, hown, hts, hlocks⟩ := C0
  have hW : ∀ w ∈ WG, w.before _ s = true := fun w h => hts w (List.mem_cons_of_mem _ h)
  show W p l e ({ frames := 0, cells := 0, slots := 0, locals := 0 } : Room) s m _ below meth c s.heap [] 0 0 _ _
  have hl := lv_entry ([.ref (a 0), .int x1, .int x2]) (n := 3) (Nat.le_of_ble_eq_true rfl)
  rw [lg_entry_eq]
  generalize (lg_sl ([.ref (a 0), .int x1, .int x2]) ++ List.replicate (3 - (lg_sl ([.ref (a 0), .int x1, .int x2])).length) Slot.unset).toArray = ls at hl ⊢
  have hl : lv_has ls 3 [(0, .ref (a 0)), (1, .int x1), (2, .int x2)] := hl
  have hS : va_S (AM a) s.heap s.heap [] := va_S.rf
  suffices hgo : ∀ (H : Heap) (locs : List Loc), va_P D vwCl (wM a k σ) H → va_S (AM a) s.heap H locs → W p l e ({ frames := 0, cells := 0, slots := 0, locals := 0 } : Room) s m _ below meth c H locs 0 0 (MQ below (va_Qv (S := Unit) (fun _ => True) (fun _ t => va_P D vwCl (wM a k o) t.heap) (AM a)) _ s 0 0 (AM a)) (F0 m 0 ls []) from hgo _ _ hP hS
  clear hP hS
  intro H locs hP hS
  unfold fX6_come at h
  refine lv_aload_n hx hb dX6_come_0 rfl (lv_at hl 0 rfl) ?_
  refine va_get (D := D) (ci := 6) (v := .ref (a 11)) (C := RX6) (T := TX6) (N := 22) hx hb hW inX6G hown hK.1 hP 0 rfl rfl 14 (by decide) (hW _ wg327) (fun _ h9 => h9) rfl dX6_come_1 ?_
  refine lv_iload_n hx hb dX6_come_4 rfl (lv_at hl 1 rfl) ?_
  obtain ⟨hi5, h⟩ := ix_o h
  refine va_zald (D := D) hx hb hK.1 hP 11 10 rfl rfl hi5 dX6_come_5 ?_
  refine lv_if_ne (tgt := 46) hx hb dX6_come_6 (by decide) (fun c6 => ?_) (fun c6 => ?_)
  · have h := ite_f h c6
    have h := Option.some.inj h
    subst h
    exact W.vret hx hb hr (fun t ht hW9 => ⟨⟨(), rfl, trivial, by show va_P _ _ _ t.heap; rw [ht]; exact hP⟩, hS.F ht⟩) hS.2.2 dX6_come_46 hlocks
  · have h := ite_t h c6
    refine lv_aload_n hx hb dX6_come_9 rfl (lv_at hl 0 rfl) ?_
    refine va_get (D := D) (ci := 6) (v := .ref (a 11)) (C := RX6) (T := TX6) (N := 22) hx hb hW inX6G hown hK.1 hP 0 rfl rfl 14 (by decide) (hW _ wg327) (fun _ h9 => h9) rfl dX6_come_10 ?_
    refine lv_iload_n hx hb dX6_come_13 rfl (lv_at hl 1 rfl) ?_
    refine lv_iconst (v := 1) hx hb dX6_come_14 (by decide) ?_
    obtain ⟨hi15, h⟩ := ix_o h
    refine va_zast (D := D) hx hb hK.1 hP hD hS 11 10 rfl rfl hi15 dX6_come_15 (fun H locs hP hD9 hS => ?_)
    obtain ⟨s15, es15⟩ : ∃ z : ST, z = setA σ 10 x1.toNatClampNeg (vp_nar .boolean 1) := ⟨_, rfl⟩
    have h := nm_o h es15
    have hP : va_P D vwCl (wM a k s15) H := by rw [es15]; exact hP
    have hD : va_D (AM a) (wM a k s15) := dM hD
    refine lv_aload_n hx hb dX6_come_16 rfl (lv_at hl 0 rfl) ?_
    refine va_get (D := D) (ci := 6) (v := .ref (a 10)) (C := RX6) (T := TX6) (N := 22) hx hb hW inX6G hown hK.1 hP 0 rfl rfl 13 (by decide) (hW _ wg328) (fun _ h9 => h9) rfl dX6_come_17 ?_
    refine lv_aload_n hx hb dX6_come_20 rfl (lv_at hl 0 rfl) ?_
    refine va_get (D := D) (ci := 6) (v := .int (s15.1 3)) (C := RX6) (T := TX6) (N := 22) hx hb hW inX6G hown hK.1 hP 0 rfl rfl 12 (by decide) (hW _ wg329) (fun _ h9 => h9) rfl dX6_come_21 ?_
    refine lv_iload_n hx hb dX6_come_24 rfl (lv_at hl 2 rfl) ?_
    obtain ⟨hi25, h⟩ := ix_o h
    refine va_iast (D := D) hx hb hK.1 hP hD hS 10 9 rfl rfl hi25 dX6_come_25 (fun H locs hP hD9 hS => ?_)
    obtain ⟨s25, es25⟩ : ∃ z : ST, z = setA s15 9 (s15.1 3).toNatClampNeg x2 := ⟨_, rfl⟩
    have h := nm_o h es25
    have hP : va_P D vwCl (wM a k s25) H := by rw [es25]; exact hP
    have hD : va_D (AM a) (wM a k s25) := dM hD
    refine lv_aload_n hx hb dX6_come_26 rfl (lv_at hl 0 rfl) ?_
    refine va_get (D := D) (ci := 6) (v := .ref (a 9)) (C := RX6) (T := TX6) (N := 22) hx hb hW inX6G hown hK.1 hP 0 rfl rfl 11 (by decide) (hW _ wg330) (fun _ h9 => h9) rfl dX6_come_27 ?_
    refine lv_aload_n hx hb dX6_come_30 rfl (lv_at hl 0 rfl) ?_
    refine va_get (D := D) (ci := 6) (v := .int (s25.1 3)) (C := RX6) (T := TX6) (N := 22) hx hb hW inX6G hown hK.1 hP 0 rfl rfl 12 (by decide) (hW _ wg329) (fun _ h9 => h9) rfl dX6_come_31 ?_
    refine lv_iload_n hx hb dX6_come_34 rfl (lv_at hl 1 rfl) ?_
    obtain ⟨hi35, h⟩ := ix_o h
    refine va_iast (D := D) hx hb hK.1 hP hD hS 9 8 rfl rfl hi35 dX6_come_35 (fun H locs hP hD9 hS => ?_)
    obtain ⟨s35, es35⟩ : ∃ z : ST, z = setA s25 8 (s25.1 3).toNatClampNeg x1 := ⟨_, rfl⟩
    have h := nm_o h es35
    have hP : va_P D vwCl (wM a k s35) H := by rw [es35]; exact hP
    have hD : va_D (AM a) (wM a k s35) := dM hD
    refine lv_aload_n hx hb dX6_come_36 rfl (lv_at hl 0 rfl) ?_
    refine lv_dup hx hb dX6_come_37 rfl ?_
    refine va_get (D := D) (ci := 6) (v := .int (s35.1 3)) (C := RX6) (T := TX6) (N := 22) hx hb hW inX6G hown hK.1 hP 0 rfl rfl 12 (by decide) (hW _ wg329) (fun _ h9 => h9) rfl dX6_come_38 ?_
    refine lv_iconst (v := 1) hx hb dX6_come_41 (by decide) ?_
    refine lv_iadd hx hb dX6_come_42 ?_
    refine va_put (D := D) (ci := 6) (v := .int ((s35.1 3) + 1)) (ty := .int) (C := RX6) (T := TX6) (N := 22) hx hb hW inX6G tyX6 tyX6_ok nmX6 hown hK.1 hP hD hS 0 rfl rfl 12 (by decide) (hW _ wg329) (fun _ h9 => h9) rfl (by decide +kernel) rfl rfl (Nat.le_of_ble_eq_true rfl) dX6_come_43 (fun H locs hP hD9 hS => ?_)
    obtain ⟨s43, es43⟩ : ∃ z : ST, z = setF s35 3 ((s35.1 3) + 1) := ⟨_, rfl⟩
    have h := nm_o h es43
    have hP : va_P D vwCl (wM a k s43) H := by rw [es43]; exact hP
    have hD : va_D (AM a) (wM a k s43) := dM hD
    have h := Option.some.inj h
    subst h
    exact W.vret hx hb hr (fun t ht hW9 => ⟨⟨(), rfl, trivial, by show va_P _ _ _ t.heap; rw [ht]; exact hP⟩, hS.F ht⟩) hS.2.2 dX6_come_46 hlocks
set_option maxHeartbeats 4000000 in
set_option maxRecDepth 100000 in
theorem bX6_tell_L37 {p : Program} {l : Launch} {e : Env} {s : State} {m : MethodId} {args : Array Value} {below : List Frame} {meth : Method} {c : Code} {D : va_G} {a : Nat → Nat} {k : Nat → ClassId} {o : ST} (C : Cx p s m args meth c cX6_tell 4 RX6 (Cond.code yX6_tell cX6_tell 4 none) none) (hK : Kx D (tM k) s) : ∀ (y1 y2 : Int32) (σ : ST) (H : Heap) (locs : List Loc) (ls : Array Slot), va_P D vwCl (wM a k σ) H → va_D (AM a) (wM a k σ) → va_S (AM a) s.heap H locs → lv_has ls 4 [] → fX6_tell_L37 y1 y2 σ = some o → W p l e ({ frames := 0, cells := 0, slots := 0, locals := 0 } : Room) s m args below meth c H locs 0 0 (MQ below (va_Qv (S := Unit) (fun _ => True) (fun _ t => va_P D vwCl (wM a k o) t.heap) (AM a)) args s 0 0 (AM a)) (F0 m 37 ls [.int y2, .int y1, .ref (a 12)]) := by
  have C0 := C
  obtain ⟨hx, hb, hr, hml, hown, hts, hlocks⟩ := C0
  have hW : ∀ w ∈ WG, w.before args s = true := fun w h => hts w (List.mem_cons_of_mem _ h)
  intro y1 y2 σ H locs ls hP hD hS hl h
  unfold fX6_tell_L37 at h
  obtain ⟨hi37, h⟩ := ix_o h
  refine va_iast (D := D) hx hb hK.1 hP hD hS 12 11 rfl rfl hi37 dX6_tell_37 (fun H locs hP hD9 hS => ?_)
  obtain ⟨s37, es37⟩ : ∃ z : ST, z = setA σ 11 y1.toNatClampNeg y2 := ⟨_, rfl⟩
  have h := nm_o h es37
  have hP : va_P D vwCl (wM a k s37) H := by rw [es37]; exact hP
  have hD : va_D (AM a) (wM a k s37) := dM hD
  have h := Option.some.inj h
  subst h
  exact W.vret hx hb hr (fun t ht hW9 => ⟨⟨(), rfl, trivial, by show va_P _ _ _ t.heap; rw [ht]; exact hP⟩, hS.F ht⟩) hS.2.2 dX6_tell_38 hlocks
set_option maxHeartbeats 4000000 in
set_option maxRecDepth 100000 in
theorem mX6_tell (l : Launch) (D : va_G) (a : Nat → Nat) (k : Nat → ClassId) (σ : ST) (x1 x2 x3 : Int32) (o : ST) (h : fX6_tell σ x1 x2 x3 = some o) : Met l yX6_tell ((Cond.code yX6_tell cX6_tell 4 none) :: WG) ({ frames := 0, cells := 0, slots := 0, locals := 0 } : Room) (Pw D (tM k) (AM a) (wM a k σ) [.ref (a 0), .int x1, .int x2, .int x3]) (va_Qv (S := Unit) (fun _ => True) (fun _ t => va_P D vwCl (wM a k o) t.heap) (AM a)) 0 0 (AM a) := by
  refine Met.ofW (cc := cX6_tell) (maxL := 4) (ret := none) (by decide) rfl ?_
  intro p e s m args below meth c s₁ B hml0 hv
  have C : Cx p s m args meth c cX6_tell 4 RX6 (Cond.code yX6_tell cX6_tell 4 none) none := ⟨B.exec, B.bytes, B.returns, hml0, findClass_of_methodNamed B.named, atoms_spec (ws := (Cond.code yX6_tell cX6_tell 4 none) :: WG) B.pre, B.notSynchronized⟩
  obtain ⟨rfl, hP, hK, hD⟩ := hv
  have hK : Kx D (tM k) s := hK
  have C0 := C
  obtain ⟨hx, hb, hr, hml, hown, hts, hlocks⟩ := C0
  have hW : ∀ w ∈ WG, w.before _ s = true := fun w h => hts w (List.mem_cons_of_mem _ h)
  show W p l e ({ frames := 0, cells := 0, slots := 0, locals := 0 } : Room) s m _ below meth c s.heap [] 0 0 _ _
  have hl := lv_entry ([.ref (a 0), .int x1, .int x2, .int x3]) (n := 4) (Nat.le_of_ble_eq_true rfl)
  rw [lg_entry_eq]
  generalize (lg_sl ([.ref (a 0), .int x1, .int x2, .int x3]) ++ List.replicate (4 - (lg_sl ([.ref (a 0), .int x1, .int x2, .int x3])).length) Slot.unset).toArray = ls at hl ⊢
  have hl : lv_has ls 4 [(0, .ref (a 0)), (1, .int x1), (2, .int x2), (3, .int x3)] := hl
  have hS : va_S (AM a) s.heap s.heap [] := va_S.rf
  suffices hgo : ∀ (H : Heap) (locs : List Loc), va_P D vwCl (wM a k σ) H → va_S (AM a) s.heap H locs → W p l e ({ frames := 0, cells := 0, slots := 0, locals := 0 } : Room) s m _ below meth c H locs 0 0 (MQ below (va_Qv (S := Unit) (fun _ => True) (fun _ t => va_P D vwCl (wM a k o) t.heap) (AM a)) _ s 0 0 (AM a)) (F0 m 0 ls []) from hgo _ _ hP hS
  clear hP hS
  intro H locs hP hS
  unfold fX6_tell at h
  refine lv_aload_n hx hb dX6_tell_0 rfl (lv_at hl 0 rfl) ?_
  refine va_get (D := D) (ci := 6) (v := .ref (a 12)) (C := RX6) (T := TX6) (N := 22) hx hb hW inX6G hown hK.1 hP 0 rfl rfl 15 (by decide) (hW _ wg331) (fun _ h9 => h9) rfl dX6_tell_1 ?_
  refine lv_iconst (v := 5) hx hb dX6_tell_4 (by decide) ?_
  refine lv_iload_n hx hb dX6_tell_5 rfl (lv_at hl 1 rfl) ?_
  refine lv_imul hx hb dX6_tell_6 ?_
  refine lv_iload_n hx hb dX6_tell_7 rfl (lv_at hl 2 rfl) ?_
  refine lv_iadd hx hb dX6_tell_8 ?_
  refine lv_aload_n hx hb dX6_tell_9 rfl (lv_at hl 0 rfl) ?_
  refine va_get (D := D) (ci := 6) (v := .ref (a 12)) (C := RX6) (T := TX6) (N := 22) hx hb hW inX6G hown hK.1 hP 0 rfl rfl 15 (by decide) (hW _ wg331) (fun _ h9 => h9) rfl dX6_tell_10 ?_
  refine lv_iconst (v := 5) hx hb dX6_tell_13 (by decide) ?_
  refine lv_iload_n hx hb dX6_tell_14 rfl (lv_at hl 1 rfl) ?_
  refine lv_imul hx hb dX6_tell_15 ?_
  refine lv_iload_n hx hb dX6_tell_16 rfl (lv_at hl 2 rfl) ?_
  refine lv_iadd hx hb dX6_tell_17 ?_
  obtain ⟨hi18, h⟩ := ix_o h
  refine va_iald (D := D) hx hb hK.1 hP 12 11 rfl rfl hi18 dX6_tell_18 ?_
  refine lv_iconst (v := (-1)) hx hb dX6_tell_19 (by decide) ?_
  refine lv_icmp_ne (tgt := 27) hx hb dX6_tell_20 (by decide) (fun c20 => ?_) (fun c20 => ?_)
  · have h := ite_f h c20
    refine lv_aload_n hx hb dX6_tell_27 rfl (lv_at hl 0 rfl) ?_
    refine va_get (D := D) (ci := 6) (v := .ref (a 12)) (C := RX6) (T := TX6) (N := 22) hx hb hW inX6G hown hK.1 hP 0 rfl rfl 15 (by decide) (hW _ wg331) (fun _ h9 => h9) rfl dX6_tell_28 ?_
    refine lv_iconst (v := 5) hx hb dX6_tell_31 (by decide) ?_
    refine lv_iload_n hx hb dX6_tell_32 rfl (lv_at hl 1 rfl) ?_
    refine lv_imul hx hb dX6_tell_33 ?_
    refine lv_iload_n hx hb dX6_tell_34 rfl (lv_at hl 2 rfl) ?_
    refine lv_iadd hx hb dX6_tell_35 ?_
    obtain ⟨hi36, h⟩ := ix_o h
    refine va_iald (D := D) hx hb hK.1 hP 12 11 rfl rfl hi36 dX6_tell_36 ?_
    exact bX6_tell_L37 C hK _ _ _ H locs ls hP hD hS (lv_sub hl [] rfl) h
  · have h := ite_t h c20
    refine lv_iload_n hx hb dX6_tell_23 rfl (lv_at hl 3 rfl) ?_
    refine lv_goto (tgt := 37) hx hb dX6_tell_24 (by decide) ?_
    exact bX6_tell_L37 C hK _ _ _ H locs ls hP hD hS (lv_sub hl [] rfl) h
