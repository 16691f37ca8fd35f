set_option maxHeartbeats 4000000 in
set_option maxRecDepth 100000 in
theorem mX6_in (l : Launch) (x0 x1 x2 : Int32) (o : Int32) (h : fX6_in x0 x1 x2 = some o) : Met l yX6_in ((Cond.code yX6_in cX6_in 3 (some .boolean)) :: WG) ({ frames := 0, cells := 0, slots := 0, locals := 0 } : Room) (fun v _ => v = ([.int x0, .int x1, .int x2] : List Value).toArray) (vp_Si (fun z => z = o)) 0 0 (fun _ => False) := by
  refine Met.ofW (cc := cX6_in) (maxL := 3) (ret := (some .boolean)) (by decide) rfl ?_
  intro p e s m args below meth c s₁ B hml0 hv
  have C : Cx p s m args meth c cX6_in 3 RX6 (Cond.code yX6_in cX6_in 3 (some .boolean)) (some .boolean) := ⟨B.exec, B.bytes, B.returns, hml0, findClass_of_methodNamed B.named, atoms_spec (ws := (Cond.code yX6_in cX6_in 3 (some .boolean)) :: WG) B.pre, B.notSynchronized⟩
  subst hv
  have C0 := C
  obtain ⟨hx, hb, hr, hml, hown, hts, hlocks⟩ := C0
  have hW : ∀ w ∈ WG, w.before _ s = true := fun w h => hts w (List.mem_cons_of_mem _ h)
  show W p l e ({ frames := 0, cells := 0, slots := 0, locals := 0 } : Room) s m _ below meth c s.heap [] 0 0 _ _
  have hl := lv_entry ([.int x0, .int x1, .int x2]) (n := 3) (Nat.le_of_ble_eq_true rfl)
  rw [lg_entry_eq]
  generalize (lg_sl ([.int x0, .int x1, .int x2]) ++ List.replicate (3 - (lg_sl ([.int x0, .int x1, .int x2])).length) Slot.unset).toArray = ls at hl ⊢
  have hl : lv_has ls 3 [(0, .int x0), (1, .int x1), (2, .int x2)] := hl
  unfold fX6_in at h
  refine lv_iload_n hx hb dX6_in_0 rfl (lv_at hl 0 rfl) ?_
  refine lv_iload_n hx hb dX6_in_1 rfl (lv_at hl 1 rfl) ?_
  refine lv_icmp_lt (tgt := 14) hx hb dX6_in_2 (by decide) (fun c2 => ?_) (fun c2 => ?_)
  · have h := ite_t h c2
    refine lv_iconst (v := 0) hx hb dX6_in_14 (by decide) ?_
    have h := Option.some.inj h
    subst h
    exact W.zret (v := 0) hx hb hr rfl (fun t ht hW9 => ⟨0, rfl, rfl, ht⟩) (fun _ h9 => absurd h9 List.not_mem_nil) dX6_in_15 hlocks
  · have h := ite_f h c2
    refine lv_iload_n hx hb dX6_in_5 rfl (lv_at hl 0 rfl) ?_
    refine lv_iload_n hx hb dX6_in_6 rfl (lv_at hl 2 rfl) ?_
    refine lv_icmp_gt (tgt := 14) hx hb dX6_in_7 (by decide) (fun c7 => ?_) (fun c7 => ?_)
    · have h := ite_t h c7
      refine lv_iconst (v := 0) hx hb dX6_in_14 (by decide) ?_
      have h := Option.some.inj h
      subst h
      exact W.zret (v := 0) hx hb hr rfl (fun t ht hW9 => ⟨0, rfl, rfl, ht⟩) (fun _ h9 => absurd h9 List.not_mem_nil) dX6_in_15 hlocks
    · have h := ite_f h c7
      refine lv_iconst (v := 1) hx hb dX6_in_10 (by decide) ?_
      refine lv_goto (tgt := 15) hx hb dX6_in_11 (by decide) ?_
      have h := Option.some.inj h
      subst h
      exact W.zret (v := 1) hx hb hr rfl (fun t ht hW9 => ⟨1, rfl, rfl, ht⟩) (fun _ h9 => absurd h9 List.not_mem_nil) dX6_in_15 hlocks
set_option maxHeartbeats 4000000 in
set_option maxRecDepth 100000 in
theorem mX6_isThing (l : Launch) (D : va_G) (a : Nat → Nat) (k : Nat → ClassId) (σ : ST) (x1 : Int32) (o : Int32) (h : fX6_isThing σ x1 = some o) : Met l yX6_isThing ((Cond.code yX6_isThing cX6_isThing 2 (some .boolean)) :: WG) ({ frames := 1, cells := 0, slots := 0, locals := 22 } : Room) (Pw D (tM k) (AM a) (wM a k σ) [.ref (a 0), .int x1]) (vp_Si (fun z => z = o)) 0 0 (fun _ => False) := by
  refine Met.ofW (cc := cX6_isThing) (maxL := 2) (ret := (some .boolean)) (by decide) rfl ?_
  intro p e s m args below meth c s₁ B hml0 hv
  have C : Cx p s m args meth c cX6_isThing 2 RX6 (Cond.code yX6_isThing cX6_isThing 2 (some .boolean)) (some .boolean) := ⟨B.exec, B.bytes, B.returns, hml0, findClass_of_methodNamed B.named, atoms_spec (ws := (Cond.code yX6_isThing cX6_isThing 2 (some .boolean)) :: WG) B.pre, B.notSynchronized⟩
  obtain ⟨rfl, hP, hK, hD⟩ := hv
  have hK : Kx D (tM k) s := hK
  have C0 := C
  obtain ⟨hx, hb, hr, hml, hown, hts, hlocks⟩ := C0
  have hW : ∀ w ∈ WG, w.before _ s = true := fun w h => hts w (List.mem_cons_of_mem _ h)
  show W p l e ({ frames := 1, cells := 0, slots := 0, locals := 22 } : Room) s m _ below meth c s.heap [] 0 0 _ _
  have hl := lv_entry ([.ref (a 0), .int x1]) (n := 2) (Nat.le_of_ble_eq_true rfl)
  rw [lg_entry_eq]
  generalize (lg_sl ([.ref (a 0), .int x1]) ++ List.replicate (2 - (lg_sl ([.ref (a 0), .int x1])).length) Slot.unset).toArray = ls at hl ⊢
  have hl : lv_has ls 2 [(0, .ref (a 0)), (1, .int x1)] := hl
  unfold fX6_isThing at h
  refine lv_iload_n hx hb dX6_isThing_0 rfl (lv_at hl 1 rfl) ?_
  refine lv_iconst (v := 0) hx hb dX6_isThing_1 (by decide) ?_
  refine lv_aload_n hx hb dX6_isThing_2 rfl (lv_at hl 0 rfl) ?_
  refine va_get (D := D) (ci := 6) (v := .int (σ.1 0)) (C := RX6) (T := TX6) (N := 22) hx hb hW inX6G hown hK.1 hP 0 rfl rfl 0 (by decide) (hW _ wg271) (fun _ h9 => h9) rfl dX6_isThing_3 ?_
  refine lv_iconst (v := 1) hx hb dX6_isThing_6 (by decide) ?_
  refine lv_isub hx hb dX6_isThing_7 ?_
  obtain ⟨r8, hc8, h⟩ := bd_o h
  refine callRI (va_runS (As := [.int x1, .int 0, .int ((σ.1 0) - 1)]) (rest := []) ⟨hx, hb, hml, hown, hts⟩ (mX6_in l _ _ _ _ hc8) ⟨callB_of 3 hts (wg_c wg273) rfl rfl rfl (hW _ wg274) (hW _ wg272) hdX6_in ⟨Nat.le_of_ble_eq_true rfl, Nat.le_of_ble_eq_true rfl⟩, hW _ wg275⟩ preEq rfl rfl hl.1 rfl (lv_room (Nat.le_of_ble_eq_true rfl)) dX6_isThing_8 ⟨Nat.zero_le _, Nat.zero_le _⟩) ?_
  obtain ⟨hz11, h⟩ := zb_o h
  have h := Option.some.inj h
  subst h
  exact W.zret (v := r8) hx hb hr hz11 (fun t ht hW9 => ⟨r8, rfl, rfl, ht⟩) (fun _ h9 => absurd h9 List.not_mem_nil) dX6_isThing_11 hlocks
set_option maxHeartbeats 4000000 in
set_option maxRecDepth 100000 in
theorem bX6_thing_L48 {p : Program} {l : Launch} {e : Env} {s : State} {m : MethodId} {args : Array Value} {below : List Frame} {meth : Method} {c : Code} {D : va_G} {a : Nat → Nat} {k : Nat → ClassId} {o : Int32 × ST} (C : Cx p s m args meth c cX6_thing 4 RX6 (Cond.code yX6_thing cX6_thing 4 (some .int)) (some .int)) (hK : Kx D (tM k) s) : ∀ (x1 x2 x3 : Int32) (σ : ST) (H : Heap) (locs : List Loc) (ls : Array Slot), va_P D vwCl (wM a k σ) H → va_D (AM a) (wM a k σ) → va_S (AM a) s.heap H locs → lv_has ls 4 [(0, .ref (a 0)), (1, .int x1), (2, .int x2), (3, .int x3)] → fX6_thing_L48 x1 x2 x3 σ = some o → W p l e ({ frames := 2, cells := 0, slots := 0, locals := 43 } : Room) s m args below meth c H locs 0 0 (MQ below (va_Qi (S := Unit) (fun z _ => z = o.1) (fun _ t => va_P D vwCl (wM a k o.2) t.heap) (AM a)) args s 0 0 (AM a)) (F0 m 48 ls []) := by
  have C0 := C
  obtain ⟨hx, hb, hr, hml, hown, hts, hlocks⟩ := C0
  have hW : ∀ w ∈ WG, w.before args s = true := fun w h => hts w (List.mem_cons_of_mem _ h)
  intro x1 x2 x3 σ H locs ls hP hD hS hl h
  unfold fX6_thing_L48 at h
  refine lv_aload_n hx hb dX6_thing_48 rfl (lv_at hl 0 rfl) ?_
  refine va_get (D := D) (ci := 6) (v := .int (σ.1 0)) (C := RX6) (T := TX6) (N := 22) hx hb hW inX6G hown hK.1 hP 0 rfl rfl 0 (by decide) (hW _ wg271) (fun _ h9 => h9) rfl dX6_thing_49 ?_
  refine lv_iconst (v := 5) hx hb dX6_thing_52 (by decide) ?_
  refine lv_icmp_ne (tgt := 59) hx hb dX6_thing_53 (by decide) (fun c53 => ?_) (fun c53 => ?_)
  · have h := ite_f h c53
    refine lv_aload_n hx hb dX6_thing_59 rfl (lv_at hl 0 rfl) ?_
    refine va_get (D := D) (ci := 6) (v := .ref (a 1)) (C := RX6) (T := TX6) (N := 22) hx hb hW inX6G hown hK.1 hP 0 rfl rfl 1 (by decide) (hW _ wg276) (fun _ h9 => h9) rfl dX6_thing_60 ?_
    refine lv_aload_n hx hb dX6_thing_63 rfl (lv_at hl 0 rfl) ?_
    refine va_get (D := D) (ci := 6) (v := .int (σ.1 0)) (C := RX6) (T := TX6) (N := 22) hx hb hW inX6G hown hK.1 hP 0 rfl rfl 0 (by decide) (hW _ wg271) (fun _ h9 => h9) rfl dX6_thing_64 ?_
    refine lv_iload_n hx hb dX6_thing_67 rfl (lv_at hl 1 rfl) ?_
    obtain ⟨hi68, h⟩ := ix_o h
    refine va_iast (D := D) hx hb hK.1 hP hD hS 1 0 rfl rfl hi68 dX6_thing_68 (fun H locs hP hD9 hS => ?_)
    obtain ⟨s68, es68⟩ : ∃ z : ST, z = setA σ 0 (σ.1 0).toNatClampNeg x1 := ⟨_, rfl⟩
    have h := nm_o h es68
    have hP : va_P D vwCl (wM a k s68) H := by rw [es68]; exact hP
    have hD : va_D (AM a) (wM a k s68) := dM hD
    refine lv_aload_n hx hb dX6_thing_69 rfl (lv_at hl 0 rfl) ?_
    refine va_get (D := D) (ci := 6) (v := .ref (a 2)) (C := RX6) (T := TX6) (N := 22) hx hb hW inX6G hown hK.1 hP 0 rfl rfl 2 (by decide) (hW _ wg277) (fun _ h9 => h9) rfl dX6_thing_70 ?_
    refine lv_aload_n hx hb dX6_thing_73 rfl (lv_at hl 0 rfl) ?_
    refine va_get (D := D) (ci := 6) (v := .int (s68.1 0)) (C := RX6) (T := TX6) (N := 22) hx hb hW inX6G hown hK.1 hP 0 rfl rfl 0 (by decide) (hW _ wg271) (fun _ h9 => h9) rfl dX6_thing_74 ?_
    refine lv_iload_n hx hb dX6_thing_77 rfl (lv_at hl 2 rfl) ?_
    obtain ⟨hi78, h⟩ := ix_o h
    refine va_zast (D := D) hx hb hK.1 hP hD hS 2 1 rfl rfl hi78 dX6_thing_78 (fun H locs hP hD9 hS => ?_)
    obtain ⟨s78, es78⟩ : ∃ z : ST, z = setA s68 1 (s68.1 0).toNatClampNeg (vp_nar .boolean x2) := ⟨_, rfl⟩
    have h := nm_o h es78
    have hP : va_P D vwCl (wM a k s78) H := by rw [es78]; exact hP
    have hD : va_D (AM a) (wM a k s78) := dM hD
    refine lv_aload_n hx hb dX6_thing_79 rfl (lv_at hl 0 rfl) ?_
    refine va_get (D := D) (ci := 6) (v := .ref (a 3)) (C := RX6) (T := TX6) (N := 22) hx hb hW inX6G hown hK.1 hP 0 rfl rfl 3 (by decide) (hW _ wg278) (fun _ h9 => h9) rfl dX6_thing_80 ?_
    refine lv_aload_n hx hb dX6_thing_83 rfl (lv_at hl 0 rfl) ?_
    refine va_get (D := D) (ci := 6) (v := .int (s78.1 0)) (C := RX6) (T := TX6) (N := 22) hx hb hW inX6G hown hK.1 hP 0 rfl rfl 0 (by decide) (hW _ wg271) (fun _ h9 => h9) rfl dX6_thing_84 ?_
    refine lv_iload_n hx hb dX6_thing_87 rfl (lv_at hl 3 rfl) ?_
    obtain ⟨hi88, h⟩ := ix_o h
    refine va_iast (D := D) hx hb hK.1 hP hD hS 3 2 rfl rfl hi88 dX6_thing_88 (fun H locs hP hD9 hS => ?_)
    obtain ⟨s88, es88⟩ : ∃ z : ST, z = setA s78 2 (s78.1 0).toNatClampNeg x3 := ⟨_, rfl⟩
    have h := nm_o h es88
    have hP : va_P D vwCl (wM a k s88) H := by rw [es88]; exact hP
    have hD : va_D (AM a) (wM a k s88) := dM hD
    refine lv_aload_n hx hb dX6_thing_89 rfl (lv_at hl 0 rfl) ?_
    refine lv_dup hx hb dX6_thing_90 rfl ?_
    refine va_get (D := D) (ci := 6) (v := .int (s88.1 0)) (C := RX6) (T := TX6) (N := 22) hx hb hW inX6G hown hK.1 hP 0 rfl rfl 0 (by decide) (hW _ wg271) (fun _ h9 => h9) rfl dX6_thing_91 ?_
    refine lv_iconst (v := 1) hx hb dX6_thing_94 (by decide) ?_
    refine lv_iadd hx hb dX6_thing_95 ?_
    refine va_put (D := D) (ci := 6) (v := .int ((s88.1 0) + 1)) (ty := .int) (C := RX6) (T := TX6) (N := 22) hx hb hW inX6G tyX6 tyX6_ok nmX6 hown hK.1 hP hD hS 0 rfl rfl 0 (by decide) (hW _ wg271) (fun _ h9 => h9) rfl (by decide +kernel) rfl rfl (Nat.le_of_ble_eq_true rfl) dX6_thing_96 (fun H locs hP hD9 hS => ?_)
    obtain ⟨s96, es96⟩ : ∃ z : ST, z = setF s88 0 ((s88.1 0) + 1) := ⟨_, rfl⟩
    have h := nm_o h es96
    have hP : va_P D vwCl (wM a k s96) H := by rw [es96]; exact hP
    have hD : va_D (AM a) (wM a k s96) := dM hD
    refine lv_aload_n hx hb dX6_thing_99 rfl (lv_at hl 0 rfl) ?_
    refine lv_iconst (v := 0) hx hb dX6_thing_100 (by decide) ?_
    refine va_put (D := D) (ci := 6) (v := .int 0) (ty := .boolean) (C := RX6) (T := TX6) (N := 22) hx hb hW inX6G tyX6 tyX6_ok nmX6 hown hK.1 hP hD hS 0 rfl rfl 10 (by decide) (hW _ wg279) (fun _ h9 => h9) rfl (by decide +kernel) rfl rfl (Nat.le_of_ble_eq_true rfl) dX6_thing_101 (fun H locs hP hD9 hS => ?_)
    obtain ⟨s101, es101⟩ : ∃ z : ST, z = setF s96 2 0 := ⟨_, rfl⟩
    have h := nm_o h es101
    have hP : va_P D vwCl (wM a k s101) H := by rw [es101]; exact hP
    have hD : va_D (AM a) (wM a k s101) := dM hD
    refine lv_aload_n hx hb dX6_thing_104 rfl (lv_at hl 0 rfl) ?_
    refine va_get (D := D) (ci := 6) (v := .int (s101.1 0)) (C := RX6) (T := TX6) (N := 22) hx hb hW inX6G hown hK.1 hP 0 rfl rfl 0 (by decide) (hW _ wg271) (fun _ h9 => h9) rfl dX6_thing_105 ?_
    refine lv_iconst (v := 1) hx hb dX6_thing_108 (by decide) ?_
    refine lv_isub hx hb dX6_thing_109 ?_
    have h := Option.some.inj h
    subst h
    exact W.iret (v := ((s101.1 0) - 1)) hx hb hr (fun t ht hW9 => ⟨⟨((s101.1 0) - 1), (), rfl, rfl, by show va_P _ _ _ t.heap; rw [ht]; exact hP⟩, hS.F ht⟩) hS.2.2 dX6_thing_110 hlocks
  · have h := ite_t h c53
    refine lv_bipush (v := (-104)) hx hb dX6_thing_56 (by decide) ?_
    have h := Option.some.inj h
    subst h
    exact W.iret (v := (-104)) hx hb hr (fun t ht hW9 => ⟨⟨(-104), (), rfl, rfl, by show va_P _ _ _ t.heap; rw [ht]; exact hP⟩, hS.F ht⟩) hS.2.2 dX6_thing_58 hlocks
set_option maxHeartbeats 4000000 in
set_option maxRecDepth 100000 in
theorem bX6_thing_L16 {p : Program} {l : Launch} {e : Env} {s : State} {m : MethodId} {args : Array Value} {below : List Frame} {meth : Method} {c : Code} {D : va_G} {a : Nat → Nat} {k : Nat → ClassId} {o : Int32 × ST} (C : Cx p s m args meth c cX6_thing 4 RX6 (Cond.code yX6_thing cX6_thing 4 (some .int)) (some .int)) (hK : Kx D (tM k) s) : ∀ (x1 x2 x3 : Int32) (σ : ST) (H : Heap) (locs : List Loc) (ls : Array Slot), va_P D vwCl (wM a k σ) H → va_D (AM a) (wM a k σ) → va_S (AM a) s.heap H locs → lv_has ls 4 [(0, .ref (a 0)), (1, .int x1), (2, .int x2), (3, .int x3)] → fX6_thing_L16 x1 x2 x3 σ = some o → W p l e ({ frames := 2, cells := 0, slots := 0, locals := 43 } : Room) s m args below meth c H locs 0 0 (MQ below (va_Qi (S := Unit) (fun z _ => z = o.1) (fun _ t => va_P D vwCl (wM a k o.2) t.heap) (AM a)) args s 0 0 (AM a)) (F0 m 16 ls []) := by
  have C0 := C
  obtain ⟨hx, hb, hr, hml, hown, hts, hlocks⟩ := C0
  have hW : ∀ w ∈ WG, w.before args s = true := fun w h => hts w (List.mem_cons_of_mem _ h)
  intro x1 x2 x3 σ H locs ls hP hD hS hl h
  unfold fX6_thing_L16 at h
  refine lv_iload_n hx hb dX6_thing_16 rfl (lv_at hl 1 rfl) ?_
  refine lv_iconst (v := 0) hx hb dX6_thing_17 (by decide) ?_
  refine lv_iconst (v := 1) hx hb dX6_thing_18 (by decide) ?_
  obtain ⟨r19, hc19, h⟩ := bd_o h
  refine callRI (va_runS (As := [.int x1, .int 0, .int 1]) (rest := []) ⟨hx, hb, hml, hown, hts⟩ (mX6_in l _ _ _ _ hc19) ⟨callB_of 3 hts (wg_c wg273) rfl rfl rfl (hW _ wg274) (hW _ wg272) hdX6_in ⟨Nat.le_of_ble_eq_true rfl, Nat.le_of_ble_eq_true rfl⟩, hW _ wg275⟩ preEq rfl rfl hl.1 rfl (lv_room (Nat.le_of_ble_eq_true rfl)) dX6_thing_19 ⟨Nat.zero_le _, Nat.zero_le _⟩) ?_
  refine lv_if_eq (tgt := 45) hx hb dX6_thing_22 (by decide) (fun c22 => ?_) (fun c22 => ?_)
  · have h := ite_t h c22
    refine lv_bipush (v := (-102)) hx hb dX6_thing_45 (by decide) ?_
    have h := Option.some.inj h
    subst h
    exact W.iret (v := (-102)) hx hb hr (fun t ht hW9 => ⟨⟨(-102), (), rfl, rfl, by show va_P _ _ _ t.heap; rw [ht]; exact hP⟩, hS.F ht⟩) hS.2.2 dX6_thing_47 hlocks
  · have h := ite_f h c22
    refine lv_iload_n hx hb dX6_thing_25 rfl (lv_at hl 3 rfl) ?_
    refine lv_iconst (v := (-1)) hx hb dX6_thing_26 (by decide) ?_
    refine lv_icmp_eq (tgt := 48) hx hb dX6_thing_27 (by decide) (fun c27 => ?_) (fun c27 => ?_)
    · have h := ite_t h c27
      exact bX6_thing_L48 C hK _ _ _ _ H locs ls hP hD hS (lv_sub hl [0, 1, 2, 3] rfl) h
    · have h := ite_f h c27
      refine lv_iload_n hx hb dX6_thing_30 rfl (lv_at hl 1 rfl) ?_
      refine lv_iconst (v := 1) hx hb dX6_thing_31 (by decide) ?_
      refine lv_icmp_eq (tgt := 45) hx hb dX6_thing_32 (by decide) (fun c32 => ?_) (fun c32 => ?_)
      · have h := ite_t h c32
        refine lv_bipush (v := (-102)) hx hb dX6_thing_45 (by decide) ?_
        have h := Option.some.inj h
        subst h
        exact W.iret (v := (-102)) hx hb hr (fun t ht hW9 => ⟨⟨(-102), (), rfl, rfl, by show va_P _ _ _ t.heap; rw [ht]; exact hP⟩, hS.F ht⟩) hS.2.2 dX6_thing_47 hlocks
      · have h := ite_f h c32
        refine lv_aload_n hx hb dX6_thing_35 rfl (lv_at hl 0 rfl) ?_
        refine va_get (D := D) (ci := 6) (v := .ref (a 1)) (C := RX6) (T := TX6) (N := 22) hx hb hW inX6G hown hK.1 hP 0 rfl rfl 1 (by decide) (hW _ wg276) (fun _ h9 => h9) rfl dX6_thing_36 ?_
        refine lv_iload_n hx hb dX6_thing_39 rfl (lv_at hl 3 rfl) ?_
        obtain ⟨hi40, h⟩ := ix_o h
        refine va_iald (D := D) hx hb hK.1 hP 1 0 rfl rfl hi40 dX6_thing_40 ?_
        refine lv_iconst (v := 1) hx hb dX6_thing_41 (by decide) ?_
        refine lv_icmp_ne (tgt := 48) hx hb dX6_thing_42 (by decide) (fun c42 => ?_) (fun c42 => ?_)
        · have h := ite_f h c42
          exact bX6_thing_L48 C hK _ _ _ _ H locs ls hP hD hS (lv_sub hl [0, 1, 2, 3] rfl) h
        · have h := ite_t h c42
          refine lv_bipush (v := (-102)) hx hb dX6_thing_45 (by decide) ?_
          have h := Option.some.inj h
          subst h
          exact W.iret (v := (-102)) hx hb hr (fun t ht hW9 => ⟨⟨(-102), (), rfl, rfl, by show va_P _ _ _ t.heap; rw [ht]; exact hP⟩, hS.F ht⟩) hS.2.2 dX6_thing_47 hlocks
set_option maxHeartbeats 4000000 in
set_option maxRecDepth 100000 in
theorem mX6_thing (l : Launch) (D : va_G) (a : Nat → Nat) (k : Nat → ClassId) (σ : ST) (x1 x2 x3 : Int32) (o : Int32 × ST) (h : fX6_thing σ x1 x2 x3 = some o) : Met l yX6_thing ((Cond.code yX6_thing cX6_thing 4 (some .int)) :: WG) ({ frames := 2, cells := 0, slots := 0, locals := 43 } : Room) (Pw D (tM k) (AM a) (wM a k σ) [.ref (a 0), .int x1, .int x2, .int x3]) (va_Qi (S := Unit) (fun z _ => z = o.1) (fun _ t => va_P D vwCl (wM a k o.2) t.heap) (AM a)) 0 0 (AM a) := by
  refine Met.ofW (cc := cX6_thing) (maxL := 4) (ret := (some .int)) (by decide) rfl ?_
  intro p e s m args below meth c s₁ B hml0 hv
  have C : Cx p s m args meth c cX6_thing 4 RX6 (Cond.code yX6_thing cX6_thing 4 (some .int)) (some .int) := ⟨B.exec, B.bytes, B.returns, hml0, findClass_of_methodNamed B.named, atoms_spec (ws := (Cond.code yX6_thing cX6_thing 4 (some .int)) :: WG) B.pre, B.notSynchronized⟩
  obtain ⟨rfl, hP, hK, hD⟩ := hv
  have hK : Kx D (tM k) s := hK
  have C0 := C
  obtain ⟨hx, hb, hr, hml, hown, hts, hlocks⟩ := C0
  have hW : ∀ w ∈ WG, w.before _ s = true := fun w h => hts w (List.mem_cons_of_mem _ h)
  show W p l e ({ frames := 2, cells := 0, slots := 0, locals := 43 } : Room) s m _ below meth c s.heap [] 0 0 _ _
  have hl := lv_entry ([.ref (a 0), .int x1, .int x2, .int x3]) (n := 4) (Nat.le_of_ble_eq_true rfl)
  rw [lg_entry_eq]
  generalize (lg_sl ([.ref (a 0), .int x1, .int x2, .int x3]) ++ List.replicate (4 - (lg_sl ([.ref (a 0), .int x1, .int x2, .int x3])).length) Slot.unset).toArray = ls at hl ⊢
  have hl : lv_has ls 4 [(0, .ref (a 0)), (1, .int x1), (2, .int x2), (3, .int x3)] := hl
  have hS : va_S (AM a) s.heap s.heap [] := va_S.rf
  suffices hgo : ∀ (H : Heap) (locs : List Loc), va_P D vwCl (wM a k σ) H → va_S (AM a) s.heap H locs → W p l e ({ frames := 2, cells := 0, slots := 0, locals := 43 } : Room) s m _ below meth c H locs 0 0 (MQ below (va_Qi (S := Unit) (fun z _ => z = o.1) (fun _ t => va_P D vwCl (wM a k o.2) t.heap) (AM a)) _ s 0 0 (AM a)) (F0 m 0 ls []) from hgo _ _ hP hS
  clear hP hS
  intro H locs hP hS
  unfold fX6_thing at h
  refine lv_iload_n hx hb dX6_thing_0 rfl (lv_at hl 3 rfl) ?_
  refine lv_iconst (v := (-1)) hx hb dX6_thing_1 (by decide) ?_
  refine lv_icmp_eq (tgt := 16) hx hb dX6_thing_2 (by decide) (fun c2 => ?_) (fun c2 => ?_)
  · have h := ite_t h c2
    exact bX6_thing_L16 C hK _ _ _ _ H locs ls hP hD hS (lv_sub hl [0, 1, 2, 3] rfl) h
  · have h := ite_f h c2
    refine lv_aload_n hx hb dX6_thing_5 rfl (lv_at hl 0 rfl) ?_
    refine lv_iload_n hx hb dX6_thing_6 rfl (lv_at hl 3 rfl) ?_
    obtain ⟨r7, hc7, h⟩ := bd_o h
    refine callRI (va_runV (As := [.int x3]) (rest := []) ⟨hx, hb, hml, hown, hts⟩ (mX6_isThing l D a k _ _ _ hc7) ⟨callB_of 1 hts (wg_c wg281) rfl rfl rfl (hW _ wg274) (hW _ wg280) hdX6_isThing ⟨Nat.le_of_ble_eq_true rfl, Nat.le_of_ble_eq_true rfl⟩, hW _ wg282, hW _ wg283⟩ (pw_V hK hP hD (ci := 6) (q0 := 0) rfl rfl) rfl rfl hl.1 rfl (lv_room (Nat.le_of_ble_eq_true rfl)) dX6_thing_7 ⟨Nat.zero_le _, Nat.zero_le _⟩) ?_
    refine lv_if_ne (tgt := 16) hx hb dX6_thing_10 (by decide) (fun c10 => ?_) (fun c10 => ?_)
    · have h := ite_f h c10
      exact bX6_thing_L16 C hK _ _ _ _ H locs ls hP hD hS (lv_sub hl [0, 1, 2, 3] rfl) h
    · have h := ite_t h c10
      refine lv_bipush (v := (-101)) hx hb dX6_thing_13 (by decide) ?_
      have h := Option.some.inj h
      subst h
      exact W.iret (v := (-101)) hx hb hr (fun t ht hW9 => ⟨⟨(-101), (), rfl, rfl, by show va_P _ _ _ t.heap; rw [ht]; exact hP⟩, hS.F ht⟩) hS.2.2 dX6_thing_15 hlocks
set_option maxHeartbeats 4000000 in
set_option maxRecDepth 100000 in
theorem bX6_bars_L103 {p : Program} {l : Launch} {e : Env} {s : State} {m : MethodId} {args : Array Value} {below : List Frame} {meth : Method} {c : Code} {D : va_G} {a : Nat → Nat} {k : Nat → ClassId} {σ : ST} {o : Int32} (C : Cx p s m args meth c cX6_bars 7 RX6 (Cond.code yX6_bars cX6_bars 7 (some .int)) (some .int)) (hK : Kx D (tM k) s) (hP : va_P D vwCl (wM a k σ) s.heap) (hD : va_D (AM a) (wM a k σ)) : ∀ (x1 x2 : Int32) (ls : Array Slot), lv_has ls 7 [(0, .ref (a 0)), (1, .int x1), (2, .int x2)] → fX6_bars_L103 σ x1 x2 = some o → W p l e ({ frames := 2, cells := 0, slots := 0, locals := 43 } : Room) s m args below meth c s.heap [] 0 0 (MQ below (vp_Si (fun z => z = o)) args s 0 0 (fun _ => False)) (F0 m 103 ls []) := by
  have C0 := C
  obtain ⟨hx, hb, hr, hml, hown, hts, hlocks⟩ := C0
  have hW : ∀ w ∈ WG, w.before args s = true := fun w h => hts w (List.mem_cons_of_mem _ h)
  intro x1 x2 ls hl h
  unfold fX6_bars_L103 at h
  refine lv_iload_n hx hb dX6_bars_103 rfl (lv_at hl 1 rfl) ?_
  refine lv_iconst (v := 3) hx hb dX6_bars_104 (by decide) ?_
  refine lv_icmp_ne (tgt := 121) hx hb dX6_bars_105 (by decide) (fun c105 => ?_) (fun c105 => ?_)
  · have h := ite_f h c105
    refine lv_iconst (v := 0) hx hb dX6_bars_121 (by decide) ?_
    have h := Option.some.inj h
    subst h
    exact W.iret (v := 0) hx hb hr (fun t ht hW9 => ⟨0, rfl, rfl, ht⟩) (fun _ h9 => absurd h9 List.not_mem_nil) dX6_bars_122 hlocks
  · have h := ite_t h c105
    refine lv_aload_n hx hb dX6_bars_108 rfl (lv_at hl 0 rfl) ?_
    refine va_get (D := D) (ci := 6) (v := .ref (a 1)) (C := RX6) (T := TX6) (N := 22) hx hb hW inX6G hown hK.1 hP 0 rfl rfl 1 (by decide) (hW _ wg276) (fun _ h9 => h9) rfl dX6_bars_109 ?_
    refine lv_iload_n hx hb dX6_bars_112 rfl (lv_at hl 2 rfl) ?_
    obtain ⟨hi113, h⟩ := ix_o h
    refine va_iald (D := D) hx hb hK.1 hP 1 0 rfl rfl hi113 dX6_bars_113 ?_
    refine lv_iconst (v := 1) hx hb dX6_bars_114 (by decide) ?_
    refine lv_icmp_ne (tgt := 121) hx hb dX6_bars_115 (by decide) (fun c115 => ?_) (fun c115 => ?_)
    · have h := ite_f h c115
      refine lv_iconst (v := 0) hx hb dX6_bars_121 (by decide) ?_
      have h := Option.some.inj h
      subst h
      exact W.iret (v := 0) hx hb hr (fun t ht hW9 => ⟨0, rfl, rfl, ht⟩) (fun _ h9 => absurd h9 List.not_mem_nil) dX6_bars_122 hlocks
    · have h := ite_t h c115
      refine lv_bipush (v := (-102)) hx hb dX6_bars_118 (by decide) ?_
      have h := Option.some.inj h
      subst h
      exact W.iret (v := (-102)) hx hb hr (fun t ht hW9 => ⟨(-102), rfl, rfl, ht⟩) (fun _ h9 => absurd h9 List.not_mem_nil) dX6_bars_120 hlocks
set_option maxHeartbeats 4000000 in
set_option maxRecDepth 100000 in
theorem bX6_bars_L86 {p : Program} {l : Launch} {e : Env} {s : State} {m : MethodId} {args : Array Value} {below : List Frame} {meth : Method} {c : Code} {D : va_G} {a : Nat → Nat} {k : Nat → ClassId} {σ : ST} {o : Int32} (C : Cx p s m args meth c cX6_bars 7 RX6 (Cond.code yX6_bars cX6_bars 7 (some .int)) (some .int)) (hK : Kx D (tM k) s) (hP : va_P D vwCl (wM a k σ) s.heap) (hD : va_D (AM a) (wM a k σ)) : ∀ (x1 x2 x4 : Int32) (ls : Array Slot), lv_has ls 7 [(0, .ref (a 0)), (1, .int x1), (2, .int x2), (4, .int x4)] → fX6_bars_L86 σ x1 x2 x4 = some o → W p l e ({ frames := 2, cells := 0, slots := 0, locals := 43 } : Room) s m args below meth c s.heap [] 0 0 (MQ below (vp_Si (fun z => z = o)) args s 0 0 (fun _ => False)) (F0 m 86 ls []) := by
  have C0 := C
  obtain ⟨hx, hb, hr, hml, hown, hts, hlocks⟩ := C0
  have hW : ∀ w ∈ WG, w.before args s = true := fun w h => hts w (List.mem_cons_of_mem _ h)
  intro x1 x2 x4 ls hl h
  unfold fX6_bars_L86 at h
  refine lv_iload hx hb dX6_bars_86 (lv_at hl 3 rfl) ?_
  refine lv_iconst (v := (-1)) hx hb dX6_bars_88 (by decide) ?_
  refine lv_icmp_eq (tgt := 103) hx hb dX6_bars_89 (by decide) (fun c89 => ?_) (fun c89 => ?_)
  · have h := ite_t h c89
    exact bX6_bars_L103 C hK hP hD _ _ ls (lv_sub hl [0, 1, 2] rfl) h
  · have h := ite_f h c89
    refine lv_iload hx hb dX6_bars_92 (lv_at hl 3 rfl) ?_
    refine lv_iconst (v := 0) hx hb dX6_bars_94 (by decide) ?_
    refine lv_bipush (v := 39) hx hb dX6_bars_95 (by decide) ?_
    obtain ⟨r97, hc97, h⟩ := bd_o h
    refine callRI (va_runS (As := [.int x4, .int 0, .int 39]) (rest := []) ⟨hx, hb, hml, hown, hts⟩ (mX6_in l _ _ _ _ hc97) ⟨callB_of 3 hts (wg_c wg273) rfl rfl rfl (hW _ wg274) (hW _ wg272) hdX6_in ⟨Nat.le_of_ble_eq_true rfl, Nat.le_of_ble_eq_true rfl⟩, hW _ wg275⟩ preEq rfl rfl hl.1 rfl (lv_room (Nat.le_of_ble_eq_true rfl)) dX6_bars_97 ⟨Nat.zero_le _, Nat.zero_le _⟩) ?_
    refine lv_if_eq (tgt := 118) hx hb dX6_bars_100 (by decide) (fun c100 => ?_) (fun c100 => ?_)
    · have h := ite_t h c100
      refine lv_bipush (v := (-102)) hx hb dX6_bars_118 (by decide) ?_
      have h := Option.some.inj h
      subst h
      exact W.iret (v := (-102)) hx hb hr (fun t ht hW9 => ⟨(-102), rfl, rfl, ht⟩) (fun _ h9 => absurd h9 List.not_mem_nil) dX6_bars_120 hlocks
    · have h := ite_f h c100
      exact bX6_bars_L103 C hK hP hD _ _ ls (lv_sub hl [0, 1, 2] rfl) h
set_option maxHeartbeats 4000000 in
set_option maxRecDepth 100000 in
theorem bX6_bars_L59 {p : Program} {l : Launch} {e : Env} {s : State} {m : MethodId} {args : Array Value} {below : List Frame} {meth : Method} {c : Code} {D : va_G} {a : Nat → Nat} {k : Nat → ClassId} {σ : ST} {o : Int32} (C : Cx p s m args meth c cX6_bars 7 RX6 (Cond.code yX6_bars cX6_bars 7 (some .int)) (some .int)) (hK : Kx D (tM k) s) (hP : va_P D vwCl (wM a k σ) s.heap) (hD : va_D (AM a) (wM a k σ)) : ∀ (x1 x2 x3 x4 y0 : Int32) (ls : Array Slot), lv_has ls 7 [(0, .ref (a 0)), (1, .int x1), (2, .int x2), (3, .int x3), (4, .int x4)] → fX6_bars_L59 σ x1 x2 x3 x4 y0 = some o → W p l e ({ frames := 2, cells := 0, slots := 0, locals := 43 } : Room) s m args below meth c s.heap [] 0 0 (MQ below (vp_Si (fun z => z = o)) args s 0 0 (fun _ => False)) (F0 m 59 ls [.int y0]) := by
  have C0 := C
  obtain ⟨hx, hb, hr, hml, hown, hts, hlocks⟩ := C0
  have hW : ∀ w ∈ WG, w.before args s = true := fun w h => hts w (List.mem_cons_of_mem _ h)
  intro x1 x2 x3 x4 y0 ls hl h
  unfold fX6_bars_L59 at h
  refine lv_topi (fun x6_59 ex6_59 => ?_)
  have h := nm_o h ex6_59
  refine lv_istore (lv' := [(6, .int x6_59), (0, .ref (a 0)), (1, .int x1), (2, .int x2), (3, .int x3), (4, .int x4)]) hx hb dX6_bars_59 hl (by decide) rfl (fun ls hl => ?_)
  refine lv_iload_n hx hb dX6_bars_61 rfl (lv_at hl 2 rfl) ?_
  refine lv_iconst (v := 0) hx hb dX6_bars_62 (by decide) ?_
  refine lv_bipush (v := 8) hx hb dX6_bars_63 (by decide) ?_
  obtain ⟨r65, hc65, h⟩ := bd_o h
  refine callRI (va_runS (As := [.int x1, .int 0, .int 8]) (rest := []) ⟨hx, hb, hml, hown, hts⟩ (mX6_in l _ _ _ _ hc65) ⟨callB_of 3 hts (wg_c wg273) rfl rfl rfl (hW _ wg274) (hW _ wg272) hdX6_in ⟨Nat.le_of_ble_eq_true rfl, Nat.le_of_ble_eq_true rfl⟩, hW _ wg275⟩ preEq rfl rfl hl.1 rfl (lv_room (Nat.le_of_ble_eq_true rfl)) dX6_bars_65 ⟨Nat.zero_le _, Nat.zero_le _⟩) ?_
  refine lv_if_eq (tgt := 118) hx hb dX6_bars_68 (by decide) (fun c68 => ?_) (fun c68 => ?_)
  · have h := ite_t h c68
    refine lv_bipush (v := (-102)) hx hb dX6_bars_118 (by decide) ?_
    have h := Option.some.inj h
    subst h
    exact W.iret (v := (-102)) hx hb hr (fun t ht hW9 => ⟨(-102), rfl, rfl, ht⟩) (fun _ h9 => absurd h9 List.not_mem_nil) dX6_bars_120 hlocks
  · have h := ite_f h c68
    refine lv_iload hx hb dX6_bars_71 (lv_at hl 0 rfl) ?_
    refine lv_if_eq (tgt := 86) hx hb dX6_bars_73 (by decide) (fun c73 => ?_) (fun c73 => ?_)
    · have h := ite_t h c73
      exact bX6_bars_L86 C hK hP hD _ _ _ ls (lv_sub hl [1, 2, 3, 5] rfl) h
    · have h := ite_f h c73
      refine lv_iload_n hx hb dX6_bars_76 rfl (lv_at hl 4 rfl) ?_
      refine lv_iconst (v := 0) hx hb dX6_bars_77 (by decide) ?_
      refine lv_bipush (v := 39) hx hb dX6_bars_78 (by decide) ?_
      obtain ⟨r80, hc80, h⟩ := bd_o h
      refine callRI (va_runS (As := [.int x3, .int 0, .int 39]) (rest := []) ⟨hx, hb, hml, hown, hts⟩ (mX6_in l _ _ _ _ hc80) ⟨callB_of 3 hts (wg_c wg273) rfl rfl rfl (hW _ wg274) (hW _ wg272) hdX6_in ⟨Nat.le_of_ble_eq_true rfl, Nat.le_of_ble_eq_true rfl⟩, hW _ wg275⟩ preEq rfl rfl hl.1 rfl (lv_room (Nat.le_of_ble_eq_true rfl)) dX6_bars_80 ⟨Nat.zero_le _, Nat.zero_le _⟩) ?_
      refine lv_if_eq (tgt := 118) hx hb dX6_bars_83 (by decide) (fun c83 => ?_) (fun c83 => ?_)
      · have h := ite_t h c83
        refine lv_bipush (v := (-102)) hx hb dX6_bars_118 (by decide) ?_
        have h := Option.some.inj h
        subst h
        exact W.iret (v := (-102)) hx hb hr (fun t ht hW9 => ⟨(-102), rfl, rfl, ht⟩) (fun _ h9 => absurd h9 List.not_mem_nil) dX6_bars_120 hlocks
      · have h := ite_f h c83
        exact bX6_bars_L86 C hK hP hD _ _ _ ls (lv_sub hl [1, 2, 3, 5] rfl) h
set_option maxHeartbeats 4000000 in
set_option maxRecDepth 100000 in
theorem bX6_bars_L54 {p : Program} {l : Launch} {e : Env} {s : State} {m : MethodId} {args : Array Value} {below : List Frame} {meth : Method} {c : Code} {D : va_G} {a : Nat → Nat} {k : Nat → ClassId} {σ : ST} {o : Int32} (C : Cx p s m args meth c cX6_bars 7 RX6 (Cond.code yX6_bars cX6_bars 7 (some .int)) (some .int)) (hK : Kx D (tM k) s) (hP : va_P D vwCl (wM a k σ) s.heap) (hD : va_D (AM a) (wM a k σ)) : ∀ (x1 x2 x3 x4 : Int32) (ls : Array Slot), lv_has ls 7 [(0, .ref (a 0)), (1, .int x1), (2, .int x2), (3, .int x3), (4, .int x4)] → fX6_bars_L54 σ x1 x2 x3 x4 = some o → W p l e ({ frames := 2, cells := 0, slots := 0, locals := 43 } : Room) s m args below meth c s.heap [] 0 0 (MQ below (vp_Si (fun z => z = o)) args s 0 0 (fun _ => False)) (F0 m 54 ls []) := by
  have C0 := C
  obtain ⟨hx, hb, hr, hml, hown, hts, hlocks⟩ := C0
  have hW : ∀ w ∈ WG, w.before args s = true := fun w h => hts w (List.mem_cons_of_mem _ h)
  intro x1 x2 x3 x4 ls hl h
  unfold fX6_bars_L54 at h
  refine lv_iconst (v := 1) hx hb dX6_bars_54 (by decide) ?_
  refine lv_goto (tgt := 59) hx hb dX6_bars_55 (by decide) ?_
  exact bX6_bars_L59 C hK hP hD _ _ _ _ _ ls (lv_sub hl [0, 1, 2, 3, 4] rfl) h
set_option maxHeartbeats 4000000 in
set_option maxRecDepth 100000 in
theorem bX6_bars_L38 {p : Program} {l : Launch} {e : Env} {s : State} {m : MethodId} {args : Array Value} {below : List Frame} {meth : Method} {c : Code} {D : va_G} {a : Nat → Nat} {k : Nat → ClassId} {σ : ST} {o : Int32} (C : Cx p s m args meth c cX6_bars 7 RX6 (Cond.code yX6_bars cX6_bars 7 (some .int)) (some .int)) (hK : Kx D (tM k) s) (hP : va_P D vwCl (wM a k σ) s.heap) (hD : va_D (AM a) (wM a k σ)) : ∀ (x1 x2 x3 x4 : Int32) (ls : Array Slot), lv_has ls 7 [(0, .ref (a 0)), (1, .int x1), (2, .int x2), (3, .int x3), (4, .int x4)] → fX6_bars_L38 σ x1 x2 x3 x4 = some o → W p l e ({ frames := 2, cells := 0, slots := 0, locals := 43 } : Room) s m args below meth c s.heap [] 0 0 (MQ below (vp_Si (fun z => z = o)) args s 0 0 (fun _ => False)) (F0 m 38 ls []) := by
  have C0 := C
  obtain ⟨hx, hb, hr, hml, hown, hts, hlocks⟩ := C0
  have hW : ∀ w ∈ WG, w.before args s = true := fun w h => hts w (List.mem_cons_of_mem _ h)
  intro x1 x2 x3 x4 ls hl h
  unfold fX6_bars_L38 at h
  refine lv_iload_n hx hb dX6_bars_38 rfl (lv_at hl 1 rfl) ?_
  refine lv_iconst (v := 4) hx hb dX6_bars_39 (by decide) ?_
  refine lv_icmp_eq (tgt := 54) hx hb dX6_bars_40 (by decide) (fun c40 => ?_) (fun c40 => ?_)
  · have h := ite_t h c40
    exact bX6_bars_L54 C hK hP hD _ _ _ _ ls (lv_sub hl [0, 1, 2, 3, 4] rfl) h
  · have h := ite_f h c40
    refine lv_iload_n hx hb dX6_bars_43 rfl (lv_at hl 1 rfl) ?_
    refine lv_iconst (v := 5) hx hb dX6_bars_44 (by decide) ?_
    refine lv_icmp_eq (tgt := 54) hx hb dX6_bars_45 (by decide) (fun c45 => ?_) (fun c45 => ?_)
    · have h := ite_t h c45
      exact bX6_bars_L54 C hK hP hD _ _ _ _ ls (lv_sub hl [0, 1, 2, 3, 4] rfl) h
    · have h := ite_f h c45
      refine lv_iload_n hx hb dX6_bars_48 rfl (lv_at hl 1 rfl) ?_
      refine lv_bipush (v := 8) hx hb dX6_bars_49 (by decide) ?_
      refine lv_icmp_ne (tgt := 58) hx hb dX6_bars_51 (by decide) (fun c51 => ?_) (fun c51 => ?_)
      · have h := ite_f h c51
        refine lv_iconst (v := 0) hx hb dX6_bars_58 (by decide) ?_
        exact bX6_bars_L59 C hK hP hD _ _ _ _ _ ls (lv_sub hl [0, 1, 2, 3, 4] rfl) h
      · have h := ite_t h c51
        exact bX6_bars_L54 C hK hP hD _ _ _ _ ls (lv_sub hl [0, 1, 2, 3, 4] rfl) h
set_option maxHeartbeats 4000000 in
set_option maxRecDepth 100000 in
theorem bX6_bars_L20 {p : Program} {l : Launch} {e : Env} {s : State} {m : MethodId} {args : Array Value} {below : List Frame} {meth : Method} {c : Code} {D : va_G} {a : Nat → Nat} {k : Nat → ClassId} {σ : ST} {o : Int32} (C : Cx p s m args meth c cX6_bars 7 RX6 (Cond.code yX6_bars cX6_bars 7 (some .int)) (some .int)) (hK : Kx D (tM k) s) (hP : va_P D vwCl (wM a k σ) s.heap) (hD : va_D (AM a) (wM a k σ)) : ∀ (x1 x2 x3 x4 y0 : Int32) (ls : Array Slot), lv_has ls 7 [(0, .ref (a 0)), (1, .int x1), (2, .int x2), (3, .int x3), (4, .int x4)] → fX6_bars_L20 σ x1 x2 x3 x4 y0 = some o → W p l e ({ frames := 2, cells := 0, slots := 0, locals := 43 } : Room) s m args below meth c s.heap [] 0 0 (MQ below (vp_Si (fun z => z = o)) args s 0 0 (fun _ => False)) (F0 m 20 ls [.int y0]) := by
  have C0 := C
  obtain ⟨hx, hb, hr, hml, hown, hts, hlocks⟩ := C0
  have hW : ∀ w ∈ WG, w.before args s = true := fun w h => hts w (List.mem_cons_of_mem _ h)
  intro x1 x2 x3 x4 y0 ls hl h
  unfold fX6_bars_L20 at h
  refine lv_topi (fun x5_20 ex5_20 => ?_)
  have h := nm_o h ex5_20
  refine lv_istore (lv' := [(5, .int x5_20), (0, .ref (a 0)), (1, .int x1), (2, .int x2), (3, .int x3), (4, .int x4)]) hx hb dX6_bars_20 hl (by decide) rfl (fun ls hl => ?_)
  refine lv_iload hx hb dX6_bars_22 (lv_at hl 0 rfl) ?_
  refine lv_if_eq (tgt := 38) hx hb dX6_bars_24 (by decide) (fun c24 => ?_) (fun c24 => ?_)
  · have h := ite_t h c24
    exact bX6_bars_L38 C hK hP hD _ _ _ _ ls (lv_sub hl [1, 2, 3, 4, 5] rfl) h
  · have h := ite_f h c24
    refine lv_aload_n hx hb dX6_bars_27 rfl (lv_at hl 1 rfl) ?_
    refine lv_iload_n hx hb dX6_bars_28 rfl (lv_at hl 3 rfl) ?_
    obtain ⟨r29, hc29, h⟩ := bd_o h
    refine callRI (va_runV (As := [.int x2]) (rest := []) ⟨hx, hb, hml, hown, hts⟩ (mX6_isThing l D a k _ _ _ hc29) ⟨callB_of 1 hts (wg_c wg281) rfl rfl rfl (hW _ wg274) (hW _ wg280) hdX6_isThing ⟨Nat.le_of_ble_eq_true rfl, Nat.le_of_ble_eq_true rfl⟩, hW _ wg282, hW _ wg283⟩ (pw_V hK hP hD (ci := 6) (q0 := 0) rfl rfl) rfl rfl hl.1 rfl (lv_room (Nat.le_of_ble_eq_true rfl)) dX6_bars_29 ⟨Nat.zero_le _, Nat.zero_le _⟩) ?_
    refine lv_if_ne (tgt := 38) hx hb dX6_bars_32 (by decide) (fun c32 => ?_) (fun c32 => ?_)
    · have h := ite_f h c32
      exact bX6_bars_L38 C hK hP hD _ _ _ _ ls (lv_sub hl [1, 2, 3, 4, 5] rfl) h
    · have h := ite_t h c32
      refine lv_bipush (v := (-101)) hx hb dX6_bars_35 (by decide) ?_
      have h := Option.some.inj h
      subst h
      exact W.iret (v := (-101)) hx hb hr (fun t ht hW9 => ⟨(-101), rfl, rfl, ht⟩) (fun _ h9 => absurd h9 List.not_mem_nil) dX6_bars_37 hlocks
set_option maxHeartbeats 4000000 in
set_option maxRecDepth 100000 in
theorem bX6_bars_L15 {p : Program} {l : Launch} {e : Env} {s : State} {m : MethodId} {args : Array Value} {below : List Frame} {meth : Method} {c : Code} {D : va_G} {a : Nat → Nat} {k : Nat → ClassId} {σ : ST} {o : Int32} (C : Cx p s m args meth c cX6_bars 7 RX6 (Cond.code yX6_bars cX6_bars 7 (some .int)) (some .int)) (hK : Kx D (tM k) s) (hP : va_P D vwCl (wM a k σ) s.heap) (hD : va_D (AM a) (wM a k σ)) : ∀ (x1 x2 x3 x4 : Int32) (ls : Array Slot), lv_has ls 7 [(0, .ref (a 0)), (1, .int x1), (2, .int x2), (3, .int x3), (4, .int x4)] → fX6_bars_L15 σ x1 x2 x3 x4 = some o → W p l e ({ frames := 2, cells := 0, slots := 0, locals := 43 } : Room) s m args below meth c s.heap [] 0 0 (MQ below (vp_Si (fun z => z = o)) args s 0 0 (fun _ => False)) (F0 m 15 ls []) := by
  have C0 := C
  obtain ⟨hx, hb, hr, hml, hown, hts, hlocks⟩ := C0
  have hW : ∀ w ∈ WG, w.before args s = true := fun w h => hts w (List.mem_cons_of_mem _ h)
  intro x1 x2 x3 x4 ls hl h
  unfold fX6_bars_L15 at h
  refine lv_iconst (v := 1) hx hb dX6_bars_15 (by decide) ?_
  refine lv_goto (tgt := 20) hx hb dX6_bars_16 (by decide) ?_
  exact bX6_bars_L20 C hK hP hD _ _ _ _ _ ls (lv_sub hl [0, 1, 2, 3, 4] rfl) h
set_option maxHeartbeats 4000000 in
set_option maxRecDepth 100000 in
theorem mX6_bars (l : Launch) (D : va_G) (a : Nat → Nat) (k : Nat → ClassId) (σ : ST) (x1 x2 x3 x4 : Int32) (o : Int32) (h : fX6_bars σ x1 x2 x3 x4 = some o) : Met l yX6_bars ((Cond.code yX6_bars cX6_bars 7 (some .int)) :: WG) ({ frames := 2, cells := 0, slots := 0, locals := 43 } : Room) (Pw D (tM k) (AM a) (wM a k σ) [.ref (a 0), .int x1, .int x2, .int x3, .int x4]) (vp_Si (fun z => z = o)) 0 0 (fun _ => False) := by
  refine Met.ofW (cc := cX6_bars) (maxL := 7) (ret := (some .int)) (by decide) rfl ?_
  intro p e s m args below meth c s₁ B hml0 hv
  have C : Cx p s m args meth c cX6_bars 7 RX6 (Cond.code yX6_bars cX6_bars 7 (some .int)) (some .int) := ⟨B.exec, B.bytes, B.returns, hml0, findClass_of_methodNamed B.named, atoms_spec (ws := (Cond.code yX6_bars cX6_bars 7 (some .int)) :: WG) B.pre, B.notSynchronized⟩
  obtain ⟨rfl, hP, hK, hD⟩ := hv
  have hK : Kx D (tM k) s := hK
  have C0 := C
  obtain ⟨hx, hb, hr, hml, hown, hts, hlocks⟩ := C0
  have hW : ∀ w ∈ WG, w.before _ s = true := fun w h => hts w (List.mem_cons_of_mem _ h)
  show W p l e ({ frames := 2, cells := 0, slots := 0, locals := 43 } : Room) s m _ below meth c s.heap [] 0 0 _ _
  have hl := lv_entry ([.ref (a 0), .int x1, .int x2, .int x3, .int x4]) (n := 7) (Nat.le_of_ble_eq_true rfl)
  rw [lg_entry_eq]
  generalize (lg_sl ([.ref (a 0), .int x1, .int x2, .int x3, .int x4]) ++ List.replicate (7 - (lg_sl ([.ref (a 0), .int x1, .int x2, .int x3, .int x4])).length) Slot.unset).toArray = ls at hl ⊢
  have hl : lv_has ls 7 [(0, .ref (a 0)), (1, .int x1), (2, .int x2), (3, .int x3), (4, .int x4)] := hl
  unfold fX6_bars at h
  refine lv_iload_n hx hb dX6_bars_0 rfl (lv_at hl 1 rfl) ?_
  refine lv_iconst (v := 0) hx hb dX6_bars_1 (by decide) ?_
  refine lv_iconst (v := 3) hx hb dX6_bars_2 (by decide) ?_
  obtain ⟨r3, hc3, h⟩ := bd_o h
  refine callRI (va_runS (As := [.int x1, .int 0, .int 3]) (rest := []) ⟨hx, hb, hml, hown, hts⟩ (mX6_in l _ _ _ _ hc3) ⟨callB_of 3 hts (wg_c wg273) rfl rfl rfl (hW _ wg274) (hW _ wg272) hdX6_in ⟨Nat.le_of_ble_eq_true rfl, Nat.le_of_ble_eq_true rfl⟩, hW _ wg275⟩ preEq rfl rfl hl.1 rfl (lv_room (Nat.le_of_ble_eq_true rfl)) dX6_bars_3 ⟨Nat.zero_le _, Nat.zero_le _⟩) ?_
  refine lv_if_ne (tgt := 15) hx hb dX6_bars_6 (by decide) (fun c6 => ?_) (fun c6 => ?_)
  · have h := ite_f h c6
    exact bX6_bars_L15 C hK hP hD _ _ _ _ ls (lv_sub hl [0, 1, 2, 3, 4] rfl) h
  · have h := ite_t h c6
    refine lv_iload_n hx hb dX6_bars_9 rfl (lv_at hl 1 rfl) ?_
    refine lv_bipush (v := 8) hx hb dX6_bars_10 (by decide) ?_
    refine lv_icmp_ne (tgt := 19) hx hb dX6_bars_12 (by decide) (fun c12 => ?_) (fun c12 => ?_)
    · have h := ite_f h c12
      refine lv_iconst (v := 0) hx hb dX6_bars_19 (by decide) ?_
      exact bX6_bars_L20 C hK hP hD _ _ _ _ _ ls (lv_sub hl [0, 1, 2, 3, 4] rfl) h
    · have h := ite_t h c12
      exact bX6_bars_L15 C hK hP hD _ _ _ _ ls (lv_sub hl [0, 1, 2, 3, 4] rfl) h
set_option maxHeartbeats 4000000 in
set_option maxRecDepth 100000 in
theorem bX6_lay_L37 {p : Program} {l : Launch} {e : Env} {s : State} {m : MethodId} {args : Array Value} {below : List Frame} {meth : Method} {c : Code} {D : va_G} {a : Nat → Nat} {k : Nat → ClassId} {o : ST} (C : Cx p s m args meth c cX6_lay 7 RX6 (Cond.code yX6_lay cX6_lay 7 none) none) (hK : Kx D (tM k) s) : ∀ (x1 x6 y1 y2 : Int32) (σ : ST) (H : Heap) (locs : List Loc) (ls : Array Slot), va_P D vwCl (wM a k σ) H → va_D (AM a) (wM a k σ) → va_S (AM a) s.heap H locs → lv_has ls 7 [(0, .ref (a 0)), (1, .int x1), (6, .int x6)] → fX6_lay_L37 x1 x6 y1 y2 σ = some o → W p l e ({ frames := 0, cells := 0, slots := 0, locals := 0 } : Room) s m args below meth c H locs 0 0 (MQ below (va_Qv (S := Unit) (fun _ => True) (fun _ t => va_P D vwCl (wM a k o) t.heap) (AM a)) args s 0 0 (AM a)) (F0 m 37 ls [.int y2, .int y1, .ref (a 7)]) := by
  have C0 := C
  obtain ⟨hx, hb, hr, hml, hown, hts, hlocks⟩ := C0
  have hW : ∀ w ∈ WG, w.before args s = true := fun w h => hts w (List.mem_cons_of_mem _ h)
  intro x1 x6 y1 y2 σ H locs ls hP hD hS hl h
  unfold fX6_lay_L37 at h
  obtain ⟨hi37, h⟩ := ix_o h
  refine va_iast (D := D) hx hb hK.1 hP hD hS 7 6 rfl rfl hi37 dX6_lay_37 (fun H locs hP hD9 hS => ?_)
  obtain ⟨s37, es37⟩ : ∃ z : ST, z = setA σ 6 y1.toNatClampNeg y2 := ⟨_, rfl⟩
  have h := nm_o h es37
  have hP : va_P D vwCl (wM a k s37) H := by rw [es37]; exact hP
  have hD : va_D (AM a) (wM a k s37) := dM hD
  refine lv_aload_n hx hb dX6_lay_38 rfl (lv_at hl 0 rfl) ?_
  refine va_get (D := D) (ci := 6) (v := .ref (a 8)) (C := RX6) (T := TX6) (N := 22) hx hb hW inX6G hown hK.1 hP 0 rfl rfl 9 (by decide) (hW _ wg284) (fun _ h9 => h9) rfl dX6_lay_39 ?_
  refine lv_iload_n hx hb dX6_lay_42 rfl (lv_at hl 1 rfl) ?_
  refine lv_iload hx hb dX6_lay_43 (lv_at hl 2 rfl) ?_
  obtain ⟨hi45, h⟩ := ix_o h
  refine va_iast (D := D) hx hb hK.1 hP hD hS 8 7 rfl rfl hi45 dX6_lay_45 (fun H locs hP hD9 hS => ?_)
  obtain ⟨s45, es45⟩ : ∃ z : ST, z = setA s37 7 x1.toNatClampNeg x6 := ⟨_, rfl⟩
  have h := nm_o h es45
  have hP : va_P D vwCl (wM a k s45) H := by rw [es45]; exact hP
  have hD : va_D (AM a) (wM a k s45) := dM hD
  refine lv_aload_n hx hb dX6_lay_46 rfl (lv_at hl 0 rfl) ?_
  refine lv_iconst (v := 0) hx hb dX6_lay_47 (by decide) ?_
  refine va_put (D := D) (ci := 6) (v := .int 0) (ty := .boolean) (C := RX6) (T := TX6) (N := 22) hx hb hW inX6G tyX6 tyX6_ok nmX6 hown hK.1 hP hD hS 0 rfl rfl 10 (by decide) (hW _ wg279) (fun _ h9 => h9) rfl (by decide +kernel) rfl rfl (Nat.le_of_ble_eq_true rfl) dX6_lay_48 (fun H locs hP hD9 hS => ?_)
  obtain ⟨s48, es48⟩ : ∃ z : ST, z = setF s45 2 0 := ⟨_, rfl⟩
  have h := nm_o h es48
  have hP : va_P D vwCl (wM a k s48) H := by rw [es48]; exact hP
  have hD : va_D (AM a) (wM a k s48) := dM hD
  have h := Option.some.inj h
  subst h
  exact W.vret hx hb hr (fun t ht hW9 => ⟨⟨(), rfl, trivial, by show va_P _ _ _ t.heap; rw [ht]; exact hP⟩, hS.F ht⟩) hS.2.2 dX6_lay_51 hlocks
set_option maxHeartbeats 4000000 in
set_option maxRecDepth 100000 in
theorem mX6_lay (l : Launch) (D : va_G) (a : Nat → Nat) (k : Nat → ClassId) (σ : ST) (x1 x2 x3 x4 x5 x6 : Int32) (o : ST) (h : fX6_lay σ x1 x2 x3 x4 x5 x6 = some o) : Met l yX6_lay ((Cond.code yX6_lay cX6_lay 7 none) :: WG) ({ frames := 0, cells := 0, slots := 0, locals := 0 } : Room) (Pw D (tM k) (AM a) (wM a k σ) [.ref (a 0), .int x1, .int x2, .int x3, .int x4, .int x5, .int x6]) (va_Qv (S := Unit) (fun _ => True) (fun _ t => va_P D vwCl (wM a k o) t.heap) (AM a)) 0 0 (AM a) := by
  refine Met.ofW (cc := cX6_lay) (maxL := 7) (ret := none) (by decide) rfl ?_
  intro p e s m args below meth c s₁ B hml0 hv
  have C : Cx p s m args meth c cX6_lay 7 RX6 (Cond.code yX6_lay cX6_lay 7 none) none := ⟨B.exec, B.bytes, B.returns, hml0, findClass_of_methodNamed B.named, atoms_spec (ws := (Cond.code yX6_lay cX6_lay 7 none) :: WG) B.pre, B.notSynchronized⟩
  obtain ⟨rfl, hP, hK, hD⟩ := hv
  have hK : Kx D (tM k) s := hK
  have C0 := C
  obtain ⟨hx, hb, hr, hml, hown, hts, hlocks⟩ := C0
  have hW : ∀ w ∈ WG, w.before _ s = true := fun w h => hts w (List.mem_cons_of_mem _ h)
  show W p l e ({ frames := 0, cells := 0, slots := 0, locals := 0 } : Room) s m _ below meth c s.heap [] 0 0 _ _
  have hl := lv_entry ([.ref (a 0), .int x1, .int x2, .int x3, .int x4, .int x5, .int x6]) (n := 7) (Nat.le_of_ble_eq_true rfl)
  rw [lg_entry_eq]
  generalize (lg_sl ([.ref (a 0), .int x1, .int x2, .int x3, .int x4, .int x5, .int x6]) ++ List.replicate (7 - (lg_sl ([.ref (a 0), .int x1, .int x2, .int x3, .int x4, .int x5, .int x6])).length) Slot.unset).toArray = ls at hl ⊢
  have hl : lv_has ls 7 [(0, .ref (a 0)), (1, .int x1), (2, .int x2), (3, .int x3), (4, .int x4), (5, .int x5), (6, .int x6)] := hl
  have hS : va_S (AM a) s.heap s.heap [] := va_S.rf
  suffices hgo : ∀ (H : Heap) (locs : List Loc), va_P D vwCl (wM a k σ) H → va_S (AM a) s.heap H locs → W p l e ({ frames := 0, cells := 0, slots := 0, locals := 0 } : Room) s m _ below meth c H locs 0 0 (MQ below (va_Qv (S := Unit) (fun _ => True) (fun _ t => va_P D vwCl (wM a k o) t.heap) (AM a)) _ s 0 0 (AM a)) (F0 m 0 ls []) from hgo _ _ hP hS
  clear hP hS
  intro H locs hP hS
  unfold fX6_lay at h
  refine lv_aload_n hx hb dX6_lay_0 rfl (lv_at hl 0 rfl) ?_
  refine va_get (D := D) (ci := 6) (v := .ref (a 4)) (C := RX6) (T := TX6) (N := 22) hx hb hW inX6G hown hK.1 hP 0 rfl rfl 5 (by decide) (hW _ wg285) (fun _ h9 => h9) rfl dX6_lay_1 ?_
  refine lv_iload_n hx hb dX6_lay_4 rfl (lv_at hl 1 rfl) ?_
  refine lv_iload_n hx hb dX6_lay_5 rfl (lv_at hl 2 rfl) ?_
  obtain ⟨hi6, h⟩ := ix_o h
  refine va_iast (D := D) hx hb hK.1 hP hD hS 4 3 rfl rfl hi6 dX6_lay_6 (fun H locs hP hD9 hS => ?_)
  obtain ⟨s6, es6⟩ : ∃ z : ST, z = setA σ 3 x1.toNatClampNeg x2 := ⟨_, rfl⟩
  have h := nm_o h es6
  have hP : va_P D vwCl (wM a k s6) H := by rw [es6]; exact hP
  have hD : va_D (AM a) (wM a k s6) := dM hD
  refine lv_aload_n hx hb dX6_lay_7 rfl (lv_at hl 0 rfl) ?_
  refine va_get (D := D) (ci := 6) (v := .ref (a 5)) (C := RX6) (T := TX6) (N := 22) hx hb hW inX6G hown hK.1 hP 0 rfl rfl 6 (by decide) (hW _ wg286) (fun _ h9 => h9) rfl dX6_lay_8 ?_
  refine lv_iload_n hx hb dX6_lay_11 rfl (lv_at hl 1 rfl) ?_
  refine lv_iload_n hx hb dX6_lay_12 rfl (lv_at hl 3 rfl) ?_
  obtain ⟨hi13, h⟩ := ix_o h
  refine va_iast (D := D) hx hb hK.1 hP hD hS 5 4 rfl rfl hi13 dX6_lay_13 (fun H locs hP hD9 hS => ?_)
  obtain ⟨s13, es13⟩ : ∃ z : ST, z = setA s6 4 x1.toNatClampNeg x3 := ⟨_, rfl⟩
  have h := nm_o h es13
  have hP : va_P D vwCl (wM a k s13) H := by rw [es13]; exact hP
  have hD : va_D (AM a) (wM a k s13) := dM hD
  refine lv_aload_n hx hb dX6_lay_14 rfl (lv_at hl 0 rfl) ?_
  refine va_get (D := D) (ci := 6) (v := .ref (a 6)) (C := RX6) (T := TX6) (N := 22) hx hb hW inX6G hown hK.1 hP 0 rfl rfl 7 (by decide) (hW _ wg287) (fun _ h9 => h9) rfl dX6_lay_15 ?_
  refine lv_iload_n hx hb dX6_lay_18 rfl (lv_at hl 1 rfl) ?_
  refine lv_iload hx hb dX6_lay_19 (lv_at hl 4 rfl) ?_
  obtain ⟨hi21, h⟩ := ix_o h
  refine va_iast (D := D) hx hb hK.1 hP hD hS 6 5 rfl rfl hi21 dX6_lay_21 (fun H locs hP hD9 hS => ?_)
  obtain ⟨s21, es21⟩ : ∃ z : ST, z = setA s13 5 x1.toNatClampNeg x4 := ⟨_, rfl⟩
  have h := nm_o h es21
  have hP : va_P D vwCl (wM a k s21) H := by rw [es21]; exact hP
  have hD : va_D (AM a) (wM a k s21) := dM hD
  refine lv_aload_n hx hb dX6_lay_22 rfl (lv_at hl 0 rfl) ?_
  refine va_get (D := D) (ci := 6) (v := .ref (a 7)) (C := RX6) (T := TX6) (N := 22) hx hb hW inX6G hown hK.1 hP 0 rfl rfl 8 (by decide) (hW _ wg288) (fun _ h9 => h9) rfl dX6_lay_23 ?_
  refine lv_iload_n hx hb dX6_lay_26 rfl (lv_at hl 1 rfl) ?_
  refine lv_iload hx hb dX6_lay_27 (lv_at hl 5 rfl) ?_
  refine lv_if_eq (tgt := 36) hx hb dX6_lay_29 (by decide) (fun c29 => ?_) (fun c29 => ?_)
  · have h := ite_t h c29
    refine lv_iconst (v := 0) hx hb dX6_lay_36 (by decide) ?_
    exact bX6_lay_L37 C hK _ _ _ _ _ H locs ls hP hD hS (lv_sub hl [0, 1, 6] rfl) h
  · have h := ite_f h c29
    refine lv_iconst (v := 1) hx hb dX6_lay_32 (by decide) ?_
    refine lv_goto (tgt := 37) hx hb dX6_lay_33 (by decide) ?_
    exact bX6_lay_L37 C hK _ _ _ _ _ H locs ls hP hD hS (lv_sub hl [0, 1, 6] rfl) h
set_option maxHeartbeats 4000000 in
set_option maxRecDepth 100000 in
theorem mX6_step (l : Launch) (D : va_G) (a : Nat → Nat) (k : Nat → ClassId) (σ : ST) (x1 x2 x3 x4 x5 : Int32) (o : Int32 × ST) (h : fX6_step σ x1 x2 x3 x4 x5 = some o) : Met l yX6_step ((Cond.code yX6_step cX6_step 7 (some .int)) :: WG) ({ frames := 3, cells := 0, slots := 0, locals := 69 } : Room) (Pw D (tM k) (AM a) (wM a k σ) [.ref (a 0), .int x1, .int x2, .int x3, .int x4, .int x5]) (va_Qi (S := Unit) (fun z _ => z = o.1) (fun _ t => va_P D vwCl (wM a k o.2) t.heap) (AM a)) 0 0 (AM a) := by
  refine Met.ofW (cc := cX6_step) (maxL := 7) (ret := (some .int)) (by decide) rfl ?_
  intro p e s m args below meth c s₁ B hml0 hv
  have C : Cx p s m args meth c cX6_step 7 RX6 (Cond.code yX6_step cX6_step 7 (some .int)) (some .int) := ⟨B.exec, B.bytes, B.returns, hml0, findClass_of_methodNamed B.named, atoms_spec (ws := (Cond.code yX6_step cX6_step 7 (some .int)) :: WG) B.pre, B.notSynchronized⟩
  obtain ⟨rfl, hP, hK, hD⟩ := hv
  have hK : Kx D (tM k) s := hK
  have C0 := C
  obtain ⟨hx, hb, hr, hml, hown, hts, hlocks⟩ := C0
  have hW : ∀ w ∈ WG, w.before _ s = true := fun w h => hts w (List.mem_cons_of_mem _ h)
  show W p l e ({ frames := 3, cells := 0, slots := 0, locals := 69 } : Room) s m _ below meth c s.heap [] 0 0 _ _
  have hl := lv_entry ([.ref (a 0), .int x1, .int x2, .int x3, .int x4, .int x5]) (n := 7) (Nat.le_of_ble_eq_true rfl)
  rw [lg_entry_eq]
  generalize (lg_sl ([.ref (a 0), .int x1, .int x2, .int x3, .int x4, .int x5]) ++ List.replicate (7 - (lg_sl ([.ref (a 0), .int x1, .int x2, .int x3, .int x4, .int x5])).length) Slot.unset).toArray = ls at hl ⊢
  have hl : lv_has ls 7 [(0, .ref (a 0)), (1, .int x1), (2, .int x2), (3, .int x3), (4, .int x4), (5, .int x5)] := hl
  have hS : va_S (AM a) s.heap s.heap [] := va_S.rf
  suffices hgo : ∀ (H : Heap) (locs : List Loc), va_P D vwCl (wM a k σ) H → va_S (AM a) s.heap H locs → W p l e ({ frames := 3, cells := 0, slots := 0, locals := 69 } : Room) s m _ below meth c H locs 0 0 (MQ below (va_Qi (S := Unit) (fun z _ => z = o.1) (fun _ t => va_P D vwCl (wM a k o.2) t.heap) (AM a)) _ s 0 0 (AM a)) (F0 m 0 ls []) from hgo _ _ hP hS
  clear hP hS
  intro H locs hP hS
  unfold fX6_step at h
  refine lv_aload_n hx hb dX6_step_0 rfl (lv_at hl 0 rfl) ?_
  refine lv_iload_n hx hb dX6_step_1 rfl (lv_at hl 1 rfl) ?_
  refine lv_iload_n hx hb dX6_step_2 rfl (lv_at hl 2 rfl) ?_
  refine lv_iload_n hx hb dX6_step_3 rfl (lv_at hl 3 rfl) ?_
  refine lv_iload hx hb dX6_step_4 (lv_at hl 5 rfl) ?_
  obtain ⟨r6, hc6, h⟩ := bd_o h
  refine callRI (va_runV (As := [.int x1, .int x2, .int x3, .int x5]) (rest := []) ⟨hx, hb, hml, hown, hts⟩ (mX6_bars l D a k _ _ _ _ _ _ hc6) ⟨callB_of 4 hts (wg_c wg290) rfl rfl rfl (hW _ wg274) (hW _ wg289) hdX6_bars ⟨Nat.le_of_ble_eq_true rfl, Nat.le_of_ble_eq_true rfl⟩, hW _ wg291, hW _ wg292⟩ (pw_V hK hP hD (ci := 6) (q0 := 0) rfl rfl) rfl rfl hl.1 rfl (lv_room (Nat.le_of_ble_eq_true rfl)) dX6_step_6 ⟨Nat.zero_le _, Nat.zero_le _⟩) ?_
  refine lv_istore (lv' := [(6, .int r6), (0, .ref (a 0)), (1, .int x1), (2, .int x2), (3, .int x3), (4, .int x4), (5, .int x5)]) hx hb dX6_step_9 hl (by decide) rfl (fun ls hl => ?_)
  refine lv_iload hx hb dX6_step_11 (lv_at hl 0 rfl) ?_
  refine lv_if_ge (tgt := 19) hx hb dX6_step_13 (by decide) (fun c13 => ?_) (fun c13 => ?_)
  · have h := ite_t h c13
    refine lv_aload_n hx hb dX6_step_19 rfl (lv_at hl 1 rfl) ?_
    refine va_get (D := D) (ci := 6) (v := .int (σ.1 1)) (C := RX6) (T := TX6) (N := 22) hx hb hW inX6G hown hK.1 hP 0 rfl rfl 4 (by decide) (hW _ wg293) (fun _ h9 => h9) rfl dX6_step_20 ?_
    refine lv_bipush (v := 40) hx hb dX6_step_23 (by decide) ?_
    refine lv_icmp_ne (tgt := 31) hx hb dX6_step_25 (by decide) (fun c25 => ?_) (fun c25 => ?_)
    · have h := ite_f h c25
      refine lv_aload_n hx hb dX6_step_31 rfl (lv_at hl 1 rfl) ?_
      refine lv_aload_n hx hb dX6_step_32 rfl (lv_at hl 1 rfl) ?_
      refine va_get (D := D) (ci := 6) (v := .int (σ.1 1)) (C := RX6) (T := TX6) (N := 22) hx hb hW inX6G hown hK.1 hP 0 rfl rfl 4 (by decide) (hW _ wg293) (fun _ h9 => h9) rfl dX6_step_33 ?_
      refine lv_iload_n hx hb dX6_step_36 rfl (lv_at hl 2 rfl) ?_
      refine lv_iload_n hx hb dX6_step_37 rfl (lv_at hl 3 rfl) ?_
      refine lv_iload_n hx hb dX6_step_38 rfl (lv_at hl 4 rfl) ?_
      refine lv_iload hx hb dX6_step_39 (lv_at hl 5 rfl) ?_
      refine lv_iload hx hb dX6_step_41 (lv_at hl 6 rfl) ?_
      obtain ⟨r43, hc43, h⟩ := bd_o h
      refine callWV (va_runV (As := [.int (σ.1 1), .int x1, .int x2, .int x3, .int x4, .int x5]) (rest := []) ⟨hx, hb, hml, hown, hts⟩ (mX6_lay l D a k _ _ _ _ _ _ _ _ hc43) ⟨callB_of 6 hts (wg_c wg295) rfl rfl rfl (hW _ wg274) (hW _ wg294) hdX6_lay ⟨Nat.le_of_ble_eq_true rfl, Nat.le_of_ble_eq_true rfl⟩, hW _ wg296, hW _ wg297⟩ (pw_V hK hP hD (ci := 6) (q0 := 0) rfl rfl) rfl rfl hl.1 rfl (lv_room (Nat.le_of_ble_eq_true rfl)) dX6_step_43 ⟨Nat.zero_le _, Nat.zero_le _⟩) hS (fun H locs hP hS => ?_)
      have hD : va_D (AM a) (wM a k r43) := dM hD
      refine lv_aload_n hx hb dX6_step_46 rfl (lv_at hl 1 rfl) ?_
      refine lv_dup hx hb dX6_step_47 rfl ?_
      refine va_get (D := D) (ci := 6) (v := .int (r43.1 1)) (C := RX6) (T := TX6) (N := 22) hx hb hW inX6G hown hK.1 hP 0 rfl rfl 4 (by decide) (hW _ wg293) (fun _ h9 => h9) rfl dX6_step_48 ?_
      refine lv_iconst (v := 1) hx hb dX6_step_51 (by decide) ?_
      refine lv_iadd hx hb dX6_step_52 ?_
      refine va_put (D := D) (ci := 6) (v := .int ((r43.1 1) + 1)) (ty := .int) (C := RX6) (T := TX6) (N := 22) hx hb hW inX6G tyX6 tyX6_ok nmX6 hown hK.1 hP hD hS 0 rfl rfl 4 (by decide) (hW _ wg293) (fun _ h9 => h9) rfl (by decide +kernel) rfl rfl (Nat.le_of_ble_eq_true rfl) dX6_step_53 (fun H locs hP hD9 hS => ?_)
      obtain ⟨s53, es53⟩ : ∃ z : ST, z = setF r43 1 ((r43.1 1) + 1) := ⟨_, rfl⟩
      have h := nm_o h es53
      have hP : va_P D vwCl (wM a k s53) H := by rw [es53]; exact hP
      have hD : va_D (AM a) (wM a k s53) := dM hD
      refine lv_aload_n hx hb dX6_step_56 rfl (lv_at hl 1 rfl) ?_
      refine va_get (D := D) (ci := 6) (v := .int (s53.1 1)) (C := RX6) (T := TX6) (N := 22) hx hb hW inX6G hown hK.1 hP 0 rfl rfl 4 (by decide) (hW _ wg293) (fun _ h9 => h9) rfl dX6_step_57 ?_
      refine lv_iconst (v := 1) hx hb dX6_step_60 (by decide) ?_
      refine lv_isub hx hb dX6_step_61 ?_
      have h := Option.some.inj h
      subst h
      exact W.iret (v := ((s53.1 1) - 1)) hx hb hr (fun t ht hW9 => ⟨⟨((s53.1 1) - 1), (), rfl, rfl, by show va_P _ _ _ t.heap; rw [ht]; exact hP⟩, hS.F ht⟩) hS.2.2 dX6_step_62 hlocks
    · have h := ite_t h c25
      refine lv_bipush (v := (-104)) hx hb dX6_step_28 (by decide) ?_
      have h := Option.some.inj h
      subst h
      exact W.iret (v := (-104)) hx hb hr (fun t ht hW9 => ⟨⟨(-104), (), rfl, rfl, by show va_P _ _ _ t.heap; rw [ht]; exact hP⟩, hS.F ht⟩) hS.2.2 dX6_step_30 hlocks
  · have h := ite_f h c13
    refine lv_iload hx hb dX6_step_16 (lv_at hl 0 rfl) ?_
    have h := Option.some.inj h
    subst h
    exact W.iret (v := r6) hx hb hr (fun t ht hW9 => ⟨⟨r6, (), rfl, rfl, by show va_P _ _ _ t.heap; rw [ht]; exact hP⟩, hS.F ht⟩) hS.2.2 dX6_step_18 hlocks
set_option maxHeartbeats 4000000 in
set_option maxRecDepth 100000 in
theorem mX6_change (l : Launch) (D : va_G) (a : Nat → Nat) (k : Nat → ClassId) (σ : ST) (x1 x2 x3 x4 x5 x6 : Int32) (o : Int32 × ST) (h : fX6_change σ x1 x2 x3 x4 x5 x6 = some o) : Met l yX6_change ((Cond.code yX6_change cX6_change 9 (some .int)) :: WG) ({ frames := 3, cells := 0, slots := 0, locals := 69 } : Room) (Pw D (tM k) (AM a) (wM a k σ) [.ref (a 0), .int x1, .int x2, .int x3, .int x4, .int x5, .int x6]) (va_Qi (S := Unit) (fun z _ => z = o.1) (fun _ t => va_P D vwCl (wM a k o.2) t.heap) (AM a)) 0 0 (AM a) := by
  refine Met.ofW (cc := cX6_change) (maxL := 9) (ret := (some .int)) (by decide) rfl ?_
  intro p e s m args below meth c s₁ B hml0 hv
  have C : Cx p s m args meth c cX6_change 9 RX6 (Cond.code yX6_change cX6_change 9 (some .int)) (some .int) := ⟨B.exec, B.bytes, B.returns, hml0, findClass_of_methodNamed B.named, atoms_spec (ws := (Cond.code yX6_change cX6_change 9 (some .int)) :: WG) B.pre, B.notSynchronized⟩
  obtain ⟨rfl, hP, hK, hD⟩ := hv
  have hK : Kx D (tM k) s := hK
  have C0 := C
  obtain ⟨hx, hb, hr, hml, hown, hts, hlocks⟩ := C0
  have hW : ∀ w ∈ WG, w.before _ s = true := fun w h => hts w (List.mem_cons_of_mem _ h)
  show W p l e ({ frames := 3, cells := 0, slots := 0, locals := 69 } : Room) s m _ below meth c s.heap [] 0 0 _ _
  have hl := lv_entry ([.ref (a 0), .int x1, .int x2, .int x3, .int x4, .int x5, .int x6]) (n := 9) (Nat.le_of_ble_eq_true rfl)
  rw [lg_entry_eq]
  generalize (lg_sl ([.ref (a 0), .int x1, .int x2, .int x3, .int x4, .int x5, .int x6]) ++ List.replicate (9 - (lg_sl ([.ref (a 0), .int x1, .int x2, .int x3, .int x4, .int x5, .int x6])).length) Slot.unset).toArray = ls at hl ⊢
  have hl : lv_has ls 9 [(0, .ref (a 0)), (1, .int x1), (2, .int x2), (3, .int x3), (4, .int x4), (5, .int x5), (6, .int x6)] := hl
  have hS : va_S (AM a) s.heap s.heap [] := va_S.rf
  suffices hgo : ∀ (H : Heap) (locs : List Loc), va_P D vwCl (wM a k σ) H → va_S (AM a) s.heap H locs → W p l e ({ frames := 3, cells := 0, slots := 0, locals := 69 } : Room) s m _ below meth c H locs 0 0 (MQ below (va_Qi (S := Unit) (fun z _ => z = o.1) (fun _ t => va_P D vwCl (wM a k o.2) t.heap) (AM a)) _ s 0 0 (AM a)) (F0 m 0 ls []) from hgo _ _ hP hS
  clear hP hS
  intro H locs hP hS
  unfold fX6_change at h
  refine lv_aload_n hx hb dX6_change_0 rfl (lv_at hl 0 rfl) ?_
  refine lv_iload_n hx hb dX6_change_1 rfl (lv_at hl 2 rfl) ?_
  refine lv_iload_n hx hb dX6_change_2 rfl (lv_at hl 3 rfl) ?_
  refine lv_iload hx hb dX6_change_3 (lv_at hl 4 rfl) ?_
  refine lv_iload hx hb dX6_change_5 (lv_at hl 6 rfl) ?_
  obtain ⟨r7, hc7, h⟩ := bd_o h
  refine callRI (va_runV (As := [.int x2, .int x3, .int x4, .int x6]) (rest := []) ⟨hx, hb, hml, hown, hts⟩ (mX6_bars l D a k _ _ _ _ _ _ hc7) ⟨callB_of 4 hts (wg_c wg290) rfl rfl rfl (hW _ wg274) (hW _ wg289) hdX6_bars ⟨Nat.le_of_ble_eq_true rfl, Nat.le_of_ble_eq_true rfl⟩, hW _ wg291, hW _ wg292⟩ (pw_V hK hP hD (ci := 6) (q0 := 0) rfl rfl) rfl rfl hl.1 rfl (lv_room (Nat.le_of_ble_eq_true rfl)) dX6_change_7 ⟨Nat.zero_le _, Nat.zero_le _⟩) ?_
  refine lv_istore (lv' := [(7, .int r7), (0, .ref (a 0)), (1, .int x1), (2, .int x2), (3, .int x3), (4, .int x4), (5, .int x5), (6, .int x6)]) hx hb dX6_change_10 hl (by decide) rfl (fun ls hl => ?_)
  refine lv_iload hx hb dX6_change_12 (lv_at hl 0 rfl) ?_
  refine lv_if_ge (tgt := 20) hx hb dX6_change_14 (by decide) (fun c14 => ?_) (fun c14 => ?_)
  · have h := ite_t h c14
    refine lv_iload_n hx hb dX6_change_20 rfl (lv_at hl 2 rfl) ?_
    refine lv_iconst (v := 0) hx hb dX6_change_21 (by decide) ?_
    refine lv_aload_n hx hb dX6_change_22 rfl (lv_at hl 1 rfl) ?_
    refine va_get (D := D) (ci := 6) (v := .int (σ.1 1)) (C := RX6) (T := TX6) (N := 22) hx hb hW inX6G hown hK.1 hP 0 rfl rfl 4 (by decide) (hW _ wg293) (fun _ h9 => h9) rfl dX6_change_23 ?_
    refine lv_iconst (v := 1) hx hb dX6_change_26 (by decide) ?_
    refine lv_isub hx hb dX6_change_27 ?_
    obtain ⟨r28, hc28, h⟩ := bd_o h
    refine callRI (va_runS (As := [.int x1, .int 0, .int ((σ.1 1) - 1)]) (rest := []) ⟨hx, hb, hml, hown, hts⟩ (mX6_in l _ _ _ _ hc28) ⟨callB_of 3 hts (wg_c wg273) rfl rfl rfl (hW _ wg274) (hW _ wg272) hdX6_in ⟨Nat.le_of_ble_eq_true rfl, Nat.le_of_ble_eq_true rfl⟩, hW _ wg275⟩ preEq rfl rfl hl.1 rfl (lv_room (Nat.le_of_ble_eq_true rfl)) dX6_change_28 ⟨Nat.zero_le _, Nat.zero_le _⟩) ?_
    refine lv_if_ne (tgt := 37) hx hb dX6_change_31 (by decide) (fun c31 => ?_) (fun c31 => ?_)
    · have h := ite_f h c31
      refine lv_aload_n hx hb dX6_change_37 rfl (lv_at hl 1 rfl) ?_
      refine va_get (D := D) (ci := 6) (v := .ref (a 4)) (C := RX6) (T := TX6) (N := 22) hx hb hW inX6G hown hK.1 hP 0 rfl rfl 5 (by decide) (hW _ wg285) (fun _ h9 => h9) rfl dX6_change_38 ?_
      refine lv_iload_n hx hb dX6_change_41 rfl (lv_at hl 2 rfl) ?_
      obtain ⟨hi42, h⟩ := ix_o h
      refine va_iald (D := D) hx hb hK.1 hP 4 3 rfl rfl hi42 dX6_change_42 ?_
      refine lv_topi (fun x8_43 ex8_43 => ?_)
      have h := nm_o h ex8_43
      refine lv_istore (lv' := [(8, .int x8_43), (7, .int r7), (0, .ref (a 0)), (1, .int x1), (2, .int x2), (3, .int x3), (4, .int x4), (5, .int x5), (6, .int x6)]) hx hb dX6_change_43 hl (by decide) rfl (fun ls hl => ?_)
      refine lv_aload_n hx hb dX6_change_45 rfl (lv_at hl 2 rfl) ?_
      refine lv_iload_n hx hb dX6_change_46 rfl (lv_at hl 3 rfl) ?_
      refine lv_iload_n hx hb dX6_change_47 rfl (lv_at hl 4 rfl) ?_
      refine lv_iload_n hx hb dX6_change_48 rfl (lv_at hl 5 rfl) ?_
      refine lv_iload hx hb dX6_change_49 (lv_at hl 6 rfl) ?_
      refine lv_iload hx hb dX6_change_51 (lv_at hl 7 rfl) ?_
      refine lv_iload hx hb dX6_change_53 (lv_at hl 8 rfl) ?_
      obtain ⟨r55, hc55, h⟩ := bd_o h
      refine callWV (va_runV (As := [.int x1, .int x2, .int x3, .int x4, .int x5, .int x6]) (rest := []) ⟨hx, hb, hml, hown, hts⟩ (mX6_lay l D a k _ _ _ _ _ _ _ _ hc55) ⟨callB_of 6 hts (wg_c wg295) rfl rfl rfl (hW _ wg274) (hW _ wg294) hdX6_lay ⟨Nat.le_of_ble_eq_true rfl, Nat.le_of_ble_eq_true rfl⟩, hW _ wg296, hW _ wg297⟩ (pw_V hK hP hD (ci := 6) (q0 := 0) rfl rfl) rfl rfl hl.1 rfl (lv_room (Nat.le_of_ble_eq_true rfl)) dX6_change_55 ⟨Nat.zero_le _, Nat.zero_le _⟩) hS (fun H locs hP hS => ?_)
      have hD : va_D (AM a) (wM a k r55) := dM hD
      refine lv_iload hx hb dX6_change_58 (lv_at hl 0 rfl) ?_
      have h := Option.some.inj h
      subst h
      exact W.iret (v := x8_43) hx hb hr (fun t ht hW9 => ⟨⟨x8_43, (), rfl, rfl, by show va_P _ _ _ t.heap; rw [ht]; exact hP⟩, hS.F ht⟩) hS.2.2 dX6_change_60 hlocks
    · have h := ite_t h c31
      refine lv_bipush (v := (-102)) hx hb dX6_change_34 (by decide) ?_
      have h := Option.some.inj h
      subst h
      exact W.iret (v := (-102)) hx hb hr (fun t ht hW9 => ⟨⟨(-102), (), rfl, rfl, by show va_P _ _ _ t.heap; rw [ht]; exact hP⟩, hS.F ht⟩) hS.2.2 dX6_change_36 hlocks
  · have h := ite_f h c14
    refine lv_iload hx hb dX6_change_17 (lv_at hl 0 rfl) ?_
    have h := Option.some.inj h
    subst h
    exact W.iret (v := r7) hx hb hr (fun t ht hW9 => ⟨⟨r7, (), rfl, rfl, by show va_P _ _ _ t.heap; rw [ht]; exact hP⟩, hS.F ht⟩) hS.2.2 dX6_change_19 hlocks
set_option maxHeartbeats 4000000 in
set_option maxRecDepth 100000 in
theorem mX6_place (l : Launch) (x0 : Int32) (o : Int32) (h : fX6_place x0 = some o) : Met l yX6_place ((Cond.code yX6_place cX6_place 1 (some .int)) :: WG) ({ frames := 0, cells := 0, slots := 0, locals := 0 } : Room) (fun v _ => v = ([.int x0] : List Value).toArray) (vp_Si (fun z => z = o)) 0 0 (fun _ => False) := by
  refine Met.ofW (cc := cX6_place) (maxL := 1) (ret := (some .int)) (by decide) rfl ?_
  intro p e s m args below meth c s₁ B hml0 hv
  have C : Cx p s m args meth c cX6_place 1 RX6 (Cond.code yX6_place cX6_place 1 (some .int)) (some .int) := ⟨B.exec, B.bytes, B.returns, hml0, findClass_of_methodNamed B.named, atoms_spec (ws := (Cond.code yX6_place cX6_place 1 (some .int)) :: WG) B.pre, B.notSynchronized⟩
  subst hv
  have C0 := C
  obtain ⟨hx, hb, hr, hml, hown, hts, hlocks⟩ := C0
  have hW : ∀ w ∈ WG, w.before _ s = true := fun w h => hts w (List.mem_cons_of_mem _ h)
  show W p l e ({ frames := 0, cells := 0, slots := 0, locals := 0 } : Room) s m _ below meth c s.heap [] 0 0 _ _
  have hl := lv_entry ([.int x0]) (n := 1) (Nat.le_of_ble_eq_true rfl)
  rw [lg_entry_eq]
  generalize (lg_sl ([.int x0]) ++ List.replicate (1 - (lg_sl ([.int x0])).length) Slot.unset).toArray = ls at hl ⊢
  have hl : lv_has ls 1 [(0, .int x0)] := hl
  unfold fX6_place at h
  refine lv_iload_n hx hb dX6_place_0 rfl (lv_at hl 0 rfl) ?_
  refine lv_sipush (v := 1024) hx hb dX6_place_1 (by decide) ?_
  refine lv_idiv hx hb dX6_place_4 (by decide) ?_
  have h := Option.some.inj h
  subst h
  exact W.iret (v := (x0 / 1024)) hx hb hr (fun t ht hW9 => ⟨(x0 / 1024), rfl, rfl, ht⟩) (fun _ h9 => absurd h9 List.not_mem_nil) dX6_place_5 hlocks
