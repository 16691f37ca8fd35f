set_option maxHeartbeats 4000000 in
set_option maxRecDepth 100000 in
theorem mX6_told (l : Launch) (D : va_G) (a : Nat → Nat) (k : Nat → ClassId) (σ : ST) (x1 x2 : Int32) (o : Int32) (h : fX6_told σ x1 x2 = some o) : Met l yX6_told ((Cond.code yX6_told cX6_told 3 (some .int)) :: WG) ({ frames := 1, cells := 0, slots := 0, locals := 22 } : Room) (Pw D (tM k) (AM a) (wM a k σ) [.ref (a 0), .int x1, .int x2]) (vp_Si (fun z => z = o)) 0 0 (fun _ => False) := by
  refine Met.ofW (cc := cX6_told) (maxL := 3) (ret := (some .int)) (by decide) rfl ?_
  intro p e s m args below meth c s₁ B hml0 hv
  have C : Cx p s m args meth c cX6_told 3 RX6 (Cond.code yX6_told cX6_told 3 (some .int)) (some .int) := ⟨B.exec, B.bytes, B.returns, hml0, findClass_of_methodNamed B.named, atoms_spec (ws := (Cond.code yX6_told cX6_told 3 (some .int)) :: WG) B.pre, B.notSynchronized⟩
  obtain ⟨rfl, hP, hK, hD⟩ := hv
  have hK : Kx D (tM k) s := hK
  have C0 := C
  obtain ⟨hx, hb, hr, hml, hown, hts, hlocks⟩ := C0
  have hW : ∀ w ∈ WG, w.before _ s = true := fun w h => hts w (List.mem_cons_of_mem _ h)
  show W p l e ({ frames := 1, cells := 0, slots := 0, locals := 22 } : Room) s m _ below meth c s.heap [] 0 0 _ _
  have hl := lv_entry ([.ref (a 0), .int x1, .int x2]) (n := 3) (Nat.le_of_ble_eq_true rfl)
  rw [lg_entry_eq]
  generalize (lg_sl ([.ref (a 0), .int x1, .int x2]) ++ List.replicate (3 - (lg_sl ([.ref (a 0), .int x1, .int x2])).length) Slot.unset).toArray = ls at hl ⊢
  have hl : lv_has ls 3 [(0, .ref (a 0)), (1, .int x1), (2, .int x2)] := hl
  unfold fX6_told at h
  refine lv_iload_n hx hb dX6_told_0 rfl (lv_at hl 1 rfl) ?_
  refine lv_iconst (v := 0) hx hb dX6_told_1 (by decide) ?_
  refine lv_aload_n hx hb dX6_told_2 rfl (lv_at hl 0 rfl) ?_
  refine va_get (D := D) (ci := 6) (v := .int (σ.1 1)) (C := RX6) (T := TX6) (N := 22) hx hb hW inX6G hown hK.1 hP 0 rfl rfl 4 (by decide) (hW _ wg293) (fun _ h9 => h9) rfl dX6_told_3 ?_
  refine lv_iconst (v := 1) hx hb dX6_told_6 (by decide) ?_
  refine lv_isub hx hb dX6_told_7 ?_
  obtain ⟨r8, hc8, h⟩ := bd_o h
  refine callRI (va_runS (As := [.int x1, .int 0, .int ((σ.1 1) - 1)]) (rest := []) ⟨hx, hb, hml, hown, hts⟩ (mX6_in l _ _ _ _ hc8) ⟨callB_of 3 hts (wg_c wg273) rfl rfl rfl (hW _ wg274) (hW _ wg272) hdX6_in ⟨Nat.le_of_ble_eq_true rfl, Nat.le_of_ble_eq_true rfl⟩, hW _ wg275⟩ preEq rfl rfl hl.1 rfl (lv_room (Nat.le_of_ble_eq_true rfl)) dX6_told_8 ⟨Nat.zero_le _, Nat.zero_le _⟩) ?_
  refine lv_if_ne (tgt := 17) hx hb dX6_told_11 (by decide) (fun c11 => ?_) (fun c11 => ?_)
  · have h := ite_f h c11
    refine lv_iload_n hx hb dX6_told_17 rfl (lv_at hl 2 rfl) ?_
    by_cases c18_0 : x2 = 0
    · have h := ite_t h c18_0
      refine lv_tableIn (tgt := 52) hx hb dX6_told_18 (by rw [c18_0]; decide) (by rw [c18_0]; decide) (by rw [c18_0]; rfl) (by decide) ?_
      refine lv_aload_n hx hb dX6_told_52 rfl (lv_at hl 0 rfl) ?_
      refine va_get (D := D) (ci := 6) (v := .ref (a 4)) (C := RX6) (T := TX6) (N := 22) hx hb hW inX6G hown hK.1 hP 0 rfl rfl 5 (by decide) (hW _ wg285) (fun _ h9 => h9) rfl dX6_told_53 ?_
      refine lv_iload_n hx hb dX6_told_56 rfl (lv_at hl 1 rfl) ?_
      obtain ⟨hi57, h⟩ := ix_o h
      refine va_iald (D := D) hx hb hK.1 hP 4 3 rfl rfl hi57 dX6_told_57 ?_
      have h := Option.some.inj h
      subst h
      exact W.iret (v := (σ.2 3 x1.toNatClampNeg)) hx hb hr (fun t ht hW9 => ⟨(σ.2 3 x1.toNatClampNeg), rfl, rfl, ht⟩) (fun _ h9 => absurd h9 List.not_mem_nil) dX6_told_58 hlocks
    · have h := ite_f h c18_0
      by_cases c18_1 : x2 = 1
      · have h := ite_t h c18_1
        refine lv_tableIn (tgt := 59) hx hb dX6_told_18 (by rw [c18_1]; decide) (by rw [c18_1]; decide) (by rw [c18_1]; rfl) (by decide) ?_
        refine lv_aload_n hx hb dX6_told_59 rfl (lv_at hl 0 rfl) ?_
        refine va_get (D := D) (ci := 6) (v := .ref (a 5)) (C := RX6) (T := TX6) (N := 22) hx hb hW inX6G hown hK.1 hP 0 rfl rfl 6 (by decide) (hW _ wg286) (fun _ h9 => h9) rfl dX6_told_60 ?_
        refine lv_iload_n hx hb dX6_told_63 rfl (lv_at hl 1 rfl) ?_
        obtain ⟨hi64, h⟩ := ix_o h
        refine va_iald (D := D) hx hb hK.1 hP 5 4 rfl rfl hi64 dX6_told_64 ?_
        have h := Option.some.inj h
        subst h
        exact W.iret (v := (σ.2 4 x1.toNatClampNeg)) hx hb hr (fun t ht hW9 => ⟨(σ.2 4 x1.toNatClampNeg), rfl, rfl, ht⟩) (fun _ h9 => absurd h9 List.not_mem_nil) dX6_told_65 hlocks
      · have h := ite_f h c18_1
        by_cases c18_2 : x2 = 2
        · have h := ite_t h c18_2
          refine lv_tableIn (tgt := 66) hx hb dX6_told_18 (by rw [c18_2]; decide) (by rw [c18_2]; decide) (by rw [c18_2]; rfl) (by decide) ?_
          refine lv_aload_n hx hb dX6_told_66 rfl (lv_at hl 0 rfl) ?_
          refine va_get (D := D) (ci := 6) (v := .ref (a 6)) (C := RX6) (T := TX6) (N := 22) hx hb hW inX6G hown hK.1 hP 0 rfl rfl 7 (by decide) (hW _ wg287) (fun _ h9 => h9) rfl dX6_told_67 ?_
          refine lv_iload_n hx hb dX6_told_70 rfl (lv_at hl 1 rfl) ?_
          obtain ⟨hi71, h⟩ := ix_o h
          refine va_iald (D := D) hx hb hK.1 hP 6 5 rfl rfl hi71 dX6_told_71 ?_
          have h := Option.some.inj h
          subst h
          exact W.iret (v := (σ.2 5 x1.toNatClampNeg)) hx hb hr (fun t ht hW9 => ⟨(σ.2 5 x1.toNatClampNeg), rfl, rfl, ht⟩) (fun _ h9 => absurd h9 List.not_mem_nil) dX6_told_72 hlocks
        · have h := ite_f h c18_2
          by_cases c18_3 : x2 = 3
          · have h := ite_t h c18_3
            refine lv_tableIn (tgt := 73) hx hb dX6_told_18 (by rw [c18_3]; decide) (by rw [c18_3]; decide) (by rw [c18_3]; rfl) (by decide) ?_
            refine lv_aload_n hx hb dX6_told_73 rfl (lv_at hl 0 rfl) ?_
            refine va_get (D := D) (ci := 6) (v := .ref (a 8)) (C := RX6) (T := TX6) (N := 22) hx hb hW inX6G hown hK.1 hP 0 rfl rfl 9 (by decide) (hW _ wg284) (fun _ h9 => h9) rfl dX6_told_74 ?_
            refine lv_iload_n hx hb dX6_told_77 rfl (lv_at hl 1 rfl) ?_
            obtain ⟨hi78, h⟩ := ix_o h
            refine va_iald (D := D) hx hb hK.1 hP 8 7 rfl rfl hi78 dX6_told_78 ?_
            have h := Option.some.inj h
            subst h
            exact W.iret (v := (σ.2 7 x1.toNatClampNeg)) hx hb hr (fun t ht hW9 => ⟨(σ.2 7 x1.toNatClampNeg), rfl, rfl, ht⟩) (fun _ h9 => absurd h9 List.not_mem_nil) dX6_told_79 hlocks
          · have h := ite_f h c18_3
            by_cases c18_4 : x2 = 4
            · have h := ite_t h c18_4
              refine lv_tableIn (tgt := 80) hx hb dX6_told_18 (by rw [c18_4]; decide) (by rw [c18_4]; decide) (by rw [c18_4]; rfl) (by decide) ?_
              refine lv_aload_n hx hb dX6_told_80 rfl (lv_at hl 0 rfl) ?_
              refine va_get (D := D) (ci := 6) (v := .ref (a 7)) (C := RX6) (T := TX6) (N := 22) hx hb hW inX6G hown hK.1 hP 0 rfl rfl 8 (by decide) (hW _ wg288) (fun _ h9 => h9) rfl dX6_told_81 ?_
              refine lv_iload_n hx hb dX6_told_84 rfl (lv_at hl 1 rfl) ?_
              obtain ⟨hi85, h⟩ := ix_o h
              refine va_iald (D := D) hx hb hK.1 hP 7 6 rfl rfl hi85 dX6_told_85 ?_
              have h := Option.some.inj h
              subst h
              exact W.iret (v := (σ.2 6 x1.toNatClampNeg)) hx hb hr (fun t ht hW9 => ⟨(σ.2 6 x1.toNatClampNeg), rfl, rfl, ht⟩) (fun _ h9 => absurd h9 List.not_mem_nil) dX6_told_86 hlocks
            · have h := ite_f h c18_4
              refine lv_tableOut (tgt := 87) hx hb dX6_told_18 (by have z0 := lv_neT c18_0 (a := 0) (by decide); have z1 := lv_neT c18_1 (a := 1) (by decide); have z2 := lv_neT c18_2 (a := 2) (by decide); have z3 := lv_neT c18_3 (a := 3) (by decide); have z4 := lv_neT c18_4 (a := 4) (by decide); omega) (by decide) ?_
              refine lv_bipush (v := (-102)) hx hb dX6_told_87 (by decide) ?_
              have h := Option.some.inj h
              subst h
              exact W.iret (v := (-102)) hx hb hr (fun t ht hW9 => ⟨(-102), rfl, rfl, ht⟩) (fun _ h9 => absurd h9 List.not_mem_nil) dX6_told_89 hlocks
  · have h := ite_t h c11
    refine lv_bipush (v := (-102)) hx hb dX6_told_14 (by decide) ?_
    have h := Option.some.inj h
    subst h
    exact W.iret (v := (-102)) hx hb hr (fun t ht hW9 => ⟨(-102), rfl, rfl, ht⟩) (fun _ h9 => absurd h9 List.not_mem_nil) dX6_told_16 hlocks
set_option maxHeartbeats 4000000 in
set_option maxRecDepth 100000 in
theorem mX6_count (l : Launch) (D : va_G) (a : Nat → Nat) (k : Nat → ClassId) (σ : ST) (x1 : Int32) (o : Int32) (h : fX6_count σ x1 = some o) : Met l yX6_count ((Cond.code yX6_count cX6_count 2 (some .int)) :: WG) ({ frames := 0, cells := 0, slots := 0, locals := 0 } : Room) (Pw D (tM k) (AM a) (wM a k σ) [.ref (a 0), .int x1]) (vp_Si (fun z => z = o)) 0 0 (fun _ => False) := by
  refine Met.ofW (cc := cX6_count) (maxL := 2) (ret := (some .int)) (by decide) rfl ?_
  intro p e s m args below meth c s₁ B hml0 hv
  have C : Cx p s m args meth c cX6_count 2 RX6 (Cond.code yX6_count cX6_count 2 (some .int)) (some .int) := ⟨B.exec, B.bytes, B.returns, hml0, findClass_of_methodNamed B.named, atoms_spec (ws := (Cond.code yX6_count cX6_count 2 (some .int)) :: WG) B.pre, B.notSynchronized⟩
  obtain ⟨rfl, hP, hK, hD⟩ := hv
  have hK : Kx D (tM k) s := hK
  have C0 := C
  obtain ⟨hx, hb, hr, hml, hown, hts, hlocks⟩ := C0
  have hW : ∀ w ∈ WG, w.before _ s = true := fun w h => hts w (List.mem_cons_of_mem _ h)
  show W p l e ({ frames := 0, cells := 0, slots := 0, locals := 0 } : Room) s m _ below meth c s.heap [] 0 0 _ _
  have hl := lv_entry ([.ref (a 0), .int x1]) (n := 2) (Nat.le_of_ble_eq_true rfl)
  rw [lg_entry_eq]
  generalize (lg_sl ([.ref (a 0), .int x1]) ++ List.replicate (2 - (lg_sl ([.ref (a 0), .int x1])).length) Slot.unset).toArray = ls at hl ⊢
  have hl : lv_has ls 2 [(0, .ref (a 0)), (1, .int x1)] := hl
  unfold fX6_count at h
  refine lv_iload_n hx hb dX6_count_0 rfl (lv_at hl 1 rfl) ?_
  by_cases c1_0 : x1 = 0
  · have h := ite_t h c1_0
    refine lv_tableIn (tgt := 28) hx hb dX6_count_1 (by rw [c1_0]; decide) (by rw [c1_0]; decide) (by rw [c1_0]; rfl) (by decide) ?_
    refine lv_aload_n hx hb dX6_count_28 rfl (lv_at hl 0 rfl) ?_
    refine va_get (D := D) (ci := 6) (v := .int (σ.1 0)) (C := RX6) (T := TX6) (N := 22) hx hb hW inX6G hown hK.1 hP 0 rfl rfl 0 (by decide) (hW _ wg271) (fun _ h9 => h9) rfl dX6_count_29 ?_
    have h := Option.some.inj h
    subst h
    exact W.iret (v := (σ.1 0)) hx hb hr (fun t ht hW9 => ⟨(σ.1 0), rfl, rfl, ht⟩) (fun _ h9 => absurd h9 List.not_mem_nil) dX6_count_32 hlocks
  · have h := ite_f h c1_0
    by_cases c1_1 : x1 = 1
    · have h := ite_t h c1_1
      refine lv_tableIn (tgt := 33) hx hb dX6_count_1 (by rw [c1_1]; decide) (by rw [c1_1]; decide) (by rw [c1_1]; rfl) (by decide) ?_
      refine lv_aload_n hx hb dX6_count_33 rfl (lv_at hl 0 rfl) ?_
      refine va_get (D := D) (ci := 6) (v := .int (σ.1 1)) (C := RX6) (T := TX6) (N := 22) hx hb hW inX6G hown hK.1 hP 0 rfl rfl 4 (by decide) (hW _ wg293) (fun _ h9 => h9) rfl dX6_count_34 ?_
      have h := Option.some.inj h
      subst h
      exact W.iret (v := (σ.1 1)) hx hb hr (fun t ht hW9 => ⟨(σ.1 1), rfl, rfl, ht⟩) (fun _ h9 => absurd h9 List.not_mem_nil) dX6_count_37 hlocks
    · have h := ite_f h c1_1
      by_cases c1_2 : x1 = 2
      · have h := ite_t h c1_2
        refine lv_tableIn (tgt := 38) hx hb dX6_count_1 (by rw [c1_2]; decide) (by rw [c1_2]; decide) (by rw [c1_2]; rfl) (by decide) ?_
        refine lv_aload_n hx hb dX6_count_38 rfl (lv_at hl 0 rfl) ?_
        refine va_get (D := D) (ci := 6) (v := .int (σ.1 2)) (C := RX6) (T := TX6) (N := 22) hx hb hW inX6G hown hK.1 hP 0 rfl rfl 10 (by decide) (hW _ wg279) (fun _ h9 => h9) rfl dX6_count_39 ?_
        refine lv_if_eq (tgt := 49) hx hb dX6_count_42 (by decide) (fun c42 => ?_) (fun c42 => ?_)
        · have h := ite_t h c42
          refine lv_iconst (v := 0) hx hb dX6_count_49 (by decide) ?_
          have h := Option.some.inj h
          subst h
          exact W.iret (v := 0) hx hb hr (fun t ht hW9 => ⟨0, rfl, rfl, ht⟩) (fun _ h9 => absurd h9 List.not_mem_nil) dX6_count_50 hlocks
        · have h := ite_f h c42
          refine lv_iconst (v := 1) hx hb dX6_count_45 (by decide) ?_
          refine lv_goto (tgt := 50) hx hb dX6_count_46 (by decide) ?_
          have h := Option.some.inj h
          subst h
          exact W.iret (v := 1) hx hb hr (fun t ht hW9 => ⟨1, rfl, rfl, ht⟩) (fun _ h9 => absurd h9 List.not_mem_nil) dX6_count_50 hlocks
      · have h := ite_f h c1_2
        refine lv_tableOut (tgt := 51) hx hb dX6_count_1 (by have z0 := lv_neT c1_0 (a := 0) (by decide); have z1 := lv_neT c1_1 (a := 1) (by decide); have z2 := lv_neT c1_2 (a := 2) (by decide); omega) (by decide) ?_
        refine lv_bipush (v := (-102)) hx hb dX6_count_51 (by decide) ?_
        have h := Option.some.inj h
        subst h
        exact W.iret (v := (-102)) hx hb hr (fun t ht hW9 => ⟨(-102), rfl, rfl, ht⟩) (fun _ h9 => absurd h9 List.not_mem_nil) dX6_count_53 hlocks
set_option maxHeartbeats 4000000 in
set_option maxRecDepth 100000 in
theorem mX6_clear (l : Launch) (D : va_G) (a : Nat → Nat) (k : Nat → ClassId) (σ : ST) (o : Int32 × ST) (h : fX6_clear σ = some o) : Met l yX6_clear ((Cond.code yX6_clear cX6_clear 2 (some .int)) :: WG) ({ frames := 0, cells := 0, slots := 0, locals := 0 } : Room) (Pw D (tM k) (AM a) (wM a k σ) [.ref (a 0)]) (va_Qi (S := Unit) (fun z _ => z = o.1) (fun _ t => va_P D vwCl (wM a k o.2) t.heap) (AM a)) 0 0 (AM a) := by
  refine Met.ofW (cc := cX6_clear) (maxL := 2) (ret := (some .int)) (by decide) rfl ?_
  intro p e s m args below meth c s₁ B hml0 hv
  have C : Cx p s m args meth c cX6_clear 2 RX6 (Cond.code yX6_clear cX6_clear 2 (some .int)) (some .int) := ⟨B.exec, B.bytes, B.returns, hml0, findClass_of_methodNamed B.named, atoms_spec (ws := (Cond.code yX6_clear cX6_clear 2 (some .int)) :: WG) B.pre, B.notSynchronized⟩
  obtain ⟨rfl, hP, hK, hD⟩ := hv
  have hK : Kx D (tM k) s := hK
  have C0 := C
  obtain ⟨hx, hb, hr, hml, hown, hts, hlocks⟩ := C0
  have hW : ∀ w ∈ WG, w.before _ s = true := fun w h => hts w (List.mem_cons_of_mem _ h)
  show W p l e ({ frames := 0, cells := 0, slots := 0, locals := 0 } : Room) s m _ below meth c s.heap [] 0 0 _ _
  have hl := lv_entry ([.ref (a 0)]) (n := 2) (Nat.le_of_ble_eq_true rfl)
  rw [lg_entry_eq]
  generalize (lg_sl ([.ref (a 0)]) ++ List.replicate (2 - (lg_sl ([.ref (a 0)])).length) Slot.unset).toArray = ls at hl ⊢
  have hl : lv_has ls 2 [(0, .ref (a 0))] := hl
  have hS : va_S (AM a) s.heap s.heap [] := va_S.rf
  suffices hgo : ∀ (H : Heap) (locs : List Loc), va_P D vwCl (wM a k σ) H → va_S (AM a) s.heap H locs → W p l e ({ frames := 0, cells := 0, slots := 0, locals := 0 } : Room) s m _ below meth c H locs 0 0 (MQ below (va_Qi (S := Unit) (fun z _ => z = o.1) (fun _ t => va_P D vwCl (wM a k o.2) t.heap) (AM a)) _ s 0 0 (AM a)) (F0 m 0 ls []) from hgo _ _ hP hS
  clear hP hS
  intro H locs hP hS
  unfold fX6_clear at h
  refine lv_aload_n hx hb dX6_clear_0 rfl (lv_at hl 0 rfl) ?_
  refine va_get (D := D) (ci := 6) (v := .int (σ.1 1)) (C := RX6) (T := TX6) (N := 22) hx hb hW inX6G hown hK.1 hP 0 rfl rfl 4 (by decide) (hW _ wg293) (fun _ h9 => h9) rfl dX6_clear_1 ?_
  refine lv_topi (fun x1_4 ex1_4 => ?_)
  have h := nm_o h ex1_4
  refine lv_istore_n (lv' := [(1, .int x1_4), (0, .ref (a 0))]) hx hb dX6_clear_4 rfl hl (by decide) rfl (fun ls hl => ?_)
  refine lv_aload_n hx hb dX6_clear_5 rfl (lv_at hl 1 rfl) ?_
  refine lv_iconst (v := 0) hx hb dX6_clear_6 (by decide) ?_
  refine va_put (D := D) (ci := 6) (v := .int 0) (ty := .int) (C := RX6) (T := TX6) (N := 22) hx hb hW inX6G tyX6 tyX6_ok nmX6 hown hK.1 hP hD hS 0 rfl rfl 0 (by decide) (hW _ wg271) (fun _ h9 => h9) rfl (by decide +kernel) rfl rfl (Nat.le_of_ble_eq_true rfl) dX6_clear_7 (fun H locs hP hD9 hS => ?_)
  obtain ⟨s7, es7⟩ : ∃ z : ST, z = setF σ 0 0 := ⟨_, rfl⟩
  have h := nm_o h es7
  have hP : va_P D vwCl (wM a k s7) H := by rw [es7]; exact hP
  have hD : va_D (AM a) (wM a k s7) := dM hD
  refine lv_aload_n hx hb dX6_clear_10 rfl (lv_at hl 1 rfl) ?_
  refine lv_iconst (v := 0) hx hb dX6_clear_11 (by decide) ?_
  refine va_put (D := D) (ci := 6) (v := .int 0) (ty := .int) (C := RX6) (T := TX6) (N := 22) hx hb hW inX6G tyX6 tyX6_ok nmX6 hown hK.1 hP hD hS 0 rfl rfl 4 (by decide) (hW _ wg293) (fun _ h9 => h9) rfl (by decide +kernel) rfl rfl (Nat.le_of_ble_eq_true rfl) dX6_clear_12 (fun H locs hP hD9 hS => ?_)
  obtain ⟨s12, es12⟩ : ∃ z : ST, z = setF s7 1 0 := ⟨_, rfl⟩
  have h := nm_o h es12
  have hP : va_P D vwCl (wM a k s12) H := by rw [es12]; exact hP
  have hD : va_D (AM a) (wM a k s12) := dM hD
  refine lv_aload_n hx hb dX6_clear_15 rfl (lv_at hl 1 rfl) ?_
  refine lv_iconst (v := 0) hx hb dX6_clear_16 (by decide) ?_
  refine va_put (D := D) (ci := 6) (v := .int 0) (ty := .boolean) (C := RX6) (T := TX6) (N := 22) hx hb hW inX6G tyX6 tyX6_ok nmX6 hown hK.1 hP hD hS 0 rfl rfl 10 (by decide) (hW _ wg279) (fun _ h9 => h9) rfl (by decide +kernel) rfl rfl (Nat.le_of_ble_eq_true rfl) dX6_clear_17 (fun H locs hP hD9 hS => ?_)
  obtain ⟨s17, es17⟩ : ∃ z : ST, z = setF s12 2 0 := ⟨_, rfl⟩
  have h := nm_o h es17
  have hP : va_P D vwCl (wM a k s17) H := by rw [es17]; exact hP
  have hD : va_D (AM a) (wM a k s17) := dM hD
  refine lv_aload_n hx hb dX6_clear_20 rfl (lv_at hl 1 rfl) ?_
  refine lv_iconst (v := 0) hx hb dX6_clear_21 (by decide) ?_
  refine va_put (D := D) (ci := 6) (v := .int 0) (ty := .boolean) (C := RX6) (T := TX6) (N := 22) hx hb hW inX6G tyX6 tyX6_ok nmX6 hown hK.1 hP hD hS 0 rfl rfl 16 (by decide) (hW _ wg365) (fun _ h9 => h9) rfl (by decide +kernel) rfl rfl (Nat.le_of_ble_eq_true rfl) dX6_clear_22 (fun H locs hP hD9 hS => ?_)
  obtain ⟨s22, es22⟩ : ∃ z : ST, z = setF s17 4 0 := ⟨_, rfl⟩
  have h := nm_o h es22
  have hP : va_P D vwCl (wM a k s22) H := by rw [es22]; exact hP
  have hD : va_D (AM a) (wM a k s22) := dM hD
  refine lv_iload_n hx hb dX6_clear_25 rfl (lv_at hl 0 rfl) ?_
  have h := Option.some.inj h
  subst h
  exact W.iret (v := x1_4) hx hb hr (fun t ht hW9 => ⟨⟨x1_4, (), rfl, rfl, by show va_P _ _ _ t.heap; rw [ht]; exact hP⟩, hS.F ht⟩) hS.2.2 dX6_clear_26 hlocks
