set_option maxHeartbeats 4000000 in
set_option maxRecDepth 100000 in
theorem bX6_atOnce_L137 {p : Program} {l : Launch} {e : Env} {s : State} {m : MethodId} {args : Array Value} {below : List Frame} {meth : Method} {c : Code} {D : va_G} {a : Nat → Nat} {k : Nat → ClassId} {σ : ST} {o : Int32} (C : Cx p s m args meth c cX6_atOnce 7 RX6 (Cond.code yX6_atOnce cX6_atOnce 7 (some .int)) (some .int)) (hK : Kx D (tM k) s) (hP : va_P D vwCl (wM a k σ) s.heap) (hD : va_D (AM a) (wM a k σ)) (k26 : Int32 → Int32 → Int32 → Option (Int32)) (hk26 : ∀ (x1 x2 x3 : Int32) (ls : Array Slot), lv_has ls 7 [(0, .ref (a 0)), (1, .int x1), (2, .int x2), (3, .int x3)] → k26 x1 x2 x3 = some o → W p l e ({ frames := 2, cells := 0, slots := 0, locals := 43 } : Room) s m args below meth c s.heap [] 0 0 (MQ below (vp_Si (fun z => z = o)) args s 0 0 (fun _ => False)) (F0 m 26 ls [])) (k40 : Int32 → Int32 → Int32 → Int32 → Int32 → Option (Int32)) (hk40 : ∀ (x1 x2 x3 x4 x5 : Int32) (ls : Array Slot), lv_has ls 7 [(0, .ref (a 0)), (1, .int x1), (2, .int x2), (3, .int x3), (4, .int x4), (5, .int x5)] → k40 x1 x2 x3 x4 x5 = some o → W p l e ({ frames := 2, cells := 0, slots := 0, locals := 43 } : Room) s m args below meth c s.heap [] 0 0 (MQ below (vp_Si (fun z => z = o)) args s 0 0 (fun _ => False)) (F0 m 40 ls [])) : ∀ (x1 x2 x3 x5 y0 y1 : Int32) (ls : Array Slot), lv_has ls 7 [(0, .ref (a 0)), (1, .int x1), (2, .int x2), (3, .int x3), (5, .int x5)] → fX6_atOnce_L137 σ k26 k40 x1 x2 x3 x5 y0 y1 = some o → W p l e ({ frames := 2, cells := 0, slots := 0, locals := 43 } : Room) s m args below meth c s.heap [] 0 0 (MQ below (vp_Si (fun z => z = o)) args s 0 0 (fun _ => False)) (F0 m 137 ls [.int y1, .int y0]) := by
  have C0 := C
  obtain ⟨hx, hb, hr, hml, hown, hts, hlocks⟩ := C0
  have hW : ∀ w ∈ WG, w.before args s = true := fun w h => hts w (List.mem_cons_of_mem _ h)
  intro x1 x2 x3 x5 y0 y1 ls hl h
  unfold fX6_atOnce_L137 at h
  refine lv_iadd hx hb dX6_atOnce_137 ?_
  refine lv_topi (fun x4_138 ex4_138 => ?_)
  have h := nm_o h ex4_138
  refine lv_istore (lv' := [(4, .int x4_138), (0, .ref (a 0)), (1, .int x1), (2, .int x2), (3, .int x3), (5, .int x5)]) hx hb dX6_atOnce_138 hl (by decide) rfl (fun ls hl => ?_)
  obtain ⟨x5_140, ex5_140⟩ : ∃ y : Int32, y = x5 + 1 := ⟨_, rfl⟩
  have h := nm_o h ex5_140
  refine lv_iinc (v := x5_140) (lv' := [(5, .int x5_140), (4, .int x4_138), (0, .ref (a 0)), (1, .int x1), (2, .int x2), (3, .int x3)]) hx hb dX6_atOnce_140 hl (k := 5) rfl (by rw [ex5_140]; rfl) (by decide) rfl (fun ls hl => ?_)
  refine lv_goto (tgt := 40) hx hb dX6_atOnce_143 (by decide) ?_
  exact hk40 _ _ _ _ _ ls (lv_sub hl [2, 3, 4, 5, 1, 0] rfl) h
set_option maxHeartbeats 4000000 in
set_option maxRecDepth 100000 in
theorem bX6_atOnce_L88 {p : Program} {l : Launch} {e : Env} {s : State} {m : MethodId} {args : Array Value} {below : List Frame} {meth : Method} {c : Code} {D : va_G} {a : Nat → Nat} {k : Nat → ClassId} {σ : ST} {o : Int32} (C : Cx p s m args meth c cX6_atOnce 7 RX6 (Cond.code yX6_atOnce cX6_atOnce 7 (some .int)) (some .int)) (hK : Kx D (tM k) s) (hP : va_P D vwCl (wM a k σ) s.heap) (hD : va_D (AM a) (wM a k σ)) (k26 : Int32 → Int32 → Int32 → Option (Int32)) (hk26 : ∀ (x1 x2 x3 : Int32) (ls : Array Slot), lv_has ls 7 [(0, .ref (a 0)), (1, .int x1), (2, .int x2), (3, .int x3)] → k26 x1 x2 x3 = some o → W p l e ({ frames := 2, cells := 0, slots := 0, locals := 43 } : Room) s m args below meth c s.heap [] 0 0 (MQ below (vp_Si (fun z => z = o)) args s 0 0 (fun _ => False)) (F0 m 26 ls [])) (k40 : Int32 → Int32 → Int32 → Int32 → Int32 → Option (Int32)) (hk40 : ∀ (x1 x2 x3 x4 x5 : Int32) (ls : Array Slot), lv_has ls 7 [(0, .ref (a 0)), (1, .int x1), (2, .int x2), (3, .int x3), (4, .int x4), (5, .int x5)] → k40 x1 x2 x3 x4 x5 = some o → W p l e ({ frames := 2, cells := 0, slots := 0, locals := 43 } : Room) s m args below meth c s.heap [] 0 0 (MQ below (vp_Si (fun z => z = o)) args s 0 0 (fun _ => False)) (F0 m 40 ls [])) : ∀ (x1 x2 x3 x5 y0 : Int32) (ls : Array Slot), lv_has ls 7 [(0, .ref (a 0)), (1, .int x1), (2, .int x2), (3, .int x3), (5, .int x5)] → fX6_atOnce_L88 σ k26 k40 x1 x2 x3 x5 y0 = some o → W p l e ({ frames := 2, cells := 0, slots := 0, locals := 43 } : Room) s m args below meth c s.heap [] 0 0 (MQ below (vp_Si (fun z => z = o)) args s 0 0 (fun _ => False)) (F0 m 88 ls [.int y0]) := by
  have C0 := C
  obtain ⟨hx, hb, hr, hml, hown, hts, hlocks⟩ := C0
  have hW : ∀ w ∈ WG, w.before args s = true := fun w h => hts w (List.mem_cons_of_mem _ h)
  intro x1 x2 x3 x5 y0 ls hl h
  unfold fX6_atOnce_L88 at h
  refine lv_iconst (v := 0) hx hb dX6_atOnce_88 (by decide) ?_
  refine lv_goto (tgt := 137) hx hb dX6_atOnce_89 (by decide) ?_
  exact bX6_atOnce_L137 C hK hP hD _ hk26 _ hk40 _ _ _ _ _ _ ls (lv_sub hl [0, 1, 2, 3, 4] rfl) h
set_option maxHeartbeats 4000000 in
set_option maxRecDepth 100000 in
theorem bX6_atOnce_L158 {p : Program} {l : Launch} {e : Env} {s : State} {m : MethodId} {args : Array Value} {below : List Frame} {meth : Method} {c : Code} {D : va_G} {a : Nat → Nat} {k : Nat → ClassId} {σ : ST} {o : Int32} (C : Cx p s m args meth c cX6_atOnce 7 RX6 (Cond.code yX6_atOnce cX6_atOnce 7 (some .int)) (some .int)) (hK : Kx D (tM k) s) (hP : va_P D vwCl (wM a k σ) s.heap) (hD : va_D (AM a) (wM a k σ)) (k26 : Int32 → Int32 → Int32 → Option (Int32)) (hk26 : ∀ (x1 x2 x3 : Int32) (ls : Array Slot), lv_has ls 7 [(0, .ref (a 0)), (1, .int x1), (2, .int x2), (3, .int x3)] → k26 x1 x2 x3 = some o → W p l e ({ frames := 2, cells := 0, slots := 0, locals := 43 } : Room) s m args below meth c s.heap [] 0 0 (MQ below (vp_Si (fun z => z = o)) args s 0 0 (fun _ => False)) (F0 m 26 ls [])) : ∀ (x1 x3 y0 : Int32) (ls : Array Slot), lv_has ls 7 [(0, .ref (a 0)), (1, .int x1), (3, .int x3)] → fX6_atOnce_L158 σ k26 x1 x3 y0 = some o → W p l e ({ frames := 2, cells := 0, slots := 0, locals := 43 } : Room) s m args below meth c s.heap [] 0 0 (MQ below (vp_Si (fun z => z = o)) args s 0 0 (fun _ => False)) (F0 m 158 ls [.int y0]) := by
  have C0 := C
  obtain ⟨hx, hb, hr, hml, hown, hts, hlocks⟩ := C0
  have hW : ∀ w ∈ WG, w.before args s = true := fun w h => hts w (List.mem_cons_of_mem _ h)
  intro x1 x3 y0 ls hl h
  unfold fX6_atOnce_L158 at h
  refine lv_topi (fun x2_158 ex2_158 => ?_)
  have h := nm_o h ex2_158
  refine lv_istore_n (lv' := [(2, .int x2_158), (0, .ref (a 0)), (1, .int x1), (3, .int x3)]) hx hb dX6_atOnce_158 rfl hl (by decide) rfl (fun ls hl => ?_)
  obtain ⟨x3_159, ex3_159⟩ : ∃ y : Int32, y = x3 + 1 := ⟨_, rfl⟩
  have h := nm_o h ex3_159
  refine lv_iinc (v := x3_159) (lv' := [(3, .int x3_159), (2, .int x2_158), (0, .ref (a 0)), (1, .int x1)]) hx hb dX6_atOnce_159 hl (k := 3) rfl (by rw [ex3_159]; rfl) (by decide) rfl (fun ls hl => ?_)
  refine lv_goto (tgt := 26) hx hb dX6_atOnce_162 (by decide) ?_
  exact hk26 _ _ _ ls (lv_sub hl [2, 3, 1, 0] rfl) h
set_option maxHeartbeats 4000000 in
set_option maxRecDepth 100000 in
theorem bX6_atOnce_L40 {p : Program} {l : Launch} {e : Env} {s : State} {m : MethodId} {args : Array Value} {below : List Frame} {meth : Method} {c : Code} {D : va_G} {a : Nat → Nat} {k : Nat → ClassId} {σ : ST} {o : Int32} (C : Cx p s m args meth c cX6_atOnce 7 RX6 (Cond.code yX6_atOnce cX6_atOnce 7 (some .int)) (some .int)) (hK : Kx D (tM k) s) (hP : va_P D vwCl (wM a k σ) s.heap) (hD : va_D (AM a) (wM a k σ)) (k26 : Int32 → Int32 → Int32 → Option (Int32)) (hk26 : ∀ (x1 x2 x3 : Int32) (ls : Array Slot), lv_has ls 7 [(0, .ref (a 0)), (1, .int x1), (2, .int x2), (3, .int x3)] → k26 x1 x2 x3 = some o → W p l e ({ frames := 2, cells := 0, slots := 0, locals := 43 } : Room) s m args below meth c s.heap [] 0 0 (MQ below (vp_Si (fun z => z = o)) args s 0 0 (fun _ => False)) (F0 m 26 ls [])) : ∀ (n : Nat) (x1 x2 x3 x4 x5 : Int32) (ls : Array Slot), lv_has ls 7 [(0, .ref (a 0)), (1, .int x1), (2, .int x2), (3, .int x3), (4, .int x4), (5, .int x5)] → fX6_atOnce_L40 σ k26 n x1 x2 x3 x4 x5 = some o → W p l e ({ frames := 2, cells := 0, slots := 0, locals := 43 } : Room) s m args below meth c s.heap [] 0 0 (MQ below (vp_Si (fun z => z = o)) args s 0 0 (fun _ => False)) (F0 m 40 ls []) := by
  have C0 := C
  obtain ⟨hx, hb, hr, hml, hown, hts, hlocks⟩ := C0
  have hW : ∀ w ∈ WG, w.before args s = true := fun w h => hts w (List.mem_cons_of_mem _ h)
  intro n
  induction n with
  | zero =>
    intro x1 x2 x3 x4 x5 ls hl h
    rw [fX6_atOnce_L40] at h
    cases h
  | succ n ih =>
      intro x1 x2 x3 x4 x5 ls hl h
      rw [fX6_atOnce_L40] at h
      refine lv_iload hx hb dX6_atOnce_40 (lv_at hl 5 rfl) ?_
      refine lv_aload_n hx hb dX6_atOnce_42 rfl (lv_at hl 0 rfl) ?_
      refine va_get (D := D) (ci := 6) (v := .int (σ.1 0)) (C := RX6) (T := TX6) (N := 22) hx hb hW inX6G hown hK.1 hP 0 rfl rfl 0 (by decide) (hW _ wg271) (fun _ h9 => h9) rfl dX6_atOnce_43 ?_
      refine lv_icmp_ge (tgt := 146) hx hb dX6_atOnce_46 (by decide) (fun c46 => ?_) (fun c46 => ?_)
      · have h := ite_t h c46
        refine lv_iload hx hb dX6_atOnce_146 (lv_at hl 4 rfl) ?_
        refine lv_iload_n hx hb dX6_atOnce_148 rfl (lv_at hl 2 rfl) ?_
        refine lv_icmp_le (tgt := 157) hx hb dX6_atOnce_149 (by decide) (fun c149 => ?_) (fun c149 => ?_)
        · have h := ite_t h c149
          refine lv_iload_n hx hb dX6_atOnce_157 rfl (lv_at hl 2 rfl) ?_
          exact bX6_atOnce_L158 C hK hP hD _ hk26 _ _ _ ls (lv_sub hl [0, 1, 3] rfl) h
        · have h := ite_f h c149
          refine lv_iload hx hb dX6_atOnce_152 (lv_at hl 4 rfl) ?_
          refine lv_goto (tgt := 158) hx hb dX6_atOnce_154 (by decide) ?_
          exact bX6_atOnce_L158 C hK hP hD _ hk26 _ _ _ ls (lv_sub hl [0, 1, 3] rfl) h
      · have h := ite_f h c46
        refine lv_aload_n hx hb dX6_atOnce_49 rfl (lv_at hl 0 rfl) ?_
        refine va_get (D := D) (ci := 6) (v := .ref (a 9)) (C := RX6) (T := TX6) (N := 22) hx hb hW inX6G hown hK.1 hP 0 rfl rfl 11 (by decide) (hW _ wg330) (fun _ h9 => h9) rfl dX6_atOnce_50 ?_
        refine lv_iload_n hx hb dX6_atOnce_53 rfl (lv_at hl 3 rfl) ?_
        obtain ⟨hi54, h⟩ := ix_o h
        refine va_iald (D := D) hx hb hK.1 hP 9 8 rfl rfl hi54 dX6_atOnce_54 ?_
        refine lv_iload hx hb dX6_atOnce_55 (lv_at hl 5 rfl) ?_
        obtain ⟨r57, hc57, h⟩ := bd_o h
        refine callRI (va_runS (As := [.int (σ.2 8 x3.toNatClampNeg), .int x5]) (rest := []) ⟨hx, hb, hml, hown, hts⟩ (mX6_what l _ _ _ hc57) ⟨callB_of 2 hts (wg_c wg299) rfl rfl rfl (hW _ wg274) (hW _ wg298) hdX6_what ⟨Nat.le_of_ble_eq_true rfl, Nat.le_of_ble_eq_true rfl⟩, hW _ wg300⟩ preEq rfl rfl hl.1 rfl (lv_room (Nat.le_of_ble_eq_true rfl)) dX6_atOnce_57 ⟨Nat.zero_le _, Nat.zero_le _⟩) ?_
        refine lv_istore (lv' := [(6, .int r57), (0, .ref (a 0)), (1, .int x1), (2, .int x2), (3, .int x3), (4, .int x4), (5, .int x5)]) hx hb dX6_atOnce_60 hl (by decide) rfl (fun ls hl => ?_)
        refine lv_iload hx hb dX6_atOnce_62 (lv_at hl 5 rfl) ?_
        refine lv_iload_n hx hb dX6_atOnce_64 rfl (lv_at hl 2 rfl) ?_
        refine lv_if_ne (tgt := 92) hx hb dX6_atOnce_65 (by decide) (fun c65 => ?_) (fun c65 => ?_)
        · have h := ite_f h c65
          refine lv_iload_n hx hb dX6_atOnce_92 rfl (lv_at hl 2 rfl) ?_
          refine lv_iconst (v := 1) hx hb dX6_atOnce_93 (by decide) ?_
          refine lv_icmp_ne (tgt := 117) hx hb dX6_atOnce_94 (by decide) (fun c94 => ?_) (fun c94 => ?_)
          · have h := ite_f h c94
            refine lv_aload_n hx hb dX6_atOnce_117 rfl (lv_at hl 1 rfl) ?_
            refine lv_aload_n hx hb dX6_atOnce_118 rfl (lv_at hl 1 rfl) ?_
            refine va_get (D := D) (ci := 6) (v := .ref (a 9)) (C := RX6) (T := TX6) (N := 22) hx hb hW inX6G hown hK.1 hP 0 rfl rfl 11 (by decide) (hW _ wg330) (fun _ h9 => h9) rfl dX6_atOnce_119 ?_
            refine lv_iload_n hx hb dX6_atOnce_122 rfl (lv_at hl 4 rfl) ?_
            obtain ⟨hi123, h⟩ := ix_o h
            refine va_iald (D := D) hx hb hK.1 hP 9 8 rfl rfl hi123 dX6_atOnce_123 ?_
            refine lv_iload hx hb dX6_atOnce_124 (lv_at hl 6 rfl) ?_
            obtain ⟨r126, hc126, h⟩ := bd_o h
            refine callRI (va_runV (As := [.int (σ.2 8 x3.toNatClampNeg), .int x5]) (rest := [.int x4]) ⟨hx, hb, hml, hown, hts⟩ (mX6_isHeld l D a k _ _ _ _ hc126) ⟨callB_of 2 hts (wg_c wg305) rfl rfl rfl (hW _ wg274) (hW _ wg304) hdX6_isHeld ⟨Nat.le_of_ble_eq_true rfl, Nat.le_of_ble_eq_true rfl⟩, hW _ wg306, hW _ wg307⟩ (pw_V hK hP hD (ci := 6) (q0 := 0) rfl rfl) rfl rfl hl.1 rfl (lv_room (Nat.le_of_ble_eq_true rfl)) dX6_atOnce_126 ⟨Nat.zero_le _, Nat.zero_le _⟩) ?_
            refine lv_if_eq (tgt := 136) hx hb dX6_atOnce_129 (by decide) (fun c129 => ?_) (fun c129 => ?_)
            · have h := ite_t h c129
              refine lv_iconst (v := 0) hx hb dX6_atOnce_136 (by decide) ?_
              exact bX6_atOnce_L137 C hK hP hD _ hk26 _ ih _ _ _ _ _ _ ls (lv_sub hl [1, 2, 3, 4, 6] rfl) h
            · have h := ite_f h c129
              refine lv_iconst (v := 1) hx hb dX6_atOnce_132 (by decide) ?_
              refine lv_goto (tgt := 137) hx hb dX6_atOnce_133 (by decide) ?_
              exact bX6_atOnce_L137 C hK hP hD _ hk26 _ ih _ _ _ _ _ _ ls (lv_sub hl [1, 2, 3, 4, 6] rfl) h
          · have h := ite_t h c94
            refine lv_aload_n hx hb dX6_atOnce_97 rfl (lv_at hl 1 rfl) ?_
            refine va_get (D := D) (ci := 6) (v := .ref (a 1)) (C := RX6) (T := TX6) (N := 22) hx hb hW inX6G hown hK.1 hP 0 rfl rfl 1 (by decide) (hW _ wg276) (fun _ h9 => h9) rfl dX6_atOnce_98 ?_
            refine lv_iload hx hb dX6_atOnce_101 (lv_at hl 6 rfl) ?_
            obtain ⟨hi103, h⟩ := ix_o h
            refine va_iald (D := D) hx hb hK.1 hP 1 0 rfl rfl hi103 dX6_atOnce_103 ?_
            refine lv_iconst (v := 1) hx hb dX6_atOnce_104 (by decide) ?_
            refine lv_icmp_ne (tgt := 113) hx hb dX6_atOnce_105 (by decide) (fun c105 => ?_) (fun c105 => ?_)
            · have h := ite_f h c105
              refine lv_iconst (v := 0) hx hb dX6_atOnce_113 (by decide) ?_
              refine lv_goto (tgt := 137) hx hb dX6_atOnce_114 (by decide) ?_
              exact bX6_atOnce_L137 C hK hP hD _ hk26 _ ih _ _ _ _ _ _ ls (lv_sub hl [1, 2, 3, 4, 6] rfl) h
            · have h := ite_t h c105
              refine lv_iload hx hb dX6_atOnce_108 (lv_at hl 0 rfl) ?_
              refine lv_goto (tgt := 137) hx hb dX6_atOnce_110 (by decide) ?_
              exact bX6_atOnce_L137 C hK hP hD _ hk26 _ ih _ _ _ _ _ _ ls (lv_sub hl [1, 2, 3, 4, 6] rfl) h
        · have h := ite_t h c65
          refine lv_aload_n hx hb dX6_atOnce_68 rfl (lv_at hl 1 rfl) ?_
          refine va_get (D := D) (ci := 6) (v := .ref (a 1)) (C := RX6) (T := TX6) (N := 22) hx hb hW inX6G hown hK.1 hP 0 rfl rfl 1 (by decide) (hW _ wg276) (fun _ h9 => h9) rfl dX6_atOnce_69 ?_
          refine lv_iload hx hb dX6_atOnce_72 (lv_at hl 6 rfl) ?_
          obtain ⟨hi74, h⟩ := ix_o h
          refine va_iald (D := D) hx hb hK.1 hP 1 0 rfl rfl hi74 dX6_atOnce_74 ?_
          refine lv_if_ne (tgt := 88) hx hb dX6_atOnce_75 (by decide) (fun c75 => ?_) (fun c75 => ?_)
          · have h := ite_f h c75
            exact bX6_atOnce_L88 C hK hP hD _ hk26 _ ih _ _ _ _ _ ls (lv_sub hl [1, 2, 3, 4, 6] rfl) h
          · have h := ite_t h c75
            refine lv_iload hx hb dX6_atOnce_78 (lv_at hl 0 rfl) ?_
            refine lv_iconst (v := 1) hx hb dX6_atOnce_80 (by decide) ?_
            refine lv_icmp_ne (tgt := 88) hx hb dX6_atOnce_81 (by decide) (fun c81 => ?_) (fun c81 => ?_)
            · have h := ite_f h c81
              exact bX6_atOnce_L88 C hK hP hD _ hk26 _ ih _ _ _ _ _ ls (lv_sub hl [1, 2, 3, 4, 6] rfl) h
            · have h := ite_t h c81
              refine lv_iconst (v := 1) hx hb dX6_atOnce_84 (by decide) ?_
              refine lv_goto (tgt := 137) hx hb dX6_atOnce_85 (by decide) ?_
              exact bX6_atOnce_L137 C hK hP hD _ hk26 _ ih _ _ _ _ _ _ ls (lv_sub hl [1, 2, 3, 4, 6] rfl) h
set_option maxHeartbeats 4000000 in
set_option maxRecDepth 100000 in
theorem bX6_atOnce_L26 {p : Program} {l : Launch} {e : Env} {s : State} {m : MethodId} {args : Array Value} {below : List Frame} {meth : Method} {c : Code} {D : va_G} {a : Nat → Nat} {k : Nat → ClassId} {σ : ST} {o : Int32} (C : Cx p s m args meth c cX6_atOnce 7 RX6 (Cond.code yX6_atOnce cX6_atOnce 7 (some .int)) (some .int)) (hK : Kx D (tM k) s) (hP : va_P D vwCl (wM a k σ) s.heap) (hD : va_D (AM a) (wM a k σ)) : ∀ (n : Nat) (x1 x2 x3 : Int32) (ls : Array Slot), lv_has ls 7 [(0, .ref (a 0)), (1, .int x1), (2, .int x2), (3, .int x3)] → fX6_atOnce_L26 σ n x1 x2 x3 = some o → W p l e ({ frames := 2, cells := 0, slots := 0, locals := 43 } : Room) s m args below meth c s.heap [] 0 0 (MQ below (vp_Si (fun z => z = o)) args s 0 0 (fun _ => False)) (F0 m 26 ls []) := by
  have C0 := C
  obtain ⟨hx, hb, hr, hml, hown, hts, hlocks⟩ := C0
  have hW : ∀ w ∈ WG, w.before args s = true := fun w h => hts w (List.mem_cons_of_mem _ h)
  intro n
  induction n with
  | zero =>
    intro x1 x2 x3 ls hl h
    rw [fX6_atOnce_L26] at h
    cases h
  | succ n ih =>
      intro x1 x2 x3 ls hl h
      rw [fX6_atOnce_L26] at h
      refine lv_iload_n hx hb dX6_atOnce_26 rfl (lv_at hl 3 rfl) ?_
      refine lv_aload_n hx hb dX6_atOnce_27 rfl (lv_at hl 0 rfl) ?_
      refine va_get (D := D) (ci := 6) (v := .int (σ.1 3)) (C := RX6) (T := TX6) (N := 22) hx hb hW inX6G hown hK.1 hP 0 rfl rfl 12 (by decide) (hW _ wg329) (fun _ h9 => h9) rfl dX6_atOnce_28 ?_
      refine lv_icmp_ge (tgt := 165) hx hb dX6_atOnce_31 (by decide) (fun c31 => ?_) (fun c31 => ?_)
      · have h := ite_t h c31
        refine lv_iload_n hx hb dX6_atOnce_165 rfl (lv_at hl 2 rfl) ?_
        have h := Option.some.inj h
        subst h
        exact W.iret (v := x2) hx hb hr (fun t ht hW9 => ⟨x2, rfl, rfl, ht⟩) (fun _ h9 => absurd h9 List.not_mem_nil) dX6_atOnce_166 hlocks
      · have h := ite_f h c31
        refine lv_iconst (v := 0) hx hb dX6_atOnce_34 (by decide) ?_
        refine lv_istore (lv' := [(4, .int 0), (0, .ref (a 0)), (1, .int x1), (2, .int x2), (3, .int x3)]) hx hb dX6_atOnce_35 hl (by decide) rfl (fun ls hl => ?_)
        refine lv_iconst (v := 0) hx hb dX6_atOnce_37 (by decide) ?_
        refine lv_istore (lv' := [(5, .int 0), (4, .int 0), (0, .ref (a 0)), (1, .int x1), (2, .int x2), (3, .int x3)]) hx hb dX6_atOnce_38 hl (by decide) rfl (fun ls hl => ?_)
        exact bX6_atOnce_L40 C hK hP hD _ ih FUEL _ _ _ _ _ ls (lv_sub hl [2, 3, 4, 5, 1, 0] rfl) h
set_option maxHeartbeats 4000000 in
set_option maxRecDepth 100000 in
theorem mX6_atOnce (l : Launch) (D : va_G) (a : Nat → Nat) (k : Nat → ClassId) (σ : ST) (x1 : Int32) (o : Int32) (h : fX6_atOnce σ x1 = some o) : Met l yX6_atOnce ((Cond.code yX6_atOnce cX6_atOnce 7 (some .int)) :: WG) ({ frames := 2, cells := 0, slots := 0, locals := 43 } : Room) (Pw D (tM k) (AM a) (wM a k σ) [.ref (a 0), .int x1]) (vp_Si (fun z => z = o)) 0 0 (fun _ => False) := by
  refine Met.ofW (cc := cX6_atOnce) (maxL := 7) (ret := (some .int)) (by decide) rfl ?_
  intro p e s m args below meth c s₁ B hml0 hv
  have C : Cx p s m args meth c cX6_atOnce 7 RX6 (Cond.code yX6_atOnce cX6_atOnce 7 (some .int)) (some .int) := ⟨B.exec, B.bytes, B.returns, hml0, findClass_of_methodNamed B.named, atoms_spec (ws := (Cond.code yX6_atOnce cX6_atOnce 7 (some .int)) :: WG) B.pre, B.notSynchronized⟩
  obtain ⟨rfl, hP, hK, hD⟩ := hv
  have hK : Kx D (tM k) s := hK
  have C0 := C
  obtain ⟨hx, hb, hr, hml, hown, hts, hlocks⟩ := C0
  have hW : ∀ w ∈ WG, w.before _ s = true := fun w h => hts w (List.mem_cons_of_mem _ h)
  show W p l e ({ frames := 2, cells := 0, slots := 0, locals := 43 } : Room) s m _ below meth c s.heap [] 0 0 _ _
  have hl := lv_entry ([.ref (a 0), .int x1]) (n := 7) (Nat.le_of_ble_eq_true rfl)
  rw [lg_entry_eq]
  generalize (lg_sl ([.ref (a 0), .int x1]) ++ List.replicate (7 - (lg_sl ([.ref (a 0), .int x1])).length) Slot.unset).toArray = ls at hl ⊢
  have hl : lv_has ls 7 [(0, .ref (a 0)), (1, .int x1)] := hl
  unfold fX6_atOnce at h
  refine lv_iload_n hx hb dX6_atOnce_0 rfl (lv_at hl 1 rfl) ?_
  refine lv_iconst (v := 0) hx hb dX6_atOnce_1 (by decide) ?_
  refine lv_iconst (v := 2) hx hb dX6_atOnce_2 (by decide) ?_
  obtain ⟨r3, hc3, h⟩ := bd_o h
  refine callRI (va_runS (As := [.int x1, .int 0, .int 2]) (rest := []) ⟨hx, hb, hml, hown, hts⟩ (mX6_in l _ _ _ _ hc3) ⟨callB_of 3 hts (wg_c wg273) rfl rfl rfl (hW _ wg274) (hW _ wg272) hdX6_in ⟨Nat.le_of_ble_eq_true rfl, Nat.le_of_ble_eq_true rfl⟩, hW _ wg275⟩ preEq rfl rfl hl.1 rfl (lv_room (Nat.le_of_ble_eq_true rfl)) dX6_atOnce_3 ⟨Nat.zero_le _, Nat.zero_le _⟩) ?_
  refine lv_if_ne (tgt := 12) hx hb dX6_atOnce_6 (by decide) (fun c6 => ?_) (fun c6 => ?_)
  · have h := ite_f h c6
    refine lv_aload_n hx hb dX6_atOnce_12 rfl (lv_at hl 0 rfl) ?_
    refine va_get (D := D) (ci := 6) (v := .int (σ.1 2)) (C := RX6) (T := TX6) (N := 22) hx hb hW inX6G hown hK.1 hP 0 rfl rfl 10 (by decide) (hW _ wg279) (fun _ h9 => h9) rfl dX6_atOnce_13 ?_
    refine lv_if_ne (tgt := 22) hx hb dX6_atOnce_16 (by decide) (fun c16 => ?_) (fun c16 => ?_)
    · have h := ite_f h c16
      refine lv_iconst (v := 0) hx hb dX6_atOnce_22 (by decide) ?_
      refine lv_istore_n (lv' := [(2, .int 0), (0, .ref (a 0)), (1, .int x1)]) hx hb dX6_atOnce_23 rfl hl (by decide) rfl (fun ls hl => ?_)
      refine lv_iconst (v := 0) hx hb dX6_atOnce_24 (by decide) ?_
      refine lv_istore_n (lv' := [(3, .int 0), (2, .int 0), (0, .ref (a 0)), (1, .int x1)]) hx hb dX6_atOnce_25 rfl hl (by decide) rfl (fun ls hl => ?_)
      exact bX6_atOnce_L26 C hK hP hD FUEL _ _ _ ls (lv_sub hl [2, 3, 1, 0] rfl) h
    · have h := ite_t h c16
      refine lv_bipush (v := (-103)) hx hb dX6_atOnce_19 (by decide) ?_
      have h := Option.some.inj h
      subst h
      exact W.iret (v := (-103)) hx hb hr (fun t ht hW9 => ⟨(-103), rfl, rfl, ht⟩) (fun _ h9 => absurd h9 List.not_mem_nil) dX6_atOnce_21 hlocks
  · have h := ite_t h c6
    refine lv_bipush (v := (-102)) hx hb dX6_atOnce_9 (by decide) ?_
    have h := Option.some.inj h
    subst h
    exact W.iret (v := (-102)) hx hb hr (fun t ht hW9 => ⟨(-102), rfl, rfl, ht⟩) (fun _ h9 => absurd h9 List.not_mem_nil) dX6_atOnce_11 hlocks
set_option maxHeartbeats 4000000 in
set_option maxRecDepth 100000 in
theorem bX6_run_L90 {p : Program} {l : Launch} {e : Env} {s : State} {m : MethodId} {args : Array Value} {below : List Frame} {meth : Method} {c : Code} {D : va_G} {a : Nat → Nat} {k : Nat → ClassId} {o : Int32 × ST} (C : Cx p s m args meth c cX6_run 6 RX6 (Cond.code yX6_run cX6_run 6 (some .int)) (some .int)) (hK : Kx D (tM k) s) (k33 : Int32 → Int32 → Int32 → ST → Option (Int32 × ST)) (hk33 : ∀ (x2 x3 x4 : Int32) (σ : ST) (H : Heap) (locs : List Loc) (ls : Array Slot), va_P D vwCl (wM a k σ) H → va_D (AM a) (wM a k σ) → va_S (AM a) s.heap H locs → lv_has ls 6 [(0, .ref (a 0)), (2, .int x2), (3, .int x3), (4, .int x4)] → k33 x2 x3 x4 σ = some o → W p l e ({ frames := 4, cells := 0, slots := 0, locals := 91 } : Room) s m args below meth c H locs 0 0 (MQ below (va_Qi (S := Unit) (fun z _ => z = o.1) (fun _ t => va_P D vwCl (wM a k o.2) t.heap) (AM a)) args s 0 0 (AM a)) (F0 m 33 ls [])) : ∀ (x2 x3 x4 x5 : Int32) (σ : ST) (H : Heap) (locs : List Loc) (ls : Array Slot), va_P D vwCl (wM a k σ) H → va_D (AM a) (wM a k σ) → va_S (AM a) s.heap H locs → lv_has ls 6 [(0, .ref (a 0)), (2, .int x2), (3, .int x3), (4, .int x4), (5, .int x5)] → fX6_run_L90 k33 x2 x3 x4 x5 σ = some o → W p l e ({ frames := 4, cells := 0, slots := 0, locals := 91 } : Room) s m args below meth c H locs 0 0 (MQ below (va_Qi (S := Unit) (fun z _ => z = o.1) (fun _ t => va_P D vwCl (wM a k o.2) t.heap) (AM a)) args s 0 0 (AM a)) (F0 m 90 ls []) := by
  have C0 := C
  obtain ⟨hx, hb, hr, hml, hown, hts, hlocks⟩ := C0
  have hW : ∀ w ∈ WG, w.before args s = true := fun w h => hts w (List.mem_cons_of_mem _ h)
  intro x2 x3 x4 x5 σ H locs ls hP hD hS hl h
  unfold fX6_run_L90 at h
  refine lv_aload_n hx hb dX6_run_90 rfl (lv_at hl 0 rfl) ?_
  refine va_get (D := D) (ci := 6) (v := .ref (a 13)) (C := RX6) (T := TX6) (N := 22) hx hb hW inX6G hown hK.1 hP 0 rfl rfl 18 (by decide) (hW _ wg361) (fun _ h9 => h9) rfl dX6_run_91 ?_
  refine lv_aload_n hx hb dX6_run_94 rfl (lv_at hl 0 rfl) ?_
  refine va_get (D := D) (ci := 6) (v := .int (σ.1 5)) (C := RX6) (T := TX6) (N := 22) hx hb hW inX6G hown hK.1 hP 0 rfl rfl 17 (by decide) (hW _ wg362) (fun _ h9 => h9) rfl dX6_run_95 ?_
  refine lv_iload hx hb dX6_run_98 (lv_at hl 3 rfl) ?_
  obtain ⟨r100, hc100, h⟩ := bd_o h
  refine callRI (va_runS (As := [.int x4]) (rest := [.int (σ.1 5), .ref (a 13)]) ⟨hx, hb, hml, hown, hts⟩ (mX6_place l _ _ hc100) ⟨callB_of 1 hts (wg_c wg302) rfl rfl rfl (hW _ wg274) (hW _ wg301) hdX6_place ⟨Nat.le_of_ble_eq_true rfl, Nat.le_of_ble_eq_true rfl⟩, hW _ wg303⟩ preEq rfl rfl hl.1 rfl (lv_room (Nat.le_of_ble_eq_true rfl)) dX6_run_100 ⟨Nat.zero_le _, Nat.zero_le _⟩) ?_
  obtain ⟨hi103, h⟩ := ix_o h
  refine va_iast (D := D) hx hb hK.1 hP hD hS 13 12 rfl rfl hi103 dX6_run_103 (fun H locs hP hD9 hS => ?_)
  obtain ⟨s103, es103⟩ : ∃ z : ST, z = setA σ 12 (σ.1 5).toNatClampNeg r100 := ⟨_, rfl⟩
  have h := nm_o h es103
  have hP : va_P D vwCl (wM a k s103) H := by rw [es103]; exact hP
  have hD : va_D (AM a) (wM a k s103) := dM hD
  refine lv_aload_n hx hb dX6_run_104 rfl (lv_at hl 0 rfl) ?_
  refine lv_dup hx hb dX6_run_105 rfl ?_
  refine va_get (D := D) (ci := 6) (v := .int (s103.1 5)) (C := RX6) (T := TX6) (N := 22) hx hb hW inX6G hown hK.1 hP 0 rfl rfl 17 (by decide) (hW _ wg362) (fun _ h9 => h9) rfl dX6_run_106 ?_
  refine lv_iconst (v := 1) hx hb dX6_run_109 (by decide) ?_
  refine lv_iadd hx hb dX6_run_110 ?_
  refine va_put (D := D) (ci := 6) (v := .int ((s103.1 5) + 1)) (ty := .int) (C := RX6) (T := TX6) (N := 22) hx hb hW inX6G tyX6 tyX6_ok nmX6 hown hK.1 hP hD hS 0 rfl rfl 17 (by decide) (hW _ wg362) (fun _ h9 => h9) rfl (by decide +kernel) rfl rfl (Nat.le_of_ble_eq_true rfl) dX6_run_111 (fun H locs hP hD9 hS => ?_)
  obtain ⟨s111, es111⟩ : ∃ z : ST, z = setF s103 5 ((s103.1 5) + 1) := ⟨_, rfl⟩
  have h := nm_o h es111
  have hP : va_P D vwCl (wM a k s111) H := by rw [es111]; exact hP
  have hD : va_D (AM a) (wM a k s111) := dM hD
  refine lv_aload_n hx hb dX6_run_114 rfl (lv_at hl 0 rfl) ?_
  refine lv_iload hx hb dX6_run_115 (lv_at hl 3 rfl) ?_
  refine lv_iload hx hb dX6_run_117 (lv_at hl 4 rfl) ?_
  obtain ⟨r119, hc119, h⟩ := bd_o h
  refine callRI (va_runV (As := [.int x4, .int x5]) (rest := []) ⟨hx, hb, hml, hown, hts⟩ (mX6_next l D a k _ _ _ _ hc119) ⟨callB_of 2 hts (wg_c wg337) rfl rfl rfl (hW _ wg274) (hW _ wg336) hdX6_next ⟨Nat.le_of_ble_eq_true rfl, Nat.le_of_ble_eq_true rfl⟩, hW _ wg338, hW _ wg339⟩ (pw_V hK hP hD (ci := 6) (q0 := 0) rfl rfl) rfl rfl hl.1 rfl (lv_room (Nat.le_of_ble_eq_true rfl)) dX6_run_119 ⟨Nat.zero_le _, Nat.zero_le _⟩) ?_
  refine lv_istore (lv' := [(4, .int r119), (0, .ref (a 0)), (2, .int x2), (3, .int x3), (5, .int x5)]) hx hb dX6_run_122 hl (by decide) rfl (fun ls hl => ?_)
  refine lv_goto (tgt := 33) hx hb dX6_run_124 (by decide) ?_
  exact hk33 _ _ _ _ H locs ls hP hD hS (lv_sub hl [1, 2, 3, 0] rfl) h
set_option maxHeartbeats 4000000 in
set_option maxRecDepth 100000 in
theorem bX6_run_L127 {p : Program} {l : Launch} {e : Env} {s : State} {m : MethodId} {args : Array Value} {below : List Frame} {meth : Method} {c : Code} {D : va_G} {a : Nat → Nat} {k : Nat → ClassId} {o : Int32 × ST} (C : Cx p s m args meth c cX6_run 6 RX6 (Cond.code yX6_run cX6_run 6 (some .int)) (some .int)) (hK : Kx D (tM k) s) : ∀ (x4 : Int32) (σ : ST) (H : Heap) (locs : List Loc) (ls : Array Slot), va_P D vwCl (wM a k σ) H → va_D (AM a) (wM a k σ) → va_S (AM a) s.heap H locs → lv_has ls 6 [(0, .ref (a 0)), (4, .int x4)] → fX6_run_L127 x4 σ = some o → W p l e ({ frames := 4, cells := 0, slots := 0, locals := 91 } : Room) s m args below meth c H locs 0 0 (MQ below (va_Qi (S := Unit) (fun z _ => z = o.1) (fun _ t => va_P D vwCl (wM a k o.2) t.heap) (AM a)) args s 0 0 (AM a)) (F0 m 127 ls []) := by
  have C0 := C
  obtain ⟨hx, hb, hr, hml, hown, hts, hlocks⟩ := C0
  have hW : ∀ w ∈ WG, w.before args s = true := fun w h => hts w (List.mem_cons_of_mem _ h)
  intro x4 σ H locs ls hP hD hS hl h
  unfold fX6_run_L127 at h
  refine lv_aload_n hx hb dX6_run_127 rfl (lv_at hl 0 rfl) ?_
  refine lv_iload hx hb dX6_run_128 (lv_at hl 1 rfl) ?_
  refine va_put (D := D) (ci := 6) (v := .int x4) (ty := .int) (C := RX6) (T := TX6) (N := 22) hx hb hW inX6G tyX6 tyX6_ok nmX6 hown hK.1 hP hD hS 0 rfl rfl 19 (by decide) (hW _ wg363) (fun _ h9 => h9) rfl (by decide +kernel) rfl rfl (Nat.le_of_ble_eq_true rfl) dX6_run_130 (fun H locs hP hD9 hS => ?_)
  obtain ⟨s130, es130⟩ : ∃ z : ST, z = setF σ 6 x4 := ⟨_, rfl⟩
  have h := nm_o h es130
  have hP : va_P D vwCl (wM a k s130) H := by rw [es130]; exact hP
  have hD : va_D (AM a) (wM a k s130) := dM hD
  refine lv_aload_n hx hb dX6_run_133 rfl (lv_at hl 0 rfl) ?_
  refine lv_aload_n hx hb dX6_run_134 rfl (lv_at hl 0 rfl) ?_
  refine va_get (D := D) (ci := 6) (v := .int (s130.1 0)) (C := RX6) (T := TX6) (N := 22) hx hb hW inX6G hown hK.1 hP 0 rfl rfl 0 (by decide) (hW _ wg271) (fun _ h9 => h9) rfl dX6_run_135 ?_
  refine va_put (D := D) (ci := 6) (v := .int (s130.1 0)) (ty := .int) (C := RX6) (T := TX6) (N := 22) hx hb hW inX6G tyX6 tyX6_ok nmX6 hown hK.1 hP hD hS 0 rfl rfl 21 (by decide) (hW _ wg364) (fun _ h9 => h9) rfl (by decide +kernel) rfl rfl (Nat.le_of_ble_eq_true rfl) dX6_run_138 (fun H locs hP hD9 hS => ?_)
  obtain ⟨s138, es138⟩ : ∃ z : ST, z = setF s130 8 (s130.1 0) := ⟨_, rfl⟩
  have h := nm_o h es138
  have hP : va_P D vwCl (wM a k s138) H := by rw [es138]; exact hP
  have hD : va_D (AM a) (wM a k s138) := dM hD
  refine lv_aload_n hx hb dX6_run_141 rfl (lv_at hl 0 rfl) ?_
  refine lv_iconst (v := 1) hx hb dX6_run_142 (by decide) ?_
  refine va_put (D := D) (ci := 6) (v := .int 1) (ty := .boolean) (C := RX6) (T := TX6) (N := 22) hx hb hW inX6G tyX6 tyX6_ok nmX6 hown hK.1 hP hD hS 0 rfl rfl 16 (by decide) (hW _ wg365) (fun _ h9 => h9) rfl (by decide +kernel) rfl rfl (Nat.le_of_ble_eq_true rfl) dX6_run_143 (fun H locs hP hD9 hS => ?_)
  obtain ⟨s143, es143⟩ : ∃ z : ST, z = setF s138 4 1 := ⟨_, rfl⟩
  have h := nm_o h es143
  have hP : va_P D vwCl (wM a k s143) H := by rw [es143]; exact hP
  have hD : va_D (AM a) (wM a k s143) := dM hD
  refine lv_aload_n hx hb dX6_run_146 rfl (lv_at hl 0 rfl) ?_
  refine va_get (D := D) (ci := 6) (v := .int (s143.1 5)) (C := RX6) (T := TX6) (N := 22) hx hb hW inX6G hown hK.1 hP 0 rfl rfl 17 (by decide) (hW _ wg362) (fun _ h9 => h9) rfl dX6_run_147 ?_
  have h := Option.some.inj h
  subst h
  exact W.iret (v := (s143.1 5)) hx hb hr (fun t ht hW9 => ⟨⟨(s143.1 5), (), rfl, rfl, by show va_P _ _ _ t.heap; rw [ht]; exact hP⟩, hS.F ht⟩) hS.2.2 dX6_run_150 hlocks
set_option maxHeartbeats 4000000 in
set_option maxRecDepth 100000 in
theorem bX6_run_L33 {p : Program} {l : Launch} {e : Env} {s : State} {m : MethodId} {args : Array Value} {below : List Frame} {meth : Method} {c : Code} {D : va_G} {a : Nat → Nat} {k : Nat → ClassId} {o : Int32 × ST} (C : Cx p s m args meth c cX6_run 6 RX6 (Cond.code yX6_run cX6_run 6 (some .int)) (some .int)) (hK : Kx D (tM k) s) : ∀ (n : Nat) (x2 x3 x4 : Int32) (σ : ST) (H : Heap) (locs : List Loc) (ls : Array Slot), va_P D vwCl (wM a k σ) H → va_D (AM a) (wM a k σ) → va_S (AM a) s.heap H locs → lv_has ls 6 [(0, .ref (a 0)), (2, .int x2), (3, .int x3), (4, .int x4)] → fX6_run_L33 n x2 x3 x4 σ = some o → W p l e ({ frames := 4, cells := 0, slots := 0, locals := 91 } : Room) s m args below meth c H locs 0 0 (MQ below (va_Qi (S := Unit) (fun z _ => z = o.1) (fun _ t => va_P D vwCl (wM a k o.2) t.heap) (AM a)) args s 0 0 (AM a)) (F0 m 33 ls []) := by
  have C0 := C
  obtain ⟨hx, hb, hr, hml, hown, hts, hlocks⟩ := C0
  have hW : ∀ w ∈ WG, w.before args s = true := fun w h => hts w (List.mem_cons_of_mem _ h)
  intro n
  induction n with
  | zero =>
    intro x2 x3 x4 σ H locs ls hP hD hS hl h
    rw [fX6_run_L33] at h
    cases h
  | succ n ih =>
      intro x2 x3 x4 σ H locs ls hP hD hS hl h
      rw [fX6_run_L33] at h
      refine lv_aload_n hx hb dX6_run_33 rfl (lv_at hl 0 rfl) ?_
      refine va_get (D := D) (ci := 6) (v := .int (σ.1 5)) (C := RX6) (T := TX6) (N := 22) hx hb hW inX6G hown hK.1 hP 0 rfl rfl 17 (by decide) (hW _ wg362) (fun _ h9 => h9) rfl dX6_run_34 ?_
      refine lv_iload_n hx hb dX6_run_37 rfl (lv_at hl 1 rfl) ?_
      refine lv_icmp_ge (tgt := 127) hx hb dX6_run_38 (by decide) (fun c38 => ?_) (fun c38 => ?_)
      · have h := ite_t h c38
        exact bX6_run_L127 C hK _ _ H locs ls hP hD hS (lv_sub hl [0, 3] rfl) h
      · have h := ite_f h c38
        refine lv_iload hx hb dX6_run_41 (lv_at hl 3 rfl) ?_
        obtain ⟨r43, hc43, h⟩ := bd_o h
        refine callRI (va_runS (As := [.int x4]) (rest := []) ⟨hx, hb, hml, hown, hts⟩ (mX6_place l _ _ hc43) ⟨callB_of 1 hts (wg_c wg302) rfl rfl rfl (hW _ wg274) (hW _ wg301) hdX6_place ⟨Nat.le_of_ble_eq_true rfl, Nat.le_of_ble_eq_true rfl⟩, hW _ wg303⟩ preEq rfl rfl hl.1 rfl (lv_room (Nat.le_of_ble_eq_true rfl)) dX6_run_43 ⟨Nat.zero_le _, Nat.zero_le _⟩) ?_
        refine lv_bipush (v := 40) hx hb dX6_run_46 (by decide) ?_
        refine lv_icmp_ge (tgt := 127) hx hb dX6_run_48 (by decide) (fun c48 => ?_) (fun c48 => ?_)
        · have h := ite_t h c48
          exact bX6_run_L127 C hK _ _ H locs ls hP hD hS (lv_sub hl [0, 3] rfl) h
        · have h := ite_f h c48
          refine lv_iconst (v := 0) hx hb dX6_run_51 (by decide) ?_
          refine lv_istore (lv' := [(5, .int 0), (0, .ref (a 0)), (2, .int x2), (3, .int x3), (4, .int x4)]) hx hb dX6_run_52 hl (by decide) rfl (fun ls hl => ?_)
          refine lv_aload_n hx hb dX6_run_54 rfl (lv_at hl 1 rfl) ?_
          refine lv_iload hx hb dX6_run_55 (lv_at hl 4 rfl) ?_
          obtain ⟨r57, hc57, h⟩ := bd_o h
          refine callRI (va_runV (As := [.int x4]) (rest := []) ⟨hx, hb, hml, hown, hts⟩ (mX6_isTwofold l D a k _ _ _ hc57) ⟨callB_of 1 hts (wg_c wg345) rfl rfl rfl (hW _ wg274) (hW _ wg344) hdX6_isTwofold ⟨Nat.le_of_ble_eq_true rfl, Nat.le_of_ble_eq_true rfl⟩, hW _ wg346, hW _ wg347⟩ (pw_V hK hP hD (ci := 6) (q0 := 0) rfl rfl) rfl rfl hl.1 rfl (lv_room (Nat.le_of_ble_eq_true rfl)) dX6_run_57 ⟨Nat.zero_le _, Nat.zero_le _⟩) ?_
          refine lv_if_eq (tgt := 90) hx hb dX6_run_60 (by decide) (fun c60 => ?_) (fun c60 => ?_)
          · have h := ite_t h c60
            exact bX6_run_L90 C hK _ ih _ _ _ _ _ H locs ls hP hD hS (lv_sub hl [1, 2, 3, 4, 0] rfl) h
          · have h := ite_f h c60
            refine lv_ldc (v := 1103515245) hx hb hown (hW _ wg366) dX6_run_63 ?_
            refine lv_iload_n hx hb dX6_run_65 rfl (lv_at hl 3 rfl) ?_
            refine lv_imul hx hb dX6_run_66 ?_
            refine lv_sipush (v := 12345) hx hb dX6_run_67 (by decide) ?_
            refine lv_iadd hx hb dX6_run_70 ?_
            refine lv_topi (fun x3_71 ex3_71 => ?_)
            have h := nm_o h ex3_71
            refine lv_istore_n (lv' := [(3, .int x3_71), (5, .int 0), (0, .ref (a 0)), (2, .int x2), (4, .int x4)]) hx hb dX6_run_71 rfl hl (by decide) rfl (fun ls hl => ?_)
            refine lv_iload_n hx hb dX6_run_72 rfl (lv_at hl 0 rfl) ?_
            refine lv_bipush (v := 16) hx hb dX6_run_73 (by decide) ?_
            refine lv_ishr hx hb dX6_run_75 ?_
            refine lv_iconst (v := 1) hx hb dX6_run_76 (by decide) ?_
            refine lv_iand hx hb dX6_run_77 ?_
            refine lv_topi (fun x5_78 ex5_78 => ?_)
            have h := nm_o h ex5_78
            refine lv_istore (lv' := [(5, .int x5_78), (3, .int x3_71), (0, .ref (a 0)), (2, .int x2), (4, .int x4)]) hx hb dX6_run_78 hl (by decide) rfl (fun ls hl => ?_)
            refine lv_aload_n hx hb dX6_run_80 rfl (lv_at hl 2 rfl) ?_
            refine lv_dup hx hb dX6_run_81 rfl ?_
            refine va_get (D := D) (ci := 6) (v := .int (σ.1 7)) (C := RX6) (T := TX6) (N := 22) hx hb hW inX6G hown hK.1 hP 0 rfl rfl 20 (by decide) (hW _ wg367) (fun _ h9 => h9) rfl dX6_run_82 ?_
            refine lv_iconst (v := 1) hx hb dX6_run_85 (by decide) ?_
            refine lv_iadd hx hb dX6_run_86 ?_
            refine va_put (D := D) (ci := 6) (v := .int ((σ.1 7) + 1)) (ty := .int) (C := RX6) (T := TX6) (N := 22) hx hb hW inX6G tyX6 tyX6_ok nmX6 hown hK.1 hP hD hS 0 rfl rfl 20 (by decide) (hW _ wg367) (fun _ h9 => h9) rfl (by decide +kernel) rfl rfl (Nat.le_of_ble_eq_true rfl) dX6_run_87 (fun H locs hP hD9 hS => ?_)
            obtain ⟨s87, es87⟩ : ∃ z : ST, z = setF σ 7 ((σ.1 7) + 1) := ⟨_, rfl⟩
            have h := nm_o h es87
            have hP : va_P D vwCl (wM a k s87) H := by rw [es87]; exact hP
            have hD : va_D (AM a) (wM a k s87) := dM hD
            exact bX6_run_L90 C hK _ ih _ _ _ _ _ H locs ls hP hD hS (lv_sub hl [2, 3, 1, 4, 0] rfl) h
set_option maxHeartbeats 4000000 in
set_option maxRecDepth 100000 in
theorem mX6_run (l : Launch) (D : va_G) (a : Nat → Nat) (k : Nat → ClassId) (σ : ST) (x1 x2 : Int32) (o : Int32 × ST) (h : fX6_run σ x1 x2 = some o) : Met l yX6_run ((Cond.code yX6_run cX6_run 6 (some .int)) :: WG) ({ frames := 4, cells := 0, slots := 0, locals := 91 } : Room) (Pw D (tM k) (AM a) (wM a k σ) [.ref (a 0), .int x1, .int x2]) (va_Qi (S := Unit) (fun z _ => z = o.1) (fun _ t => va_P D vwCl (wM a k o.2) t.heap) (AM a)) 0 0 (AM a) := by
  refine Met.ofW (cc := cX6_run) (maxL := 6) (ret := (some .int)) (by decide) rfl ?_
  intro p e s m args below meth c s₁ B hml0 hv
  have C : Cx p s m args meth c cX6_run 6 RX6 (Cond.code yX6_run cX6_run 6 (some .int)) (some .int) := ⟨B.exec, B.bytes, B.returns, hml0, findClass_of_methodNamed B.named, atoms_spec (ws := (Cond.code yX6_run cX6_run 6 (some .int)) :: WG) B.pre, B.notSynchronized⟩
  obtain ⟨rfl, hP, hK, hD⟩ := hv
  have hK : Kx D (tM k) s := hK
  have C0 := C
  obtain ⟨hx, hb, hr, hml, hown, hts, hlocks⟩ := C0
  have hW : ∀ w ∈ WG, w.before _ s = true := fun w h => hts w (List.mem_cons_of_mem _ h)
  show W p l e ({ frames := 4, cells := 0, slots := 0, locals := 91 } : Room) s m _ below meth c s.heap [] 0 0 _ _
  have hl := lv_entry ([.ref (a 0), .int x1, .int x2]) (n := 6) (Nat.le_of_ble_eq_true rfl)
  rw [lg_entry_eq]
  generalize (lg_sl ([.ref (a 0), .int x1, .int x2]) ++ List.replicate (6 - (lg_sl ([.ref (a 0), .int x1, .int x2])).length) Slot.unset).toArray = ls at hl ⊢
  have hl : lv_has ls 6 [(0, .ref (a 0)), (1, .int x1), (2, .int x2)] := hl
  have hS : va_S (AM a) s.heap s.heap [] := va_S.rf
  suffices hgo : ∀ (H : Heap) (locs : List Loc), va_P D vwCl (wM a k σ) H → va_S (AM a) s.heap H locs → W p l e ({ frames := 4, cells := 0, slots := 0, locals := 91 } : Room) s m _ below meth c H locs 0 0 (MQ below (va_Qi (S := Unit) (fun z _ => z = o.1) (fun _ t => va_P D vwCl (wM a k o.2) t.heap) (AM a)) _ s 0 0 (AM a)) (F0 m 0 ls []) from hgo _ _ hP hS
  clear hP hS
  intro H locs hP hS
  unfold fX6_run at h
  refine lv_iload_n hx hb dX6_run_0 rfl (lv_at hl 2 rfl) ?_
  refine lv_iconst (v := 1) hx hb dX6_run_1 (by decide) ?_
  refine lv_bipush (v := 100) hx hb dX6_run_2 (by decide) ?_
  obtain ⟨r4, hc4, h⟩ := bd_o h
  refine callRI (va_runS (As := [.int x2, .int 1, .int 100]) (rest := []) ⟨hx, hb, hml, hown, hts⟩ (mX6_in l _ _ _ _ hc4) ⟨callB_of 3 hts (wg_c wg273) rfl rfl rfl (hW _ wg274) (hW _ wg272) hdX6_in ⟨Nat.le_of_ble_eq_true rfl, Nat.le_of_ble_eq_true rfl⟩, hW _ wg275⟩ preEq rfl rfl hl.1 rfl (lv_room (Nat.le_of_ble_eq_true rfl)) dX6_run_4 ⟨Nat.zero_le _, Nat.zero_le _⟩) ?_
  refine lv_if_ne (tgt := 13) hx hb dX6_run_7 (by decide) (fun c7 => ?_) (fun c7 => ?_)
  · have h := ite_f h c7
    refine lv_iload_n hx hb dX6_run_13 rfl (lv_at hl 1 rfl) ?_
    refine lv_istore_n (lv' := [(3, .int x1), (0, .ref (a 0)), (1, .int x1), (2, .int x2)]) hx hb dX6_run_14 rfl hl (by decide) rfl (fun ls hl => ?_)
    refine lv_aload_n hx hb dX6_run_15 rfl (lv_at hl 1 rfl) ?_
    refine lv_iconst (v := 0) hx hb dX6_run_16 (by decide) ?_
    refine lv_iconst (v := 0) hx hb dX6_run_17 (by decide) ?_
    obtain ⟨r18, hc18, h⟩ := bd_o h
    refine callRI (va_runV (As := [.int 0, .int 0]) (rest := []) ⟨hx, hb, hml, hown, hts⟩ (mX6_at l D a k _ _ _ _ hc18) ⟨callB_of 2 hts (wg_c wg312) rfl rfl rfl (hW _ wg274) (hW _ wg311) hdX6_at ⟨Nat.le_of_ble_eq_true rfl, Nat.le_of_ble_eq_true rfl⟩, hW _ wg313, hW _ wg314⟩ (pw_V hK hP hD (ci := 6) (q0 := 0) rfl rfl) rfl rfl hl.1 rfl (lv_room (Nat.le_of_ble_eq_true rfl)) dX6_run_18 ⟨Nat.zero_le _, Nat.zero_le _⟩) ?_
    refine lv_istore (lv' := [(4, .int r18), (3, .int x1), (0, .ref (a 0)), (1, .int x1), (2, .int x2)]) hx hb dX6_run_21 hl (by decide) rfl (fun ls hl => ?_)
    refine lv_aload_n hx hb dX6_run_23 rfl (lv_at hl 2 rfl) ?_
    refine lv_iconst (v := 0) hx hb dX6_run_24 (by decide) ?_
    refine va_put (D := D) (ci := 6) (v := .int 0) (ty := .int) (C := RX6) (T := TX6) (N := 22) hx hb hW inX6G tyX6 tyX6_ok nmX6 hown hK.1 hP hD hS 0 rfl rfl 17 (by decide) (hW _ wg362) (fun _ h9 => h9) rfl (by decide +kernel) rfl rfl (Nat.le_of_ble_eq_true rfl) dX6_run_25 (fun H locs hP hD9 hS => ?_)
    obtain ⟨s25, es25⟩ : ∃ z : ST, z = setF σ 5 0 := ⟨_, rfl⟩
    have h := nm_o h es25
    have hP : va_P D vwCl (wM a k s25) H := by rw [es25]; exact hP
    have hD : va_D (AM a) (wM a k s25) := dM hD
    refine lv_aload_n hx hb dX6_run_28 rfl (lv_at hl 2 rfl) ?_
    refine lv_iconst (v := 0) hx hb dX6_run_29 (by decide) ?_
    refine va_put (D := D) (ci := 6) (v := .int 0) (ty := .int) (C := RX6) (T := TX6) (N := 22) hx hb hW inX6G tyX6 tyX6_ok nmX6 hown hK.1 hP hD hS 0 rfl rfl 20 (by decide) (hW _ wg367) (fun _ h9 => h9) rfl (by decide +kernel) rfl rfl (Nat.le_of_ble_eq_true rfl) dX6_run_30 (fun H locs hP hD9 hS => ?_)
    obtain ⟨s30, es30⟩ : ∃ z : ST, z = setF s25 7 0 := ⟨_, rfl⟩
    have h := nm_o h es30
    have hP : va_P D vwCl (wM a k s30) H := by rw [es30]; exact hP
    have hD : va_D (AM a) (wM a k s30) := dM hD
    exact bX6_run_L33 C hK FUEL _ _ _ _ H locs ls hP hD hS (lv_sub hl [2, 4, 1, 0] rfl) h
  · have h := ite_t h c7
    refine lv_bipush (v := (-102)) hx hb dX6_run_10 (by decide) ?_
    have h := Option.some.inj h
    subst h
    exact W.iret (v := (-102)) hx hb hr (fun t ht hW9 => ⟨⟨(-102), (), rfl, rfl, by show va_P _ _ _ t.heap; rw [ht]; exact hP⟩, hS.F ht⟩) hS.2.2 dX6_run_12 hlocks
set_option maxHeartbeats 4000000 in
set_option maxRecDepth 100000 in
theorem mX6_ran (l : Launch) (D : va_G) (a : Nat → Nat) (k : Nat → ClassId) (σ : ST) (x1 : Int32) (o : Int32) (h : fX6_ran σ x1 = some o) : Met l yX6_ran ((Cond.code yX6_ran cX6_ran 2 (some .int)) :: WG) ({ frames := 1, cells := 0, slots := 0, locals := 22 } : Room) (Pw D (tM k) (AM a) (wM a k σ) [.ref (a 0), .int x1]) (vp_Si (fun z => z = o)) 0 0 (fun _ => False) := by
  refine Met.ofW (cc := cX6_ran) (maxL := 2) (ret := (some .int)) (by decide) rfl ?_
  intro p e s m args below meth c s₁ B hml0 hv
  have C : Cx p s m args meth c cX6_ran 2 RX6 (Cond.code yX6_ran cX6_ran 2 (some .int)) (some .int) := ⟨B.exec, B.bytes, B.returns, hml0, findClass_of_methodNamed B.named, atoms_spec (ws := (Cond.code yX6_ran cX6_ran 2 (some .int)) :: WG) B.pre, B.notSynchronized⟩
  obtain ⟨rfl, hP, hK, hD⟩ := hv
  have hK : Kx D (tM k) s := hK
  have C0 := C
  obtain ⟨hx, hb, hr, hml, hown, hts, hlocks⟩ := C0
  have hW : ∀ w ∈ WG, w.before _ s = true := fun w h => hts w (List.mem_cons_of_mem _ h)
  show W p l e ({ frames := 1, cells := 0, slots := 0, locals := 22 } : Room) s m _ below meth c s.heap [] 0 0 _ _
  have hl := lv_entry ([.ref (a 0), .int x1]) (n := 2) (Nat.le_of_ble_eq_true rfl)
  rw [lg_entry_eq]
  generalize (lg_sl ([.ref (a 0), .int x1]) ++ List.replicate (2 - (lg_sl ([.ref (a 0), .int x1])).length) Slot.unset).toArray = ls at hl ⊢
  have hl : lv_has ls 2 [(0, .ref (a 0)), (1, .int x1)] := hl
  unfold fX6_ran at h
  refine lv_aload_n hx hb dX6_ran_0 rfl (lv_at hl 0 rfl) ?_
  refine va_get (D := D) (ci := 6) (v := .int (σ.1 4)) (C := RX6) (T := TX6) (N := 22) hx hb hW inX6G hown hK.1 hP 0 rfl rfl 16 (by decide) (hW _ wg365) (fun _ h9 => h9) rfl dX6_ran_1 ?_
  refine lv_if_eq (tgt := 30) hx hb dX6_ran_4 (by decide) (fun c4 => ?_) (fun c4 => ?_)
  · have h := ite_t h c4
    refine lv_iconst (v := (-1)) hx hb dX6_ran_30 (by decide) ?_
    have h := Option.some.inj h
    subst h
    exact W.iret (v := (-1)) hx hb hr (fun t ht hW9 => ⟨(-1), rfl, rfl, ht⟩) (fun _ h9 => absurd h9 List.not_mem_nil) dX6_ran_31 hlocks
  · have h := ite_f h c4
    refine lv_iload_n hx hb dX6_ran_7 rfl (lv_at hl 1 rfl) ?_
    refine lv_iconst (v := 0) hx hb dX6_ran_8 (by decide) ?_
    refine lv_aload_n hx hb dX6_ran_9 rfl (lv_at hl 0 rfl) ?_
    refine va_get (D := D) (ci := 6) (v := .int (σ.1 5)) (C := RX6) (T := TX6) (N := 22) hx hb hW inX6G hown hK.1 hP 0 rfl rfl 17 (by decide) (hW _ wg362) (fun _ h9 => h9) rfl dX6_ran_10 ?_
    refine lv_iconst (v := 1) hx hb dX6_ran_13 (by decide) ?_
    refine lv_isub hx hb dX6_ran_14 ?_
    obtain ⟨r15, hc15, h⟩ := bd_o h
    refine callRI (va_runS (As := [.int x1, .int 0, .int ((σ.1 5) - 1)]) (rest := []) ⟨hx, hb, hml, hown, hts⟩ (mX6_in l _ _ _ _ hc15) ⟨callB_of 3 hts (wg_c wg273) rfl rfl rfl (hW _ wg274) (hW _ wg272) hdX6_in ⟨Nat.le_of_ble_eq_true rfl, Nat.le_of_ble_eq_true rfl⟩, hW _ wg275⟩ preEq rfl rfl hl.1 rfl (lv_room (Nat.le_of_ble_eq_true rfl)) dX6_ran_15 ⟨Nat.zero_le _, Nat.zero_le _⟩) ?_
    refine lv_if_eq (tgt := 30) hx hb dX6_ran_18 (by decide) (fun c18 => ?_) (fun c18 => ?_)
    · have h := ite_t h c18
      refine lv_iconst (v := (-1)) hx hb dX6_ran_30 (by decide) ?_
      have h := Option.some.inj h
      subst h
      exact W.iret (v := (-1)) hx hb hr (fun t ht hW9 => ⟨(-1), rfl, rfl, ht⟩) (fun _ h9 => absurd h9 List.not_mem_nil) dX6_ran_31 hlocks
    · have h := ite_f h c18
      refine lv_aload_n hx hb dX6_ran_21 rfl (lv_at hl 0 rfl) ?_
      refine va_get (D := D) (ci := 6) (v := .ref (a 13)) (C := RX6) (T := TX6) (N := 22) hx hb hW inX6G hown hK.1 hP 0 rfl rfl 18 (by decide) (hW _ wg361) (fun _ h9 => h9) rfl dX6_ran_22 ?_
      refine lv_iload_n hx hb dX6_ran_25 rfl (lv_at hl 1 rfl) ?_
      obtain ⟨hi26, h⟩ := ix_o h
      refine va_iald (D := D) hx hb hK.1 hP 13 12 rfl rfl hi26 dX6_ran_26 ?_
      refine lv_goto (tgt := 31) hx hb dX6_ran_27 (by decide) ?_
      have h := Option.some.inj h
      subst h
      exact W.iret (v := (σ.2 12 x1.toNatClampNeg)) hx hb hr (fun t ht hW9 => ⟨(σ.2 12 x1.toNatClampNeg), rfl, rfl, ht⟩) (fun _ h9 => absurd h9 List.not_mem_nil) dX6_ran_31 hlocks
set_option maxHeartbeats 4000000 in
set_option maxRecDepth 100000 in
theorem mX6_came (l : Launch) (D : va_G) (a : Nat → Nat) (k : Nat → ClassId) (σ : ST) (x1 : Int32) (o : Int32) (h : fX6_came σ x1 = some o) : Met l yX6_came ((Cond.code yX6_came cX6_came 2 (some .int)) :: WG) ({ frames := 1, cells := 0, slots := 0, locals := 22 } : Room) (Pw D (tM k) (AM a) (wM a k σ) [.ref (a 0), .int x1]) (vp_Si (fun z => z = o)) 0 0 (fun _ => False) := by
  refine Met.ofW (cc := cX6_came) (maxL := 2) (ret := (some .int)) (by decide) rfl ?_
  intro p e s m args below meth c s₁ B hml0 hv
  have C : Cx p s m args meth c cX6_came 2 RX6 (Cond.code yX6_came cX6_came 2 (some .int)) (some .int) := ⟨B.exec, B.bytes, B.returns, hml0, findClass_of_methodNamed B.named, atoms_spec (ws := (Cond.code yX6_came cX6_came 2 (some .int)) :: WG) B.pre, B.notSynchronized⟩
  obtain ⟨rfl, hP, hK, hD⟩ := hv
  have hK : Kx D (tM k) s := hK
  have C0 := C
  obtain ⟨hx, hb, hr, hml, hown, hts, hlocks⟩ := C0
  have hW : ∀ w ∈ WG, w.before _ s = true := fun w h => hts w (List.mem_cons_of_mem _ h)
  show W p l e ({ frames := 1, cells := 0, slots := 0, locals := 22 } : Room) s m _ below meth c s.heap [] 0 0 _ _
  have hl := lv_entry ([.ref (a 0), .int x1]) (n := 2) (Nat.le_of_ble_eq_true rfl)
  rw [lg_entry_eq]
  generalize (lg_sl ([.ref (a 0), .int x1]) ++ List.replicate (2 - (lg_sl ([.ref (a 0), .int x1])).length) Slot.unset).toArray = ls at hl ⊢
  have hl : lv_has ls 2 [(0, .ref (a 0)), (1, .int x1)] := hl
  unfold fX6_came at h
  refine lv_iload_n hx hb dX6_came_0 rfl (lv_at hl 1 rfl) ?_
  refine lv_iconst (v := 0) hx hb dX6_came_1 (by decide) ?_
  refine lv_bipush (v := 6) hx hb dX6_came_2 (by decide) ?_
  obtain ⟨r4, hc4, h⟩ := bd_o h
  refine callRI (va_runS (As := [.int x1, .int 0, .int 6]) (rest := []) ⟨hx, hb, hml, hown, hts⟩ (mX6_in l _ _ _ _ hc4) ⟨callB_of 3 hts (wg_c wg273) rfl rfl rfl (hW _ wg274) (hW _ wg272) hdX6_in ⟨Nat.le_of_ble_eq_true rfl, Nat.le_of_ble_eq_true rfl⟩, hW _ wg275⟩ preEq rfl rfl hl.1 rfl (lv_room (Nat.le_of_ble_eq_true rfl)) dX6_came_4 ⟨Nat.zero_le _, Nat.zero_le _⟩) ?_
  refine lv_if_ne (tgt := 13) hx hb dX6_came_7 (by decide) (fun c7 => ?_) (fun c7 => ?_)
  · have h := ite_f h c7
    refine lv_aload_n hx hb dX6_came_13 rfl (lv_at hl 0 rfl) ?_
    refine va_get (D := D) (ci := 6) (v := .int (σ.1 4)) (C := RX6) (T := TX6) (N := 22) hx hb hW inX6G hown hK.1 hP 0 rfl rfl 16 (by decide) (hW _ wg365) (fun _ h9 => h9) rfl dX6_came_14 ?_
    refine lv_if_eq (tgt := 30) hx hb dX6_came_17 (by decide) (fun c17 => ?_) (fun c17 => ?_)
    · have h := ite_t h c17
      refine lv_bipush (v := (-103)) hx hb dX6_came_30 (by decide) ?_
      have h := Option.some.inj h
      subst h
      exact W.iret (v := (-103)) hx hb hr (fun t ht hW9 => ⟨(-103), rfl, rfl, ht⟩) (fun _ h9 => absurd h9 List.not_mem_nil) dX6_came_32 hlocks
    · have h := ite_f h c17
      refine lv_iload_n hx hb dX6_came_20 rfl (lv_at hl 1 rfl) ?_
      refine lv_iconst (v := 1) hx hb dX6_came_21 (by decide) ?_
      refine lv_aload_n hx hb dX6_came_22 rfl (lv_at hl 0 rfl) ?_
      refine va_get (D := D) (ci := 6) (v := .int (σ.1 8)) (C := RX6) (T := TX6) (N := 22) hx hb hW inX6G hown hK.1 hP 0 rfl rfl 21 (by decide) (hW _ wg364) (fun _ h9 => h9) rfl dX6_came_23 ?_
      refine lv_iadd hx hb dX6_came_26 ?_
      refine lv_icmp_le (tgt := 33) hx hb dX6_came_27 (by decide) (fun c27 => ?_) (fun c27 => ?_)
      · have h := ite_t h c27
        refine lv_iload_n hx hb dX6_came_33 rfl (lv_at hl 1 rfl) ?_
        refine lv_if_ne (tgt := 47) hx hb dX6_came_34 (by decide) (fun c34 => ?_) (fun c34 => ?_)
        · have h := ite_f h c34
          refine lv_iload_n hx hb dX6_came_47 rfl (lv_at hl 1 rfl) ?_
          refine lv_iconst (v := 1) hx hb dX6_came_48 (by decide) ?_
          refine lv_icmp_ne (tgt := 59) hx hb dX6_came_49 (by decide) (fun c49 => ?_) (fun c49 => ?_)
          · have h := ite_f h c49
            refine lv_aload_n hx hb dX6_came_59 rfl (lv_at hl 0 rfl) ?_
            refine va_get (D := D) (ci := 6) (v := .int (σ.1 6)) (C := RX6) (T := TX6) (N := 22) hx hb hW inX6G hown hK.1 hP 0 rfl rfl 19 (by decide) (hW _ wg363) (fun _ h9 => h9) rfl dX6_came_60 ?_
            refine lv_iload_n hx hb dX6_came_63 rfl (lv_at hl 1 rfl) ?_
            refine lv_iconst (v := 2) hx hb dX6_came_64 (by decide) ?_
            refine lv_isub hx hb dX6_came_65 ?_
            obtain ⟨r66, hc66, h⟩ := bd_o h
            refine callRI (va_runS (As := [.int (σ.1 6), .int (x1 - 2)]) (rest := []) ⟨hx, hb, hml, hown, hts⟩ (mX6_what l _ _ _ hc66) ⟨callB_of 2 hts (wg_c wg299) rfl rfl rfl (hW _ wg274) (hW _ wg298) hdX6_what ⟨Nat.le_of_ble_eq_true rfl, Nat.le_of_ble_eq_true rfl⟩, hW _ wg300⟩ preEq rfl rfl hl.1 rfl (lv_room (Nat.le_of_ble_eq_true rfl)) dX6_came_66 ⟨Nat.zero_le _, Nat.zero_le _⟩) ?_
            have h := Option.some.inj h
            subst h
            exact W.iret (v := r66) hx hb hr (fun t ht hW9 => ⟨r66, rfl, rfl, ht⟩) (fun _ h9 => absurd h9 List.not_mem_nil) dX6_came_69 hlocks
          · have h := ite_t h c49
            refine lv_aload_n hx hb dX6_came_52 rfl (lv_at hl 0 rfl) ?_
            refine va_get (D := D) (ci := 6) (v := .int (σ.1 7)) (C := RX6) (T := TX6) (N := 22) hx hb hW inX6G hown hK.1 hP 0 rfl rfl 20 (by decide) (hW _ wg367) (fun _ h9 => h9) rfl dX6_came_53 ?_
            refine lv_goto (tgt := 69) hx hb dX6_came_56 (by decide) ?_
            have h := Option.some.inj h
            subst h
            exact W.iret (v := (σ.1 7)) hx hb hr (fun t ht hW9 => ⟨(σ.1 7), rfl, rfl, ht⟩) (fun _ h9 => absurd h9 List.not_mem_nil) dX6_came_69 hlocks
        · have h := ite_t h c34
          refine lv_aload_n hx hb dX6_came_37 rfl (lv_at hl 0 rfl) ?_
          refine va_get (D := D) (ci := 6) (v := .int (σ.1 6)) (C := RX6) (T := TX6) (N := 22) hx hb hW inX6G hown hK.1 hP 0 rfl rfl 19 (by decide) (hW _ wg363) (fun _ h9 => h9) rfl dX6_came_38 ?_
          obtain ⟨r41, hc41, h⟩ := bd_o h
          refine callRI (va_runS (As := [.int (σ.1 6)]) (rest := []) ⟨hx, hb, hml, hown, hts⟩ (mX6_place l _ _ hc41) ⟨callB_of 1 hts (wg_c wg302) rfl rfl rfl (hW _ wg274) (hW _ wg301) hdX6_place ⟨Nat.le_of_ble_eq_true rfl, Nat.le_of_ble_eq_true rfl⟩, hW _ wg303⟩ preEq rfl rfl hl.1 rfl (lv_room (Nat.le_of_ble_eq_true rfl)) dX6_came_41 ⟨Nat.zero_le _, Nat.zero_le _⟩) ?_
          refine lv_goto (tgt := 69) hx hb dX6_came_44 (by decide) ?_
          have h := Option.some.inj h
          subst h
          exact W.iret (v := r41) hx hb hr (fun t ht hW9 => ⟨r41, rfl, rfl, ht⟩) (fun _ h9 => absurd h9 List.not_mem_nil) dX6_came_69 hlocks
      · have h := ite_f h c27
        refine lv_bipush (v := (-103)) hx hb dX6_came_30 (by decide) ?_
        have h := Option.some.inj h
        subst h
        exact W.iret (v := (-103)) hx hb hr (fun t ht hW9 => ⟨(-103), rfl, rfl, ht⟩) (fun _ h9 => absurd h9 List.not_mem_nil) dX6_came_32 hlocks
  · have h := ite_t h c7
    refine lv_bipush (v := (-102)) hx hb dX6_came_10 (by decide) ?_
    have h := Option.some.inj h
    subst h
    exact W.iret (v := (-102)) hx hb hr (fun t ht hW9 => ⟨(-102), rfl, rfl, ht⟩) (fun _ h9 => absurd h9 List.not_mem_nil) dX6_came_12 hlocks
