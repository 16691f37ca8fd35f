set_option maxHeartbeats 4000000 in
set_option maxRecDepth 100000 in
theorem bX1_survey_L128 {p : Program} {l : Launch} {e : Env} {s : State} {m : MethodId} {args : Array Value} {below : List Frame} {meth : Method} {c : Code} {D : va_G} {a : Nat → Nat} {k : Nat → ClassId} {o : ST} (C : Cx p s m args meth c cX1_survey 9 RX1 (Cond.code yX1_survey cX1_survey 9 none) none) (hK : Kx D (tX k) s) (k32 : Int32 → Int32 → Int32 → Int32 → Int32 → Int32 → ST → Option (ST)) (hk32 : ∀ (x2 x3 x4 x5 x6 x7 : Int32) (σ : ST) (H : Heap) (locs : List Loc) (ls : Array Slot), va_P D vwCl (wX a k σ) H → va_D (AX a) (wX a k σ) → va_S (AX a) s.heap H locs → lv_has ls 9 [(0, .ref (a 4)), (2, .int x2), (3, .int x3), (4, .int x4), (5, .int x5), (6, .int x6), (7, .int x7)] → k32 x2 x3 x4 x5 x6 x7 σ = some o → W p l e ({ frames := 2, cells := 0, slots := 0, locals := 44 } : Room) s m args below meth c H locs 0 0 (MQ below (va_Qv (S := Unit) (fun _ => True) (fun _ t => va_P D vwCl (wX a k o) t.heap) (AX a)) args s 0 0 (AX a)) (F0 m 32 ls [])) : ∀ (x2 x3 x4 x6 x7 y0 y1 : Int32) (σ : ST) (H : Heap) (locs : List Loc) (ls : Array Slot), va_P D vwCl (wX a k σ) H → va_D (AX a) (wX a k σ) → va_S (AX a) s.heap H locs → lv_has ls 9 [(0, .ref (a 4)), (2, .int x2), (3, .int x3), (4, .int x4), (6, .int x6), (7, .int x7)] → fX1_survey_L128 k32 x2 x3 x4 x6 x7 y0 y1 σ = some o → W p l e ({ frames := 2, cells := 0, slots := 0, locals := 44 } : Room) s m args below meth c H locs 0 0 (MQ below (va_Qv (S := Unit) (fun _ => True) (fun _ t => va_P D vwCl (wX a k o) t.heap) (AX a)) args s 0 0 (AX a)) (F0 m 128 ls [.int y1, .int y0]) := by
  have C0 := C
  obtain ⟨hx, hb, hr, hml, hown, hts, hlocks⟩ := C0
  have hW : ∀ w ∈ WG, w.before args s = true := fun w h => hts w (List.mem_cons_of_mem _ h)
  intro x2 x3 x4 x6 x7 y0 y1 σ H locs ls hP hD hS hl h
  unfold fX1_survey_L128 at h
  refine lv_iadd hx hb dX1_survey_128 ?_
  refine lv_topi (fun x5_129 ex5_129 => ?_)
  have h := nm_o h ex5_129
  refine lv_istore (lv' := [(5, .int x5_129), (0, .ref (a 4)), (2, .int x2), (3, .int x3), (4, .int x4), (6, .int x6), (7, .int x7)]) hx hb dX1_survey_129 hl (by decide) rfl (fun ls hl => ?_)
  obtain ⟨x7_131, ex7_131⟩ : ∃ y : Int32, y = x7 + 1 := ⟨_, rfl⟩
  have h := nm_o h ex7_131
  refine lv_iinc (v := x7_131) (lv' := [(7, .int x7_131), (5, .int x5_129), (0, .ref (a 4)), (2, .int x2), (3, .int x3), (4, .int x4), (6, .int x6)]) hx hb dX1_survey_131 hl (k := 6) rfl (by rw [ex7_131]; rfl) (by decide) rfl (fun ls hl => ?_)
  refine lv_goto (tgt := 32) hx hb dX1_survey_134 (by decide) ?_
  exact hk32 _ _ _ _ _ _ _ H locs ls hP hD hS (lv_sub hl [2, 3, 4, 5, 1, 6, 0] rfl) h
set_option maxHeartbeats 4000000 in
set_option maxRecDepth 100000 in
theorem bX1_survey_L108 {p : Program} {l : Launch} {e : Env} {s : State} {m : MethodId} {args : Array Value} {below : List Frame} {meth : Method} {c : Code} {D : va_G} {a : Nat → Nat} {k : Nat → ClassId} {o : ST} (C : Cx p s m args meth c cX1_survey 9 RX1 (Cond.code yX1_survey cX1_survey 9 none) none) (hK : Kx D (tX k) s) (k32 : Int32 → Int32 → Int32 → Int32 → Int32 → Int32 → ST → Option (ST)) (hk32 : ∀ (x2 x3 x4 x5 x6 x7 : Int32) (σ : ST) (H : Heap) (locs : List Loc) (ls : Array Slot), va_P D vwCl (wX a k σ) H → va_D (AX a) (wX a k σ) → va_S (AX a) s.heap H locs → lv_has ls 9 [(0, .ref (a 4)), (2, .int x2), (3, .int x3), (4, .int x4), (5, .int x5), (6, .int x6), (7, .int x7)] → k32 x2 x3 x4 x5 x6 x7 σ = some o → W p l e ({ frames := 2, cells := 0, slots := 0, locals := 44 } : Room) s m args below meth c H locs 0 0 (MQ below (va_Qv (S := Unit) (fun _ => True) (fun _ t => va_P D vwCl (wX a k o) t.heap) (AX a)) args s 0 0 (AX a)) (F0 m 32 ls [])) : ∀ (x2 x3 x4 x5 x6 x7 x8 : Int32) (σ : ST) (H : Heap) (locs : List Loc) (ls : Array Slot), va_P D vwCl (wX a k σ) H → va_D (AX a) (wX a k σ) → va_S (AX a) s.heap H locs → lv_has ls 9 [(0, .ref (a 4)), (2, .int x2), (3, .int x3), (4, .int x4), (5, .int x5), (6, .int x6), (7, .int x7), (8, .int x8)] → fX1_survey_L108 k32 x2 x3 x4 x5 x6 x7 x8 σ = some o → W p l e ({ frames := 2, cells := 0, slots := 0, locals := 44 } : Room) s m args below meth c H locs 0 0 (MQ below (va_Qv (S := Unit) (fun _ => True) (fun _ t => va_P D vwCl (wX a k o) t.heap) (AX a)) args s 0 0 (AX a)) (F0 m 108 ls []) := by
  have C0 := C
  obtain ⟨hx, hb, hr, hml, hown, hts, hlocks⟩ := C0
  have hW : ∀ w ∈ WG, w.before args s = true := fun w h => hts w (List.mem_cons_of_mem _ h)
  intro x2 x3 x4 x5 x6 x7 x8 σ H locs ls hP hD hS hl h
  unfold fX1_survey_L108 at h
  refine lv_iload hx hb dX1_survey_108 (lv_at hl 4 rfl) ?_
  refine lv_aload_n hx hb dX1_survey_110 rfl (lv_at hl 0 rfl) ?_
  refine va_get (D := D) (ci := 1) (v := .ref (a 1)) (C := RX1) (T := TX1) (N := 14) hx hb hW inX1G hown hK.1 hP 4 rfl rfl 0 (by decide) (hW _ wg86) (fun _ h9 => h9) rfl dX1_survey_111 ?_
  refine lv_iload hx hb dX1_survey_114 (lv_at hl 6 rfl) ?_
  obtain ⟨r116, hc116, h⟩ := bd_o h
  refine callRI (va_runVN (As := [.int x7]) (rest := [.int x5]) ⟨hx, hb, hml, hown, hts⟩ (mX3_isFile l D a k _ _ _ hc116) ⟨va_cnB 1 hts (wg_c wg16) rfl rfl rfl (hK.2 _ nw87) (hW _ wg13) hdX3_isFile ⟨Nat.le_of_ble_eq_true rfl, Nat.le_of_ble_eq_true rfl⟩, hW _ wg18, hW _ wg19⟩ (pw_V hK hP hD (ci := 3) (q0 := 1) rfl rfl) rfl rfl hl.1 rfl (lv_room (Nat.le_of_ble_eq_true rfl)) dX1_survey_116 ⟨Nat.zero_le _, Nat.zero_le _⟩) ?_
  refine lv_if_eq (tgt := 126) hx hb dX1_survey_119 (by decide) (fun c119 => ?_) (fun c119 => ?_)
  · have h := ite_t h c119
    refine lv_iload hx hb dX1_survey_126 (lv_at hl 7 rfl) ?_
    exact bX1_survey_L128 C hK _ hk32 _ _ _ _ _ _ _ _ H locs ls hP hD hS (lv_sub hl [0, 1, 2, 3, 5, 6] rfl) h
  · have h := ite_f h c119
    refine lv_iconst (v := 0) hx hb dX1_survey_122 (by decide) ?_
    refine lv_goto (tgt := 128) hx hb dX1_survey_123 (by decide) ?_
    exact bX1_survey_L128 C hK _ hk32 _ _ _ _ _ _ _ _ H locs ls hP hD hS (lv_sub hl [0, 1, 2, 3, 5, 6] rfl) h
set_option maxHeartbeats 4000000 in
set_option maxRecDepth 100000 in
theorem bX1_survey_L105 {p : Program} {l : Launch} {e : Env} {s : State} {m : MethodId} {args : Array Value} {below : List Frame} {meth : Method} {c : Code} {D : va_G} {a : Nat → Nat} {k : Nat → ClassId} {o : ST} (C : Cx p s m args meth c cX1_survey 9 RX1 (Cond.code yX1_survey cX1_survey 9 none) none) (hK : Kx D (tX k) s) (k32 : Int32 → Int32 → Int32 → Int32 → Int32 → Int32 → ST → Option (ST)) (hk32 : ∀ (x2 x3 x4 x5 x6 x7 : Int32) (σ : ST) (H : Heap) (locs : List Loc) (ls : Array Slot), va_P D vwCl (wX a k σ) H → va_D (AX a) (wX a k σ) → va_S (AX a) s.heap H locs → lv_has ls 9 [(0, .ref (a 4)), (2, .int x2), (3, .int x3), (4, .int x4), (5, .int x5), (6, .int x6), (7, .int x7)] → k32 x2 x3 x4 x5 x6 x7 σ = some o → W p l e ({ frames := 2, cells := 0, slots := 0, locals := 44 } : Room) s m args below meth c H locs 0 0 (MQ below (va_Qv (S := Unit) (fun _ => True) (fun _ t => va_P D vwCl (wX a k o) t.heap) (AX a)) args s 0 0 (AX a)) (F0 m 32 ls [])) : ∀ (x2 x3 x5 x6 x7 x8 y0 y1 : Int32) (σ : ST) (H : Heap) (locs : List Loc) (ls : Array Slot), va_P D vwCl (wX a k σ) H → va_D (AX a) (wX a k σ) → va_S (AX a) s.heap H locs → lv_has ls 9 [(0, .ref (a 4)), (2, .int x2), (3, .int x3), (5, .int x5), (6, .int x6), (7, .int x7), (8, .int x8)] → fX1_survey_L105 k32 x2 x3 x5 x6 x7 x8 y0 y1 σ = some o → W p l e ({ frames := 2, cells := 0, slots := 0, locals := 44 } : Room) s m args below meth c H locs 0 0 (MQ below (va_Qv (S := Unit) (fun _ => True) (fun _ t => va_P D vwCl (wX a k o) t.heap) (AX a)) args s 0 0 (AX a)) (F0 m 105 ls [.int y1, .int y0]) := by
  have C0 := C
  obtain ⟨hx, hb, hr, hml, hown, hts, hlocks⟩ := C0
  have hW : ∀ w ∈ WG, w.before args s = true := fun w h => hts w (List.mem_cons_of_mem _ h)
  intro x2 x3 x5 x6 x7 x8 y0 y1 σ H locs ls hP hD hS hl h
  unfold fX1_survey_L105 at h
  refine lv_iadd hx hb dX1_survey_105 ?_
  refine lv_topi (fun x4_106 ex4_106 => ?_)
  have h := nm_o h ex4_106
  refine lv_istore (lv' := [(4, .int x4_106), (0, .ref (a 4)), (2, .int x2), (3, .int x3), (5, .int x5), (6, .int x6), (7, .int x7), (8, .int x8)]) hx hb dX1_survey_106 hl (by decide) rfl (fun ls hl => ?_)
  exact bX1_survey_L108 C hK _ hk32 _ _ _ _ _ _ _ _ H locs ls hP hD hS (lv_sub hl [1, 2, 3, 0, 4, 5, 6, 7] rfl) h
set_option maxHeartbeats 4000000 in
set_option maxRecDepth 100000 in
theorem bX1_survey_L32 {p : Program} {l : Launch} {e : Env} {s : State} {m : MethodId} {args : Array Value} {below : List Frame} {meth : Method} {c : Code} {D : va_G} {a : Nat → Nat} {k : Nat → ClassId} {o : ST} (C : Cx p s m args meth c cX1_survey 9 RX1 (Cond.code yX1_survey cX1_survey 9 none) none) (hK : Kx D (tX k) s) : ∀ (n : Nat) (x2 x3 x4 x5 x6 x7 : Int32) (σ : ST) (H : Heap) (locs : List Loc) (ls : Array Slot), va_P D vwCl (wX a k σ) H → va_D (AX a) (wX a k σ) → va_S (AX a) s.heap H locs → lv_has ls 9 [(0, .ref (a 4)), (2, .int x2), (3, .int x3), (4, .int x4), (5, .int x5), (6, .int x6), (7, .int x7)] → fX1_survey_L32 n x2 x3 x4 x5 x6 x7 σ = some o → W p l e ({ frames := 2, cells := 0, slots := 0, locals := 44 } : Room) s m args below meth c H locs 0 0 (MQ below (va_Qv (S := Unit) (fun _ => True) (fun _ t => va_P D vwCl (wX a k o) t.heap) (AX a)) args s 0 0 (AX a)) (F0 m 32 ls []) := by
  have C0 := C
  obtain ⟨hx, hb, hr, hml, hown, hts, hlocks⟩ := C0
  have hW : ∀ w ∈ WG, w.before args s = true := fun w h => hts w (List.mem_cons_of_mem _ h)
  intro n
  induction n with
  | zero =>
    intro x2 x3 x4 x5 x6 x7 σ H locs ls hP hD hS hl h
    rw [fX1_survey_L32] at h
    cases h
  | succ n ih =>
      intro x2 x3 x4 x5 x6 x7 σ H locs ls hP hD hS hl h
      rw [fX1_survey_L32] at h
      refine lv_iload hx hb dX1_survey_32 (lv_at hl 6 rfl) ?_
      refine lv_aload_n hx hb dX1_survey_34 rfl (lv_at hl 0 rfl) ?_
      refine va_get (D := D) (ci := 1) (v := .ref (a 1)) (C := RX1) (T := TX1) (N := 14) hx hb hW inX1G hown hK.1 hP 4 rfl rfl 0 (by decide) (hW _ wg86) (fun _ h9 => h9) rfl dX1_survey_35 ?_
      refine va_getN (D := D) (ci := 3) (v := .int (σ.1 1)) (C := RX3) (T := TX3) (N := 4) hx hb hW inX3G hown hK.1 hP 1 rfl rfl 3 (by decide) (hK.2.fld nw88) (fun _ h9 => h9) rfl dX1_survey_38 ?_
      refine lv_icmp_ge (tgt := 137) hx hb dX1_survey_41 (by decide) (fun c41 => ?_) (fun c41 => ?_)
      · have h := ite_t h c41
        refine lv_aload_n hx hb dX1_survey_137 rfl (lv_at hl 0 rfl) ?_
        refine lv_aload_n hx hb dX1_survey_138 rfl (lv_at hl 0 rfl) ?_
        refine va_get (D := D) (ci := 1) (v := .int (σ.1 5)) (C := RX1) (T := TX1) (N := 14) hx hb hW inX1G hown hK.1 hP 4 rfl rfl 11 (by decide) (hW _ wg59) (fun _ h9 => h9) rfl dX1_survey_139 ?_
        refine lv_iload hx hb dX1_survey_142 (lv_at hl 3 rfl) ?_
        refine va_mmax hx hb (by rw [hml]; exact hl.1.symm) hown (hW _ wg89) (hW _ wg90) (hW _ wg91) (hW _ wg92) (Nat.le_of_ble_eq_true rfl) (Nat.le_of_ble_eq_true rfl) (Nat.zero_le _) (Nat.zero_le _) dX1_survey_144 ?_
        refine lv_topi (fun x144 ex144 => ?_)
        have h := nm_o h (x := mx32 (σ.1 5) x4) ex144
        refine va_put (D := D) (ci := 1) (v := .int x144) (ty := .int) (C := RX1) (T := TX1) (N := 14) hx hb hW inX1G tyX1 tyX1_ok nmX1 hown hK.1 hP hD hS 4 rfl rfl 11 (by decide) (hW _ wg59) (fun _ h9 => h9) rfl (by decide +kernel) rfl rfl (Nat.le_of_ble_eq_true rfl) dX1_survey_147 (fun H locs hP hD9 hS => ?_)
        obtain ⟨s147, es147⟩ : ∃ z : ST, z = setF σ 5 x144 := ⟨_, rfl⟩
        have h := nm_o h es147
        have hP : va_P D vwCl (wX a k s147) H := by rw [es147]; exact hP
        have hD : va_D (AX a) (wX a k s147) := dX hD
        refine lv_aload_n hx hb dX1_survey_150 rfl (lv_at hl 0 rfl) ?_
        refine lv_aload_n hx hb dX1_survey_151 rfl (lv_at hl 0 rfl) ?_
        refine va_get (D := D) (ci := 1) (v := .int (s147.1 6)) (C := RX1) (T := TX1) (N := 14) hx hb hW inX1G hown hK.1 hP 4 rfl rfl 12 (by decide) (hW _ wg60) (fun _ h9 => h9) rfl dX1_survey_152 ?_
        refine lv_iload hx hb dX1_survey_155 (lv_at hl 4 rfl) ?_
        refine va_mmax hx hb (by rw [hml]; exact hl.1.symm) hown (hW _ wg89) (hW _ wg90) (hW _ wg91) (hW _ wg92) (Nat.le_of_ble_eq_true rfl) (Nat.le_of_ble_eq_true rfl) (Nat.zero_le _) (Nat.zero_le _) dX1_survey_157 ?_
        refine lv_topi (fun x157 ex157 => ?_)
        have h := nm_o h (x := mx32 (s147.1 6) x5) ex157
        refine va_put (D := D) (ci := 1) (v := .int x157) (ty := .int) (C := RX1) (T := TX1) (N := 14) hx hb hW inX1G tyX1 tyX1_ok nmX1 hown hK.1 hP hD hS 4 rfl rfl 12 (by decide) (hW _ wg60) (fun _ h9 => h9) rfl (by decide +kernel) rfl rfl (Nat.le_of_ble_eq_true rfl) dX1_survey_160 (fun H locs hP hD9 hS => ?_)
        obtain ⟨s160, es160⟩ : ∃ z : ST, z = setF s147 6 x157 := ⟨_, rfl⟩
        have h := nm_o h es160
        have hP : va_P D vwCl (wX a k s160) H := by rw [es160]; exact hP
        have hD : va_D (AX a) (wX a k s160) := dX hD
        refine lv_aload_n hx hb dX1_survey_163 rfl (lv_at hl 0 rfl) ?_
        refine lv_aload_n hx hb dX1_survey_164 rfl (lv_at hl 0 rfl) ?_
        refine va_get (D := D) (ci := 1) (v := .int (s160.1 7)) (C := RX1) (T := TX1) (N := 14) hx hb hW inX1G hown hK.1 hP 4 rfl rfl 13 (by decide) (hW _ wg61) (fun _ h9 => h9) rfl dX1_survey_165 ?_
        refine lv_iload hx hb dX1_survey_168 (lv_at hl 5 rfl) ?_
        refine va_mmax hx hb (by rw [hml]; exact hl.1.symm) hown (hW _ wg89) (hW _ wg90) (hW _ wg91) (hW _ wg92) (Nat.le_of_ble_eq_true rfl) (Nat.le_of_ble_eq_true rfl) (Nat.zero_le _) (Nat.zero_le _) dX1_survey_170 ?_
        refine lv_topi (fun x170 ex170 => ?_)
        have h := nm_o h (x := mx32 (s160.1 7) x6) ex170
        refine va_put (D := D) (ci := 1) (v := .int x170) (ty := .int) (C := RX1) (T := TX1) (N := 14) hx hb hW inX1G tyX1 tyX1_ok nmX1 hown hK.1 hP hD hS 4 rfl rfl 13 (by decide) (hW _ wg61) (fun _ h9 => h9) rfl (by decide +kernel) rfl rfl (Nat.le_of_ble_eq_true rfl) dX1_survey_173 (fun H locs hP hD9 hS => ?_)
        obtain ⟨s173, es173⟩ : ∃ z : ST, z = setF s160 7 x170 := ⟨_, rfl⟩
        have h := nm_o h es173
        have hP : va_P D vwCl (wX a k s173) H := by rw [es173]; exact hP
        have hD : va_D (AX a) (wX a k s173) := dX hD
        have h := Option.some.inj h
        subst h
        exact W.vret hx hb hr (fun t ht hW9 => ⟨⟨(), rfl, trivial, by show va_P _ _ _ t.heap; rw [ht]; exact hP⟩, hS.F ht⟩) hS.2.2 dX1_survey_176 hlocks
      · have h := ite_f h c41
        refine lv_iload_n hx hb dX1_survey_44 rfl (lv_at hl 2 rfl) ?_
        refine lv_iload hx hb dX1_survey_45 (lv_at hl 6 rfl) ?_
        obtain ⟨r47, hc47, h⟩ := bd_o h
        refine callRI (va_runSN (As := [.int x3, .int x7]) (rest := []) ⟨hx, hb, hml, hown, hts⟩ (mX5_stateIn l _ _ _ hc47) ⟨va_cnB 2 hts (wg_c wg82) rfl rfl rfl (hK.2 _ nw93) (hW _ wg3) hdX5_stateIn ⟨Nat.le_of_ble_eq_true rfl, Nat.le_of_ble_eq_true rfl⟩, hW _ wg84, trivial⟩ preEq rfl rfl hl.1 rfl (lv_room (Nat.le_of_ble_eq_true rfl)) dX1_survey_47 ⟨Nat.zero_le _, Nat.zero_le _⟩) ?_
        refine lv_istore (lv' := [(8, .int r47), (0, .ref (a 4)), (2, .int x2), (3, .int x3), (4, .int x4), (5, .int x5), (6, .int x6), (7, .int x7)]) hx hb dX1_survey_50 hl (by decide) rfl (fun ls hl => ?_)
        refine lv_aload_n hx hb dX1_survey_52 rfl (lv_at hl 1 rfl) ?_
        refine va_get (D := D) (ci := 1) (v := .ref (a 17)) (C := RX1) (T := TX1) (N := 14) hx hb hW inX1G hown hK.1 hP 4 rfl rfl 6 (by decide) (hW _ wg67) (fun _ h9 => h9) rfl dX1_survey_53 ?_
        refine lv_iload_n hx hb dX1_survey_56 rfl (lv_at hl 2 rfl) ?_
        refine lv_iconst (v := 5) hx hb dX1_survey_57 (by decide) ?_
        refine lv_imul hx hb dX1_survey_58 ?_
        refine lv_iload hx hb dX1_survey_59 (lv_at hl 7 rfl) ?_
        refine lv_iadd hx hb dX1_survey_61 ?_
        refine lv_dup2_11 hx hb dX1_survey_62 rfl rfl ?_
        obtain ⟨hi63, h⟩ := ix_o h
        refine va_iald (D := D) hx hb hK.1 hP 17 11 rfl rfl hi63 dX1_survey_63 ?_
        refine lv_iconst (v := 1) hx hb dX1_survey_64 (by decide) ?_
        refine lv_iload hx hb dX1_survey_65 (lv_at hl 0 rfl) ?_
        refine lv_ishl hx hb dX1_survey_67 ?_
        refine lv_ior hx hb dX1_survey_68 ?_
        obtain ⟨hi69, h⟩ := ix_o h
        refine va_iast (D := D) hx hb hK.1 hP hD hS 17 11 rfl rfl hi69 dX1_survey_69 (fun H locs hP hD9 hS => ?_)
        obtain ⟨s69, es69⟩ : ∃ z : ST, z = setA σ 11 ((x2 * 5) + x7).toNatClampNeg ((σ.2 11 ((x2 * 5) + x7).toNatClampNeg) ||| (1 <<< (r47 &&& 31))) := ⟨_, rfl⟩
        have h := nm_o h es69
        have hP : va_P D vwCl (wX a k s69) H := by rw [es69]; exact hP
        have hD : va_D (AX a) (wX a k s69) := dX hD
        refine lv_aload_n hx hb dX1_survey_70 rfl (lv_at hl 1 rfl) ?_
        refine va_get (D := D) (ci := 1) (v := .ref (a 1)) (C := RX1) (T := TX1) (N := 14) hx hb hW inX1G hown hK.1 hP 4 rfl rfl 0 (by decide) (hW _ wg86) (fun _ h9 => h9) rfl dX1_survey_71 ?_
        refine lv_iload_n hx hb dX1_survey_74 rfl (lv_at hl 3 rfl) ?_
        refine lv_iload hx hb dX1_survey_75 (lv_at hl 7 rfl) ?_
        obtain ⟨r77, hc77, h⟩ := bd_o h
        refine callRI (va_runVN (As := [.int x3, .int x7]) (rest := []) ⟨hx, hb, hml, hown, hts⟩ (mX3_isHeld l D a k _ _ _ _ hc77) ⟨va_cnB 2 hts (wg_c wg94) rfl rfl rfl (hK.2 _ nw95) (hW _ wg13) hdX3_isHeld ⟨Nat.le_of_ble_eq_true rfl, Nat.le_of_ble_eq_true rfl⟩, hW _ wg96, hW _ wg97⟩ (pw_V hK hP hD (ci := 3) (q0 := 1) rfl rfl) rfl rfl hl.1 rfl (lv_room (Nat.le_of_ble_eq_true rfl)) dX1_survey_77 ⟨Nat.zero_le _, Nat.zero_le _⟩) ?_
        refine lv_if_eq (tgt := 108) hx hb dX1_survey_80 (by decide) (fun c80 => ?_) (fun c80 => ?_)
        · have h := ite_t h c80
          exact bX1_survey_L108 C hK _ ih _ _ _ _ _ _ _ _ H locs ls hP hD hS (lv_sub hl [1, 2, 3, 4, 5, 6, 7, 0] rfl) h
        · have h := ite_f h c80
          obtain ⟨x6_83, ex6_83⟩ : ∃ y : Int32, y = x6 + 1 := ⟨_, rfl⟩
          have h := nm_o h ex6_83
          refine lv_iinc (v := x6_83) (lv' := [(6, .int x6_83), (8, .int r47), (0, .ref (a 4)), (2, .int x2), (3, .int x3), (4, .int x4), (5, .int x5), (7, .int x7)]) hx hb dX1_survey_83 hl (k := 6) rfl (by rw [ex6_83]; rfl) (by decide) rfl (fun ls hl => ?_)
          refine lv_iload hx hb dX1_survey_86 (lv_at hl 5 rfl) ?_
          refine lv_aload_n hx hb dX1_survey_88 rfl (lv_at hl 2 rfl) ?_
          refine va_get (D := D) (ci := 1) (v := .ref (a 1)) (C := RX1) (T := TX1) (N := 14) hx hb hW inX1G hown hK.1 hP 4 rfl rfl 0 (by decide) (hW _ wg86) (fun _ h9 => h9) rfl dX1_survey_89 ?_
          refine lv_iload hx hb dX1_survey_92 (lv_at hl 7 rfl) ?_
          obtain ⟨r94, hc94, h⟩ := bd_o h
          refine callRI (va_runVN (As := [.int x7]) (rest := [.int x4]) ⟨hx, hb, hml, hown, hts⟩ (mX3_isFile l D a k _ _ _ hc94) ⟨va_cnB 1 hts (wg_c wg16) rfl rfl rfl (hK.2 _ nw87) (hW _ wg13) hdX3_isFile ⟨Nat.le_of_ble_eq_true rfl, Nat.le_of_ble_eq_true rfl⟩, hW _ wg18, hW _ wg19⟩ (pw_V hK hP hD (ci := 3) (q0 := 1) rfl rfl) rfl rfl hl.1 rfl (lv_room (Nat.le_of_ble_eq_true rfl)) dX1_survey_94 ⟨Nat.zero_le _, Nat.zero_le _⟩) ?_
          refine lv_if_eq (tgt := 104) hx hb dX1_survey_97 (by decide) (fun c97 => ?_) (fun c97 => ?_)
          · have h := ite_t h c97
            refine lv_iconst (v := 0) hx hb dX1_survey_104 (by decide) ?_
            exact bX1_survey_L105 C hK _ ih _ _ _ _ _ _ _ _ _ H locs ls hP hD hS (lv_sub hl [2, 3, 4, 6, 0, 7, 1] rfl) h
          · have h := ite_f h c97
            refine lv_iconst (v := 1) hx hb dX1_survey_100 (by decide) ?_
            refine lv_goto (tgt := 105) hx hb dX1_survey_101 (by decide) ?_
            exact bX1_survey_L105 C hK _ ih _ _ _ _ _ _ _ _ _ H locs ls hP hD hS (lv_sub hl [2, 3, 4, 6, 0, 7, 1] rfl) h
set_option maxHeartbeats 4000000 in
set_option maxRecDepth 100000 in
theorem mX1_survey (l : Launch) (D : va_G) (a : Nat → Nat) (k : Nat → ClassId) (σ : ST) (x1 : Int32) (o : ST) (h : fX1_survey σ x1 = some o) : Met l yX1_survey ((Cond.code yX1_survey cX1_survey 9 none) :: WG) ({ frames := 2, cells := 0, slots := 0, locals := 44 } : Room) (Pw D (tX k) (AX a) (wX a k σ) [.ref (a 4), .int x1]) (va_Qv (S := Unit) (fun _ => True) (fun _ t => va_P D vwCl (wX a k o) t.heap) (AX a)) 0 0 (AX a) := by
  refine Met.ofW (cc := cX1_survey) (maxL := 9) (ret := none) (by decide) rfl ?_
  intro p e s m args below meth c s₁ B hml0 hv
  have C : Cx p s m args meth c cX1_survey 9 RX1 (Cond.code yX1_survey cX1_survey 9 none) none := ⟨B.exec, B.bytes, B.returns, hml0, findClass_of_methodNamed B.named, atoms_spec (ws := (Cond.code yX1_survey cX1_survey 9 none) :: WG) B.pre, B.notSynchronized⟩
  obtain ⟨rfl, hP, hK, hD⟩ := hv
  have hK : Kx D (tX k) s := hK
  have C0 := C
  obtain ⟨hx, hb, hr, hml, hown, hts, hlocks⟩ := C0
  have hW : ∀ w ∈ WG, w.before _ s = true := fun w h => hts w (List.mem_cons_of_mem _ h)
  show W p l e ({ frames := 2, cells := 0, slots := 0, locals := 44 } : Room) s m _ below meth c s.heap [] 0 0 _ _
  have hl := lv_entry ([.ref (a 4), .int x1]) (n := 9) (Nat.le_of_ble_eq_true rfl)
  rw [lg_entry_eq]
  generalize (lg_sl ([.ref (a 4), .int x1]) ++ List.replicate (9 - (lg_sl ([.ref (a 4), .int x1])).length) Slot.unset).toArray = ls at hl ⊢
  have hl : lv_has ls 9 [(0, .ref (a 4)), (1, .int x1)] := hl
  have hS : va_S (AX a) s.heap s.heap [] := va_S.rf
  suffices hgo : ∀ (H : Heap) (locs : List Loc), va_P D vwCl (wX a k σ) H → va_S (AX a) s.heap H locs → W p l e ({ frames := 2, cells := 0, slots := 0, locals := 44 } : Room) s m _ below meth c H locs 0 0 (MQ below (va_Qv (S := Unit) (fun _ => True) (fun _ t => va_P D vwCl (wX a k o) t.heap) (AX a)) _ s 0 0 (AX a)) (F0 m 0 ls []) from hgo _ _ hP hS
  clear hP hS
  intro H locs hP hS
  unfold fX1_survey at h
  refine lv_iload_n hx hb dX1_survey_0 rfl (lv_at hl 1 rfl) ?_
  obtain ⟨r1, hc1, h⟩ := bd_o h
  refine callRI (va_runSN (As := [.int x1]) (rest := []) ⟨hx, hb, hml, hown, hts⟩ (mX5_placeOf l _ _ hc1) ⟨va_cnB 1 hts (wg_c wg98) rfl rfl rfl (hK.2 _ nw99) (hW _ wg3) hdX5_placeOf ⟨Nat.le_of_ble_eq_true rfl, Nat.le_of_ble_eq_true rfl⟩, hW _ wg100, trivial⟩ preEq rfl rfl hl.1 rfl (lv_room (Nat.le_of_ble_eq_true rfl)) dX1_survey_1 ⟨Nat.zero_le _, Nat.zero_le _⟩) ?_
  refine lv_istore_n (lv' := [(2, .int r1), (0, .ref (a 4)), (1, .int x1)]) hx hb dX1_survey_4 rfl hl (by decide) rfl (fun ls hl => ?_)
  refine lv_iload_n hx hb dX1_survey_5 rfl (lv_at hl 2 rfl) ?_
  obtain ⟨r6, hc6, h⟩ := bd_o h
  refine callRI (va_runSN (As := [.int x1]) (rest := []) ⟨hx, hb, hml, hown, hts⟩ (mX5_allOf l _ _ hc6) ⟨va_cnB 1 hts (wg_c wg101) rfl rfl rfl (hK.2 _ nw102) (hW _ wg3) hdX5_allOf ⟨Nat.le_of_ble_eq_true rfl, Nat.le_of_ble_eq_true rfl⟩, hW _ wg103, trivial⟩ preEq rfl rfl hl.1 rfl (lv_room (Nat.le_of_ble_eq_true rfl)) dX1_survey_6 ⟨Nat.zero_le _, Nat.zero_le _⟩) ?_
  refine lv_istore_n (lv' := [(3, .int r6), (2, .int r1), (0, .ref (a 4)), (1, .int x1)]) hx hb dX1_survey_9 rfl hl (by decide) rfl (fun ls hl => ?_)
  refine lv_iconst (v := 0) hx hb dX1_survey_10 (by decide) ?_
  refine lv_istore (lv' := [(4, .int 0), (3, .int r6), (2, .int r1), (0, .ref (a 4)), (1, .int x1)]) hx hb dX1_survey_11 hl (by decide) rfl (fun ls hl => ?_)
  refine lv_iconst (v := 0) hx hb dX1_survey_13 (by decide) ?_
  refine lv_istore (lv' := [(5, .int 0), (4, .int 0), (3, .int r6), (2, .int r1), (0, .ref (a 4)), (1, .int x1)]) hx hb dX1_survey_14 hl (by decide) rfl (fun ls hl => ?_)
  refine lv_iconst (v := 0) hx hb dX1_survey_16 (by decide) ?_
  refine lv_istore (lv' := [(6, .int 0), (5, .int 0), (4, .int 0), (3, .int r6), (2, .int r1), (0, .ref (a 4)), (1, .int x1)]) hx hb dX1_survey_17 hl (by decide) rfl (fun ls hl => ?_)
  refine lv_aload_n hx hb dX1_survey_19 rfl (lv_at hl 5 rfl) ?_
  refine va_get (D := D) (ci := 1) (v := .ref (a 16)) (C := RX1) (T := TX1) (N := 14) hx hb hW inX1G hown hK.1 hP 4 rfl rfl 5 (by decide) (hW _ wg62) (fun _ h9 => h9) rfl dX1_survey_20 ?_
  refine lv_iload_n hx hb dX1_survey_23 rfl (lv_at hl 4 rfl) ?_
  refine lv_dup2_11 hx hb dX1_survey_24 rfl rfl ?_
  obtain ⟨hi25, h⟩ := ix_o h
  refine va_iald (D := D) hx hb hK.1 hP 16 10 rfl rfl hi25 dX1_survey_25 ?_
  refine lv_iconst (v := 1) hx hb dX1_survey_26 (by decide) ?_
  refine lv_iadd hx hb dX1_survey_27 ?_
  obtain ⟨hi28, h⟩ := ix_o h
  refine va_iast (D := D) hx hb hK.1 hP hD hS 16 10 rfl rfl hi28 dX1_survey_28 (fun H locs hP hD9 hS => ?_)
  obtain ⟨s28, es28⟩ : ∃ z : ST, z = setA σ 10 r1.toNatClampNeg ((σ.2 10 r1.toNatClampNeg) + 1) := ⟨_, rfl⟩
  have h := nm_o h es28
  have hP : va_P D vwCl (wX a k s28) H := by rw [es28]; exact hP
  have hD : va_D (AX a) (wX a k s28) := dX hD
  refine lv_iconst (v := 0) hx hb dX1_survey_29 (by decide) ?_
  refine lv_istore (lv' := [(7, .int 0), (6, .int 0), (5, .int 0), (4, .int 0), (3, .int r6), (2, .int r1), (0, .ref (a 4)), (1, .int x1)]) hx hb dX1_survey_30 hl (by decide) rfl (fun ls hl => ?_)
  exact bX1_survey_L32 C hK FUEL _ _ _ _ _ _ _ H locs ls hP hD hS (lv_sub hl [6, 5, 4, 3, 2, 1, 0] rfl) h
set_option maxHeartbeats 4000000 in
set_option maxRecDepth 100000 in
theorem mX0_isEnd (l : Launch) (D : va_G) (a : Nat → Nat) (k : Nat → ClassId) (σ : ST) (x1 : Int32) (o : Int32) (h : fX0_isEnd σ x1 = some o) : Met l yX0_isEnd ((Cond.code yX0_isEnd cX0_isEnd 2 (some .boolean)) :: WG) ({ frames := 1, cells := 0, slots := 0, locals := 20 } : Room) (Pw D (tX k) (AX a) (wX a k σ) [.ref (a 3), .int x1]) (vp_Si (fun z => z = o)) 0 0 (fun _ => False) := by
  refine Met.ofW (cc := cX0_isEnd) (maxL := 2) (ret := (some .boolean)) (by decide) rfl ?_
  intro p e s m args below meth c s₁ B hml0 hv
  have C : Cx p s m args meth c cX0_isEnd 2 RX0 (Cond.code yX0_isEnd cX0_isEnd 2 (some .boolean)) (some .boolean) := ⟨B.exec, B.bytes, B.returns, hml0, findClass_of_methodNamed B.named, atoms_spec (ws := (Cond.code yX0_isEnd cX0_isEnd 2 (some .boolean)) :: WG) B.pre, B.notSynchronized⟩
  obtain ⟨rfl, hP, hK, hD⟩ := hv
  have hK : Kx D (tX k) s := hK
  have C0 := C
  obtain ⟨hx, hb, hr, hml, hown, hts, hlocks⟩ := C0
  have hW : ∀ w ∈ WG, w.before _ s = true := fun w h => hts w (List.mem_cons_of_mem _ h)
  show W p l e ({ frames := 1, cells := 0, slots := 0, locals := 20 } : Room) s m _ below meth c s.heap [] 0 0 _ _
  have hl := lv_entry ([.ref (a 3), .int x1]) (n := 2) (Nat.le_of_ble_eq_true rfl)
  rw [lg_entry_eq]
  generalize (lg_sl ([.ref (a 3), .int x1]) ++ List.replicate (2 - (lg_sl ([.ref (a 3), .int x1])).length) Slot.unset).toArray = ls at hl ⊢
  have hl : lv_has ls 2 [(0, .ref (a 3)), (1, .int x1)] := hl
  unfold fX0_isEnd at h
  refine lv_iload_n hx hb dX0_isEnd_0 rfl (lv_at hl 1 rfl) ?_
  obtain ⟨r1, hc1, h⟩ := bd_o h
  refine callRI (va_runSN (As := [.int x1]) (rest := []) ⟨hx, hb, hml, hown, hts⟩ (mX5_placeOf l _ _ hc1) ⟨va_cnB 1 hts (wg_c wg98) rfl rfl rfl (hK.2 _ nw104) (hW _ wg3) hdX5_placeOf ⟨Nat.le_of_ble_eq_true rfl, Nat.le_of_ble_eq_true rfl⟩, hW _ wg100, trivial⟩ preEq rfl rfl hl.1 rfl (lv_room (Nat.le_of_ble_eq_true rfl)) dX0_isEnd_1 ⟨Nat.zero_le _, Nat.zero_le _⟩) ?_
  refine lv_bipush (v := 40) hx hb dX0_isEnd_4 (by decide) ?_
  refine lv_icmp_lt (tgt := 13) hx hb dX0_isEnd_6 (by decide) (fun c6 => ?_) (fun c6 => ?_)
  · have h := ite_t h c6
    refine lv_iconst (v := 0) hx hb dX0_isEnd_13 (by decide) ?_
    have h := Option.some.inj h
    subst h
    exact W.zret (v := 0) hx hb hr rfl (fun t ht hW9 => ⟨0, rfl, rfl, ht⟩) (fun _ h9 => absurd h9 List.not_mem_nil) dX0_isEnd_14 hlocks
  · have h := ite_f h c6
    refine lv_iconst (v := 1) hx hb dX0_isEnd_9 (by decide) ?_
    refine lv_goto (tgt := 14) hx hb dX0_isEnd_10 (by decide) ?_
    have h := Option.some.inj h
    subst h
    exact W.zret (v := 1) hx hb hr rfl (fun t ht hW9 => ⟨1, rfl, rfl, ht⟩) (fun _ h9 => absurd h9 List.not_mem_nil) dX0_isEnd_14 hlocks
set_option maxHeartbeats 4000000 in
set_option maxRecDepth 100000 in
theorem mX1_note (l : Launch) (D : va_G) (a : Nat → Nat) (k : Nat → ClassId) (σ : ST) (x1 x2 x3 x4 : Int32) (o : ST) (h : fX1_note σ x1 x2 x3 x4 = some o) : Met l yX1_note ((Cond.code yX1_note cX1_note 6 none) :: WG) ({ frames := 0, cells := 0, slots := 0, locals := 0 } : Room) (Pw D (tX k) (AX a) (wX a k σ) [.ref (a 4), .int x1, .int x2, .int x3, .int x4]) (va_Qv (S := Unit) (fun _ => True) (fun _ t => va_P D vwCl (wX a k o) t.heap) (AX a)) 0 0 (AX a) := by
  refine Met.ofW (cc := cX1_note) (maxL := 6) (ret := none) (by decide) rfl ?_
  intro p e s m args below meth c s₁ B hml0 hv
  have C : Cx p s m args meth c cX1_note 6 RX1 (Cond.code yX1_note cX1_note 6 none) none := ⟨B.exec, B.bytes, B.returns, hml0, findClass_of_methodNamed B.named, atoms_spec (ws := (Cond.code yX1_note cX1_note 6 none) :: WG) B.pre, B.notSynchronized⟩
  obtain ⟨rfl, hP, hK, hD⟩ := hv
  have hK : Kx D (tX k) s := hK
  have C0 := C
  obtain ⟨hx, hb, hr, hml, hown, hts, hlocks⟩ := C0
  have hW : ∀ w ∈ WG, w.before _ s = true := fun w h => hts w (List.mem_cons_of_mem _ h)
  show W p l e ({ frames := 0, cells := 0, slots := 0, locals := 0 } : Room) s m _ below meth c s.heap [] 0 0 _ _
  have hl := lv_entry ([.ref (a 4), .int x1, .int x2, .int x3, .int x4]) (n := 6) (Nat.le_of_ble_eq_true rfl)
  rw [lg_entry_eq]
  generalize (lg_sl ([.ref (a 4), .int x1, .int x2, .int x3, .int x4]) ++ List.replicate (6 - (lg_sl ([.ref (a 4), .int x1, .int x2, .int x3, .int x4])).length) Slot.unset).toArray = ls at hl ⊢
  have hl : lv_has ls 6 [(0, .ref (a 4)), (1, .int x1), (2, .int x2), (3, .int x3), (4, .int x4)] := hl
  have hS : va_S (AX a) s.heap s.heap [] := va_S.rf
  suffices hgo : ∀ (H : Heap) (locs : List Loc), va_P D vwCl (wX a k σ) H → va_S (AX a) s.heap H locs → W p l e ({ frames := 0, cells := 0, slots := 0, locals := 0 } : Room) s m _ below meth c H locs 0 0 (MQ below (va_Qv (S := Unit) (fun _ => True) (fun _ t => va_P D vwCl (wX a k o) t.heap) (AX a)) _ s 0 0 (AX a)) (F0 m 0 ls []) from hgo _ _ hP hS
  clear hP hS
  intro H locs hP hS
  unfold fX1_note at h
  refine lv_iload_n hx hb dX1_note_0 rfl (lv_at hl 1 rfl) ?_
  refine lv_iconst (v := 5) hx hb dX1_note_1 (by decide) ?_
  refine lv_imul hx hb dX1_note_2 ?_
  refine lv_iload_n hx hb dX1_note_3 rfl (lv_at hl 2 rfl) ?_
  refine lv_iadd hx hb dX1_note_4 ?_
  refine lv_topi (fun x5_5 ex5_5 => ?_)
  have h := nm_o h ex5_5
  refine lv_istore (lv' := [(5, .int x5_5), (0, .ref (a 4)), (1, .int x1), (2, .int x2), (3, .int x3), (4, .int x4)]) hx hb dX1_note_5 hl (by decide) rfl (fun ls hl => ?_)
  refine lv_aload_n hx hb dX1_note_7 rfl (lv_at hl 1 rfl) ?_
  refine va_get (D := D) (ci := 1) (v := .ref (a 18)) (C := RX1) (T := TX1) (N := 14) hx hb hW inX1G hown hK.1 hP 4 rfl rfl 7 (by decide) (hW _ wg68) (fun _ h9 => h9) rfl dX1_note_8 ?_
  refine lv_iload hx hb dX1_note_11 (lv_at hl 0 rfl) ?_
  obtain ⟨hi13, h⟩ := ix_o h
  refine va_iald (D := D) hx hb hK.1 hP 18 12 rfl rfl hi13 dX1_note_13 ?_
  refine lv_iconst (v := (-1)) hx hb dX1_note_14 (by decide) ?_
  refine lv_icmp_ne (tgt := 45) hx hb dX1_note_15 (by decide) (fun c15 => ?_) (fun c15 => ?_)
  · have h := ite_f h c15
    have h := Option.some.inj h
    subst h
    exact W.vret hx hb hr (fun t ht hW9 => ⟨⟨(), rfl, trivial, by show va_P _ _ _ t.heap; rw [ht]; exact hP⟩, hS.F ht⟩) hS.2.2 dX1_note_45 hlocks
  · have h := ite_t h c15
    refine lv_aload_n hx hb dX1_note_18 rfl (lv_at hl 1 rfl) ?_
    refine va_get (D := D) (ci := 1) (v := .ref (a 18)) (C := RX1) (T := TX1) (N := 14) hx hb hW inX1G hown hK.1 hP 4 rfl rfl 7 (by decide) (hW _ wg68) (fun _ h9 => h9) rfl dX1_note_19 ?_
    refine lv_iload hx hb dX1_note_22 (lv_at hl 0 rfl) ?_
    refine lv_iload hx hb dX1_note_24 (lv_at hl 5 rfl) ?_
    obtain ⟨hi26, h⟩ := ix_o h
    refine va_iast (D := D) hx hb hK.1 hP hD hS 18 12 rfl rfl hi26 dX1_note_26 (fun H locs hP hD9 hS => ?_)
    obtain ⟨s26, es26⟩ : ∃ z : ST, z = setA σ 12 x5_5.toNatClampNeg x4 := ⟨_, rfl⟩
    have h := nm_o h es26
    have hP : va_P D vwCl (wX a k s26) H := by rw [es26]; exact hP
    have hD : va_D (AX a) (wX a k s26) := dX hD
    refine lv_aload_n hx hb dX1_note_27 rfl (lv_at hl 1 rfl) ?_
    refine va_get (D := D) (ci := 1) (v := .ref (a 19)) (C := RX1) (T := TX1) (N := 14) hx hb hW inX1G hown hK.1 hP 4 rfl rfl 8 (by decide) (hW _ wg105) (fun _ h9 => h9) rfl dX1_note_28 ?_
    refine lv_iload hx hb dX1_note_31 (lv_at hl 0 rfl) ?_
    refine lv_iload_n hx hb dX1_note_33 rfl (lv_at hl 4 rfl) ?_
    obtain ⟨hi34, h⟩ := ix_o h
    refine va_iast (D := D) hx hb hK.1 hP hD hS 19 13 rfl rfl hi34 dX1_note_34 (fun H locs hP hD9 hS => ?_)
    obtain ⟨s34, es34⟩ : ∃ z : ST, z = setA s26 13 x5_5.toNatClampNeg x3 := ⟨_, rfl⟩
    have h := nm_o h es34
    have hP : va_P D vwCl (wX a k s34) H := by rw [es34]; exact hP
    have hD : va_D (AX a) (wX a k s34) := dX hD
    refine lv_aload_n hx hb dX1_note_35 rfl (lv_at hl 1 rfl) ?_
    refine lv_dup hx hb dX1_note_36 rfl ?_
    refine va_get (D := D) (ci := 1) (v := .int (s34.1 4)) (C := RX1) (T := TX1) (N := 14) hx hb hW inX1G hown hK.1 hP 4 rfl rfl 10 (by decide) (hW _ wg58) (fun _ h9 => h9) rfl dX1_note_37 ?_
    refine lv_iconst (v := 1) hx hb dX1_note_40 (by decide) ?_
    refine lv_iadd hx hb dX1_note_41 ?_
    refine va_put (D := D) (ci := 1) (v := .int ((s34.1 4) + 1)) (ty := .int) (C := RX1) (T := TX1) (N := 14) hx hb hW inX1G tyX1 tyX1_ok nmX1 hown hK.1 hP hD hS 4 rfl rfl 10 (by decide) (hW _ wg58) (fun _ h9 => h9) rfl (by decide +kernel) rfl rfl (Nat.le_of_ble_eq_true rfl) dX1_note_42 (fun H locs hP hD9 hS => ?_)
    obtain ⟨s42, es42⟩ : ∃ z : ST, z = setF s34 4 ((s34.1 4) + 1) := ⟨_, rfl⟩
    have h := nm_o h es42
    have hP : va_P D vwCl (wX a k s42) H := by rw [es42]; exact hP
    have hD : va_D (AX a) (wX a k s42) := dX hD
    have h := Option.some.inj h
    subst h
    exact W.vret hx hb hr (fun t ht hW9 => ⟨⟨(), rfl, trivial, by show va_P _ _ _ t.heap; rw [ht]; exact hP⟩, hS.F ht⟩) hS.2.2 dX1_note_45 hlocks
set_option maxHeartbeats 4000000 in
set_option maxRecDepth 100000 in
theorem bX1_noteLeft_L55 {p : Program} {l : Launch} {e : Env} {s : State} {m : MethodId} {args : Array Value} {below : List Frame} {meth : Method} {c : Code} {D : va_G} {a : Nat → Nat} {k : Nat → ClassId} {o : ST} (C : Cx p s m args meth c cX1_noteLeft 5 RX1 (Cond.code yX1_noteLeft cX1_noteLeft 5 none) none) (hK : Kx D (tX k) s) (k18 : Int32 → Int32 → Int32 → Int32 → ST → Option (ST)) (hk18 : ∀ (x1 x2 x3 x4 : Int32) (σ : ST) (H : Heap) (locs : List Loc) (ls : Array Slot), va_P D vwCl (wX a k σ) H → va_D (AX a) (wX a k σ) → va_S (AX a) s.heap H locs → lv_has ls 5 [(0, .ref (a 4)), (1, .int x1), (2, .int x2), (3, .int x3), (4, .int x4)] → k18 x1 x2 x3 x4 σ = some o → W p l e ({ frames := 2, cells := 0, slots := 0, locals := 44 } : Room) s m args below meth c H locs 0 0 (MQ below (va_Qv (S := Unit) (fun _ => True) (fun _ t => va_P D vwCl (wX a k o) t.heap) (AX a)) args s 0 0 (AX a)) (F0 m 18 ls [])) : ∀ (x1 x2 x3 x4 : Int32) (σ : ST) (H : Heap) (locs : List Loc) (ls : Array Slot), va_P D vwCl (wX a k σ) H → va_D (AX a) (wX a k σ) → va_S (AX a) s.heap H locs → lv_has ls 5 [(0, .ref (a 4)), (1, .int x1), (2, .int x2), (3, .int x3), (4, .int x4)] → fX1_noteLeft_L55 k18 x1 x2 x3 x4 σ = some o → W p l e ({ frames := 2, cells := 0, slots := 0, locals := 44 } : Room) s m args below meth c H locs 0 0 (MQ below (va_Qv (S := Unit) (fun _ => True) (fun _ t => va_P D vwCl (wX a k o) t.heap) (AX a)) args s 0 0 (AX a)) (F0 m 55 ls []) := by
  have C0 := C
  obtain ⟨hx, hb, hr, hml, hown, hts, hlocks⟩ := C0
  have hW : ∀ w ∈ WG, w.before args s = true := fun w h => hts w (List.mem_cons_of_mem _ h)
  intro x1 x2 x3 x4 σ H locs ls hP hD hS hl h
  unfold fX1_noteLeft_L55 at h
  obtain ⟨x4_55, ex4_55⟩ : ∃ y : Int32, y = x4 + 1 := ⟨_, rfl⟩
  have h := nm_o h ex4_55
  refine lv_iinc (v := x4_55) (lv' := [(4, .int x4_55), (0, .ref (a 4)), (1, .int x1), (2, .int x2), (3, .int x3)]) hx hb dX1_noteLeft_55 hl (k := 4) rfl (by rw [ex4_55]; rfl) (by decide) rfl (fun ls hl => ?_)
  refine lv_goto (tgt := 18) hx hb dX1_noteLeft_58 (by decide) ?_
  exact hk18 _ _ _ _ _ H locs ls hP hD hS (lv_sub hl [1, 2, 3, 4, 0] rfl) h
set_option maxHeartbeats 4000000 in
set_option maxRecDepth 100000 in
theorem bX1_noteLeft_L18 {p : Program} {l : Launch} {e : Env} {s : State} {m : MethodId} {args : Array Value} {below : List Frame} {meth : Method} {c : Code} {D : va_G} {a : Nat → Nat} {k : Nat → ClassId} {o : ST} (C : Cx p s m args meth c cX1_noteLeft 5 RX1 (Cond.code yX1_noteLeft cX1_noteLeft 5 none) none) (hK : Kx D (tX k) s) : ∀ (n : Nat) (x1 x2 x3 x4 : Int32) (σ : ST) (H : Heap) (locs : List Loc) (ls : Array Slot), va_P D vwCl (wX a k σ) H → va_D (AX a) (wX a k σ) → va_S (AX a) s.heap H locs → lv_has ls 5 [(0, .ref (a 4)), (1, .int x1), (2, .int x2), (3, .int x3), (4, .int x4)] → fX1_noteLeft_L18 n x1 x2 x3 x4 σ = some o → W p l e ({ frames := 2, cells := 0, slots := 0, locals := 44 } : Room) s m args below meth c H locs 0 0 (MQ below (va_Qv (S := Unit) (fun _ => True) (fun _ t => va_P D vwCl (wX a k o) t.heap) (AX a)) args s 0 0 (AX a)) (F0 m 18 ls []) := by
  have C0 := C
  obtain ⟨hx, hb, hr, hml, hown, hts, hlocks⟩ := C0
  have hW : ∀ w ∈ WG, w.before args s = true := fun w h => hts w (List.mem_cons_of_mem _ h)
  intro n
  induction n with
  | zero =>
    intro x1 x2 x3 x4 σ H locs ls hP hD hS hl h
    rw [fX1_noteLeft_L18] at h
    cases h
  | succ n ih =>
      intro x1 x2 x3 x4 σ H locs ls hP hD hS hl h
      rw [fX1_noteLeft_L18] at h
      refine lv_iload hx hb dX1_noteLeft_18 (lv_at hl 4 rfl) ?_
      refine lv_aload_n hx hb dX1_noteLeft_20 rfl (lv_at hl 0 rfl) ?_
      refine va_get (D := D) (ci := 1) (v := .ref (a 1)) (C := RX1) (T := TX1) (N := 14) hx hb hW inX1G hown hK.1 hP 4 rfl rfl 0 (by decide) (hW _ wg86) (fun _ h9 => h9) rfl dX1_noteLeft_21 ?_
      refine va_getN (D := D) (ci := 3) (v := .int (σ.1 1)) (C := RX3) (T := TX3) (N := 4) hx hb hW inX3G hown hK.1 hP 1 rfl rfl 3 (by decide) (hK.2.fld nw88) (fun _ h9 => h9) rfl dX1_noteLeft_24 ?_
      refine lv_icmp_ge (tgt := 61) hx hb dX1_noteLeft_27 (by decide) (fun c27 => ?_) (fun c27 => ?_)
      · have h := ite_t h c27
        have h := Option.some.inj h
        subst h
        exact W.vret hx hb hr (fun t ht hW9 => ⟨⟨(), rfl, trivial, by show va_P _ _ _ t.heap; rw [ht]; exact hP⟩, hS.F ht⟩) hS.2.2 dX1_noteLeft_61 hlocks
      · have h := ite_f h c27
        refine lv_aload_n hx hb dX1_noteLeft_30 rfl (lv_at hl 0 rfl) ?_
        refine va_get (D := D) (ci := 1) (v := .ref (a 1)) (C := RX1) (T := TX1) (N := 14) hx hb hW inX1G hown hK.1 hP 4 rfl rfl 0 (by decide) (hW _ wg86) (fun _ h9 => h9) rfl dX1_noteLeft_31 ?_
        refine lv_iload_n hx hb dX1_noteLeft_34 rfl (lv_at hl 1 rfl) ?_
        obtain ⟨r35, hc35, h⟩ := bd_o h
        refine callRI (va_runSN (As := [.int x1]) (rest := [.ref (a 1)]) ⟨hx, hb, hml, hown, hts⟩ (mX5_allOf l _ _ hc35) ⟨va_cnB 1 hts (wg_c wg101) rfl rfl rfl (hK.2 _ nw102) (hW _ wg3) hdX5_allOf ⟨Nat.le_of_ble_eq_true rfl, Nat.le_of_ble_eq_true rfl⟩, hW _ wg103, trivial⟩ preEq rfl rfl hl.1 rfl (lv_room (Nat.le_of_ble_eq_true rfl)) dX1_noteLeft_35 ⟨Nat.zero_le _, Nat.zero_le _⟩) ?_
        refine lv_iload hx hb dX1_noteLeft_38 (lv_at hl 4 rfl) ?_
        obtain ⟨r40, hc40, h⟩ := bd_o h
        refine callRI (va_runVN (As := [.int r35, .int x4]) (rest := []) ⟨hx, hb, hml, hown, hts⟩ (mX3_isHeld l D a k _ _ _ _ hc40) ⟨va_cnB 2 hts (wg_c wg94) rfl rfl rfl (hK.2 _ nw95) (hW _ wg13) hdX3_isHeld ⟨Nat.le_of_ble_eq_true rfl, Nat.le_of_ble_eq_true rfl⟩, hW _ wg96, hW _ wg97⟩ (pw_V hK hP hD (ci := 3) (q0 := 1) rfl rfl) rfl rfl hl.1 rfl (lv_room (Nat.le_of_ble_eq_true rfl)) dX1_noteLeft_40 ⟨Nat.zero_le _, Nat.zero_le _⟩) ?_
        refine lv_if_eq (tgt := 55) hx hb dX1_noteLeft_43 (by decide) (fun c43 => ?_) (fun c43 => ?_)
        · have h := ite_t h c43
          exact bX1_noteLeft_L55 C hK _ ih _ _ _ _ _ H locs ls hP hD hS (lv_sub hl [0, 1, 2, 3, 4] rfl) h
        · have h := ite_f h c43
          refine lv_aload_n hx hb dX1_noteLeft_46 rfl (lv_at hl 0 rfl) ?_
          refine lv_iload_n hx hb dX1_noteLeft_47 rfl (lv_at hl 3 rfl) ?_
          refine lv_iload hx hb dX1_noteLeft_48 (lv_at hl 4 rfl) ?_
          refine lv_iload_n hx hb dX1_noteLeft_50 rfl (lv_at hl 1 rfl) ?_
          refine lv_iload_n hx hb dX1_noteLeft_51 rfl (lv_at hl 2 rfl) ?_
          obtain ⟨r52, hc52, h⟩ := bd_o h
          refine callWV (va_runV (As := [.int x3, .int x4, .int x1, .int x2]) (rest := []) ⟨hx, hb, hml, hown, hts⟩ (mX1_note l D a k _ _ _ _ _ _ hc52) ⟨callB_of 4 hts (wg_c wg107) rfl rfl rfl (hW _ wg108) (hW _ wg106) hdX1_note ⟨Nat.le_of_ble_eq_true rfl, Nat.le_of_ble_eq_true rfl⟩, hW _ wg109, hW _ wg110⟩ (pw_V hK hP hD (ci := 1) (q0 := 4) rfl rfl) rfl rfl hl.1 rfl (lv_room (Nat.le_of_ble_eq_true rfl)) dX1_noteLeft_52 ⟨Nat.zero_le _, Nat.zero_le _⟩) hS (fun H locs hP hS => ?_)
          have hD : va_D (AX a) (wX a k r52) := dX hD
          exact bX1_noteLeft_L55 C hK _ ih _ _ _ _ _ H locs ls hP hD hS (lv_sub hl [0, 1, 2, 3, 4] rfl) h
set_option maxHeartbeats 4000000 in
set_option maxRecDepth 100000 in
theorem bX1_noteLeft_L14 {p : Program} {l : Launch} {e : Env} {s : State} {m : MethodId} {args : Array Value} {below : List Frame} {meth : Method} {c : Code} {D : va_G} {a : Nat → Nat} {k : Nat → ClassId} {o : ST} (C : Cx p s m args meth c cX1_noteLeft 5 RX1 (Cond.code yX1_noteLeft cX1_noteLeft 5 none) none) (hK : Kx D (tX k) s) : ∀ (x1 x2 y0 : Int32) (σ : ST) (H : Heap) (locs : List Loc) (ls : Array Slot), va_P D vwCl (wX a k σ) H → va_D (AX a) (wX a k σ) → va_S (AX a) s.heap H locs → lv_has ls 5 [(0, .ref (a 4)), (1, .int x1), (2, .int x2)] → fX1_noteLeft_L14 x1 x2 y0 σ = some o → W p l e ({ frames := 2, cells := 0, slots := 0, locals := 44 } : Room) s m args below meth c H locs 0 0 (MQ below (va_Qv (S := Unit) (fun _ => True) (fun _ t => va_P D vwCl (wX a k o) t.heap) (AX a)) args s 0 0 (AX a)) (F0 m 14 ls [.int y0]) := by
  have C0 := C
  obtain ⟨hx, hb, hr, hml, hown, hts, hlocks⟩ := C0
  have hW : ∀ w ∈ WG, w.before args s = true := fun w h => hts w (List.mem_cons_of_mem _ h)
  intro x1 x2 y0 σ H locs ls hP hD hS hl h
  unfold fX1_noteLeft_L14 at h
  refine lv_topi (fun x3_14 ex3_14 => ?_)
  have h := nm_o h ex3_14
  refine lv_istore_n (lv' := [(3, .int x3_14), (0, .ref (a 4)), (1, .int x1), (2, .int x2)]) hx hb dX1_noteLeft_14 rfl hl (by decide) rfl (fun ls hl => ?_)
  refine lv_iconst (v := 0) hx hb dX1_noteLeft_15 (by decide) ?_
  refine lv_istore (lv' := [(4, .int 0), (3, .int x3_14), (0, .ref (a 4)), (1, .int x1), (2, .int x2)]) hx hb dX1_noteLeft_16 hl (by decide) rfl (fun ls hl => ?_)
  exact bX1_noteLeft_L18 C hK FUEL _ _ _ _ _ H locs ls hP hD hS (lv_sub hl [2, 3, 4, 1, 0] rfl) h
set_option maxHeartbeats 4000000 in
set_option maxRecDepth 100000 in
theorem mX1_noteLeft (l : Launch) (D : va_G) (a : Nat → Nat) (k : Nat → ClassId) (σ : ST) (x1 x2 : Int32) (o : ST) (h : fX1_noteLeft σ x1 x2 = some o) : Met l yX1_noteLeft ((Cond.code yX1_noteLeft cX1_noteLeft 5 none) :: WG) ({ frames := 2, cells := 0, slots := 0, locals := 44 } : Room) (Pw D (tX k) (AX a) (wX a k σ) [.ref (a 4), .int x1, .int x2]) (va_Qv (S := Unit) (fun _ => True) (fun _ t => va_P D vwCl (wX a k o) t.heap) (AX a)) 0 0 (AX a) := by
  refine Met.ofW (cc := cX1_noteLeft) (maxL := 5) (ret := none) (by decide) rfl ?_
  intro p e s m args below meth c s₁ B hml0 hv
  have C : Cx p s m args meth c cX1_noteLeft 5 RX1 (Cond.code yX1_noteLeft cX1_noteLeft 5 none) none := ⟨B.exec, B.bytes, B.returns, hml0, findClass_of_methodNamed B.named, atoms_spec (ws := (Cond.code yX1_noteLeft cX1_noteLeft 5 none) :: WG) B.pre, B.notSynchronized⟩
  obtain ⟨rfl, hP, hK, hD⟩ := hv
  have hK : Kx D (tX k) s := hK
  have C0 := C
  obtain ⟨hx, hb, hr, hml, hown, hts, hlocks⟩ := C0
  have hW : ∀ w ∈ WG, w.before _ s = true := fun w h => hts w (List.mem_cons_of_mem _ h)
  show W p l e ({ frames := 2, cells := 0, slots := 0, locals := 44 } : Room) s m _ below meth c s.heap [] 0 0 _ _
  have hl := lv_entry ([.ref (a 4), .int x1, .int x2]) (n := 5) (Nat.le_of_ble_eq_true rfl)
  rw [lg_entry_eq]
  generalize (lg_sl ([.ref (a 4), .int x1, .int x2]) ++ List.replicate (5 - (lg_sl ([.ref (a 4), .int x1, .int x2])).length) Slot.unset).toArray = ls at hl ⊢
  have hl : lv_has ls 5 [(0, .ref (a 4)), (1, .int x1), (2, .int x2)] := hl
  have hS : va_S (AX a) s.heap s.heap [] := va_S.rf
  suffices hgo : ∀ (H : Heap) (locs : List Loc), va_P D vwCl (wX a k σ) H → va_S (AX a) s.heap H locs → W p l e ({ frames := 2, cells := 0, slots := 0, locals := 44 } : Room) s m _ below meth c H locs 0 0 (MQ below (va_Qv (S := Unit) (fun _ => True) (fun _ t => va_P D vwCl (wX a k o) t.heap) (AX a)) _ s 0 0 (AX a)) (F0 m 0 ls []) from hgo _ _ hP hS
  clear hP hS
  intro H locs hP hS
  unfold fX1_noteLeft at h
  refine lv_iload_n hx hb dX1_noteLeft_0 rfl (lv_at hl 1 rfl) ?_
  obtain ⟨r1, hc1, h⟩ := bd_o h
  refine callRI (va_runSN (As := [.int x1]) (rest := []) ⟨hx, hb, hml, hown, hts⟩ (mX5_placeOf l _ _ hc1) ⟨va_cnB 1 hts (wg_c wg98) rfl rfl rfl (hK.2 _ nw99) (hW _ wg3) hdX5_placeOf ⟨Nat.le_of_ble_eq_true rfl, Nat.le_of_ble_eq_true rfl⟩, hW _ wg100, trivial⟩ preEq rfl rfl hl.1 rfl (lv_room (Nat.le_of_ble_eq_true rfl)) dX1_noteLeft_1 ⟨Nat.zero_le _, Nat.zero_le _⟩) ?_
  refine lv_bipush (v := 40) hx hb dX1_noteLeft_4 (by decide) ?_
  refine lv_icmp_ne (tgt := 13) hx hb dX1_noteLeft_6 (by decide) (fun c6 => ?_) (fun c6 => ?_)
  · have h := ite_f h c6
    refine lv_iconst (v := 1) hx hb dX1_noteLeft_13 (by decide) ?_
    exact bX1_noteLeft_L14 C hK _ _ _ _ H locs ls hP hD hS (lv_sub hl [0, 1, 2] rfl) h
  · have h := ite_t h c6
    refine lv_iconst (v := 0) hx hb dX1_noteLeft_9 (by decide) ?_
    refine lv_goto (tgt := 14) hx hb dX1_noteLeft_10 (by decide) ?_
    exact bX1_noteLeft_L14 C hK _ _ _ _ H locs ls hP hD hS (lv_sub hl [0, 1, 2] rfl) h
set_option maxHeartbeats 4000000 in
set_option maxRecDepth 100000 in
theorem mX3_canOpen (l : Launch) (D : va_G) (a : Nat → Nat) (k : Nat → ClassId) (σ : ST) (x1 x2 : Int32) (o : Int32) (h : fX3_canOpen σ x1 x2 = some o) : Met l yX3_canOpen ((Cond.code yX3_canOpen cX3_canOpen 4 (some .boolean)) :: WG) ({ frames := 1, cells := 0, slots := 0, locals := 21 } : Room) (Pw D (tX k) (AX a) (wX a k σ) [.ref (a 1), .int x1, .int x2]) (vp_Si (fun z => z = o)) 0 0 (fun _ => False) := by
  refine Met.ofW (cc := cX3_canOpen) (maxL := 4) (ret := (some .boolean)) (by decide) rfl ?_
  intro p e s m args below meth c s₁ B hml0 hv
  have C : Cx p s m args meth c cX3_canOpen 4 RX3 (Cond.code yX3_canOpen cX3_canOpen 4 (some .boolean)) (some .boolean) := ⟨B.exec, B.bytes, B.returns, hml0, findClass_of_methodNamed B.named, atoms_spec (ws := (Cond.code yX3_canOpen cX3_canOpen 4 (some .boolean)) :: WG) B.pre, B.notSynchronized⟩
  obtain ⟨rfl, hP, hK, hD⟩ := hv
  have hK : Kx D (tX k) s := hK
  have C0 := C
  obtain ⟨hx, hb, hr, hml, hown, hts, hlocks⟩ := C0
  have hW : ∀ w ∈ WG, w.before _ s = true := fun w h => hts w (List.mem_cons_of_mem _ h)
  show W p l e ({ frames := 1, cells := 0, slots := 0, locals := 21 } : Room) s m _ below meth c s.heap [] 0 0 _ _
  have hl := lv_entry ([.ref (a 1), .int x1, .int x2]) (n := 4) (Nat.le_of_ble_eq_true rfl)
  rw [lg_entry_eq]
  generalize (lg_sl ([.ref (a 1), .int x1, .int x2]) ++ List.replicate (4 - (lg_sl ([.ref (a 1), .int x1, .int x2])).length) Slot.unset).toArray = ls at hl ⊢
  have hl : lv_has ls 4 [(0, .ref (a 1)), (1, .int x1), (2, .int x2)] := hl
  unfold fX3_canOpen at h
  refine lv_iload_n hx hb dX3_canOpen_0 rfl (lv_at hl 1 rfl) ?_
  refine lv_iload_n hx hb dX3_canOpen_1 rfl (lv_at hl 2 rfl) ?_
  obtain ⟨r2, hc2, h⟩ := bd_o h
  refine callRI (va_runSN (As := [.int x1, .int x2]) (rest := []) ⟨hx, hb, hml, hown, hts⟩ (mX5_stateIn l _ _ _ hc2) ⟨va_cnB 2 hts (wg_c wg82) rfl rfl rfl (hK.2 _ nw83) (hW _ wg3) hdX5_stateIn ⟨Nat.le_of_ble_eq_true rfl, Nat.le_of_ble_eq_true rfl⟩, hW _ wg84, trivial⟩ preEq rfl rfl hl.1 rfl (lv_room (Nat.le_of_ble_eq_true rfl)) dX3_canOpen_2 ⟨Nat.zero_le _, Nat.zero_le _⟩) ?_
  refine lv_istore_n (lv' := [(3, .int r2), (0, .ref (a 1)), (1, .int x1), (2, .int x2)]) hx hb dX3_canOpen_5 rfl hl (by decide) rfl (fun ls hl => ?_)
  refine lv_aload_n hx hb dX3_canOpen_6 rfl (lv_at hl 1 rfl) ?_
  refine lv_iload_n hx hb dX3_canOpen_7 rfl (lv_at hl 3 rfl) ?_
  obtain ⟨r8, hc8, h⟩ := bd_o h
  refine callRI (va_runV (As := [.int x2]) (rest := []) ⟨hx, hb, hml, hown, hts⟩ (mX3_isFile l D a k _ _ _ hc8) ⟨callB_of 1 hts (wg_c wg16) rfl rfl rfl (hW _ wg13) (hW _ wg85) hdX3_isFile ⟨Nat.le_of_ble_eq_true rfl, Nat.le_of_ble_eq_true rfl⟩, hW _ wg18, hW _ wg19⟩ (pw_V hK hP hD (ci := 3) (q0 := 1) rfl rfl) rfl rfl hl.1 rfl (lv_room (Nat.le_of_ble_eq_true rfl)) dX3_canOpen_8 ⟨Nat.zero_le _, Nat.zero_le _⟩) ?_
  refine lv_if_eq (tgt := 27) hx hb dX3_canOpen_11 (by decide) (fun c11 => ?_) (fun c11 => ?_)
  · have h := ite_t h c11
    refine lv_iload_n hx hb dX3_canOpen_27 rfl (lv_at hl 0 rfl) ?_
    refine lv_iconst (v := 3) hx hb dX3_canOpen_28 (by decide) ?_
    refine lv_icmp_ge (tgt := 36) hx hb dX3_canOpen_29 (by decide) (fun c29 => ?_) (fun c29 => ?_)
    · have h := ite_t h c29
      refine lv_iconst (v := 0) hx hb dX3_canOpen_36 (by decide) ?_
      have h := Option.some.inj h
      subst h
      exact W.zret (v := 0) hx hb hr rfl (fun t ht hW9 => ⟨0, rfl, rfl, ht⟩) (fun _ h9 => absurd h9 List.not_mem_nil) dX3_canOpen_37 hlocks
    · have h := ite_f h c29
      refine lv_iconst (v := 1) hx hb dX3_canOpen_32 (by decide) ?_
      refine lv_goto (tgt := 37) hx hb dX3_canOpen_33 (by decide) ?_
      have h := Option.some.inj h
      subst h
      exact W.zret (v := 1) hx hb hr rfl (fun t ht hW9 => ⟨1, rfl, rfl, ht⟩) (fun _ h9 => absurd h9 List.not_mem_nil) dX3_canOpen_37 hlocks
  · have h := ite_f h c11
    refine lv_iload_n hx hb dX3_canOpen_14 rfl (lv_at hl 0 rfl) ?_
    refine lv_iconst (v := 1) hx hb dX3_canOpen_15 (by decide) ?_
    refine lv_icmp_eq (tgt := 23) hx hb dX3_canOpen_16 (by decide) (fun c16 => ?_) (fun c16 => ?_)
    · have h := ite_t h c16
      refine lv_iconst (v := 0) hx hb dX3_canOpen_23 (by decide) ?_
      refine lv_goto (tgt := 37) hx hb dX3_canOpen_24 (by decide) ?_
      have h := Option.some.inj h
      subst h
      exact W.zret (v := 0) hx hb hr rfl (fun t ht hW9 => ⟨0, rfl, rfl, ht⟩) (fun _ h9 => absurd h9 List.not_mem_nil) dX3_canOpen_37 hlocks
    · have h := ite_f h c16
      refine lv_iconst (v := 1) hx hb dX3_canOpen_19 (by decide) ?_
      refine lv_goto (tgt := 37) hx hb dX3_canOpen_20 (by decide) ?_
      have h := Option.some.inj h
      subst h
      exact W.zret (v := 1) hx hb hr rfl (fun t ht hW9 => ⟨1, rfl, rfl, ht⟩) (fun _ h9 => absurd h9 List.not_mem_nil) dX3_canOpen_37 hlocks
set_option maxHeartbeats 4000000 in
set_option maxRecDepth 100000 in
theorem mX3_isFileThatIs (l : Launch) (D : va_G) (a : Nat → Nat) (k : Nat → ClassId) (σ : ST) (x1 x2 x3 : Int32) (o : Int32) (h : fX3_isFileThatIs σ x1 x2 x3 = some o) : Met l yX3_isFileThatIs ((Cond.code yX3_isFileThatIs cX3_isFileThatIs 4 (some .boolean)) :: WG) ({ frames := 1, cells := 0, slots := 0, locals := 21 } : Room) (Pw D (tX k) (AX a) (wX a k σ) [.ref (a 1), .int x1, .int x2, .int x3]) (vp_Si (fun z => z = o)) 0 0 (fun _ => False) := by
  refine Met.ofW (cc := cX3_isFileThatIs) (maxL := 4) (ret := (some .boolean)) (by decide) rfl ?_
  intro p e s m args below meth c s₁ B hml0 hv
  have C : Cx p s m args meth c cX3_isFileThatIs 4 RX3 (Cond.code yX3_isFileThatIs cX3_isFileThatIs 4 (some .boolean)) (some .boolean) := ⟨B.exec, B.bytes, B.returns, hml0, findClass_of_methodNamed B.named, atoms_spec (ws := (Cond.code yX3_isFileThatIs cX3_isFileThatIs 4 (some .boolean)) :: WG) B.pre, B.notSynchronized⟩
  obtain ⟨rfl, hP, hK, hD⟩ := hv
  have hK : Kx D (tX k) s := hK
  have C0 := C
  obtain ⟨hx, hb, hr, hml, hown, hts, hlocks⟩ := C0
  have hW : ∀ w ∈ WG, w.before _ s = true := fun w h => hts w (List.mem_cons_of_mem _ h)
  show W p l e ({ frames := 1, cells := 0, slots := 0, locals := 21 } : Room) s m _ below meth c s.heap [] 0 0 _ _
  have hl := lv_entry ([.ref (a 1), .int x1, .int x2, .int x3]) (n := 4) (Nat.le_of_ble_eq_true rfl)
  rw [lg_entry_eq]
  generalize (lg_sl ([.ref (a 1), .int x1, .int x2, .int x3]) ++ List.replicate (4 - (lg_sl ([.ref (a 1), .int x1, .int x2, .int x3])).length) Slot.unset).toArray = ls at hl ⊢
  have hl : lv_has ls 4 [(0, .ref (a 1)), (1, .int x1), (2, .int x2), (3, .int x3)] := hl
  unfold fX3_isFileThatIs at h
  refine lv_aload_n hx hb dX3_isFileThatIs_0 rfl (lv_at hl 0 rfl) ?_
  refine lv_iload_n hx hb dX3_isFileThatIs_1 rfl (lv_at hl 2 rfl) ?_
  obtain ⟨r2, hc2, h⟩ := bd_o h
  refine callRI (va_runV (As := [.int x2]) (rest := []) ⟨hx, hb, hml, hown, hts⟩ (mX3_isFile l D a k _ _ _ hc2) ⟨callB_of 1 hts (wg_c wg16) rfl rfl rfl (hW _ wg13) (hW _ wg85) hdX3_isFile ⟨Nat.le_of_ble_eq_true rfl, Nat.le_of_ble_eq_true rfl⟩, hW _ wg18, hW _ wg19⟩ (pw_V hK hP hD (ci := 3) (q0 := 1) rfl rfl) rfl rfl hl.1 rfl (lv_room (Nat.le_of_ble_eq_true rfl)) dX3_isFileThatIs_2 ⟨Nat.zero_le _, Nat.zero_le _⟩) ?_
  refine lv_if_eq (tgt := 21) hx hb dX3_isFileThatIs_5 (by decide) (fun c5 => ?_) (fun c5 => ?_)
  · have h := ite_t h c5
    refine lv_iconst (v := 0) hx hb dX3_isFileThatIs_21 (by decide) ?_
    have h := Option.some.inj h
    subst h
    exact W.zret (v := 0) hx hb hr rfl (fun t ht hW9 => ⟨0, rfl, rfl, ht⟩) (fun _ h9 => absurd h9 List.not_mem_nil) dX3_isFileThatIs_22 hlocks
  · have h := ite_f h c5
    refine lv_iload_n hx hb dX3_isFileThatIs_8 rfl (lv_at hl 1 rfl) ?_
    refine lv_iload_n hx hb dX3_isFileThatIs_9 rfl (lv_at hl 2 rfl) ?_
    obtain ⟨r10, hc10, h⟩ := bd_o h
    refine callRI (va_runSN (As := [.int x1, .int x2]) (rest := []) ⟨hx, hb, hml, hown, hts⟩ (mX5_stateIn l _ _ _ hc10) ⟨va_cnB 2 hts (wg_c wg82) rfl rfl rfl (hK.2 _ nw83) (hW _ wg3) hdX5_stateIn ⟨Nat.le_of_ble_eq_true rfl, Nat.le_of_ble_eq_true rfl⟩, hW _ wg84, trivial⟩ preEq rfl rfl hl.1 rfl (lv_room (Nat.le_of_ble_eq_true rfl)) dX3_isFileThatIs_10 ⟨Nat.zero_le _, Nat.zero_le _⟩) ?_
    refine lv_iload_n hx hb dX3_isFileThatIs_13 rfl (lv_at hl 3 rfl) ?_
    refine lv_icmp_ne (tgt := 21) hx hb dX3_isFileThatIs_14 (by decide) (fun c14 => ?_) (fun c14 => ?_)
    · have h := ite_f h c14
      refine lv_iconst (v := 0) hx hb dX3_isFileThatIs_21 (by decide) ?_
      have h := Option.some.inj h
      subst h
      exact W.zret (v := 0) hx hb hr rfl (fun t ht hW9 => ⟨0, rfl, rfl, ht⟩) (fun _ h9 => absurd h9 List.not_mem_nil) dX3_isFileThatIs_22 hlocks
    · have h := ite_t h c14
      refine lv_iconst (v := 1) hx hb dX3_isFileThatIs_17 (by decide) ?_
      refine lv_goto (tgt := 22) hx hb dX3_isFileThatIs_18 (by decide) ?_
      have h := Option.some.inj h
      subst h
      exact W.zret (v := 1) hx hb hr rfl (fun t ht hW9 => ⟨1, rfl, rfl, ht⟩) (fun _ h9 => absurd h9 List.not_mem_nil) dX3_isFileThatIs_22 hlocks
set_option maxHeartbeats 4000000 in
set_option maxRecDepth 100000 in
theorem bX3_canUse_L19 {p : Program} {l : Launch} {e : Env} {s : State} {m : MethodId} {args : Array Value} {below : List Frame} {meth : Method} {c : Code} {D : va_G} {a : Nat → Nat} {k : Nat → ClassId} {σ : ST} {o : Int32} (C : Cx p s m args meth c cX3_canUse 3 RX3 (Cond.code yX3_canUse cX3_canUse 3 (some .boolean)) (some .boolean)) (hK : Kx D (tX k) s) (hP : va_P D vwCl (wX a k σ) s.heap) (hD : va_D (AX a) (wX a k σ)) : ∀ (ls : Array Slot), lv_has ls 3 [] → fX3_canUse_L19 σ  = some o → W p l e ({ frames := 2, cells := 0, slots := 0, locals := 44 } : Room) s m args below meth c s.heap [] 0 0 (MQ below (vp_Si (fun z => z = o)) args s 0 0 (fun _ => False)) (F0 m 19 ls []) := by
  have C0 := C
  obtain ⟨hx, hb, hr, hml, hown, hts, hlocks⟩ := C0
  have hW : ∀ w ∈ WG, w.before args s = true := fun w h => hts w (List.mem_cons_of_mem _ h)
  intro  ls hl h
  unfold fX3_canUse_L19 at h
  refine lv_iconst (v := 1) hx hb dX3_canUse_19 (by decide) ?_
  refine lv_goto (tgt := 24) hx hb dX3_canUse_20 (by decide) ?_
  have h := Option.some.inj h
  subst h
  exact W.zret (v := 1) hx hb hr rfl (fun t ht hW9 => ⟨1, rfl, rfl, ht⟩) (fun _ h9 => absurd h9 List.not_mem_nil) dX3_canUse_24 hlocks
set_option maxHeartbeats 4000000 in
set_option maxRecDepth 100000 in
theorem mX3_canUse (l : Launch) (D : va_G) (a : Nat → Nat) (k : Nat → ClassId) (σ : ST) (x1 x2 : Int32) (o : Int32) (h : fX3_canUse σ x1 x2 = some o) : Met l yX3_canUse ((Cond.code yX3_canUse cX3_canUse 3 (some .boolean)) :: WG) ({ frames := 2, cells := 0, slots := 0, locals := 44 } : Room) (Pw D (tX k) (AX a) (wX a k σ) [.ref (a 1), .int x1, .int x2]) (vp_Si (fun z => z = o)) 0 0 (fun _ => False) := by
  refine Met.ofW (cc := cX3_canUse) (maxL := 3) (ret := (some .boolean)) (by decide) rfl ?_
  intro p e s m args below meth c s₁ B hml0 hv
  have C : Cx p s m args meth c cX3_canUse 3 RX3 (Cond.code yX3_canUse cX3_canUse 3 (some .boolean)) (some .boolean) := ⟨B.exec, B.bytes, B.returns, hml0, findClass_of_methodNamed B.named, atoms_spec (ws := (Cond.code yX3_canUse cX3_canUse 3 (some .boolean)) :: WG) B.pre, B.notSynchronized⟩
  obtain ⟨rfl, hP, hK, hD⟩ := hv
  have hK : Kx D (tX k) s := hK
  have C0 := C
  obtain ⟨hx, hb, hr, hml, hown, hts, hlocks⟩ := C0
  have hW : ∀ w ∈ WG, w.before _ s = true := fun w h => hts w (List.mem_cons_of_mem _ h)
  show W p l e ({ frames := 2, cells := 0, slots := 0, locals := 44 } : Room) s m _ below meth c s.heap [] 0 0 _ _
  have hl := lv_entry ([.ref (a 1), .int x1, .int x2]) (n := 3) (Nat.le_of_ble_eq_true rfl)
  rw [lg_entry_eq]
  generalize (lg_sl ([.ref (a 1), .int x1, .int x2]) ++ List.replicate (3 - (lg_sl ([.ref (a 1), .int x1, .int x2])).length) Slot.unset).toArray = ls at hl ⊢
  have hl : lv_has ls 3 [(0, .ref (a 1)), (1, .int x1), (2, .int x2)] := hl
  unfold fX3_canUse at h
  refine lv_aload_n hx hb dX3_canUse_0 rfl (lv_at hl 0 rfl) ?_
  refine lv_iload_n hx hb dX3_canUse_1 rfl (lv_at hl 1 rfl) ?_
  refine lv_iload_n hx hb dX3_canUse_2 rfl (lv_at hl 2 rfl) ?_
  obtain ⟨r3, hc3, h⟩ := bd_o h
  refine callRI (va_runV (As := [.int x1, .int x2]) (rest := []) ⟨hx, hb, hml, hown, hts⟩ (mX3_isHeld l D a k _ _ _ _ hc3) ⟨callB_of 2 hts (wg_c wg94) rfl rfl rfl (hW _ wg13) (hW _ wg111) hdX3_isHeld ⟨Nat.le_of_ble_eq_true rfl, Nat.le_of_ble_eq_true rfl⟩, hW _ wg96, hW _ wg97⟩ (pw_V hK hP hD (ci := 3) (q0 := 1) rfl rfl) rfl rfl hl.1 rfl (lv_room (Nat.le_of_ble_eq_true rfl)) dX3_canUse_3 ⟨Nat.zero_le _, Nat.zero_le _⟩) ?_
  refine lv_if_ne (tgt := 19) hx hb dX3_canUse_6 (by decide) (fun c6 => ?_) (fun c6 => ?_)
  · have h := ite_f h c6
    exact bX3_canUse_L19 C hK hP hD  ls (lv_sub hl [] rfl) h
  · have h := ite_t h c6
    refine lv_aload_n hx hb dX3_canUse_9 rfl (lv_at hl 0 rfl) ?_
    refine lv_iload_n hx hb dX3_canUse_10 rfl (lv_at hl 1 rfl) ?_
    refine lv_iload_n hx hb dX3_canUse_11 rfl (lv_at hl 2 rfl) ?_
    refine lv_iconst (v := 3) hx hb dX3_canUse_12 (by decide) ?_
    obtain ⟨r13, hc13, h⟩ := bd_o h
    refine callRI (va_runV (As := [.int x1, .int x2, .int 3]) (rest := []) ⟨hx, hb, hml, hown, hts⟩ (mX3_isFileThatIs l D a k _ _ _ _ _ hc13) ⟨callB_of 3 hts (wg_c wg113) rfl rfl rfl (hW _ wg13) (hW _ wg112) hdX3_isFileThatIs ⟨Nat.le_of_ble_eq_true rfl, Nat.le_of_ble_eq_true rfl⟩, hW _ wg114, hW _ wg115⟩ (pw_V hK hP hD (ci := 3) (q0 := 1) rfl rfl) rfl rfl hl.1 rfl (lv_room (Nat.le_of_ble_eq_true rfl)) dX3_canUse_13 ⟨Nat.zero_le _, Nat.zero_le _⟩) ?_
    refine lv_if_eq (tgt := 23) hx hb dX3_canUse_16 (by decide) (fun c16 => ?_) (fun c16 => ?_)
    · have h := ite_t h c16
      refine lv_iconst (v := 0) hx hb dX3_canUse_23 (by decide) ?_
      have h := Option.some.inj h
      subst h
      exact W.zret (v := 0) hx hb hr rfl (fun t ht hW9 => ⟨0, rfl, rfl, ht⟩) (fun _ h9 => absurd h9 List.not_mem_nil) dX3_canUse_24 hlocks
    · have h := ite_f h c16
      exact bX3_canUse_L19 C hK hP hD  ls (lv_sub hl [] rfl) h
set_option maxHeartbeats 4000000 in
set_option maxRecDepth 100000 in
theorem bX3_canClose_L28 {p : Program} {l : Launch} {e : Env} {s : State} {m : MethodId} {args : Array Value} {below : List Frame} {meth : Method} {c : Code} {D : va_G} {a : Nat → Nat} {k : Nat → ClassId} {σ : ST} {o : Int32} (C : Cx p s m args meth c cX3_canClose 3 RX3 (Cond.code yX3_canClose cX3_canClose 3 (some .boolean)) (some .boolean)) (hK : Kx D (tX k) s) (hP : va_P D vwCl (wX a k σ) s.heap) (hD : va_D (AX a) (wX a k σ)) : ∀ (ls : Array Slot), lv_has ls 3 [] → fX3_canClose_L28 σ  = some o → W p l e ({ frames := 2, cells := 0, slots := 0, locals := 44 } : Room) s m args below meth c s.heap [] 0 0 (MQ below (vp_Si (fun z => z = o)) args s 0 0 (fun _ => False)) (F0 m 28 ls []) := by
  have C0 := C
  obtain ⟨hx, hb, hr, hml, hown, hts, hlocks⟩ := C0
  have hW : ∀ w ∈ WG, w.before args s = true := fun w h => hts w (List.mem_cons_of_mem _ h)
  intro  ls hl h
  unfold fX3_canClose_L28 at h
  refine lv_iconst (v := 1) hx hb dX3_canClose_28 (by decide) ?_
  refine lv_goto (tgt := 33) hx hb dX3_canClose_29 (by decide) ?_
  have h := Option.some.inj h
  subst h
  exact W.zret (v := 1) hx hb hr rfl (fun t ht hW9 => ⟨1, rfl, rfl, ht⟩) (fun _ h9 => absurd h9 List.not_mem_nil) dX3_canClose_33 hlocks
set_option maxHeartbeats 4000000 in
set_option maxRecDepth 100000 in
theorem mX3_canClose (l : Launch) (D : va_G) (a : Nat → Nat) (k : Nat → ClassId) (σ : ST) (x1 x2 : Int32) (o : Int32) (h : fX3_canClose σ x1 x2 = some o) : Met l yX3_canClose ((Cond.code yX3_canClose cX3_canClose 3 (some .boolean)) :: WG) ({ frames := 2, cells := 0, slots := 0, locals := 44 } : Room) (Pw D (tX k) (AX a) (wX a k σ) [.ref (a 1), .int x1, .int x2]) (vp_Si (fun z => z = o)) 0 0 (fun _ => False) := by
  refine Met.ofW (cc := cX3_canClose) (maxL := 3) (ret := (some .boolean)) (by decide) rfl ?_
  intro p e s m args below meth c s₁ B hml0 hv
  have C : Cx p s m args meth c cX3_canClose 3 RX3 (Cond.code yX3_canClose cX3_canClose 3 (some .boolean)) (some .boolean) := ⟨B.exec, B.bytes, B.returns, hml0, findClass_of_methodNamed B.named, atoms_spec (ws := (Cond.code yX3_canClose cX3_canClose 3 (some .boolean)) :: WG) B.pre, B.notSynchronized⟩
  obtain ⟨rfl, hP, hK, hD⟩ := hv
  have hK : Kx D (tX k) s := hK
  have C0 := C
  obtain ⟨hx, hb, hr, hml, hown, hts, hlocks⟩ := C0
  have hW : ∀ w ∈ WG, w.before _ s = true := fun w h => hts w (List.mem_cons_of_mem _ h)
  show W p l e ({ frames := 2, cells := 0, slots := 0, locals := 44 } : Room) s m _ below meth c s.heap [] 0 0 _ _
  have hl := lv_entry ([.ref (a 1), .int x1, .int x2]) (n := 3) (Nat.le_of_ble_eq_true rfl)
  rw [lg_entry_eq]
  generalize (lg_sl ([.ref (a 1), .int x1, .int x2]) ++ List.replicate (3 - (lg_sl ([.ref (a 1), .int x1, .int x2])).length) Slot.unset).toArray = ls at hl ⊢
  have hl : lv_has ls 3 [(0, .ref (a 1)), (1, .int x1), (2, .int x2)] := hl
  unfold fX3_canClose at h
  refine lv_aload_n hx hb dX3_canClose_0 rfl (lv_at hl 0 rfl) ?_
  refine lv_iload_n hx hb dX3_canClose_1 rfl (lv_at hl 1 rfl) ?_
  refine lv_iload_n hx hb dX3_canClose_2 rfl (lv_at hl 2 rfl) ?_
  obtain ⟨r3, hc3, h⟩ := bd_o h
  refine callRI (va_runV (As := [.int x1, .int x2]) (rest := []) ⟨hx, hb, hml, hown, hts⟩ (mX3_isHeld l D a k _ _ _ _ hc3) ⟨callB_of 2 hts (wg_c wg94) rfl rfl rfl (hW _ wg13) (hW _ wg111) hdX3_isHeld ⟨Nat.le_of_ble_eq_true rfl, Nat.le_of_ble_eq_true rfl⟩, hW _ wg96, hW _ wg97⟩ (pw_V hK hP hD (ci := 3) (q0 := 1) rfl rfl) rfl rfl hl.1 rfl (lv_room (Nat.le_of_ble_eq_true rfl)) dX3_canClose_3 ⟨Nat.zero_le _, Nat.zero_le _⟩) ?_
  refine lv_if_ne (tgt := 28) hx hb dX3_canClose_6 (by decide) (fun c6 => ?_) (fun c6 => ?_)
  · have h := ite_f h c6
    exact bX3_canClose_L28 C hK hP hD  ls (lv_sub hl [] rfl) h
  · have h := ite_t h c6
    refine lv_aload_n hx hb dX3_canClose_9 rfl (lv_at hl 0 rfl) ?_
    refine va_get (D := D) (ci := 3) (v := .ref (a 7)) (C := RX3) (T := TX3) (N := 4) hx hb hW inX3G hown hK.1 hP 1 rfl rfl 1 (by decide) (hW _ wg6) (fun _ h9 => h9) rfl dX3_canClose_10 ?_
    refine lv_iload_n hx hb dX3_canClose_13 rfl (lv_at hl 2 rfl) ?_
    obtain ⟨hi14, h⟩ := ix_o h
    refine va_zald (D := D) hx hb hK.1 hP 7 1 rfl rfl hi14 dX3_canClose_14 ?_
    refine lv_if_eq (tgt := 32) hx hb dX3_canClose_15 (by decide) (fun c15 => ?_) (fun c15 => ?_)
    · have h := ite_t h c15
      refine lv_iconst (v := 0) hx hb dX3_canClose_32 (by decide) ?_
      have h := Option.some.inj h
      subst h
      exact W.zret (v := 0) hx hb hr rfl (fun t ht hW9 => ⟨0, rfl, rfl, ht⟩) (fun _ h9 => absurd h9 List.not_mem_nil) dX3_canClose_33 hlocks
    · have h := ite_f h c15
      refine lv_aload_n hx hb dX3_canClose_18 rfl (lv_at hl 0 rfl) ?_
      refine lv_iload_n hx hb dX3_canClose_19 rfl (lv_at hl 1 rfl) ?_
      refine lv_iload_n hx hb dX3_canClose_20 rfl (lv_at hl 2 rfl) ?_
      refine lv_iconst (v := 2) hx hb dX3_canClose_21 (by decide) ?_
      obtain ⟨r22, hc22, h⟩ := bd_o h
      refine callRI (va_runV (As := [.int x1, .int x2, .int 2]) (rest := []) ⟨hx, hb, hml, hown, hts⟩ (mX3_isFileThatIs l D a k _ _ _ _ _ hc22) ⟨callB_of 3 hts (wg_c wg113) rfl rfl rfl (hW _ wg13) (hW _ wg112) hdX3_isFileThatIs ⟨Nat.le_of_ble_eq_true rfl, Nat.le_of_ble_eq_true rfl⟩, hW _ wg114, hW _ wg115⟩ (pw_V hK hP hD (ci := 3) (q0 := 1) rfl rfl) rfl rfl hl.1 rfl (lv_room (Nat.le_of_ble_eq_true rfl)) dX3_canClose_22 ⟨Nat.zero_le _, Nat.zero_le _⟩) ?_
      refine lv_if_eq (tgt := 32) hx hb dX3_canClose_25 (by decide) (fun c25 => ?_) (fun c25 => ?_)
      · have h := ite_t h c25
        refine lv_iconst (v := 0) hx hb dX3_canClose_32 (by decide) ?_
        have h := Option.some.inj h
        subst h
        exact W.zret (v := 0) hx hb hr rfl (fun t ht hW9 => ⟨0, rfl, rfl, ht⟩) (fun _ h9 => absurd h9 List.not_mem_nil) dX3_canClose_33 hlocks
      · have h := ite_f h c25
        exact bX3_canClose_L28 C hK hP hD  ls (lv_sub hl [] rfl) h
set_option maxHeartbeats 4000000 in
set_option maxRecDepth 100000 in
theorem mX3_canKeep (l : Launch) (D : va_G) (a : Nat → Nat) (k : Nat → ClassId) (σ : ST) (x1 x2 : Int32) (o : Int32) (h : fX3_canKeep σ x1 x2 = some o) : Met l yX3_canKeep ((Cond.code yX3_canKeep cX3_canKeep 3 (some .boolean)) :: WG) ({ frames := 2, cells := 0, slots := 0, locals := 44 } : Room) (Pw D (tX k) (AX a) (wX a k σ) [.ref (a 1), .int x1, .int x2]) (vp_Si (fun z => z = o)) 0 0 (fun _ => False) := by
  refine Met.ofW (cc := cX3_canKeep) (maxL := 3) (ret := (some .boolean)) (by decide) rfl ?_
  intro p e s m args below meth c s₁ B hml0 hv
  have C : Cx p s m args meth c cX3_canKeep 3 RX3 (Cond.code yX3_canKeep cX3_canKeep 3 (some .boolean)) (some .boolean) := ⟨B.exec, B.bytes, B.returns, hml0, findClass_of_methodNamed B.named, atoms_spec (ws := (Cond.code yX3_canKeep cX3_canKeep 3 (some .boolean)) :: WG) B.pre, B.notSynchronized⟩
  obtain ⟨rfl, hP, hK, hD⟩ := hv
  have hK : Kx D (tX k) s := hK
  have C0 := C
  obtain ⟨hx, hb, hr, hml, hown, hts, hlocks⟩ := C0
  have hW : ∀ w ∈ WG, w.before _ s = true := fun w h => hts w (List.mem_cons_of_mem _ h)
  show W p l e ({ frames := 2, cells := 0, slots := 0, locals := 44 } : Room) s m _ below meth c s.heap [] 0 0 _ _
  have hl := lv_entry ([.ref (a 1), .int x1, .int x2]) (n := 3) (Nat.le_of_ble_eq_true rfl)
  rw [lg_entry_eq]
  generalize (lg_sl ([.ref (a 1), .int x1, .int x2]) ++ List.replicate (3 - (lg_sl ([.ref (a 1), .int x1, .int x2])).length) Slot.unset).toArray = ls at hl ⊢
  have hl : lv_has ls 3 [(0, .ref (a 1)), (1, .int x1), (2, .int x2)] := hl
  unfold fX3_canKeep at h
  refine lv_aload_n hx hb dX3_canKeep_0 rfl (lv_at hl 0 rfl) ?_
  refine lv_iload_n hx hb dX3_canKeep_1 rfl (lv_at hl 1 rfl) ?_
  refine lv_iload_n hx hb dX3_canKeep_2 rfl (lv_at hl 2 rfl) ?_
  refine lv_iconst (v := 1) hx hb dX3_canKeep_3 (by decide) ?_
  obtain ⟨r4, hc4, h⟩ := bd_o h
  refine callRI (va_runV (As := [.int x1, .int x2, .int 1]) (rest := []) ⟨hx, hb, hml, hown, hts⟩ (mX3_isFileThatIs l D a k _ _ _ _ _ hc4) ⟨callB_of 3 hts (wg_c wg113) rfl rfl rfl (hW _ wg13) (hW _ wg112) hdX3_isFileThatIs ⟨Nat.le_of_ble_eq_true rfl, Nat.le_of_ble_eq_true rfl⟩, hW _ wg114, hW _ wg115⟩ (pw_V hK hP hD (ci := 3) (q0 := 1) rfl rfl) rfl rfl hl.1 rfl (lv_room (Nat.le_of_ble_eq_true rfl)) dX3_canKeep_4 ⟨Nat.zero_le _, Nat.zero_le _⟩) ?_
  obtain ⟨hz7, h⟩ := zb_o h
  have h := Option.some.inj h
  subst h
  exact W.zret (v := r4) hx hb hr hz7 (fun t ht hW9 => ⟨r4, rfl, rfl, ht⟩) (fun _ h9 => absurd h9 List.not_mem_nil) dX3_canKeep_7 hlocks
