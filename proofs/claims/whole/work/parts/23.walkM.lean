set_option maxHeartbeats 4000000 in
set_option maxRecDepth 100000 in
theorem bX6_check_L116 {p : Program} {l : Launch} {e : Env} {s : State} {m : MethodId} {args : Array Value} {below : List Frame} {meth : Method} {c : Code} {D : va_G} {a : Nat → Nat} {k : Nat → ClassId} {o : Int32 × ST} (C : Cx p s m args meth c cX6_check 4 RX6 (Cond.code yX6_check cX6_check 4 (some .int)) (some .int)) (hK : Kx D (tM k) s) (k60 : Int32 → ST → Option (Int32 × ST)) (hk60 : ∀ (x1 : Int32) (σ : ST) (H : Heap) (locs : List Loc) (ls : Array Slot), va_P D vwCl (wM a k σ) H → va_D (AM a) (wM a k σ) → va_S (AM a) s.heap H locs → lv_has ls 4 [(0, .ref (a 0)), (1, .int x1)] → k60 x1 σ = some o → W p l e ({ frames := 4, cells := 0, slots := 0, locals := 91 } : Room) s m args below meth c H locs 0 0 (MQ below (va_Qi (S := Unit) (fun z _ => z = o.1) (fun _ t => va_P D vwCl (wM a k o.2) t.heap) (AM a)) args s 0 0 (AM a)) (F0 m 60 ls [])) (k86 : Int32 → Int32 → Int32 → ST → Option (Int32 × ST)) (hk86 : ∀ (x1 x2 x3 : Int32) (σ : ST) (H : Heap) (locs : List Loc) (ls : Array Slot), va_P D vwCl (wM a k σ) H → va_D (AM a) (wM a k σ) → va_S (AM a) s.heap H locs → lv_has ls 4 [(0, .ref (a 0)), (1, .int x1), (2, .int x2), (3, .int x3)] → k86 x1 x2 x3 σ = some o → W p l e ({ frames := 4, cells := 0, slots := 0, locals := 91 } : Room) s m args below meth c H locs 0 0 (MQ below (va_Qi (S := Unit) (fun z _ => z = o.1) (fun _ t => va_P D vwCl (wM a k o.2) t.heap) (AM a)) args s 0 0 (AM a)) (F0 m 86 ls [])) : ∀ (x1 x2 x3 : Int32) (σ : ST) (H : Heap) (locs : List Loc) (ls : Array Slot), va_P D vwCl (wM a k σ) H → va_D (AM a) (wM a k σ) → va_S (AM a) s.heap H locs → lv_has ls 4 [(0, .ref (a 0)), (1, .int x1), (2, .int x2), (3, .int x3)] → fX6_check_L116 k60 k86 x1 x2 x3 σ = some o → W p l e ({ frames := 4, cells := 0, slots := 0, locals := 91 } : Room) s m args below meth c H locs 0 0 (MQ below (va_Qi (S := Unit) (fun z _ => z = o.1) (fun _ t => va_P D vwCl (wM a k o.2) t.heap) (AM a)) args s 0 0 (AM a)) (F0 m 116 ls []) := by
  have C0 := C
  obtain ⟨hx, hb, hr, hml, hown, hts, hlocks⟩ := C0
  have hW : ∀ w ∈ WG, w.before args s = true := fun w h => hts w (List.mem_cons_of_mem _ h)
  intro x1 x2 x3 σ H locs ls hP hD hS hl h
  unfold fX6_check_L116 at h
  obtain ⟨x3_116, ex3_116⟩ : ∃ y : Int32, y = x3 + 1 := ⟨_, rfl⟩
  have h := nm_o h ex3_116
  refine lv_iinc (v := x3_116) (lv' := [(3, .int x3_116), (0, .ref (a 0)), (1, .int x1), (2, .int x2)]) hx hb dX6_check_116 hl (k := 3) rfl (by rw [ex3_116]; rfl) (by decide) rfl (fun ls hl => ?_)
  refine lv_goto (tgt := 86) hx hb dX6_check_119 (by decide) ?_
  exact hk86 _ _ _ _ H locs ls hP hD hS (lv_sub hl [1, 2, 3, 0] rfl) h
set_option maxHeartbeats 4000000 in
set_option maxRecDepth 100000 in
theorem bX6_check_L180 {p : Program} {l : Launch} {e : Env} {s : State} {m : MethodId} {args : Array Value} {below : List Frame} {meth : Method} {c : Code} {D : va_G} {a : Nat → Nat} {k : Nat → ClassId} {o : Int32 × ST} (C : Cx p s m args meth c cX6_check 4 RX6 (Cond.code yX6_check cX6_check 4 (some .int)) (some .int)) (hK : Kx D (tM k) s) (k60 : Int32 → ST → Option (Int32 × ST)) (hk60 : ∀ (x1 : Int32) (σ : ST) (H : Heap) (locs : List Loc) (ls : Array Slot), va_P D vwCl (wM a k σ) H → va_D (AM a) (wM a k σ) → va_S (AM a) s.heap H locs → lv_has ls 4 [(0, .ref (a 0)), (1, .int x1)] → k60 x1 σ = some o → W p l e ({ frames := 4, cells := 0, slots := 0, locals := 91 } : Room) s m args below meth c H locs 0 0 (MQ below (va_Qi (S := Unit) (fun z _ => z = o.1) (fun _ t => va_P D vwCl (wM a k o.2) t.heap) (AM a)) args s 0 0 (AM a)) (F0 m 60 ls [])) : ∀ (x1 : Int32) (σ : ST) (H : Heap) (locs : List Loc) (ls : Array Slot), va_P D vwCl (wM a k σ) H → va_D (AM a) (wM a k σ) → va_S (AM a) s.heap H locs → lv_has ls 4 [(0, .ref (a 0)), (1, .int x1)] → fX6_check_L180 k60 x1 σ = some o → W p l e ({ frames := 4, cells := 0, slots := 0, locals := 91 } : Room) s m args below meth c H locs 0 0 (MQ below (va_Qi (S := Unit) (fun z _ => z = o.1) (fun _ t => va_P D vwCl (wM a k o.2) t.heap) (AM a)) args s 0 0 (AM a)) (F0 m 180 ls []) := by
  have C0 := C
  obtain ⟨hx, hb, hr, hml, hown, hts, hlocks⟩ := C0
  have hW : ∀ w ∈ WG, w.before args s = true := fun w h => hts w (List.mem_cons_of_mem _ h)
  intro x1 σ H locs ls hP hD hS hl h
  unfold fX6_check_L180 at h
  obtain ⟨x1_180, ex1_180⟩ : ∃ y : Int32, y = x1 + 1 := ⟨_, rfl⟩
  have h := nm_o h ex1_180
  refine lv_iinc (v := x1_180) (lv' := [(1, .int x1_180), (0, .ref (a 0))]) hx hb dX6_check_180 hl (k := 1) rfl (by rw [ex1_180]; rfl) (by decide) rfl (fun ls hl => ?_)
  refine lv_goto (tgt := 60) hx hb dX6_check_183 (by decide) ?_
  exact hk60 _ _ H locs ls hP hD hS (lv_sub hl [1, 0] rfl) h
set_option maxHeartbeats 4000000 in
set_option maxRecDepth 100000 in
theorem bX6_check_L86 {p : Program} {l : Launch} {e : Env} {s : State} {m : MethodId} {args : Array Value} {below : List Frame} {meth : Method} {c : Code} {D : va_G} {a : Nat → Nat} {k : Nat → ClassId} {o : Int32 × ST} (C : Cx p s m args meth c cX6_check 4 RX6 (Cond.code yX6_check cX6_check 4 (some .int)) (some .int)) (hK : Kx D (tM k) s) (k60 : Int32 → ST → Option (Int32 × ST)) (hk60 : ∀ (x1 : Int32) (σ : ST) (H : Heap) (locs : List Loc) (ls : Array Slot), va_P D vwCl (wM a k σ) H → va_D (AM a) (wM a k σ) → va_S (AM a) s.heap H locs → lv_has ls 4 [(0, .ref (a 0)), (1, .int x1)] → k60 x1 σ = some o → W p l e ({ frames := 4, cells := 0, slots := 0, locals := 91 } : Room) s m args below meth c H locs 0 0 (MQ below (va_Qi (S := Unit) (fun z _ => z = o.1) (fun _ t => va_P D vwCl (wM a k o.2) t.heap) (AM a)) args s 0 0 (AM a)) (F0 m 60 ls [])) : ∀ (n : Nat) (x1 x2 x3 : Int32) (σ : ST) (H : Heap) (locs : List Loc) (ls : Array Slot), va_P D vwCl (wM a k σ) H → va_D (AM a) (wM a k σ) → va_S (AM a) s.heap H locs → lv_has ls 4 [(0, .ref (a 0)), (1, .int x1), (2, .int x2), (3, .int x3)] → fX6_check_L86 k60 n x1 x2 x3 σ = some o → W p l e ({ frames := 4, cells := 0, slots := 0, locals := 91 } : Room) s m args below meth c H locs 0 0 (MQ below (va_Qi (S := Unit) (fun z _ => z = o.1) (fun _ t => va_P D vwCl (wM a k o.2) t.heap) (AM a)) args s 0 0 (AM a)) (F0 m 86 ls []) := by
  have C0 := C
  obtain ⟨hx, hb, hr, hml, hown, hts, hlocks⟩ := C0
  have hW : ∀ w ∈ WG, w.before args s = true := fun w h => hts w (List.mem_cons_of_mem _ h)
  intro n
  induction n with
  | zero =>
    intro x1 x2 x3 σ H locs ls hP hD hS hl h
    rw [fX6_check_L86] at h
    cases h
  | succ n ih =>
      intro x1 x2 x3 σ H locs ls hP hD hS hl h
      rw [fX6_check_L86] at h
      refine lv_iload_n hx hb dX6_check_86 rfl (lv_at hl 3 rfl) ?_
      refine lv_aload_n hx hb dX6_check_87 rfl (lv_at hl 0 rfl) ?_
      refine va_get (D := D) (ci := 6) (v := .int (σ.1 0)) (C := RX6) (T := TX6) (N := 22) hx hb hW inX6G hown hK.1 hP 0 rfl rfl 0 (by decide) (hW _ wg271) (fun _ h9 => h9) rfl dX6_check_88 ?_
      refine lv_icmp_ge (tgt := 122) hx hb dX6_check_91 (by decide) (fun c91 => ?_) (fun c91 => ?_)
      · have h := ite_t h c91
        refine lv_goto (tgt := 180) hx hb dX6_check_122 (by decide) ?_
        exact bX6_check_L180 C hK _ hk60 _ _ H locs ls hP hD hS (lv_sub hl [0, 1] rfl) h
      · have h := ite_f h c91
        refine lv_aload_n hx hb dX6_check_94 rfl (lv_at hl 0 rfl) ?_
        refine lv_iload_n hx hb dX6_check_95 rfl (lv_at hl 2 rfl) ?_
        refine lv_iload_n hx hb dX6_check_96 rfl (lv_at hl 3 rfl) ?_
        obtain ⟨r97, hc97, h⟩ := bd_o h
        refine callRI (va_runV (As := [.int x2, .int x3]) (rest := []) ⟨hx, hb, hml, hown, hts⟩ (mX6_isHeld l D a k _ _ _ _ hc97) ⟨callB_of 2 hts (wg_c wg305) rfl rfl rfl (hW _ wg274) (hW _ wg304) hdX6_isHeld ⟨Nat.le_of_ble_eq_true rfl, Nat.le_of_ble_eq_true rfl⟩, hW _ wg306, hW _ wg307⟩ (pw_V hK hP hD (ci := 6) (q0 := 0) rfl rfl) rfl rfl hl.1 rfl (lv_room (Nat.le_of_ble_eq_true rfl)) dX6_check_97 ⟨Nat.zero_le _, Nat.zero_le _⟩) ?_
        refine lv_if_eq (tgt := 116) hx hb dX6_check_100 (by decide) (fun c100 => ?_) (fun c100 => ?_)
        · have h := ite_t h c100
          exact bX6_check_L116 C hK _ hk60 _ ih _ _ _ _ H locs ls hP hD hS (lv_sub hl [0, 1, 2, 3] rfl) h
        · have h := ite_f h c100
          refine lv_aload_n hx hb dX6_check_103 rfl (lv_at hl 0 rfl) ?_
          refine lv_iload_n hx hb dX6_check_104 rfl (lv_at hl 2 rfl) ?_
          obtain ⟨r105, hc105, h⟩ := bd_o h
          refine callRI (va_runS (As := [.int x2]) (rest := [.ref (a 0)]) ⟨hx, hb, hml, hown, hts⟩ (mX6_place l _ _ hc105) ⟨callB_of 1 hts (wg_c wg302) rfl rfl rfl (hW _ wg274) (hW _ wg301) hdX6_place ⟨Nat.le_of_ble_eq_true rfl, Nat.le_of_ble_eq_true rfl⟩, hW _ wg303⟩ preEq rfl rfl hl.1 rfl (lv_room (Nat.le_of_ble_eq_true rfl)) dX6_check_105 ⟨Nat.zero_le _, Nat.zero_le _⟩) ?_
          refine lv_bipush (v := 40) hx hb dX6_check_108 (by decide) ?_
          refine lv_isub hx hb dX6_check_110 ?_
          refine lv_iload_n hx hb dX6_check_111 rfl (lv_at hl 3 rfl) ?_
          refine lv_iload_n hx hb dX6_check_112 rfl (lv_at hl 1 rfl) ?_
          obtain ⟨r113, hc113, h⟩ := bd_o h
          refine callWV (va_runV (As := [.int (r105 - 40), .int x3, .int x1]) (rest := []) ⟨hx, hb, hml, hown, hts⟩ (mX6_tell l D a k _ _ _ _ _ hc113) ⟨callB_of 3 hts (wg_c wg333) rfl rfl rfl (hW _ wg274) (hW _ wg332) hdX6_tell ⟨Nat.le_of_ble_eq_true rfl, Nat.le_of_ble_eq_true rfl⟩, hW _ wg334, hW _ wg335⟩ (pw_V hK hP hD (ci := 6) (q0 := 0) rfl rfl) rfl rfl hl.1 rfl (lv_room (Nat.le_of_ble_eq_true rfl)) dX6_check_113 ⟨Nat.zero_le _, Nat.zero_le _⟩) hS (fun H locs hP hS => ?_)
          have hD : va_D (AM a) (wM a k r113) := dM hD
          exact bX6_check_L116 C hK _ hk60 _ ih _ _ _ _ H locs ls hP hD hS (lv_sub hl [0, 1, 2, 3] rfl) h
set_option maxHeartbeats 4000000 in
set_option maxRecDepth 100000 in
theorem bX6_check_L150 {p : Program} {l : Launch} {e : Env} {s : State} {m : MethodId} {args : Array Value} {below : List Frame} {meth : Method} {c : Code} {D : va_G} {a : Nat → Nat} {k : Nat → ClassId} {o : Int32 × ST} (C : Cx p s m args meth c cX6_check 4 RX6 (Cond.code yX6_check cX6_check 4 (some .int)) (some .int)) (hK : Kx D (tM k) s) (k60 : Int32 → ST → Option (Int32 × ST)) (hk60 : ∀ (x1 : Int32) (σ : ST) (H : Heap) (locs : List Loc) (ls : Array Slot), va_P D vwCl (wM a k σ) H → va_D (AM a) (wM a k σ) → va_S (AM a) s.heap H locs → lv_has ls 4 [(0, .ref (a 0)), (1, .int x1)] → k60 x1 σ = some o → W p l e ({ frames := 4, cells := 0, slots := 0, locals := 91 } : Room) s m args below meth c H locs 0 0 (MQ below (va_Qi (S := Unit) (fun z _ => z = o.1) (fun _ t => va_P D vwCl (wM a k o.2) t.heap) (AM a)) args s 0 0 (AM a)) (F0 m 60 ls [])) : ∀ (x1 x2 : Int32) (σ : ST) (H : Heap) (locs : List Loc) (ls : Array Slot), va_P D vwCl (wM a k σ) H → va_D (AM a) (wM a k σ) → va_S (AM a) s.heap H locs → lv_has ls 4 [(0, .ref (a 0)), (1, .int x1), (2, .int x2)] → fX6_check_L150 k60 x1 x2 σ = some o → W p l e ({ frames := 4, cells := 0, slots := 0, locals := 91 } : Room) s m args below meth c H locs 0 0 (MQ below (va_Qi (S := Unit) (fun z _ => z = o.1) (fun _ t => va_P D vwCl (wM a k o.2) t.heap) (AM a)) args s 0 0 (AM a)) (F0 m 150 ls []) := by
  have C0 := C
  obtain ⟨hx, hb, hr, hml, hown, hts, hlocks⟩ := C0
  have hW : ∀ w ∈ WG, w.before args s = true := fun w h => hts w (List.mem_cons_of_mem _ h)
  intro x1 x2 σ H locs ls hP hD hS hl h
  unfold fX6_check_L150 at h
  refine lv_aload_n hx hb dX6_check_150 rfl (lv_at hl 0 rfl) ?_
  refine lv_aload_n hx hb dX6_check_151 rfl (lv_at hl 0 rfl) ?_
  refine lv_iload_n hx hb dX6_check_152 rfl (lv_at hl 2 rfl) ?_
  refine lv_iconst (v := 0) hx hb dX6_check_153 (by decide) ?_
  obtain ⟨r154, hc154, h⟩ := bd_o h
  refine callRI (va_runV (As := [.int x2, .int 0]) (rest := [.ref (a 0)]) ⟨hx, hb, hml, hown, hts⟩ (mX6_next l D a k _ _ _ _ hc154) ⟨callB_of 2 hts (wg_c wg337) rfl rfl rfl (hW _ wg274) (hW _ wg336) hdX6_next ⟨Nat.le_of_ble_eq_true rfl, Nat.le_of_ble_eq_true rfl⟩, hW _ wg338, hW _ wg339⟩ (pw_V hK hP hD (ci := 6) (q0 := 0) rfl rfl) rfl rfl hl.1 rfl (lv_room (Nat.le_of_ble_eq_true rfl)) dX6_check_154 ⟨Nat.zero_le _, Nat.zero_le _⟩) ?_
  refine lv_iload_n hx hb dX6_check_157 rfl (lv_at hl 1 rfl) ?_
  obtain ⟨r158, hc158, h⟩ := bd_o h
  refine callWV (va_runV (As := [.int r154, .int x1]) (rest := []) ⟨hx, hb, hml, hown, hts⟩ (mX6_come l D a k _ _ _ _ hc158) ⟨callB_of 2 hts (wg_c wg341) rfl rfl rfl (hW _ wg274) (hW _ wg340) hdX6_come ⟨Nat.le_of_ble_eq_true rfl, Nat.le_of_ble_eq_true rfl⟩, hW _ wg342, hW _ wg343⟩ (pw_V hK hP hD (ci := 6) (q0 := 0) rfl rfl) rfl rfl hl.1 rfl (lv_room (Nat.le_of_ble_eq_true rfl)) dX6_check_158 ⟨Nat.zero_le _, Nat.zero_le _⟩) hS (fun H locs hP hS => ?_)
  have hD : va_D (AM a) (wM a k r158) := dM hD
  refine lv_aload_n hx hb dX6_check_161 rfl (lv_at hl 0 rfl) ?_
  refine lv_iload_n hx hb dX6_check_162 rfl (lv_at hl 2 rfl) ?_
  obtain ⟨r163, hc163, h⟩ := bd_o h
  refine callRI (va_runV (As := [.int x2]) (rest := []) ⟨hx, hb, hml, hown, hts⟩ (mX6_isTwofold l D a k _ _ _ hc163) ⟨callB_of 1 hts (wg_c wg345) rfl rfl rfl (hW _ wg274) (hW _ wg344) hdX6_isTwofold ⟨Nat.le_of_ble_eq_true rfl, Nat.le_of_ble_eq_true rfl⟩, hW _ wg346, hW _ wg347⟩ (pw_V hK hP hD (ci := 6) (q0 := 0) rfl rfl) rfl rfl hl.1 rfl (lv_room (Nat.le_of_ble_eq_true rfl)) dX6_check_163 ⟨Nat.zero_le _, Nat.zero_le _⟩) ?_
  refine lv_if_eq (tgt := 180) hx hb dX6_check_166 (by decide) (fun c166 => ?_) (fun c166 => ?_)
  · have h := ite_t h c166
    exact bX6_check_L180 C hK _ hk60 _ _ H locs ls hP hD hS (lv_sub hl [0, 1] rfl) h
  · have h := ite_f h c166
    refine lv_aload_n hx hb dX6_check_169 rfl (lv_at hl 0 rfl) ?_
    refine lv_aload_n hx hb dX6_check_170 rfl (lv_at hl 0 rfl) ?_
    refine lv_iload_n hx hb dX6_check_171 rfl (lv_at hl 2 rfl) ?_
    refine lv_iconst (v := 1) hx hb dX6_check_172 (by decide) ?_
    obtain ⟨r173, hc173, h⟩ := bd_o h
    refine callRI (va_runV (As := [.int x2, .int 1]) (rest := [.ref (a 0)]) ⟨hx, hb, hml, hown, hts⟩ (mX6_next l D a k _ _ _ _ hc173) ⟨callB_of 2 hts (wg_c wg337) rfl rfl rfl (hW _ wg274) (hW _ wg336) hdX6_next ⟨Nat.le_of_ble_eq_true rfl, Nat.le_of_ble_eq_true rfl⟩, hW _ wg338, hW _ wg339⟩ (pw_V hK hP hD (ci := 6) (q0 := 0) rfl rfl) rfl rfl hl.1 rfl (lv_room (Nat.le_of_ble_eq_true rfl)) dX6_check_173 ⟨Nat.zero_le _, Nat.zero_le _⟩) ?_
    refine lv_iload_n hx hb dX6_check_176 rfl (lv_at hl 1 rfl) ?_
    obtain ⟨r177, hc177, h⟩ := bd_o h
    refine callWV (va_runV (As := [.int r173, .int x1]) (rest := []) ⟨hx, hb, hml, hown, hts⟩ (mX6_come l D a k _ _ _ _ hc177) ⟨callB_of 2 hts (wg_c wg341) rfl rfl rfl (hW _ wg274) (hW _ wg340) hdX6_come ⟨Nat.le_of_ble_eq_true rfl, Nat.le_of_ble_eq_true rfl⟩, hW _ wg342, hW _ wg343⟩ (pw_V hK hP hD (ci := 6) (q0 := 0) rfl rfl) rfl rfl hl.1 rfl (lv_room (Nat.le_of_ble_eq_true rfl)) dX6_check_177 ⟨Nat.zero_le _, Nat.zero_le _⟩) hS (fun H locs hP hS => ?_)
    have hD : va_D (AM a) (wM a k r177) := dM hD
    exact bX6_check_L180 C hK _ hk60 _ _ H locs ls hP hD hS (lv_sub hl [0, 1] rfl) h
set_option maxHeartbeats 4000000 in
set_option maxRecDepth 100000 in
theorem bX6_check_L217 {p : Program} {l : Launch} {e : Env} {s : State} {m : MethodId} {args : Array Value} {below : List Frame} {meth : Method} {c : Code} {D : va_G} {a : Nat → Nat} {k : Nat → ClassId} {o : Int32 × ST} (C : Cx p s m args meth c cX6_check 4 RX6 (Cond.code yX6_check cX6_check 4 (some .int)) (some .int)) (hK : Kx D (tM k) s) (k195 : Int32 → Int32 → ST → Option (Int32 × ST)) (hk195 : ∀ (x1 x2 : Int32) (σ : ST) (H : Heap) (locs : List Loc) (ls : Array Slot), va_P D vwCl (wM a k σ) H → va_D (AM a) (wM a k σ) → va_S (AM a) s.heap H locs → lv_has ls 4 [(0, .ref (a 0)), (1, .int x1), (2, .int x2)] → k195 x1 x2 σ = some o → W p l e ({ frames := 4, cells := 0, slots := 0, locals := 91 } : Room) s m args below meth c H locs 0 0 (MQ below (va_Qi (S := Unit) (fun z _ => z = o.1) (fun _ t => va_P D vwCl (wM a k o.2) t.heap) (AM a)) args s 0 0 (AM a)) (F0 m 195 ls [])) : ∀ (x2 y0 y1 : Int32) (σ : ST) (H : Heap) (locs : List Loc) (ls : Array Slot), va_P D vwCl (wM a k σ) H → va_D (AM a) (wM a k σ) → va_S (AM a) s.heap H locs → lv_has ls 4 [(0, .ref (a 0)), (2, .int x2)] → fX6_check_L217 k195 x2 y0 y1 σ = some o → W p l e ({ frames := 4, cells := 0, slots := 0, locals := 91 } : Room) s m args below meth c H locs 0 0 (MQ below (va_Qi (S := Unit) (fun z _ => z = o.1) (fun _ t => va_P D vwCl (wM a k o.2) t.heap) (AM a)) args s 0 0 (AM a)) (F0 m 217 ls [.int y1, .int y0]) := by
  have C0 := C
  obtain ⟨hx, hb, hr, hml, hown, hts, hlocks⟩ := C0
  have hW : ∀ w ∈ WG, w.before args s = true := fun w h => hts w (List.mem_cons_of_mem _ h)
  intro x2 y0 y1 σ H locs ls hP hD hS hl h
  unfold fX6_check_L217 at h
  refine lv_iadd hx hb dX6_check_217 ?_
  refine lv_topi (fun x1_218 ex1_218 => ?_)
  have h := nm_o h ex1_218
  refine lv_istore_n (lv' := [(1, .int x1_218), (0, .ref (a 0)), (2, .int x2)]) hx hb dX6_check_218 rfl hl (by decide) rfl (fun ls hl => ?_)
  obtain ⟨x2_219, ex2_219⟩ : ∃ y : Int32, y = x2 + 1 := ⟨_, rfl⟩
  have h := nm_o h ex2_219
  refine lv_iinc (v := x2_219) (lv' := [(2, .int x2_219), (1, .int x1_218), (0, .ref (a 0))]) hx hb dX6_check_219 hl (k := 2) rfl (by rw [ex2_219]; rfl) (by decide) rfl (fun ls hl => ?_)
  refine lv_goto (tgt := 195) hx hb dX6_check_222 (by decide) ?_
  exact hk195 _ _ _ H locs ls hP hD hS (lv_sub hl [2, 1, 0] rfl) h
set_option maxHeartbeats 4000000 in
set_option maxRecDepth 100000 in
theorem bX6_check_L195 {p : Program} {l : Launch} {e : Env} {s : State} {m : MethodId} {args : Array Value} {below : List Frame} {meth : Method} {c : Code} {D : va_G} {a : Nat → Nat} {k : Nat → ClassId} {o : Int32 × ST} (C : Cx p s m args meth c cX6_check 4 RX6 (Cond.code yX6_check cX6_check 4 (some .int)) (some .int)) (hK : Kx D (tM k) s) : ∀ (n : Nat) (x1 x2 : Int32) (σ : ST) (H : Heap) (locs : List Loc) (ls : Array Slot), va_P D vwCl (wM a k σ) H → va_D (AM a) (wM a k σ) → va_S (AM a) s.heap H locs → lv_has ls 4 [(0, .ref (a 0)), (1, .int x1), (2, .int x2)] → fX6_check_L195 n x1 x2 σ = some o → W p l e ({ frames := 4, cells := 0, slots := 0, locals := 91 } : Room) s m args below meth c H locs 0 0 (MQ below (va_Qi (S := Unit) (fun z _ => z = o.1) (fun _ t => va_P D vwCl (wM a k o.2) t.heap) (AM a)) args s 0 0 (AM a)) (F0 m 195 ls []) := by
  have C0 := C
  obtain ⟨hx, hb, hr, hml, hown, hts, hlocks⟩ := C0
  have hW : ∀ w ∈ WG, w.before args s = true := fun w h => hts w (List.mem_cons_of_mem _ h)
  intro n
  induction n with
  | zero =>
    intro x1 x2 σ H locs ls hP hD hS hl h
    rw [fX6_check_L195] at h
    cases h
  | succ n ih =>
      intro x1 x2 σ H locs ls hP hD hS hl h
      rw [fX6_check_L195] at h
      refine lv_iload_n hx hb dX6_check_195 rfl (lv_at hl 2 rfl) ?_
      refine lv_bipush (v := 25) hx hb dX6_check_196 (by decide) ?_
      refine lv_icmp_ge (tgt := 225) hx hb dX6_check_198 (by decide) (fun c198 => ?_) (fun c198 => ?_)
      · have h := ite_t h c198
        refine lv_iload_n hx hb dX6_check_225 rfl (lv_at hl 1 rfl) ?_
        have h := Option.some.inj h
        subst h
        exact W.iret (v := x1) hx hb hr (fun t ht hW9 => ⟨⟨x1, (), rfl, rfl, by show va_P _ _ _ t.heap; rw [ht]; exact hP⟩, hS.F ht⟩) hS.2.2 dX6_check_226 hlocks
      · have h := ite_f h c198
        refine lv_iload_n hx hb dX6_check_201 rfl (lv_at hl 1 rfl) ?_
        refine lv_aload_n hx hb dX6_check_202 rfl (lv_at hl 0 rfl) ?_
        refine va_get (D := D) (ci := 6) (v := .ref (a 12)) (C := RX6) (T := TX6) (N := 22) hx hb hW inX6G hown hK.1 hP 0 rfl rfl 15 (by decide) (hW _ wg331) (fun _ h9 => h9) rfl dX6_check_203 ?_
        refine lv_iload_n hx hb dX6_check_206 rfl (lv_at hl 2 rfl) ?_
        obtain ⟨hi207, h⟩ := ix_o h
        refine va_iald (D := D) hx hb hK.1 hP 12 11 rfl rfl hi207 dX6_check_207 ?_
        refine lv_iconst (v := (-1)) hx hb dX6_check_208 (by decide) ?_
        refine lv_icmp_ne (tgt := 216) hx hb dX6_check_209 (by decide) (fun c209 => ?_) (fun c209 => ?_)
        · have h := ite_f h c209
          refine lv_iconst (v := 1) hx hb dX6_check_216 (by decide) ?_
          exact bX6_check_L217 C hK _ ih _ _ _ _ H locs ls hP hD hS (lv_sub hl [0, 2] rfl) h
        · have h := ite_t h c209
          refine lv_iconst (v := 0) hx hb dX6_check_212 (by decide) ?_
          refine lv_goto (tgt := 217) hx hb dX6_check_213 (by decide) ?_
          exact bX6_check_L217 C hK _ ih _ _ _ _ H locs ls hP hD hS (lv_sub hl [0, 2] rfl) h
set_option maxHeartbeats 4000000 in
set_option maxRecDepth 100000 in
theorem bX6_check_L60 {p : Program} {l : Launch} {e : Env} {s : State} {m : MethodId} {args : Array Value} {below : List Frame} {meth : Method} {c : Code} {D : va_G} {a : Nat → Nat} {k : Nat → ClassId} {o : Int32 × ST} (C : Cx p s m args meth c cX6_check 4 RX6 (Cond.code yX6_check cX6_check 4 (some .int)) (some .int)) (hK : Kx D (tM k) s) : ∀ (n : Nat) (x1 : Int32) (σ : ST) (H : Heap) (locs : List Loc) (ls : Array Slot), va_P D vwCl (wM a k σ) H → va_D (AM a) (wM a k σ) → va_S (AM a) s.heap H locs → lv_has ls 4 [(0, .ref (a 0)), (1, .int x1)] → fX6_check_L60 n x1 σ = some o → W p l e ({ frames := 4, cells := 0, slots := 0, locals := 91 } : Room) s m args below meth c H locs 0 0 (MQ below (va_Qi (S := Unit) (fun z _ => z = o.1) (fun _ t => va_P D vwCl (wM a k o.2) t.heap) (AM a)) args s 0 0 (AM a)) (F0 m 60 ls []) := by
  have C0 := C
  obtain ⟨hx, hb, hr, hml, hown, hts, hlocks⟩ := C0
  have hW : ∀ w ∈ WG, w.before args s = true := fun w h => hts w (List.mem_cons_of_mem _ h)
  intro n
  induction n with
  | zero =>
    intro x1 σ H locs ls hP hD hS hl h
    rw [fX6_check_L60] at h
    cases h
  | succ n ih =>
      intro x1 σ H locs ls hP hD hS hl h
      rw [fX6_check_L60] at h
      refine lv_iload_n hx hb dX6_check_60 rfl (lv_at hl 1 rfl) ?_
      refine lv_aload_n hx hb dX6_check_61 rfl (lv_at hl 0 rfl) ?_
      refine va_get (D := D) (ci := 6) (v := .int (σ.1 3)) (C := RX6) (T := TX6) (N := 22) hx hb hW inX6G hown hK.1 hP 0 rfl rfl 12 (by decide) (hW _ wg329) (fun _ h9 => h9) rfl dX6_check_62 ?_
      refine lv_icmp_ge (tgt := 186) hx hb dX6_check_65 (by decide) (fun c65 => ?_) (fun c65 => ?_)
      · have h := ite_t h c65
        refine lv_aload_n hx hb dX6_check_186 rfl (lv_at hl 0 rfl) ?_
        refine lv_iconst (v := 1) hx hb dX6_check_187 (by decide) ?_
        refine va_put (D := D) (ci := 6) (v := .int 1) (ty := .boolean) (C := RX6) (T := TX6) (N := 22) hx hb hW inX6G tyX6 tyX6_ok nmX6 hown hK.1 hP hD hS 0 rfl rfl 10 (by decide) (hW _ wg279) (fun _ h9 => h9) rfl (by decide +kernel) rfl rfl (Nat.le_of_ble_eq_true rfl) dX6_check_188 (fun H locs hP hD9 hS => ?_)
        obtain ⟨s188, es188⟩ : ∃ z : ST, z = setF σ 2 1 := ⟨_, rfl⟩
        have h := nm_o h es188
        have hP : va_P D vwCl (wM a k s188) H := by rw [es188]; exact hP
        have hD : va_D (AM a) (wM a k s188) := dM hD
        refine lv_iconst (v := 0) hx hb dX6_check_191 (by decide) ?_
        refine lv_istore_n (lv' := [(1, .int 0), (0, .ref (a 0))]) hx hb dX6_check_192 rfl hl (by decide) rfl (fun ls hl => ?_)
        refine lv_iconst (v := 0) hx hb dX6_check_193 (by decide) ?_
        refine lv_istore_n (lv' := [(2, .int 0), (1, .int 0), (0, .ref (a 0))]) hx hb dX6_check_194 rfl hl (by decide) rfl (fun ls hl => ?_)
        exact bX6_check_L195 C hK FUEL _ _ _ H locs ls hP hD hS (lv_sub hl [2, 1, 0] rfl) h
      · have h := ite_f h c65
        refine lv_aload_n hx hb dX6_check_68 rfl (lv_at hl 0 rfl) ?_
        refine va_get (D := D) (ci := 6) (v := .ref (a 9)) (C := RX6) (T := TX6) (N := 22) hx hb hW inX6G hown hK.1 hP 0 rfl rfl 11 (by decide) (hW _ wg330) (fun _ h9 => h9) rfl dX6_check_69 ?_
        refine lv_iload_n hx hb dX6_check_72 rfl (lv_at hl 1 rfl) ?_
        obtain ⟨hi73, h⟩ := ix_o h
        refine va_iald (D := D) hx hb hK.1 hP 9 8 rfl rfl hi73 dX6_check_73 ?_
        refine lv_topi (fun x2_74 ex2_74 => ?_)
        have h := nm_o h ex2_74
        refine lv_istore_n (lv' := [(2, .int x2_74), (0, .ref (a 0)), (1, .int x1)]) hx hb dX6_check_74 rfl hl (by decide) rfl (fun ls hl => ?_)
        refine lv_iload_n hx hb dX6_check_75 rfl (lv_at hl 0 rfl) ?_
        obtain ⟨r76, hc76, h⟩ := bd_o h
        refine callRI (va_runS (As := [.int x2_74]) (rest := []) ⟨hx, hb, hml, hown, hts⟩ (mX6_place l _ _ hc76) ⟨callB_of 1 hts (wg_c wg302) rfl rfl rfl (hW _ wg274) (hW _ wg301) hdX6_place ⟨Nat.le_of_ble_eq_true rfl, Nat.le_of_ble_eq_true rfl⟩, hW _ wg303⟩ preEq rfl rfl hl.1 rfl (lv_room (Nat.le_of_ble_eq_true rfl)) dX6_check_76 ⟨Nat.zero_le _, Nat.zero_le _⟩) ?_
        refine lv_bipush (v := 40) hx hb dX6_check_79 (by decide) ?_
        refine lv_icmp_lt (tgt := 125) hx hb dX6_check_81 (by decide) (fun c81 => ?_) (fun c81 => ?_)
        · have h := ite_t h c81
          refine lv_aload_n hx hb dX6_check_125 rfl (lv_at hl 1 rfl) ?_
          refine lv_iload_n hx hb dX6_check_126 rfl (lv_at hl 0 rfl) ?_
          obtain ⟨r127, hc127, h⟩ := bd_o h
          refine callRI (va_runV (As := [.int x2_74]) (rest := []) ⟨hx, hb, hml, hown, hts⟩ (mX6_faultOf l D a k _ _ _ hc127) ⟨callB_of 1 hts (wg_c wg316) rfl rfl rfl (hW _ wg274) (hW _ wg315) hdX6_faultOf ⟨Nat.le_of_ble_eq_true rfl, Nat.le_of_ble_eq_true rfl⟩, hW _ wg317, hW _ wg318⟩ (pw_V hK hP hD (ci := 6) (q0 := 0) rfl rfl) rfl rfl hl.1 rfl (lv_room (Nat.le_of_ble_eq_true rfl)) dX6_check_127 ⟨Nat.zero_le _, Nat.zero_le _⟩) ?_
          refine lv_istore_n (lv' := [(3, .int r127), (2, .int x2_74), (0, .ref (a 0)), (1, .int x1)]) hx hb dX6_check_130 rfl hl (by decide) rfl (fun ls hl => ?_)
          refine lv_iload_n hx hb dX6_check_131 rfl (lv_at hl 0 rfl) ?_
          refine lv_if_le (tgt := 150) hx hb dX6_check_132 (by decide) (fun c132 => ?_) (fun c132 => ?_)
          · have h := ite_t h c132
            exact bX6_check_L150 C hK _ ih _ _ _ H locs ls hP hD hS (lv_sub hl [2, 3, 1] rfl) h
          · have h := ite_f h c132
            refine lv_aload_n hx hb dX6_check_135 rfl (lv_at hl 2 rfl) ?_
            refine lv_iload_n hx hb dX6_check_136 rfl (lv_at hl 0 rfl) ?_
            refine lv_aload_n hx hb dX6_check_137 rfl (lv_at hl 2 rfl) ?_
            refine va_get (D := D) (ci := 6) (v := .ref (a 5)) (C := RX6) (T := TX6) (N := 22) hx hb hW inX6G hown hK.1 hP 0 rfl rfl 6 (by decide) (hW _ wg286) (fun _ h9 => h9) rfl dX6_check_138 ?_
            refine lv_iload_n hx hb dX6_check_141 rfl (lv_at hl 1 rfl) ?_
            obtain ⟨r142, hc142, h⟩ := bd_o h
            refine callRI (va_runS (As := [.int x2_74]) (rest := [.ref (a 5), .int r127, .ref (a 0)]) ⟨hx, hb, hml, hown, hts⟩ (mX6_place l _ _ hc142) ⟨callB_of 1 hts (wg_c wg302) rfl rfl rfl (hW _ wg274) (hW _ wg301) hdX6_place ⟨Nat.le_of_ble_eq_true rfl, Nat.le_of_ble_eq_true rfl⟩, hW _ wg303⟩ preEq rfl rfl hl.1 rfl (lv_room (Nat.le_of_ble_eq_true rfl)) dX6_check_142 ⟨Nat.zero_le _, Nat.zero_le _⟩) ?_
            obtain ⟨hi145, h⟩ := ix_o h
            refine va_iald (D := D) hx hb hK.1 hP 5 4 rfl rfl hi145 dX6_check_145 ?_
            refine lv_iload_n hx hb dX6_check_146 rfl (lv_at hl 3 rfl) ?_
            obtain ⟨r147, hc147, h⟩ := bd_o h
            refine callWV (va_runV (As := [.int r127, .int (σ.2 4 r142.toNatClampNeg), .int x1]) (rest := []) ⟨hx, hb, hml, hown, hts⟩ (mX6_tell l D a k _ _ _ _ _ hc147) ⟨callB_of 3 hts (wg_c wg333) rfl rfl rfl (hW _ wg274) (hW _ wg332) hdX6_tell ⟨Nat.le_of_ble_eq_true rfl, Nat.le_of_ble_eq_true rfl⟩, hW _ wg334, hW _ wg335⟩ (pw_V hK hP hD (ci := 6) (q0 := 0) rfl rfl) rfl rfl hl.1 rfl (lv_room (Nat.le_of_ble_eq_true rfl)) dX6_check_147 ⟨Nat.zero_le _, Nat.zero_le _⟩) hS (fun H locs hP hS => ?_)
            have hD : va_D (AM a) (wM a k r147) := dM hD
            exact bX6_check_L150 C hK _ ih _ _ _ H locs ls hP hD hS (lv_sub hl [2, 3, 1] rfl) h
        · have h := ite_f h c81
          refine lv_iconst (v := 0) hx hb dX6_check_84 (by decide) ?_
          refine lv_istore_n (lv' := [(3, .int 0), (2, .int x2_74), (0, .ref (a 0)), (1, .int x1)]) hx hb dX6_check_85 rfl hl (by decide) rfl (fun ls hl => ?_)
          exact bX6_check_L86 C hK _ ih FUEL _ _ _ _ H locs ls hP hD hS (lv_sub hl [2, 3, 1, 0] rfl) h
set_option maxHeartbeats 4000000 in
set_option maxRecDepth 100000 in
theorem bX6_check_L23 {p : Program} {l : Launch} {e : Env} {s : State} {m : MethodId} {args : Array Value} {below : List Frame} {meth : Method} {c : Code} {D : va_G} {a : Nat → Nat} {k : Nat → ClassId} {o : Int32 × ST} (C : Cx p s m args meth c cX6_check 4 RX6 (Cond.code yX6_check cX6_check 4 (some .int)) (some .int)) (hK : Kx D (tM k) s) : ∀ (n : Nat) (x1 : Int32) (σ : ST) (H : Heap) (locs : List Loc) (ls : Array Slot), va_P D vwCl (wM a k σ) H → va_D (AM a) (wM a k σ) → va_S (AM a) s.heap H locs → lv_has ls 4 [(0, .ref (a 0)), (1, .int x1)] → fX6_check_L23 n x1 σ = some o → W p l e ({ frames := 4, cells := 0, slots := 0, locals := 91 } : Room) s m args below meth c H locs 0 0 (MQ below (va_Qi (S := Unit) (fun z _ => z = o.1) (fun _ t => va_P D vwCl (wM a k o.2) t.heap) (AM a)) args s 0 0 (AM a)) (F0 m 23 ls []) := by
  have C0 := C
  obtain ⟨hx, hb, hr, hml, hown, hts, hlocks⟩ := C0
  have hW : ∀ w ∈ WG, w.before args s = true := fun w h => hts w (List.mem_cons_of_mem _ h)
  intro n
  induction n with
  | zero =>
    intro x1 σ H locs ls hP hD hS hl h
    rw [fX6_check_L23] at h
    cases h
  | succ n ih =>
      intro x1 σ H locs ls hP hD hS hl h
      rw [fX6_check_L23] at h
      refine lv_iload_n hx hb dX6_check_23 rfl (lv_at hl 1 rfl) ?_
      refine lv_bipush (v := 25) hx hb dX6_check_24 (by decide) ?_
      refine lv_icmp_ge (tgt := 42) hx hb dX6_check_26 (by decide) (fun c26 => ?_) (fun c26 => ?_)
      · have h := ite_t h c26
        refine lv_aload_n hx hb dX6_check_42 rfl (lv_at hl 0 rfl) ?_
        refine lv_iconst (v := 0) hx hb dX6_check_43 (by decide) ?_
        refine va_put (D := D) (ci := 6) (v := .int 0) (ty := .int) (C := RX6) (T := TX6) (N := 22) hx hb hW inX6G tyX6 tyX6_ok nmX6 hown hK.1 hP hD hS 0 rfl rfl 12 (by decide) (hW _ wg329) (fun _ h9 => h9) rfl (by decide +kernel) rfl rfl (Nat.le_of_ble_eq_true rfl) dX6_check_44 (fun H locs hP hD9 hS => ?_)
        obtain ⟨s44, es44⟩ : ∃ z : ST, z = setF σ 3 0 := ⟨_, rfl⟩
        have h := nm_o h es44
        have hP : va_P D vwCl (wM a k s44) H := by rw [es44]; exact hP
        have hD : va_D (AM a) (wM a k s44) := dM hD
        refine lv_aload_n hx hb dX6_check_47 rfl (lv_at hl 0 rfl) ?_
        refine lv_aload_n hx hb dX6_check_48 rfl (lv_at hl 0 rfl) ?_
        refine lv_iconst (v := 0) hx hb dX6_check_49 (by decide) ?_
        refine lv_iconst (v := 0) hx hb dX6_check_50 (by decide) ?_
        obtain ⟨r51, hc51, h⟩ := bd_o h
        refine callRI (va_runV (As := [.int 0, .int 0]) (rest := [.ref (a 0)]) ⟨hx, hb, hml, hown, hts⟩ (mX6_at l D a k _ _ _ _ hc51) ⟨callB_of 2 hts (wg_c wg312) rfl rfl rfl (hW _ wg274) (hW _ wg311) hdX6_at ⟨Nat.le_of_ble_eq_true rfl, Nat.le_of_ble_eq_true rfl⟩, hW _ wg313, hW _ wg314⟩ (pw_V hK hP hD (ci := 6) (q0 := 0) rfl rfl) rfl rfl hl.1 rfl (lv_room (Nat.le_of_ble_eq_true rfl)) dX6_check_51 ⟨Nat.zero_le _, Nat.zero_le _⟩) ?_
        refine lv_iconst (v := (-1)) hx hb dX6_check_54 (by decide) ?_
        obtain ⟨r55, hc55, h⟩ := bd_o h
        refine callWV (va_runV (As := [.int r51, .int (-1)]) (rest := []) ⟨hx, hb, hml, hown, hts⟩ (mX6_come l D a k _ _ _ _ hc55) ⟨callB_of 2 hts (wg_c wg341) rfl rfl rfl (hW _ wg274) (hW _ wg340) hdX6_come ⟨Nat.le_of_ble_eq_true rfl, Nat.le_of_ble_eq_true rfl⟩, hW _ wg342, hW _ wg343⟩ (pw_V hK hP hD (ci := 6) (q0 := 0) rfl rfl) rfl rfl hl.1 rfl (lv_room (Nat.le_of_ble_eq_true rfl)) dX6_check_55 ⟨Nat.zero_le _, Nat.zero_le _⟩) hS (fun H locs hP hS => ?_)
        have hD : va_D (AM a) (wM a k r55) := dM hD
        refine lv_iconst (v := 0) hx hb dX6_check_58 (by decide) ?_
        refine lv_istore_n (lv' := [(1, .int 0), (0, .ref (a 0))]) hx hb dX6_check_59 rfl hl (by decide) rfl (fun ls hl => ?_)
        exact bX6_check_L60 C hK FUEL _ _ H locs ls hP hD hS (lv_sub hl [1, 0] rfl) h
      · have h := ite_f h c26
        refine lv_aload_n hx hb dX6_check_29 rfl (lv_at hl 0 rfl) ?_
        refine va_get (D := D) (ci := 6) (v := .ref (a 12)) (C := RX6) (T := TX6) (N := 22) hx hb hW inX6G hown hK.1 hP 0 rfl rfl 15 (by decide) (hW _ wg331) (fun _ h9 => h9) rfl dX6_check_30 ?_
        refine lv_iload_n hx hb dX6_check_33 rfl (lv_at hl 1 rfl) ?_
        refine lv_iconst (v := (-1)) hx hb dX6_check_34 (by decide) ?_
        obtain ⟨hi35, h⟩ := ix_o h
        refine va_iast (D := D) hx hb hK.1 hP hD hS 12 11 rfl rfl hi35 dX6_check_35 (fun H locs hP hD9 hS => ?_)
        obtain ⟨s35, es35⟩ : ∃ z : ST, z = setA σ 11 x1.toNatClampNeg (-1) := ⟨_, rfl⟩
        have h := nm_o h es35
        have hP : va_P D vwCl (wM a k s35) H := by rw [es35]; exact hP
        have hD : va_D (AM a) (wM a k s35) := dM hD
        obtain ⟨x1_36, ex1_36⟩ : ∃ y : Int32, y = x1 + 1 := ⟨_, rfl⟩
        have h := nm_o h ex1_36
        refine lv_iinc (v := x1_36) (lv' := [(1, .int x1_36), (0, .ref (a 0))]) hx hb dX6_check_36 hl (k := 1) rfl (by rw [ex1_36]; rfl) (by decide) rfl (fun ls hl => ?_)
        refine lv_goto (tgt := 23) hx hb dX6_check_39 (by decide) ?_
        exact ih _ _ H locs ls hP hD hS (lv_sub hl [1, 0] rfl) h
set_option maxHeartbeats 4000000 in
set_option maxRecDepth 100000 in
theorem bX6_check_L2 {p : Program} {l : Launch} {e : Env} {s : State} {m : MethodId} {args : Array Value} {below : List Frame} {meth : Method} {c : Code} {D : va_G} {a : Nat → Nat} {k : Nat → ClassId} {o : Int32 × ST} (C : Cx p s m args meth c cX6_check 4 RX6 (Cond.code yX6_check cX6_check 4 (some .int)) (some .int)) (hK : Kx D (tM k) s) : ∀ (n : Nat) (x1 : Int32) (σ : ST) (H : Heap) (locs : List Loc) (ls : Array Slot), va_P D vwCl (wM a k σ) H → va_D (AM a) (wM a k σ) → va_S (AM a) s.heap H locs → lv_has ls 4 [(0, .ref (a 0)), (1, .int x1)] → fX6_check_L2 n x1 σ = some o → W p l e ({ frames := 4, cells := 0, slots := 0, locals := 91 } : Room) s m args below meth c H locs 0 0 (MQ below (va_Qi (S := Unit) (fun z _ => z = o.1) (fun _ t => va_P D vwCl (wM a k o.2) t.heap) (AM a)) args s 0 0 (AM a)) (F0 m 2 ls []) := by
  have C0 := C
  obtain ⟨hx, hb, hr, hml, hown, hts, hlocks⟩ := C0
  have hW : ∀ w ∈ WG, w.before args s = true := fun w h => hts w (List.mem_cons_of_mem _ h)
  intro n
  induction n with
  | zero =>
    intro x1 σ H locs ls hP hD hS hl h
    rw [fX6_check_L2] at h
    cases h
  | succ n ih =>
      intro x1 σ H locs ls hP hD hS hl h
      rw [fX6_check_L2] at h
      refine lv_iload_n hx hb dX6_check_2 rfl (lv_at hl 1 rfl) ?_
      refine lv_ldc (v := 43008) hx hb hown (hW _ wg348) dX6_check_3 ?_
      refine lv_icmp_ge (tgt := 21) hx hb dX6_check_5 (by decide) (fun c5 => ?_) (fun c5 => ?_)
      · have h := ite_t h c5
        refine lv_iconst (v := 0) hx hb dX6_check_21 (by decide) ?_
        refine lv_istore_n (lv' := [(1, .int 0), (0, .ref (a 0))]) hx hb dX6_check_22 rfl hl (by decide) rfl (fun ls hl => ?_)
        exact bX6_check_L23 C hK FUEL _ _ H locs ls hP hD hS (lv_sub hl [1, 0] rfl) h
      · have h := ite_f h c5
        refine lv_aload_n hx hb dX6_check_8 rfl (lv_at hl 0 rfl) ?_
        refine va_get (D := D) (ci := 6) (v := .ref (a 11)) (C := RX6) (T := TX6) (N := 22) hx hb hW inX6G hown hK.1 hP 0 rfl rfl 14 (by decide) (hW _ wg327) (fun _ h9 => h9) rfl dX6_check_9 ?_
        refine lv_iload_n hx hb dX6_check_12 rfl (lv_at hl 1 rfl) ?_
        refine lv_iconst (v := 0) hx hb dX6_check_13 (by decide) ?_
        obtain ⟨hi14, h⟩ := ix_o h
        refine va_zast (D := D) hx hb hK.1 hP hD hS 11 10 rfl rfl hi14 dX6_check_14 (fun H locs hP hD9 hS => ?_)
        obtain ⟨s14, es14⟩ : ∃ z : ST, z = setA σ 10 x1.toNatClampNeg (vp_nar .boolean 0) := ⟨_, rfl⟩
        have h := nm_o h es14
        have hP : va_P D vwCl (wM a k s14) H := by rw [es14]; exact hP
        have hD : va_D (AM a) (wM a k s14) := dM hD
        obtain ⟨x1_15, ex1_15⟩ : ∃ y : Int32, y = x1 + 1 := ⟨_, rfl⟩
        have h := nm_o h ex1_15
        refine lv_iinc (v := x1_15) (lv' := [(1, .int x1_15), (0, .ref (a 0))]) hx hb dX6_check_15 hl (k := 1) rfl (by rw [ex1_15]; rfl) (by decide) rfl (fun ls hl => ?_)
        refine lv_goto (tgt := 2) hx hb dX6_check_18 (by decide) ?_
        exact ih _ _ H locs ls hP hD hS (lv_sub hl [1, 0] rfl) h
set_option maxHeartbeats 4000000 in
set_option maxRecDepth 100000 in
theorem mX6_check (l : Launch) (D : va_G) (a : Nat → Nat) (k : Nat → ClassId) (σ : ST) (o : Int32 × ST) (h : fX6_check σ = some o) : Met l yX6_check ((Cond.code yX6_check cX6_check 4 (some .int)) :: WG) ({ frames := 4, cells := 0, slots := 0, locals := 91 } : Room) (Pw D (tM k) (AM a) (wM a k σ) [.ref (a 0)]) (va_Qi (S := Unit) (fun z _ => z = o.1) (fun _ t => va_P D vwCl (wM a k o.2) t.heap) (AM a)) 0 0 (AM a) := by
  refine Met.ofW (cc := cX6_check) (maxL := 4) (ret := (some .int)) (by decide) rfl ?_
  intro p e s m args below meth c s₁ B hml0 hv
  have C : Cx p s m args meth c cX6_check 4 RX6 (Cond.code yX6_check cX6_check 4 (some .int)) (some .int) := ⟨B.exec, B.bytes, B.returns, hml0, findClass_of_methodNamed B.named, atoms_spec (ws := (Cond.code yX6_check cX6_check 4 (some .int)) :: WG) B.pre, B.notSynchronized⟩
  obtain ⟨rfl, hP, hK, hD⟩ := hv
  have hK : Kx D (tM k) s := hK
  have C0 := C
  obtain ⟨hx, hb, hr, hml, hown, hts, hlocks⟩ := C0
  have hW : ∀ w ∈ WG, w.before _ s = true := fun w h => hts w (List.mem_cons_of_mem _ h)
  show W p l e ({ frames := 4, cells := 0, slots := 0, locals := 91 } : Room) s m _ below meth c s.heap [] 0 0 _ _
  have hl := lv_entry ([.ref (a 0)]) (n := 4) (Nat.le_of_ble_eq_true rfl)
  rw [lg_entry_eq]
  generalize (lg_sl ([.ref (a 0)]) ++ List.replicate (4 - (lg_sl ([.ref (a 0)])).length) Slot.unset).toArray = ls at hl ⊢
  have hl : lv_has ls 4 [(0, .ref (a 0))] := hl
  have hS : va_S (AM a) s.heap s.heap [] := va_S.rf
  suffices hgo : ∀ (H : Heap) (locs : List Loc), va_P D vwCl (wM a k σ) H → va_S (AM a) s.heap H locs → W p l e ({ frames := 4, cells := 0, slots := 0, locals := 91 } : Room) s m _ below meth c H locs 0 0 (MQ below (va_Qi (S := Unit) (fun z _ => z = o.1) (fun _ t => va_P D vwCl (wM a k o.2) t.heap) (AM a)) _ s 0 0 (AM a)) (F0 m 0 ls []) from hgo _ _ hP hS
  clear hP hS
  intro H locs hP hS
  unfold fX6_check at h
  refine lv_iconst (v := 0) hx hb dX6_check_0 (by decide) ?_
  refine lv_istore_n (lv' := [(1, .int 0), (0, .ref (a 0))]) hx hb dX6_check_1 rfl hl (by decide) rfl (fun ls hl => ?_)
  exact bX6_check_L2 C hK FUEL _ _ H locs ls hP hD hS (lv_sub hl [1, 0] rfl) h
set_option maxHeartbeats 4000000 in
set_option maxRecDepth 100000 in
theorem bX6_depth_L4 {p : Program} {l : Launch} {e : Env} {s : State} {m : MethodId} {args : Array Value} {below : List Frame} {meth : Method} {c : Code} {D : va_G} {a : Nat → Nat} {k : Nat → ClassId} {σ : ST} {o : Int32} (C : Cx p s m args meth c cX6_depth 4 RX6 (Cond.code yX6_depth cX6_depth 4 (some .int)) (some .int)) (hK : Kx D (tM k) s) (hP : va_P D vwCl (wM a k σ) s.heap) (hD : va_D (AM a) (wM a k σ)) : ∀ (n : Nat) (x2 x3 : Int32) (ls : Array Slot), lv_has ls 4 [(0, .ref (a 0)), (2, .int x2), (3, .int x3)] → fX6_depth_L4 σ n x2 x3 = some o → W p l e ({ frames := 0, cells := 0, slots := 0, locals := 0 } : Room) s m args below meth c s.heap [] 0 0 (MQ below (vp_Si (fun z => z = o)) args s 0 0 (fun _ => False)) (F0 m 4 ls []) := by
  have C0 := C
  obtain ⟨hx, hb, hr, hml, hown, hts, hlocks⟩ := C0
  have hW : ∀ w ∈ WG, w.before args s = true := fun w h => hts w (List.mem_cons_of_mem _ h)
  intro n
  induction n with
  | zero =>
    intro x2 x3 ls hl h
    rw [fX6_depth_L4] at h
    cases h
  | succ n ih =>
      intro x2 x3 ls hl h
      rw [fX6_depth_L4] at h
      refine lv_aload_n hx hb dX6_depth_4 rfl (lv_at hl 0 rfl) ?_
      refine va_get (D := D) (ci := 6) (v := .ref (a 10)) (C := RX6) (T := TX6) (N := 22) hx hb hW inX6G hown hK.1 hP 0 rfl rfl 13 (by decide) (hW _ wg328) (fun _ h9 => h9) rfl dX6_depth_5 ?_
      refine lv_iload_n hx hb dX6_depth_8 rfl (lv_at hl 2 rfl) ?_
      obtain ⟨hi9, h⟩ := ix_o h
      refine va_iald (D := D) hx hb hK.1 hP 10 9 rfl rfl hi9 dX6_depth_9 ?_
      refine lv_if_lt (tgt := 26) hx hb dX6_depth_10 (by decide) (fun c10 => ?_) (fun c10 => ?_)
      · have h := ite_t h c10
        refine lv_iload_n hx hb dX6_depth_26 rfl (lv_at hl 1 rfl) ?_
        have h := Option.some.inj h
        subst h
        exact W.iret (v := x2) hx hb hr (fun t ht hW9 => ⟨x2, rfl, rfl, ht⟩) (fun _ h9 => absurd h9 List.not_mem_nil) dX6_depth_27 hlocks
      · have h := ite_f h c10
        obtain ⟨x2_13, ex2_13⟩ : ∃ y : Int32, y = x2 + 1 := ⟨_, rfl⟩
        have h := nm_o h ex2_13
        refine lv_iinc (v := x2_13) (lv' := [(2, .int x2_13), (0, .ref (a 0)), (3, .int x3)]) hx hb dX6_depth_13 hl (k := 1) rfl (by rw [ex2_13]; rfl) (by decide) rfl (fun ls hl => ?_)
        refine lv_aload_n hx hb dX6_depth_16 rfl (lv_at hl 1 rfl) ?_
        refine va_get (D := D) (ci := 6) (v := .ref (a 10)) (C := RX6) (T := TX6) (N := 22) hx hb hW inX6G hown hK.1 hP 0 rfl rfl 13 (by decide) (hW _ wg328) (fun _ h9 => h9) rfl dX6_depth_17 ?_
        refine lv_iload_n hx hb dX6_depth_20 rfl (lv_at hl 2 rfl) ?_
        obtain ⟨hi21, h⟩ := ix_o h
        refine va_iald (D := D) hx hb hK.1 hP 10 9 rfl rfl hi21 dX6_depth_21 ?_
        refine lv_topi (fun x3_22 ex3_22 => ?_)
        have h := nm_o h ex3_22
        refine lv_istore_n (lv' := [(3, .int x3_22), (2, .int x2_13), (0, .ref (a 0))]) hx hb dX6_depth_22 rfl hl (by decide) rfl (fun ls hl => ?_)
        refine lv_goto (tgt := 4) hx hb dX6_depth_23 (by decide) ?_
        exact ih _ _ ls (lv_sub hl [2, 1, 0] rfl) h
set_option maxHeartbeats 4000000 in
set_option maxRecDepth 100000 in
theorem mX6_depth (l : Launch) (D : va_G) (a : Nat → Nat) (k : Nat → ClassId) (σ : ST) (x1 : Int32) (o : Int32) (h : fX6_depth σ x1 = some o) : Met l yX6_depth ((Cond.code yX6_depth cX6_depth 4 (some .int)) :: WG) ({ frames := 0, cells := 0, slots := 0, locals := 0 } : Room) (Pw D (tM k) (AM a) (wM a k σ) [.ref (a 0), .int x1]) (vp_Si (fun z => z = o)) 0 0 (fun _ => False) := by
  refine Met.ofW (cc := cX6_depth) (maxL := 4) (ret := (some .int)) (by decide) rfl ?_
  intro p e s m args below meth c s₁ B hml0 hv
  have C : Cx p s m args meth c cX6_depth 4 RX6 (Cond.code yX6_depth cX6_depth 4 (some .int)) (some .int) := ⟨B.exec, B.bytes, B.returns, hml0, findClass_of_methodNamed B.named, atoms_spec (ws := (Cond.code yX6_depth cX6_depth 4 (some .int)) :: WG) B.pre, B.notSynchronized⟩
  obtain ⟨rfl, hP, hK, hD⟩ := hv
  have hK : Kx D (tM k) s := hK
  have C0 := C
  obtain ⟨hx, hb, hr, hml, hown, hts, hlocks⟩ := C0
  have hW : ∀ w ∈ WG, w.before _ s = true := fun w h => hts w (List.mem_cons_of_mem _ h)
  show W p l e ({ frames := 0, cells := 0, slots := 0, locals := 0 } : Room) s m _ below meth c s.heap [] 0 0 _ _
  have hl := lv_entry ([.ref (a 0), .int x1]) (n := 4) (Nat.le_of_ble_eq_true rfl)
  rw [lg_entry_eq]
  generalize (lg_sl ([.ref (a 0), .int x1]) ++ List.replicate (4 - (lg_sl ([.ref (a 0), .int x1])).length) Slot.unset).toArray = ls at hl ⊢
  have hl : lv_has ls 4 [(0, .ref (a 0)), (1, .int x1)] := hl
  unfold fX6_depth at h
  refine lv_iconst (v := 0) hx hb dX6_depth_0 (by decide) ?_
  refine lv_istore_n (lv' := [(2, .int 0), (0, .ref (a 0)), (1, .int x1)]) hx hb dX6_depth_1 rfl hl (by decide) rfl (fun ls hl => ?_)
  refine lv_iload_n hx hb dX6_depth_2 rfl (lv_at hl 2 rfl) ?_
  refine lv_istore_n (lv' := [(3, .int x1), (2, .int 0), (0, .ref (a 0)), (1, .int x1)]) hx hb dX6_depth_3 rfl hl (by decide) rfl (fun ls hl => ?_)
  exact bX6_depth_L4 C hK hP hD FUEL _ _ ls (lv_sub hl [2, 1, 0] rfl) h
set_option maxHeartbeats 4000000 in
set_option maxRecDepth 100000 in
theorem mX6_longOf (l : Launch) (D : va_G) (a : Nat → Nat) (k : Nat → ClassId) (σ : ST) (x1 x2 : Int32) (o : Int32) (h : fX6_longOf σ x1 x2 = some o) : Met l yX6_longOf ((Cond.code yX6_longOf cX6_longOf 4 (some .int)) :: WG) ({ frames := 1, cells := 0, slots := 0, locals := 23 } : Room) (Pw D (tM k) (AM a) (wM a k σ) [.ref (a 0), .int x1, .int x2]) (vp_Si (fun z => z = o)) 0 0 (fun _ => False) := by
  refine Met.ofW (cc := cX6_longOf) (maxL := 4) (ret := (some .int)) (by decide) rfl ?_
  intro p e s m args below meth c s₁ B hml0 hv
  have C : Cx p s m args meth c cX6_longOf 4 RX6 (Cond.code yX6_longOf cX6_longOf 4 (some .int)) (some .int) := ⟨B.exec, B.bytes, B.returns, hml0, findClass_of_methodNamed B.named, atoms_spec (ws := (Cond.code yX6_longOf cX6_longOf 4 (some .int)) :: WG) B.pre, B.notSynchronized⟩
  obtain ⟨rfl, hP, hK, hD⟩ := hv
  have hK : Kx D (tM k) s := hK
  have C0 := C
  obtain ⟨hx, hb, hr, hml, hown, hts, hlocks⟩ := C0
  have hW : ∀ w ∈ WG, w.before _ s = true := fun w h => hts w (List.mem_cons_of_mem _ h)
  show W p l e ({ frames := 1, cells := 0, slots := 0, locals := 23 } : Room) s m _ below meth c s.heap [] 0 0 _ _
  have hl := lv_entry ([.ref (a 0), .int x1, .int x2]) (n := 4) (Nat.le_of_ble_eq_true rfl)
  rw [lg_entry_eq]
  generalize (lg_sl ([.ref (a 0), .int x1, .int x2]) ++ List.replicate (4 - (lg_sl ([.ref (a 0), .int x1, .int x2])).length) Slot.unset).toArray = ls at hl ⊢
  have hl : lv_has ls 4 [(0, .ref (a 0)), (1, .int x1), (2, .int x2)] := hl
  unfold fX6_longOf at h
  refine lv_aload_n hx hb dX6_longOf_0 rfl (lv_at hl 0 rfl) ?_
  refine va_get (D := D) (ci := 6) (v := .ref (a 12)) (C := RX6) (T := TX6) (N := 22) hx hb hW inX6G hown hK.1 hP 0 rfl rfl 15 (by decide) (hW _ wg331) (fun _ h9 => h9) rfl dX6_longOf_1 ?_
  refine lv_iconst (v := 5) hx hb dX6_longOf_4 (by decide) ?_
  refine lv_iload_n hx hb dX6_longOf_5 rfl (lv_at hl 1 rfl) ?_
  refine lv_imul hx hb dX6_longOf_6 ?_
  refine lv_iload_n hx hb dX6_longOf_7 rfl (lv_at hl 2 rfl) ?_
  refine lv_iadd hx hb dX6_longOf_8 ?_
  obtain ⟨hi9, h⟩ := ix_o h
  refine va_iald (D := D) hx hb hK.1 hP 12 11 rfl rfl hi9 dX6_longOf_9 ?_
  refine lv_topi (fun x3_10 ex3_10 => ?_)
  have h := nm_o h ex3_10
  refine lv_istore_n (lv' := [(3, .int x3_10), (0, .ref (a 0)), (1, .int x1), (2, .int x2)]) hx hb dX6_longOf_10 rfl hl (by decide) rfl (fun ls hl => ?_)
  refine lv_iload_n hx hb dX6_longOf_11 rfl (lv_at hl 0 rfl) ?_
  refine lv_iconst (v := (-1)) hx hb dX6_longOf_12 (by decide) ?_
  refine lv_icmp_ne (tgt := 20) hx hb dX6_longOf_13 (by decide) (fun c13 => ?_) (fun c13 => ?_)
  · have h := ite_f h c13
    refine lv_aload_n hx hb dX6_longOf_20 rfl (lv_at hl 1 rfl) ?_
    refine lv_iload_n hx hb dX6_longOf_21 rfl (lv_at hl 0 rfl) ?_
    obtain ⟨r22, hc22, h⟩ := bd_o h
    refine callRI (va_runV (As := [.int x3_10]) (rest := []) ⟨hx, hb, hml, hown, hts⟩ (mX6_depth l D a k _ _ _ hc22) ⟨callB_of 1 hts (wg_c wg350) rfl rfl rfl (hW _ wg274) (hW _ wg349) hdX6_depth ⟨Nat.le_of_ble_eq_true rfl, Nat.le_of_ble_eq_true rfl⟩, hW _ wg351, hW _ wg352⟩ (pw_V hK hP hD (ci := 6) (q0 := 0) rfl rfl) rfl rfl hl.1 rfl (lv_room (Nat.le_of_ble_eq_true rfl)) dX6_longOf_22 ⟨Nat.zero_le _, Nat.zero_le _⟩) ?_
    refine lv_iload_n hx hb dX6_longOf_25 rfl (lv_at hl 2 rfl) ?_
    refine lv_iconst (v := 1) hx hb dX6_longOf_26 (by decide) ?_
    refine lv_icmp_le (tgt := 34) hx hb dX6_longOf_27 (by decide) (fun c27 => ?_) (fun c27 => ?_)
    · have h := ite_t h c27
      refine lv_iconst (v := 0) hx hb dX6_longOf_34 (by decide) ?_
      refine lv_iadd hx hb dX6_longOf_35 ?_
      have h := Option.some.inj h
      subst h
      exact W.iret (v := (r22 + 0)) hx hb hr (fun t ht hW9 => ⟨(r22 + 0), rfl, rfl, ht⟩) (fun _ h9 => absurd h9 List.not_mem_nil) dX6_longOf_36 hlocks
    · have h := ite_f h c27
      refine lv_iconst (v := 1) hx hb dX6_longOf_30 (by decide) ?_
      refine lv_goto (tgt := 35) hx hb dX6_longOf_31 (by decide) ?_
      refine lv_iadd hx hb dX6_longOf_35 ?_
      have h := Option.some.inj h
      subst h
      exact W.iret (v := (r22 + 1)) hx hb hr (fun t ht hW9 => ⟨(r22 + 1), rfl, rfl, ht⟩) (fun _ h9 => absurd h9 List.not_mem_nil) dX6_longOf_36 hlocks
  · have h := ite_t h c13
    refine lv_iconst (v := (-1)) hx hb dX6_longOf_16 (by decide) ?_
    refine lv_goto (tgt := 36) hx hb dX6_longOf_17 (by decide) ?_
    have h := Option.some.inj h
    subst h
    exact W.iret (v := (-1)) hx hb hr (fun t ht hW9 => ⟨(-1), rfl, rfl, ht⟩) (fun _ h9 => absurd h9 List.not_mem_nil) dX6_longOf_36 hlocks
set_option maxHeartbeats 4000000 in
set_option maxRecDepth 100000 in
theorem mX6_asks (l : Launch) (D : va_G) (a : Nat → Nat) (k : Nat → ClassId) (σ : ST) (x1 x2 : Int32) (o : Int32) (h : fX6_asks σ x1 x2 = some o) : Met l yX6_asks ((Cond.code yX6_asks cX6_asks 3 (some .int)) :: WG) ({ frames := 2, cells := 0, slots := 0, locals := 43 } : Room) (Pw D (tM k) (AM a) (wM a k σ) [.ref (a 0), .int x1, .int x2]) (vp_Si (fun z => z = o)) 0 0 (fun _ => False) := by
  refine Met.ofW (cc := cX6_asks) (maxL := 3) (ret := (some .int)) (by decide) rfl ?_
  intro p e s m args below meth c s₁ B hml0 hv
  have C : Cx p s m args meth c cX6_asks 3 RX6 (Cond.code yX6_asks cX6_asks 3 (some .int)) (some .int) := ⟨B.exec, B.bytes, B.returns, hml0, findClass_of_methodNamed B.named, atoms_spec (ws := (Cond.code yX6_asks cX6_asks 3 (some .int)) :: WG) B.pre, B.notSynchronized⟩
  obtain ⟨rfl, hP, hK, hD⟩ := hv
  have hK : Kx D (tM k) s := hK
  have C0 := C
  obtain ⟨hx, hb, hr, hml, hown, hts, hlocks⟩ := C0
  have hW : ∀ w ∈ WG, w.before _ s = true := fun w h => hts w (List.mem_cons_of_mem _ h)
  show W p l e ({ frames := 2, cells := 0, slots := 0, locals := 43 } : Room) s m _ below meth c s.heap [] 0 0 _ _
  have hl := lv_entry ([.ref (a 0), .int x1, .int x2]) (n := 3) (Nat.le_of_ble_eq_true rfl)
  rw [lg_entry_eq]
  generalize (lg_sl ([.ref (a 0), .int x1, .int x2]) ++ List.replicate (3 - (lg_sl ([.ref (a 0), .int x1, .int x2])).length) Slot.unset).toArray = ls at hl ⊢
  have hl : lv_has ls 3 [(0, .ref (a 0)), (1, .int x1), (2, .int x2)] := hl
  unfold fX6_asks at h
  refine lv_aload_n hx hb dX6_asks_0 rfl (lv_at hl 0 rfl) ?_
  refine lv_iload_n hx hb dX6_asks_1 rfl (lv_at hl 2 rfl) ?_
  obtain ⟨r2, hc2, h⟩ := bd_o h
  refine callRI (va_runV (As := [.int x2]) (rest := []) ⟨hx, hb, hml, hown, hts⟩ (mX6_isThing l D a k _ _ _ hc2) ⟨callB_of 1 hts (wg_c wg281) rfl rfl rfl (hW _ wg274) (hW _ wg280) hdX6_isThing ⟨Nat.le_of_ble_eq_true rfl, Nat.le_of_ble_eq_true rfl⟩, hW _ wg282, hW _ wg283⟩ (pw_V hK hP hD (ci := 6) (q0 := 0) rfl rfl) rfl rfl hl.1 rfl (lv_room (Nat.le_of_ble_eq_true rfl)) dX6_asks_2 ⟨Nat.zero_le _, Nat.zero_le _⟩) ?_
  refine lv_if_ne (tgt := 13) hx hb dX6_asks_5 (by decide) (fun c5 => ?_) (fun c5 => ?_)
  · have h := ite_f h c5
    refine lv_iload_n hx hb dX6_asks_13 rfl (lv_at hl 1 rfl) ?_
    refine lv_iconst (v := 0) hx hb dX6_asks_14 (by decide) ?_
    refine lv_iconst (v := 4) hx hb dX6_asks_15 (by decide) ?_
    obtain ⟨r16, hc16, h⟩ := bd_o h
    refine callRI (va_runS (As := [.int x1, .int 0, .int 4]) (rest := []) ⟨hx, hb, hml, hown, hts⟩ (mX6_in l _ _ _ _ hc16) ⟨callB_of 3 hts (wg_c wg273) rfl rfl rfl (hW _ wg274) (hW _ wg272) hdX6_in ⟨Nat.le_of_ble_eq_true rfl, Nat.le_of_ble_eq_true rfl⟩, hW _ wg275⟩ preEq rfl rfl hl.1 rfl (lv_room (Nat.le_of_ble_eq_true rfl)) dX6_asks_16 ⟨Nat.zero_le _, Nat.zero_le _⟩) ?_
    refine lv_if_ne (tgt := 27) hx hb dX6_asks_19 (by decide) (fun c19 => ?_) (fun c19 => ?_)
    · have h := ite_f h c19
      refine lv_aload_n hx hb dX6_asks_27 rfl (lv_at hl 0 rfl) ?_
      refine va_get (D := D) (ci := 6) (v := .int (σ.1 2)) (C := RX6) (T := TX6) (N := 22) hx hb hW inX6G hown hK.1 hP 0 rfl rfl 10 (by decide) (hW _ wg279) (fun _ h9 => h9) rfl dX6_asks_28 ?_
      refine lv_if_ne (tgt := 39) hx hb dX6_asks_31 (by decide) (fun c31 => ?_) (fun c31 => ?_)
      · have h := ite_f h c31
        refine lv_iconst (v := 0) hx hb dX6_asks_39 (by decide) ?_
        have h := Option.some.inj h
        subst h
        exact W.iret (v := 0) hx hb hr (fun t ht hW9 => ⟨0, rfl, rfl, ht⟩) (fun _ h9 => absurd h9 List.not_mem_nil) dX6_asks_40 hlocks
      · have h := ite_t h c31
        refine lv_bipush (v := (-103)) hx hb dX6_asks_34 (by decide) ?_
        refine lv_goto (tgt := 40) hx hb dX6_asks_36 (by decide) ?_
        have h := Option.some.inj h
        subst h
        exact W.iret (v := (-103)) hx hb hr (fun t ht hW9 => ⟨(-103), rfl, rfl, ht⟩) (fun _ h9 => absurd h9 List.not_mem_nil) dX6_asks_40 hlocks
    · have h := ite_t h c19
      refine lv_bipush (v := (-102)) hx hb dX6_asks_22 (by decide) ?_
      refine lv_goto (tgt := 40) hx hb dX6_asks_24 (by decide) ?_
      have h := Option.some.inj h
      subst h
      exact W.iret (v := (-102)) hx hb hr (fun t ht hW9 => ⟨(-102), rfl, rfl, ht⟩) (fun _ h9 => absurd h9 List.not_mem_nil) dX6_asks_40 hlocks
  · have h := ite_t h c5
    refine lv_bipush (v := (-101)) hx hb dX6_asks_8 (by decide) ?_
    refine lv_goto (tgt := 40) hx hb dX6_asks_10 (by decide) ?_
    have h := Option.some.inj h
    subst h
    exact W.iret (v := (-101)) hx hb hr (fun t ht hW9 => ⟨(-101), rfl, rfl, ht⟩) (fun _ h9 => absurd h9 List.not_mem_nil) dX6_asks_40 hlocks
set_option maxHeartbeats 4000000 in
set_option maxRecDepth 100000 in
theorem mX6_found (l : Launch) (D : va_G) (a : Nat → Nat) (k : Nat → ClassId) (σ : ST) (x1 x2 : Int32) (o : Int32) (h : fX6_found σ x1 x2 = some o) : Met l yX6_found ((Cond.code yX6_found cX6_found 4 (some .int)) :: WG) ({ frames := 3, cells := 0, slots := 0, locals := 65 } : Room) (Pw D (tM k) (AM a) (wM a k σ) [.ref (a 0), .int x1, .int x2]) (vp_Si (fun z => z = o)) 0 0 (fun _ => False) := by
  refine Met.ofW (cc := cX6_found) (maxL := 4) (ret := (some .int)) (by decide) rfl ?_
  intro p e s m args below meth c s₁ B hml0 hv
  have C : Cx p s m args meth c cX6_found 4 RX6 (Cond.code yX6_found cX6_found 4 (some .int)) (some .int) := ⟨B.exec, B.bytes, B.returns, hml0, findClass_of_methodNamed B.named, atoms_spec (ws := (Cond.code yX6_found cX6_found 4 (some .int)) :: WG) B.pre, B.notSynchronized⟩
  obtain ⟨rfl, hP, hK, hD⟩ := hv
  have hK : Kx D (tM k) s := hK
  have C0 := C
  obtain ⟨hx, hb, hr, hml, hown, hts, hlocks⟩ := C0
  have hW : ∀ w ∈ WG, w.before _ s = true := fun w h => hts w (List.mem_cons_of_mem _ h)
  show W p l e ({ frames := 3, cells := 0, slots := 0, locals := 65 } : Room) s m _ below meth c s.heap [] 0 0 _ _
  have hl := lv_entry ([.ref (a 0), .int x1, .int x2]) (n := 4) (Nat.le_of_ble_eq_true rfl)
  rw [lg_entry_eq]
  generalize (lg_sl ([.ref (a 0), .int x1, .int x2]) ++ List.replicate (4 - (lg_sl ([.ref (a 0), .int x1, .int x2])).length) Slot.unset).toArray = ls at hl ⊢
  have hl : lv_has ls 4 [(0, .ref (a 0)), (1, .int x1), (2, .int x2)] := hl
  unfold fX6_found at h
  refine lv_aload_n hx hb dX6_found_0 rfl (lv_at hl 0 rfl) ?_
  refine lv_iload_n hx hb dX6_found_1 rfl (lv_at hl 1 rfl) ?_
  refine lv_iload_n hx hb dX6_found_2 rfl (lv_at hl 2 rfl) ?_
  obtain ⟨r3, hc3, h⟩ := bd_o h
  refine callRI (va_runV (As := [.int x1, .int x2]) (rest := []) ⟨hx, hb, hml, hown, hts⟩ (mX6_asks l D a k _ _ _ _ hc3) ⟨callB_of 2 hts (wg_c wg354) rfl rfl rfl (hW _ wg274) (hW _ wg353) hdX6_asks ⟨Nat.le_of_ble_eq_true rfl, Nat.le_of_ble_eq_true rfl⟩, hW _ wg355, hW _ wg356⟩ (pw_V hK hP hD (ci := 6) (q0 := 0) rfl rfl) rfl rfl hl.1 rfl (lv_room (Nat.le_of_ble_eq_true rfl)) dX6_found_3 ⟨Nat.zero_le _, Nat.zero_le _⟩) ?_
  refine lv_istore_n (lv' := [(3, .int r3), (0, .ref (a 0)), (1, .int x1), (2, .int x2)]) hx hb dX6_found_6 rfl hl (by decide) rfl (fun ls hl => ?_)
  refine lv_iload_n hx hb dX6_found_7 rfl (lv_at hl 0 rfl) ?_
  refine lv_if_ge (tgt := 15) hx hb dX6_found_8 (by decide) (fun c8 => ?_) (fun c8 => ?_)
  · have h := ite_t h c8
    refine lv_aload_n hx hb dX6_found_15 rfl (lv_at hl 1 rfl) ?_
    refine lv_iload_n hx hb dX6_found_16 rfl (lv_at hl 2 rfl) ?_
    refine lv_iload_n hx hb dX6_found_17 rfl (lv_at hl 3 rfl) ?_
    obtain ⟨r18, hc18, h⟩ := bd_o h
    refine callRI (va_runV (As := [.int x1, .int x2]) (rest := []) ⟨hx, hb, hml, hown, hts⟩ (mX6_longOf l D a k _ _ _ _ hc18) ⟨callB_of 2 hts (wg_c wg358) rfl rfl rfl (hW _ wg274) (hW _ wg357) hdX6_longOf ⟨Nat.le_of_ble_eq_true rfl, Nat.le_of_ble_eq_true rfl⟩, hW _ wg359, hW _ wg360⟩ (pw_V hK hP hD (ci := 6) (q0 := 0) rfl rfl) rfl rfl hl.1 rfl (lv_room (Nat.le_of_ble_eq_true rfl)) dX6_found_18 ⟨Nat.zero_le _, Nat.zero_le _⟩) ?_
    have h := Option.some.inj h
    subst h
    exact W.iret (v := r18) hx hb hr (fun t ht hW9 => ⟨r18, rfl, rfl, ht⟩) (fun _ h9 => absurd h9 List.not_mem_nil) dX6_found_21 hlocks
  · have h := ite_f h c8
    refine lv_iload_n hx hb dX6_found_11 rfl (lv_at hl 0 rfl) ?_
    refine lv_goto (tgt := 21) hx hb dX6_found_12 (by decide) ?_
    have h := Option.some.inj h
    subst h
    exact W.iret (v := r3) hx hb hr (fun t ht hW9 => ⟨r3, rfl, rfl, ht⟩) (fun _ h9 => absurd h9 List.not_mem_nil) dX6_found_21 hlocks
