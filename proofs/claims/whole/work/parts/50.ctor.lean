/-! ===== constructors ===== -/
def Pz (D : va_G) (sz : Nat) (ws : va_W) (av : List Value) : Array Value → State → Prop := va_Pc av (fun U => U.heap.size = sz ∧ va_P D vwCl ws U.heap ∧ (va_K D vwCl [] U ∧ NWs U) ∧ va_D (fun _ => True) ws)
theorem pz_S {D : va_G} {ws : va_W} {av : List Value} {s : State} {H : Heap} (hK : va_K D vwCl [] s) (hN : NWs s) (hP : va_P D vwCl ws H) (hD : va_D (fun _ => True) ws) : PreS s H (Pz D H.size ws av) av := by
  refine ⟨fun a U g mk q => ?_, fun U hU hW => ⟨rfl, by rw [hU], by rw [hU]; exact hP, ⟨va_K.moved hW.alike hK, hN.warm hW⟩, hD⟩⟩
  obtain ⟨q0, q1, qP, ⟨qK, qN⟩, qD⟩ := q
  exact ⟨q0, q1, qP, ⟨va_K.moved (u := U) (U := U.calling g mk a) (Vm.Alike.refl U.vm) qK, NWs.same (s := U) (U := U.calling g mk a) rfl qN⟩, qD⟩
theorem vg0 : (Cond.methodLink RX3 3 Lib.objectInit) ∈ WG := wg_1 23 rfl rfl
theorem vg1 : (Cond.instanceMethod Lib.objectInit) ∈ WG := wg_1 16 rfl rfl
theorem vg2 : (Cond.code Lib.objectInit ⟨#[0xb1]⟩ 1 none) ∈ WG := wg_1 17 rfl rfl
theorem vg3 : (Cond.arrayClass .int) ∈ WG := wg_1 39 rfl rfl
theorem vg4 : (Cond.fieldLink RX3 9 "ResourceEnds$Things" "sorts" "[I") ∈ WG := wg_1 24 rfl rfl
theorem vg5 : (Cond.arrayClass .boolean) ∈ WG := wg_1 40 rfl rfl
theorem vg6 : (Cond.fieldLink RX3 15 "ResourceEnds$Things" "letsAgain" "[Z") ∈ WG := wg_1 25 rfl rfl
theorem vg7 : (Cond.fieldLink RX3 19 "ResourceEnds$Things" "inners" "[I") ∈ WG := wg_1 26 rfl rfl
theorem vg8 : (Cond.fieldLink RX3 22 "ResourceEnds$Things" "size" "I") ∈ WG := wg_1 27 rfl rfl
theorem vg9 : (Cond.methodLink RX2 3 Lib.objectInit) ∈ WG := wg_1 46 rfl rfl
theorem vg10 : (Cond.fieldLink RX2 9 "ResourceEnds$Steps" "codes" "[I") ∈ WG := wg_1 47 rfl rfl
theorem vg11 : (Cond.fieldLink RX2 15 "ResourceEnds$Steps" "ts" "[I") ∈ WG := wg_1 50 rfl rfl
theorem vg12 : (Cond.fieldLink RX2 18 "ResourceEnds$Steps" "ss" "[I") ∈ WG := wg_1 54 rfl rfl
theorem vg13 : (Cond.fieldLink RX2 21 "ResourceEnds$Steps" "mayThrow" "[Z") ∈ WG := wg_1 57 rfl rfl
theorem vg14 : (Cond.fieldLink RX2 25 "ResourceEnds$Steps" "handlers" "[I") ∈ WG := wg_1 60 rfl rfl
theorem vg15 : (Cond.fieldLink RX2 28 "ResourceEnds$Steps" "size" "I") ∈ WG := wg_1 63 rfl rfl
theorem vg16 : (Cond.methodLink RX0 3 Lib.objectInit) ∈ WG := wg_1 84 rfl rfl
theorem vg17 : (Cond.fieldLink RX0 9 "ResourceEnds$Moves" "things" "LResourceEnds$Things;") ∈ WG := wg_1 85 rfl rfl
theorem vg18 : (Cond.fieldLink RX0 15 "ResourceEnds$Moves" "steps" "LResourceEnds$Steps;") ∈ WG := wg_1 86 rfl rfl
theorem vg19 : (Cond.methodLink RX1 3 Lib.objectInit) ∈ WG := wg_1 97 rfl rfl
theorem vg20 : (Cond.constant RX1 9 43008) ∈ WG := wg_1 98 rfl rfl
theorem vg21 : (Cond.fieldLink RX1 10 "ResourceEnds$Search" "order" "[I") ∈ WG := wg_1 102 rfl rfl
theorem vg22 : (Cond.fieldLink RX1 16 "ResourceEnds$Search" "before" "[I") ∈ WG := wg_1 103 rfl rfl
theorem vg23 : (Cond.fieldLink RX1 19 "ResourceEnds$Search" "nodesAt" "[I") ∈ WG := wg_1 104 rfl rfl
theorem vg24 : (Cond.fieldLink RX1 22 "ResourceEnds$Search" "statesAt" "[I") ∈ WG := wg_1 106 rfl rfl
theorem vg25 : (Cond.fieldLink RX1 25 "ResourceEnds$Search" "lengths" "[I") ∈ WG := wg_1 108 rfl rfl
theorem vg26 : (Cond.fieldLink RX1 28 "ResourceEnds$Search" "lastNodes" "[I") ∈ WG := wg_1 109 rfl rfl
theorem vg27 : (Cond.fieldLink RX1 31 "ResourceEnds$Search" "reached" "I") ∈ WG := wg_1 110 rfl rfl
theorem vg28 : (Cond.fieldLink RX1 35 "ResourceEnds$Search" "findings" "I") ∈ WG := wg_1 112 rfl rfl
theorem vg29 : (Cond.fieldLink RX1 38 "ResourceEnds$Search" "mostOpen" "I") ∈ WG := wg_1 114 rfl rfl
theorem vg30 : (Cond.fieldLink RX1 41 "ResourceEnds$Search" "mostEntered" "I") ∈ WG := wg_1 116 rfl rfl
theorem vg31 : (Cond.fieldLink RX1 44 "ResourceEnds$Search" "mostHeld" "I") ∈ WG := wg_1 118 rfl rfl
theorem vg32 : (Cond.fieldLink RX1 47 "ResourceEnds$Search" "things" "LResourceEnds$Things;") ∈ WG := wg_1 99 rfl rfl
theorem vg33 : (Cond.fieldLink RX1 51 "ResourceEnds$Search" "steps" "LResourceEnds$Steps;") ∈ WG := wg_1 100 rfl rfl
theorem vg34 : (Cond.fieldLink RX1 55 "ResourceEnds$Search" "moves" "LResourceEnds$Moves;") ∈ WG := wg_1 101 rfl rfl
theorem vg35 : (Cond.methodLink RX4 3 Lib.objectInit) ∈ WG := wg_1 154 rfl rfl
theorem vg36 : (Cond.fieldLink RX4 9 "ResourceEnds$Trial" "places" "[I") ∈ WG := wg_1 155 rfl rfl
theorem vg37 : (Cond.fieldLink RX4 15 "ResourceEnds$Trial" "wasDriven" "Z") ∈ WG := wg_1 157 rfl rfl
theorem vg38 : (Cond.fieldLink RX4 19 "ResourceEnds$Trial" "done" "I") ∈ WG := wg_1 159 rfl rfl
theorem vg39 : (Cond.fieldLink RX4 23 "ResourceEnds$Trial" "chosen" "I") ∈ WG := wg_1 161 rfl rfl
theorem vg40 : (Cond.fieldLink RX4 26 "ResourceEnds$Trial" "node" "I") ∈ WG := wg_1 163 rfl rfl
theorem vg41 : (Cond.fieldLink RX4 29 "ResourceEnds$Trial" "thingsThen" "I") ∈ WG := wg_1 165 rfl rfl
theorem vg42 : (Cond.fieldLink RX4 32 "ResourceEnds$Trial" "drawn" "I") ∈ WG := wg_1 167 rfl rfl
theorem vg43 : (Cond.methodLink RX5 3 Lib.objectInit) ∈ WG := wg_1 15 rfl rfl
theorem vg44 : (Cond.classLink RX5 9 RX3) ∈ WG := wg_1 18 rfl rfl
theorem vg45 : (Cond.instantiable RX3 4) ∈ WG := wg_1 19 rfl rfl
theorem vg46 : (Cond.initialized RX3) ∈ WG := wg_1 2 rfl rfl
theorem vg47 : (Cond.code yX3_init cX3_init 1 none) ∈ WG := wg_1 22 rfl rfl
theorem vn48 : (Cond.methodLinkNest RX5 11 yX3_init "ResourceEnds") ∈ NWL := nw_1 20 rfl rfl
theorem vg49 : (Cond.instanceMethod yX3_init) ∈ WG := wg_1 21 rfl rfl
theorem vg50 : (Cond.fieldLink RX5 12 "ResourceEnds" "things" "LResourceEnds$Things;") ∈ WG := wg_1 183 rfl rfl
theorem vg51 : (Cond.classLink RX5 16 RX2) ∈ WG := wg_1 41 rfl rfl
theorem vg52 : (Cond.instantiable RX2 6) ∈ WG := wg_1 42 rfl rfl
theorem vg53 : (Cond.initialized RX2) ∈ WG := wg_1 3 rfl rfl
theorem vg54 : (Cond.code yX2_init cX2_init 1 none) ∈ WG := wg_1 45 rfl rfl
theorem vn55 : (Cond.methodLinkNest RX5 18 yX2_init "ResourceEnds") ∈ NWL := nw_1 43 rfl rfl
theorem vg56 : (Cond.instanceMethod yX2_init) ∈ WG := wg_1 44 rfl rfl
theorem vg57 : (Cond.fieldLink RX5 19 "ResourceEnds" "steps" "LResourceEnds$Steps;") ∈ WG := wg_1 184 rfl rfl
theorem vg58 : (Cond.classLink RX5 23 RX0) ∈ WG := wg_1 79 rfl rfl
theorem vg59 : (Cond.instantiable RX0 2) ∈ WG := wg_1 80 rfl rfl
theorem vg60 : (Cond.initialized RX0) ∈ WG := wg_1 4 rfl rfl
theorem vg61 : (Cond.code yX0_init cX0_init 3 none) ∈ WG := wg_1 83 rfl rfl
theorem vn62 : (Cond.methodLinkNest RX5 25 yX0_init "ResourceEnds") ∈ NWL := nw_1 81 rfl rfl
theorem vg63 : (Cond.instanceMethod yX0_init) ∈ WG := wg_1 82 rfl rfl
theorem vg64 : (Cond.fieldLink RX5 28 "ResourceEnds" "moves" "LResourceEnds$Moves;") ∈ WG := wg_1 185 rfl rfl
theorem vg65 : (Cond.classLink RX5 32 RX1) ∈ WG := wg_1 92 rfl rfl
theorem vg66 : (Cond.instantiable RX1 14) ∈ WG := wg_1 93 rfl rfl
theorem vg67 : (Cond.initialized RX1) ∈ WG := wg_1 5 rfl rfl
theorem vg68 : (Cond.code yX1_init cX1_init 4 none) ∈ WG := wg_1 96 rfl rfl
theorem vn69 : (Cond.methodLinkNest RX5 34 yX1_init "ResourceEnds") ∈ NWL := nw_1 94 rfl rfl
theorem vg70 : (Cond.instanceMethod yX1_init) ∈ WG := wg_1 95 rfl rfl
theorem vg71 : (Cond.fieldLink RX5 37 "ResourceEnds" "search" "LResourceEnds$Search;") ∈ WG := wg_1 186 rfl rfl
theorem vg72 : (Cond.classLink RX5 41 RX4) ∈ WG := wg_1 149 rfl rfl
theorem vg73 : (Cond.instantiable RX4 7) ∈ WG := wg_1 150 rfl rfl
theorem vg74 : (Cond.initialized RX4) ∈ WG := wg_1 6 rfl rfl
theorem vg75 : (Cond.code yX4_init cX4_init 1 none) ∈ WG := wg_1 153 rfl rfl
theorem vn76 : (Cond.methodLinkNest RX5 43 yX4_init "ResourceEnds") ∈ NWL := nw_1 151 rfl rfl
theorem vg77 : (Cond.instanceMethod yX4_init) ∈ WG := wg_1 152 rfl rfl
theorem vg78 : (Cond.fieldLink RX5 44 "ResourceEnds" "trial" "LResourceEnds$Trial;") ∈ WG := wg_1 187 rfl rfl
theorem vg79 : (Cond.fieldLink RX5 48 "ResourceEnds" "allFound" "Z") ∈ WG := wg_1 188 rfl rfl
theorem vg80 : (Cond.methodLink RX6 1 Lib.objectInit) ∈ WG := wg_2 227 rfl rfl
theorem vg81 : (Cond.fieldLink RX6 7 "ResourceEndsModel" "sorts" "[I") ∈ WG := wg_2 230 rfl rfl
theorem vg82 : (Cond.fieldLink RX6 13 "ResourceEndsModel" "lets" "[Z") ∈ WG := wg_2 231 rfl rfl
theorem vg83 : (Cond.fieldLink RX6 17 "ResourceEndsModel" "inners" "[I") ∈ WG := wg_2 232 rfl rfl
theorem vg84 : (Cond.fieldLink RX6 20 "ResourceEndsModel" "codes" "[I") ∈ WG := wg_2 234 rfl rfl
theorem vg85 : (Cond.fieldLink RX6 23 "ResourceEndsModel" "of" "[I") ∈ WG := wg_2 235 rfl rfl
theorem vg86 : (Cond.fieldLink RX6 26 "ResourceEndsModel" "to" "[I") ∈ WG := wg_2 236 rfl rfl
theorem vg87 : (Cond.fieldLink RX6 29 "ResourceEndsModel" "may" "[I") ∈ WG := wg_2 237 rfl rfl
theorem vg88 : (Cond.fieldLink RX6 32 "ResourceEndsModel" "handlers" "[I") ∈ WG := wg_2 238 rfl rfl
theorem vg89 : (Cond.constant RX6 35 43008) ∈ WG := wg_2 228 rfl rfl
theorem vg90 : (Cond.fieldLink RX6 36 "ResourceEndsModel" "queue" "[I") ∈ WG := wg_3 0 rfl rfl
theorem vg91 : (Cond.fieldLink RX6 39 "ResourceEndsModel" "from" "[I") ∈ WG := wg_3 2 rfl rfl
theorem vg92 : (Cond.fieldLink RX6 42 "ResourceEndsModel" "seen" "[Z") ∈ WG := wg_3 3 rfl rfl
theorem vg93 : (Cond.fieldLink RX6 45 "ResourceEndsModel" "finding" "[I") ∈ WG := wg_3 4 rfl rfl
theorem vg94 : (Cond.fieldLink RX6 48 "ResourceEndsModel" "row" "[I") ∈ WG := wg_3 7 rfl rfl
theorem hdX5_init : yX5_init.cls ≠ "java/lang/invoke/MethodHandle" ∧ yX5_init.cls ≠ "java/lang/invoke/VarHandle" ∧ (parseMethodDescriptor yX5_init.desc).map (fun d => d.parameters.length) = some 0 := by decide +kernel
theorem hdX6_init : yX6_init.cls ≠ "java/lang/invoke/MethodHandle" ∧ yX6_init.cls ≠ "java/lang/invoke/VarHandle" ∧ (parseMethodDescriptor yX6_init.desc).map (fun d => d.parameters.length) = some 0 := by decide +kernel
theorem hdX0_init : yX0_init.cls ≠ "java/lang/invoke/MethodHandle" ∧ yX0_init.cls ≠ "java/lang/invoke/VarHandle" ∧ (parseMethodDescriptor yX0_init.desc).map (fun d => d.parameters.length) = some 2 := by decide +kernel
theorem hdX1_init : yX1_init.cls ≠ "java/lang/invoke/MethodHandle" ∧ yX1_init.cls ≠ "java/lang/invoke/VarHandle" ∧ (parseMethodDescriptor yX1_init.desc).map (fun d => d.parameters.length) = some 3 := by decide +kernel
theorem hdX2_init : yX2_init.cls ≠ "java/lang/invoke/MethodHandle" ∧ yX2_init.cls ≠ "java/lang/invoke/VarHandle" ∧ (parseMethodDescriptor yX2_init.desc).map (fun d => d.parameters.length) = some 0 := by decide +kernel
theorem hdX3_init : yX3_init.cls ≠ "java/lang/invoke/MethodHandle" ∧ yX3_init.cls ≠ "java/lang/invoke/VarHandle" ∧ (parseMethodDescriptor yX3_init.desc).map (fun d => d.parameters.length) = some 0 := by decide +kernel
theorem hdX4_init : yX4_init.cls ≠ "java/lang/invoke/MethodHandle" ∧ yX4_init.cls ≠ "java/lang/invoke/VarHandle" ∧ (parseMethodDescriptor yX4_init.desc).map (fun d => d.parameters.length) = some 0 := by decide +kernel
set_option maxHeartbeats 4000000 in
set_option maxRecDepth 100000 in
theorem kX3_init (l : Launch) (D : va_G) (h0 : Nat) (sz : Nat) : Met l yX3_init ((Cond.code yX3_init cX3_init 1 none) :: WG) ({ frames := 1, cells := 3, slots := 15, locals := 12 } : Room) (Pz D sz [(h0, .inr (3, [.null, .null, .null, .int 0]))] [.ref h0]) (va_Qv (S := Unit) (fun _ => True) (fun _ t => ∃ (q6 q13 q20 : Nat) (c6 c13 c20 : ClassId), va_P D vwCl [(h0, .inr (3, [.ref q6, .ref q13, .ref q20, .int 0])), (q6, .inl (c6, 5, .inl (fun _ => 0))), (q13, .inl (c13, 5, .inl (fun _ => 0))), (q20, .inl (c20, 5, .inl (fun _ => 0)))] t.heap ∧ va_K D vwCl [(c6, .int), (c13, .boolean), (c20, .int)] t ∧ va_D (va_A [(h0, .inr (3, [.null, .null, .null, .int 0]))] sz) [(h0, .inr (3, [.ref q6, .ref q13, .ref q20, .int 0])), (q6, .inl (c6, 5, .inl (fun _ => 0))), (q13, .inl (c13, 5, .inl (fun _ => 0))), (q20, .inl (c20, 5, .inl (fun _ => 0)))]) (va_A [(h0, .inr (3, [.null, .null, .null, .int 0]))] sz)) 3 15 (va_A [(h0, .inr (3, [.null, .null, .null, .int 0]))] sz) := by
  refine Met.ofW (cc := cX3_init) (maxL := 1) (ret := none) (by decide) rfl ?_
  intro p e s m args below meth c s₁ B hml hv
  obtain ⟨rfl, hsz, hP, ⟨hK, hNW⟩, hD0⟩ := hv
  have hx := B.exec
  have hb := B.bytes
  have hr := B.returns
  have hts := atoms_spec (ws := (Cond.code yX3_init cX3_init 1 none) :: WG) B.pre
  have hW : ∀ w ∈ WG, w.before _ s = true := fun w h => hts w (List.mem_cons_of_mem _ h)
  have hown : s.vm.findClass RX3 = some m.cls := findClass_of_methodNamed B.named
  have hlocks := B.notSynchronized
  have hin : meth.name = "<init>" := (name_of_methodNamed B.named B.method).1
  subst hsz
  have hD := hD0.self (sz := s.heap.size)
  generalize hAe : va_A [(h0, .inr (3, [.null, .null, .null, .int 0]))] s.heap.size = A at hD ⊢
  have hA : ∀ q : Nat, s.heap.size ≤ q → A q := fun q h => by rw [← hAe]; exact Or.inr h
  have hS : va_S A s.heap s.heap [] := va_S.rf
  have hl := lv_entry ([.ref h0]) (n := 1) (Nat.le_of_ble_eq_true rfl)
  rw [lg_entry_eq]
  generalize (lg_sl ([.ref h0]) ++ List.replicate (1 - (lg_sl ([.ref h0])).length) Slot.unset).toArray = ls at hl ⊢
  have hl : lv_has ls 1 [(0, .ref h0)] := hl
  refine lv_aload_n hx hb dX3_init_0 rfl (lv_at hl 0 rfl) ?_
  refine W.objInit hx hb hown (hW _ vg0) (hW _ vg1) (hW _ vg2) rfl (by rw [hml]; exact hl.1) rfl dX3_init_1 (Nat.le_of_ble_eq_true rfl) (Nat.le_of_ble_eq_true rfl) ?_
  refine W.eq (g2 := F0 m 4 ls []) rfl ?_
  refine lv_aload_n hx hb dX3_init_4 rfl (lv_at hl 0 rfl) ?_
  refine lv_iconst (v := 5) hx hb dX3_init_5 (by decide) ?_
  refine va_newa (D := D) (cl := vwCl) (atype := .int) (ty := .int) (a0 := (5, .inl (fun _ => 0))) (N' := 5) hx hb (hW _ vg3) rfl hK hP hD hS hA (fun cA => rfl) (by decide) (by decide) (Nat.le_of_ble_eq_true rfl) (Nat.le_of_ble_eq_true rfl) (Nat.le_of_ble_eq_true rfl) dX3_init_6 (fun q6 c6 H hK hP hD hS => ?_)
  have hP : va_P D vwCl [(h0, .inr (3, [.null, .null, .null, .int 0])), (q6, .inl (c6, 5, .inl (fun _ => 0)))] H := hP
  have hD : va_D A [(h0, .inr (3, [.null, .null, .null, .int 0])), (q6, .inl (c6, 5, .inl (fun _ => 0)))] := hD
  have hK : va_K D vwCl [(c6, .int)] s := hK
  refine W.widen (k := 1) (n := 5) (Nat.le_of_ble_eq_true rfl) (Nat.le_of_ble_eq_true rfl) ?_
  refine va_putF (D := D) (ci := 3) (v := .ref q6) (ty := .array .int) (C := RX3) (T := TX3) (N := 4) hx hb hW inX3G tyX3 tyX3_ok nmX3 hown hK hP hD hS 0 rfl rfl 0 (by decide) (hW _ vg4) (fun _ h9 => h9) rfl hin rfl (by decide +kernel) rfl rfl (Nat.le_of_ble_eq_true rfl) dX3_init_8 (fun H locs hP hD hS => ?_)
  have hP : va_P D vwCl [(h0, .inr (3, [.ref q6, .null, .null, .int 0])), (q6, .inl (c6, 5, .inl (fun _ => 0)))] H := hP
  have hD : va_D A [(h0, .inr (3, [.ref q6, .null, .null, .int 0])), (q6, .inl (c6, 5, .inl (fun _ => 0)))] := hD
  refine lv_aload_n hx hb dX3_init_11 rfl (lv_at hl 0 rfl) ?_
  refine lv_iconst (v := 5) hx hb dX3_init_12 (by decide) ?_
  refine va_newa (D := D) (cl := vwCl) (atype := .boolean) (ty := .boolean) (a0 := (5, .inl (fun _ => 0))) (N' := 5) hx hb (hW _ vg5) rfl hK hP hD hS hA (fun cA => rfl) (by decide) (by decide) (Nat.le_of_ble_eq_true rfl) (Nat.le_of_ble_eq_true rfl) (Nat.le_of_ble_eq_true rfl) dX3_init_13 (fun q13 c13 H hK hP hD hS => ?_)
  have hP : va_P D vwCl [(h0, .inr (3, [.ref q6, .null, .null, .int 0])), (q6, .inl (c6, 5, .inl (fun _ => 0))), (q13, .inl (c13, 5, .inl (fun _ => 0)))] H := hP
  have hD : va_D A [(h0, .inr (3, [.ref q6, .null, .null, .int 0])), (q6, .inl (c6, 5, .inl (fun _ => 0))), (q13, .inl (c13, 5, .inl (fun _ => 0)))] := hD
  have hK : va_K D vwCl [(c6, .int), (c13, .boolean)] s := hK
  refine W.widen (k := 2) (n := 10) (Nat.le_of_ble_eq_true rfl) (Nat.le_of_ble_eq_true rfl) ?_
  refine va_putF (D := D) (ci := 3) (v := .ref q13) (ty := .array .boolean) (C := RX3) (T := TX3) (N := 4) hx hb hW inX3G tyX3 tyX3_ok nmX3 hown hK hP hD hS 0 rfl rfl 1 (by decide) (hW _ vg6) (fun _ h9 => h9) rfl hin rfl (by decide +kernel) rfl rfl (Nat.le_of_ble_eq_true rfl) dX3_init_15 (fun H locs hP hD hS => ?_)
  have hP : va_P D vwCl [(h0, .inr (3, [.ref q6, .ref q13, .null, .int 0])), (q6, .inl (c6, 5, .inl (fun _ => 0))), (q13, .inl (c13, 5, .inl (fun _ => 0)))] H := hP
  have hD : va_D A [(h0, .inr (3, [.ref q6, .ref q13, .null, .int 0])), (q6, .inl (c6, 5, .inl (fun _ => 0))), (q13, .inl (c13, 5, .inl (fun _ => 0)))] := hD
  refine lv_aload_n hx hb dX3_init_18 rfl (lv_at hl 0 rfl) ?_
  refine lv_iconst (v := 5) hx hb dX3_init_19 (by decide) ?_
  refine va_newa (D := D) (cl := vwCl) (atype := .int) (ty := .int) (a0 := (5, .inl (fun _ => 0))) (N' := 5) hx hb (hW _ vg3) rfl hK hP hD hS hA (fun cA => rfl) (by decide) (by decide) (Nat.le_of_ble_eq_true rfl) (Nat.le_of_ble_eq_true rfl) (Nat.le_of_ble_eq_true rfl) dX3_init_20 (fun q20 c20 H hK hP hD hS => ?_)
  have hP : va_P D vwCl [(h0, .inr (3, [.ref q6, .ref q13, .null, .int 0])), (q6, .inl (c6, 5, .inl (fun _ => 0))), (q13, .inl (c13, 5, .inl (fun _ => 0))), (q20, .inl (c20, 5, .inl (fun _ => 0)))] H := hP
  have hD : va_D A [(h0, .inr (3, [.ref q6, .ref q13, .null, .int 0])), (q6, .inl (c6, 5, .inl (fun _ => 0))), (q13, .inl (c13, 5, .inl (fun _ => 0))), (q20, .inl (c20, 5, .inl (fun _ => 0)))] := hD
  have hK : va_K D vwCl [(c6, .int), (c13, .boolean), (c20, .int)] s := hK
  refine W.widen (k := 3) (n := 15) (Nat.le_of_ble_eq_true rfl) (Nat.le_of_ble_eq_true rfl) ?_
  refine va_putF (D := D) (ci := 3) (v := .ref q20) (ty := .array .int) (C := RX3) (T := TX3) (N := 4) hx hb hW inX3G tyX3 tyX3_ok nmX3 hown hK hP hD hS 0 rfl rfl 2 (by decide) (hW _ vg7) (fun _ h9 => h9) rfl hin rfl (by decide +kernel) rfl rfl (Nat.le_of_ble_eq_true rfl) dX3_init_22 (fun H locs hP hD hS => ?_)
  have hP : va_P D vwCl [(h0, .inr (3, [.ref q6, .ref q13, .ref q20, .int 0])), (q6, .inl (c6, 5, .inl (fun _ => 0))), (q13, .inl (c13, 5, .inl (fun _ => 0))), (q20, .inl (c20, 5, .inl (fun _ => 0)))] H := hP
  have hD : va_D A [(h0, .inr (3, [.ref q6, .ref q13, .ref q20, .int 0])), (q6, .inl (c6, 5, .inl (fun _ => 0))), (q13, .inl (c13, 5, .inl (fun _ => 0))), (q20, .inl (c20, 5, .inl (fun _ => 0)))] := hD
  refine lv_aload_n hx hb dX3_init_25 rfl (lv_at hl 0 rfl) ?_
  refine lv_iconst (v := 0) hx hb dX3_init_26 (by decide) ?_
  refine va_put (D := D) (ci := 3) (v := .int 0) (ty := .int) (C := RX3) (T := TX3) (N := 4) hx hb hW inX3G tyX3 tyX3_ok nmX3 hown hK hP hD hS 0 rfl rfl 3 (by decide) (hW _ vg8) (fun _ h9 => h9) rfl (by decide +kernel) rfl rfl (Nat.le_of_ble_eq_true rfl) dX3_init_27 (fun H locs hP hD hS => ?_)
  have hP : va_P D vwCl [(h0, .inr (3, [.ref q6, .ref q13, .ref q20, .int 0])), (q6, .inl (c6, 5, .inl (fun _ => 0))), (q13, .inl (c13, 5, .inl (fun _ => 0))), (q20, .inl (c20, 5, .inl (fun _ => 0)))] H := hP
  have hD : va_D A [(h0, .inr (3, [.ref q6, .ref q13, .ref q20, .int 0])), (q6, .inl (c6, 5, .inl (fun _ => 0))), (q13, .inl (c13, 5, .inl (fun _ => 0))), (q20, .inl (c20, 5, .inl (fun _ => 0)))] := hD
  have hP9 := hP
  have hD9 := hD
  have hK9 := hK
  exact W.vret hx hb hr (fun t ht hW9 => ⟨⟨(), rfl, trivial, q6, q13, q20, c6, c13, c20, by rw [ht]; exact hP9, va_K.moved hW9.alike hK9, hD9⟩, hS.F ht⟩) hS.2.2 dX3_init_30 hlocks
set_option maxHeartbeats 4000000 in
set_option maxRecDepth 100000 in
theorem kX2_init (l : Launch) (D : va_G) (h0 : Nat) (sz : Nat) : Met l yX2_init ((Cond.code yX2_init cX2_init 1 none) :: WG) ({ frames := 1, cells := 5, slots := 200, locals := 12 } : Room) (Pz D sz [(h0, .inr (2, [.null, .null, .null, .null, .null, .int 0]))] [.ref h0]) (va_Qv (S := Unit) (fun _ => True) (fun _ t => ∃ (q7 q15 q23 q31 q39 : Nat) (c7 c15 c23 c31 c39 : ClassId), va_P D vwCl [(h0, .inr (2, [.ref q7, .ref q15, .ref q23, .ref q31, .ref q39, .int 0])), (q7, .inl (c7, 40, .inl (fun _ => 0))), (q15, .inl (c15, 40, .inl (fun _ => 0))), (q23, .inl (c23, 40, .inl (fun _ => 0))), (q31, .inl (c31, 40, .inl (fun _ => 0))), (q39, .inl (c39, 40, .inl (fun _ => 0)))] t.heap ∧ va_K D vwCl [(c7, .int), (c15, .int), (c23, .int), (c31, .boolean), (c39, .int)] t ∧ va_D (va_A [(h0, .inr (2, [.null, .null, .null, .null, .null, .int 0]))] sz) [(h0, .inr (2, [.ref q7, .ref q15, .ref q23, .ref q31, .ref q39, .int 0])), (q7, .inl (c7, 40, .inl (fun _ => 0))), (q15, .inl (c15, 40, .inl (fun _ => 0))), (q23, .inl (c23, 40, .inl (fun _ => 0))), (q31, .inl (c31, 40, .inl (fun _ => 0))), (q39, .inl (c39, 40, .inl (fun _ => 0)))]) (va_A [(h0, .inr (2, [.null, .null, .null, .null, .null, .int 0]))] sz)) 5 200 (va_A [(h0, .inr (2, [.null, .null, .null, .null, .null, .int 0]))] sz) := by
  refine Met.ofW (cc := cX2_init) (maxL := 1) (ret := none) (by decide) rfl ?_
  intro p e s m args below meth c s₁ B hml hv
  obtain ⟨rfl, hsz, hP, ⟨hK, hNW⟩, hD0⟩ := hv
  have hx := B.exec
  have hb := B.bytes
  have hr := B.returns
  have hts := atoms_spec (ws := (Cond.code yX2_init cX2_init 1 none) :: WG) B.pre
  have hW : ∀ w ∈ WG, w.before _ s = true := fun w h => hts w (List.mem_cons_of_mem _ h)
  have hown : s.vm.findClass RX2 = some m.cls := findClass_of_methodNamed B.named
  have hlocks := B.notSynchronized
  have hin : meth.name = "<init>" := (name_of_methodNamed B.named B.method).1
  subst hsz
  have hD := hD0.self (sz := s.heap.size)
  generalize hAe : va_A [(h0, .inr (2, [.null, .null, .null, .null, .null, .int 0]))] s.heap.size = A at hD ⊢
  have hA : ∀ q : Nat, s.heap.size ≤ q → A q := fun q h => by rw [← hAe]; exact Or.inr h
  have hS : va_S A s.heap s.heap [] := va_S.rf
  have hl := lv_entry ([.ref h0]) (n := 1) (Nat.le_of_ble_eq_true rfl)
  rw [lg_entry_eq]
  generalize (lg_sl ([.ref h0]) ++ List.replicate (1 - (lg_sl ([.ref h0])).length) Slot.unset).toArray = ls at hl ⊢
  have hl : lv_has ls 1 [(0, .ref h0)] := hl
  refine lv_aload_n hx hb dX2_init_0 rfl (lv_at hl 0 rfl) ?_
  refine W.objInit hx hb hown (hW _ vg9) (hW _ vg1) (hW _ vg2) rfl (by rw [hml]; exact hl.1) rfl dX2_init_1 (Nat.le_of_ble_eq_true rfl) (Nat.le_of_ble_eq_true rfl) ?_
  refine W.eq (g2 := F0 m 4 ls []) rfl ?_
  refine lv_aload_n hx hb dX2_init_4 rfl (lv_at hl 0 rfl) ?_
  refine lv_bipush (v := 40) hx hb dX2_init_5 (by decide) ?_
  refine va_newa (D := D) (cl := vwCl) (atype := .int) (ty := .int) (a0 := (40, .inl (fun _ => 0))) (N' := 40) hx hb (hW _ vg3) rfl hK hP hD hS hA (fun cA => rfl) (by decide) (by decide) (Nat.le_of_ble_eq_true rfl) (Nat.le_of_ble_eq_true rfl) (Nat.le_of_ble_eq_true rfl) dX2_init_7 (fun q7 c7 H hK hP hD hS => ?_)
  have hP : va_P D vwCl [(h0, .inr (2, [.null, .null, .null, .null, .null, .int 0])), (q7, .inl (c7, 40, .inl (fun _ => 0)))] H := hP
  have hD : va_D A [(h0, .inr (2, [.null, .null, .null, .null, .null, .int 0])), (q7, .inl (c7, 40, .inl (fun _ => 0)))] := hD
  have hK : va_K D vwCl [(c7, .int)] s := hK
  refine W.widen (k := 1) (n := 40) (Nat.le_of_ble_eq_true rfl) (Nat.le_of_ble_eq_true rfl) ?_
  refine va_putF (D := D) (ci := 2) (v := .ref q7) (ty := .array .int) (C := RX2) (T := TX2) (N := 6) hx hb hW inX2G tyX2 tyX2_ok nmX2 hown hK hP hD hS 0 rfl rfl 0 (by decide) (hW _ vg10) (fun _ h9 => h9) rfl hin rfl (by decide +kernel) rfl rfl (Nat.le_of_ble_eq_true rfl) dX2_init_9 (fun H locs hP hD hS => ?_)
  have hP : va_P D vwCl [(h0, .inr (2, [.ref q7, .null, .null, .null, .null, .int 0])), (q7, .inl (c7, 40, .inl (fun _ => 0)))] H := hP
  have hD : va_D A [(h0, .inr (2, [.ref q7, .null, .null, .null, .null, .int 0])), (q7, .inl (c7, 40, .inl (fun _ => 0)))] := hD
  refine lv_aload_n hx hb dX2_init_12 rfl (lv_at hl 0 rfl) ?_
  refine lv_bipush (v := 40) hx hb dX2_init_13 (by decide) ?_
  refine va_newa (D := D) (cl := vwCl) (atype := .int) (ty := .int) (a0 := (40, .inl (fun _ => 0))) (N' := 40) hx hb (hW _ vg3) rfl hK hP hD hS hA (fun cA => rfl) (by decide) (by decide) (Nat.le_of_ble_eq_true rfl) (Nat.le_of_ble_eq_true rfl) (Nat.le_of_ble_eq_true rfl) dX2_init_15 (fun q15 c15 H hK hP hD hS => ?_)
  have hP : va_P D vwCl [(h0, .inr (2, [.ref q7, .null, .null, .null, .null, .int 0])), (q7, .inl (c7, 40, .inl (fun _ => 0))), (q15, .inl (c15, 40, .inl (fun _ => 0)))] H := hP
  have hD : va_D A [(h0, .inr (2, [.ref q7, .null, .null, .null, .null, .int 0])), (q7, .inl (c7, 40, .inl (fun _ => 0))), (q15, .inl (c15, 40, .inl (fun _ => 0)))] := hD
  have hK : va_K D vwCl [(c7, .int), (c15, .int)] s := hK
  refine W.widen (k := 2) (n := 80) (Nat.le_of_ble_eq_true rfl) (Nat.le_of_ble_eq_true rfl) ?_
  refine va_putF (D := D) (ci := 2) (v := .ref q15) (ty := .array .int) (C := RX2) (T := TX2) (N := 6) hx hb hW inX2G tyX2 tyX2_ok nmX2 hown hK hP hD hS 0 rfl rfl 1 (by decide) (hW _ vg11) (fun _ h9 => h9) rfl hin rfl (by decide +kernel) rfl rfl (Nat.le_of_ble_eq_true rfl) dX2_init_17 (fun H locs hP hD hS => ?_)
  have hP : va_P D vwCl [(h0, .inr (2, [.ref q7, .ref q15, .null, .null, .null, .int 0])), (q7, .inl (c7, 40, .inl (fun _ => 0))), (q15, .inl (c15, 40, .inl (fun _ => 0)))] H := hP
  have hD : va_D A [(h0, .inr (2, [.ref q7, .ref q15, .null, .null, .null, .int 0])), (q7, .inl (c7, 40, .inl (fun _ => 0))), (q15, .inl (c15, 40, .inl (fun _ => 0)))] := hD
  refine lv_aload_n hx hb dX2_init_20 rfl (lv_at hl 0 rfl) ?_
  refine lv_bipush (v := 40) hx hb dX2_init_21 (by decide) ?_
  refine va_newa (D := D) (cl := vwCl) (atype := .int) (ty := .int) (a0 := (40, .inl (fun _ => 0))) (N' := 40) hx hb (hW _ vg3) rfl hK hP hD hS hA (fun cA => rfl) (by decide) (by decide) (Nat.le_of_ble_eq_true rfl) (Nat.le_of_ble_eq_true rfl) (Nat.le_of_ble_eq_true rfl) dX2_init_23 (fun q23 c23 H hK hP hD hS => ?_)
  have hP : va_P D vwCl [(h0, .inr (2, [.ref q7, .ref q15, .null, .null, .null, .int 0])), (q7, .inl (c7, 40, .inl (fun _ => 0))), (q15, .inl (c15, 40, .inl (fun _ => 0))), (q23, .inl (c23, 40, .inl (fun _ => 0)))] H := hP
  have hD : va_D A [(h0, .inr (2, [.ref q7, .ref q15, .null, .null, .null, .int 0])), (q7, .inl (c7, 40, .inl (fun _ => 0))), (q15, .inl (c15, 40, .inl (fun _ => 0))), (q23, .inl (c23, 40, .inl (fun _ => 0)))] := hD
  have hK : va_K D vwCl [(c7, .int), (c15, .int), (c23, .int)] s := hK
  refine W.widen (k := 3) (n := 120) (Nat.le_of_ble_eq_true rfl) (Nat.le_of_ble_eq_true rfl) ?_
  refine va_putF (D := D) (ci := 2) (v := .ref q23) (ty := .array .int) (C := RX2) (T := TX2) (N := 6) hx hb hW inX2G tyX2 tyX2_ok nmX2 hown hK hP hD hS 0 rfl rfl 2 (by decide) (hW _ vg12) (fun _ h9 => h9) rfl hin rfl (by decide +kernel) rfl rfl (Nat.le_of_ble_eq_true rfl) dX2_init_25 (fun H locs hP hD hS => ?_)
  have hP : va_P D vwCl [(h0, .inr (2, [.ref q7, .ref q15, .ref q23, .null, .null, .int 0])), (q7, .inl (c7, 40, .inl (fun _ => 0))), (q15, .inl (c15, 40, .inl (fun _ => 0))), (q23, .inl (c23, 40, .inl (fun _ => 0)))] H := hP
  have hD : va_D A [(h0, .inr (2, [.ref q7, .ref q15, .ref q23, .null, .null, .int 0])), (q7, .inl (c7, 40, .inl (fun _ => 0))), (q15, .inl (c15, 40, .inl (fun _ => 0))), (q23, .inl (c23, 40, .inl (fun _ => 0)))] := hD
  refine lv_aload_n hx hb dX2_init_28 rfl (lv_at hl 0 rfl) ?_
  refine lv_bipush (v := 40) hx hb dX2_init_29 (by decide) ?_
  refine va_newa (D := D) (cl := vwCl) (atype := .boolean) (ty := .boolean) (a0 := (40, .inl (fun _ => 0))) (N' := 40) hx hb (hW _ vg5) rfl hK hP hD hS hA (fun cA => rfl) (by decide) (by decide) (Nat.le_of_ble_eq_true rfl) (Nat.le_of_ble_eq_true rfl) (Nat.le_of_ble_eq_true rfl) dX2_init_31 (fun q31 c31 H hK hP hD hS => ?_)
  have hP : va_P D vwCl [(h0, .inr (2, [.ref q7, .ref q15, .ref q23, .null, .null, .int 0])), (q7, .inl (c7, 40, .inl (fun _ => 0))), (q15, .inl (c15, 40, .inl (fun _ => 0))), (q23, .inl (c23, 40, .inl (fun _ => 0))), (q31, .inl (c31, 40, .inl (fun _ => 0)))] H := hP
  have hD : va_D A [(h0, .inr (2, [.ref q7, .ref q15, .ref q23, .null, .null, .int 0])), (q7, .inl (c7, 40, .inl (fun _ => 0))), (q15, .inl (c15, 40, .inl (fun _ => 0))), (q23, .inl (c23, 40, .inl (fun _ => 0))), (q31, .inl (c31, 40, .inl (fun _ => 0)))] := hD
  have hK : va_K D vwCl [(c7, .int), (c15, .int), (c23, .int), (c31, .boolean)] s := hK
  refine W.widen (k := 4) (n := 160) (Nat.le_of_ble_eq_true rfl) (Nat.le_of_ble_eq_true rfl) ?_
  refine va_putF (D := D) (ci := 2) (v := .ref q31) (ty := .array .boolean) (C := RX2) (T := TX2) (N := 6) hx hb hW inX2G tyX2 tyX2_ok nmX2 hown hK hP hD hS 0 rfl rfl 3 (by decide) (hW _ vg13) (fun _ h9 => h9) rfl hin rfl (by decide +kernel) rfl rfl (Nat.le_of_ble_eq_true rfl) dX2_init_33 (fun H locs hP hD hS => ?_)
  have hP : va_P D vwCl [(h0, .inr (2, [.ref q7, .ref q15, .ref q23, .ref q31, .null, .int 0])), (q7, .inl (c7, 40, .inl (fun _ => 0))), (q15, .inl (c15, 40, .inl (fun _ => 0))), (q23, .inl (c23, 40, .inl (fun _ => 0))), (q31, .inl (c31, 40, .inl (fun _ => 0)))] H := hP
  have hD : va_D A [(h0, .inr (2, [.ref q7, .ref q15, .ref q23, .ref q31, .null, .int 0])), (q7, .inl (c7, 40, .inl (fun _ => 0))), (q15, .inl (c15, 40, .inl (fun _ => 0))), (q23, .inl (c23, 40, .inl (fun _ => 0))), (q31, .inl (c31, 40, .inl (fun _ => 0)))] := hD
  refine lv_aload_n hx hb dX2_init_36 rfl (lv_at hl 0 rfl) ?_
  refine lv_bipush (v := 40) hx hb dX2_init_37 (by decide) ?_
  refine va_newa (D := D) (cl := vwCl) (atype := .int) (ty := .int) (a0 := (40, .inl (fun _ => 0))) (N' := 40) hx hb (hW _ vg3) rfl hK hP hD hS hA (fun cA => rfl) (by decide) (by decide) (Nat.le_of_ble_eq_true rfl) (Nat.le_of_ble_eq_true rfl) (Nat.le_of_ble_eq_true rfl) dX2_init_39 (fun q39 c39 H hK hP hD hS => ?_)
  have hP : va_P D vwCl [(h0, .inr (2, [.ref q7, .ref q15, .ref q23, .ref q31, .null, .int 0])), (q7, .inl (c7, 40, .inl (fun _ => 0))), (q15, .inl (c15, 40, .inl (fun _ => 0))), (q23, .inl (c23, 40, .inl (fun _ => 0))), (q31, .inl (c31, 40, .inl (fun _ => 0))), (q39, .inl (c39, 40, .inl (fun _ => 0)))] H := hP
  have hD : va_D A [(h0, .inr (2, [.ref q7, .ref q15, .ref q23, .ref q31, .null, .int 0])), (q7, .inl (c7, 40, .inl (fun _ => 0))), (q15, .inl (c15, 40, .inl (fun _ => 0))), (q23, .inl (c23, 40, .inl (fun _ => 0))), (q31, .inl (c31, 40, .inl (fun _ => 0))), (q39, .inl (c39, 40, .inl (fun _ => 0)))] := hD
  have hK : va_K D vwCl [(c7, .int), (c15, .int), (c23, .int), (c31, .boolean), (c39, .int)] s := hK
  refine W.widen (k := 5) (n := 200) (Nat.le_of_ble_eq_true rfl) (Nat.le_of_ble_eq_true rfl) ?_
  refine va_putF (D := D) (ci := 2) (v := .ref q39) (ty := .array .int) (C := RX2) (T := TX2) (N := 6) hx hb hW inX2G tyX2 tyX2_ok nmX2 hown hK hP hD hS 0 rfl rfl 4 (by decide) (hW _ vg14) (fun _ h9 => h9) rfl hin rfl (by decide +kernel) rfl rfl (Nat.le_of_ble_eq_true rfl) dX2_init_41 (fun H locs hP hD hS => ?_)
  have hP : va_P D vwCl [(h0, .inr (2, [.ref q7, .ref q15, .ref q23, .ref q31, .ref q39, .int 0])), (q7, .inl (c7, 40, .inl (fun _ => 0))), (q15, .inl (c15, 40, .inl (fun _ => 0))), (q23, .inl (c23, 40, .inl (fun _ => 0))), (q31, .inl (c31, 40, .inl (fun _ => 0))), (q39, .inl (c39, 40, .inl (fun _ => 0)))] H := hP
  have hD : va_D A [(h0, .inr (2, [.ref q7, .ref q15, .ref q23, .ref q31, .ref q39, .int 0])), (q7, .inl (c7, 40, .inl (fun _ => 0))), (q15, .inl (c15, 40, .inl (fun _ => 0))), (q23, .inl (c23, 40, .inl (fun _ => 0))), (q31, .inl (c31, 40, .inl (fun _ => 0))), (q39, .inl (c39, 40, .inl (fun _ => 0)))] := hD
  refine lv_aload_n hx hb dX2_init_44 rfl (lv_at hl 0 rfl) ?_
  refine lv_iconst (v := 0) hx hb dX2_init_45 (by decide) ?_
  refine va_put (D := D) (ci := 2) (v := .int 0) (ty := .int) (C := RX2) (T := TX2) (N := 6) hx hb hW inX2G tyX2 tyX2_ok nmX2 hown hK hP hD hS 0 rfl rfl 5 (by decide) (hW _ vg15) (fun _ h9 => h9) rfl (by decide +kernel) rfl rfl (Nat.le_of_ble_eq_true rfl) dX2_init_46 (fun H locs hP hD hS => ?_)
  have hP : va_P D vwCl [(h0, .inr (2, [.ref q7, .ref q15, .ref q23, .ref q31, .ref q39, .int 0])), (q7, .inl (c7, 40, .inl (fun _ => 0))), (q15, .inl (c15, 40, .inl (fun _ => 0))), (q23, .inl (c23, 40, .inl (fun _ => 0))), (q31, .inl (c31, 40, .inl (fun _ => 0))), (q39, .inl (c39, 40, .inl (fun _ => 0)))] H := hP
  have hD : va_D A [(h0, .inr (2, [.ref q7, .ref q15, .ref q23, .ref q31, .ref q39, .int 0])), (q7, .inl (c7, 40, .inl (fun _ => 0))), (q15, .inl (c15, 40, .inl (fun _ => 0))), (q23, .inl (c23, 40, .inl (fun _ => 0))), (q31, .inl (c31, 40, .inl (fun _ => 0))), (q39, .inl (c39, 40, .inl (fun _ => 0)))] := hD
  have hP9 := hP
  have hD9 := hD
  have hK9 := hK
  exact W.vret hx hb hr (fun t ht hW9 => ⟨⟨(), rfl, trivial, q7, q15, q23, q31, q39, c7, c15, c23, c31, c39, by rw [ht]; exact hP9, va_K.moved hW9.alike hK9, hD9⟩, hS.F ht⟩) hS.2.2 dX2_init_49 hlocks
set_option maxHeartbeats 4000000 in
set_option maxRecDepth 100000 in
theorem kX0_init (l : Launch) (D : va_G) (h0 p1 p2 : Nat) (sz : Nat) : Met l yX0_init ((Cond.code yX0_init cX0_init 3 none) :: WG) ({ frames := 1, cells := 0, slots := 0, locals := 12 } : Room) (Pz D sz [(h0, .inr (0, [.null, .null]))] [.ref h0, .ref p1, .ref p2]) (va_Qv (S := Unit) (fun _ => True) (fun _ t => va_P D vwCl [(h0, .inr (0, [.ref p1, .ref p2]))] t.heap ∧ va_K D vwCl [] t ∧ va_D (va_A [(h0, .inr (0, [.null, .null]))] sz) [(h0, .inr (0, [.ref p1, .ref p2]))]) (va_A [(h0, .inr (0, [.null, .null]))] sz)) 0 0 (va_A [(h0, .inr (0, [.null, .null]))] sz) := by
  refine Met.ofW (cc := cX0_init) (maxL := 3) (ret := none) (by decide) rfl ?_
  intro p e s m args below meth c s₁ B hml hv
  obtain ⟨rfl, hsz, hP, ⟨hK, hNW⟩, hD0⟩ := hv
  have hx := B.exec
  have hb := B.bytes
  have hr := B.returns
  have hts := atoms_spec (ws := (Cond.code yX0_init cX0_init 3 none) :: WG) B.pre
  have hW : ∀ w ∈ WG, w.before _ s = true := fun w h => hts w (List.mem_cons_of_mem _ h)
  have hown : s.vm.findClass RX0 = some m.cls := findClass_of_methodNamed B.named
  have hlocks := B.notSynchronized
  have hin : meth.name = "<init>" := (name_of_methodNamed B.named B.method).1
  subst hsz
  have hD := hD0.self (sz := s.heap.size)
  generalize hAe : va_A [(h0, .inr (0, [.null, .null]))] s.heap.size = A at hD ⊢
  have hA : ∀ q : Nat, s.heap.size ≤ q → A q := fun q h => by rw [← hAe]; exact Or.inr h
  have hS : va_S A s.heap s.heap [] := va_S.rf
  have hl := lv_entry ([.ref h0, .ref p1, .ref p2]) (n := 3) (Nat.le_of_ble_eq_true rfl)
  rw [lg_entry_eq]
  generalize (lg_sl ([.ref h0, .ref p1, .ref p2]) ++ List.replicate (3 - (lg_sl ([.ref h0, .ref p1, .ref p2])).length) Slot.unset).toArray = ls at hl ⊢
  have hl : lv_has ls 3 [(0, .ref h0), (1, .ref p1), (2, .ref p2)] := hl
  refine lv_aload_n hx hb dX0_init_0 rfl (lv_at hl 0 rfl) ?_
  refine W.objInit hx hb hown (hW _ vg16) (hW _ vg1) (hW _ vg2) rfl (by rw [hml]; exact hl.1) rfl dX0_init_1 (Nat.le_of_ble_eq_true rfl) (Nat.le_of_ble_eq_true rfl) ?_
  refine W.eq (g2 := F0 m 4 ls []) rfl ?_
  refine lv_aload_n hx hb dX0_init_4 rfl (lv_at hl 0 rfl) ?_
  refine lv_aload_n hx hb dX0_init_5 rfl (lv_at hl 1 rfl) ?_
  refine va_putF (D := D) (ci := 0) (v := .ref p1) (ty := .object "ResourceEnds$Things") (C := RX0) (T := TX0) (N := 2) hx hb hW inX0G tyX0 tyX0_ok nmX0 hown hK hP hD hS 0 rfl rfl 0 (by decide) (hW _ vg17) (fun _ h9 => h9) rfl hin rfl (by decide +kernel) rfl rfl (Nat.le_of_ble_eq_true rfl) dX0_init_6 (fun H locs hP hD hS => ?_)
  have hP : va_P D vwCl [(h0, .inr (0, [.ref p1, .null]))] H := hP
  have hD : va_D A [(h0, .inr (0, [.ref p1, .null]))] := hD
  refine lv_aload_n hx hb dX0_init_9 rfl (lv_at hl 0 rfl) ?_
  refine lv_aload_n hx hb dX0_init_10 rfl (lv_at hl 2 rfl) ?_
  refine va_putF (D := D) (ci := 0) (v := .ref p2) (ty := .object "ResourceEnds$Steps") (C := RX0) (T := TX0) (N := 2) hx hb hW inX0G tyX0 tyX0_ok nmX0 hown hK hP hD hS 0 rfl rfl 1 (by decide) (hW _ vg18) (fun _ h9 => h9) rfl hin rfl (by decide +kernel) rfl rfl (Nat.le_of_ble_eq_true rfl) dX0_init_11 (fun H locs hP hD hS => ?_)
  have hP : va_P D vwCl [(h0, .inr (0, [.ref p1, .ref p2]))] H := hP
  have hD : va_D A [(h0, .inr (0, [.ref p1, .ref p2]))] := hD
  have hP9 := hP
  have hD9 := hD
  have hK9 := hK
  exact W.vret hx hb hr (fun t ht hW9 => ⟨⟨(), rfl, trivial, by rw [ht]; exact hP9, va_K.moved hW9.alike hK9, hD9⟩, hS.F ht⟩) hS.2.2 dX0_init_14 hlocks
set_option maxHeartbeats 4000000 in
set_option maxRecDepth 100000 in
theorem kX1_init (l : Launch) (D : va_G) (h0 p1 p2 p3 : Nat) (sz : Nat) : Met l yX1_init ((Cond.code yX1_init cX1_init 4 none) :: WG) ({ frames := 1, cells := 6, slots := 86318, locals := 12 } : Room) (Pz D sz [(h0, .inr (1, [.null, .null, .null, .null, .null, .null, .null, .null, .null, .int 0, .int 0, .int 0, .int 0, .int 0]))] [.ref h0, .ref p1, .ref p2, .ref p3]) (va_Qv (S := Unit) (fun _ => True) (fun _ t => ∃ (q7 q15 q23 q32 q40 q48 : Nat) (c7 c15 c23 c32 c40 c48 : ClassId), va_P D vwCl [(h0, .inr (1, [.ref p1, .ref p2, .ref p3, .ref q7, .ref q15, .ref q23, .ref q32, .ref q40, .ref q48, .int 0, .int 0, .int 0, .int 0, .int 0])), (q7, .inl (c7, 43008, .inl (fun _ => 0))), (q15, .inl (c15, 43008, .inl (fun _ => 0))), (q23, .inl (c23, 42, .inl (fun _ => 0))), (q32, .inl (c32, 210, .inl (fun _ => 0))), (q40, .inl (c40, 25, .inl (fun _ => 0))), (q48, .inl (c48, 25, .inl (fun _ => 0)))] t.heap ∧ va_K D vwCl [(c7, .int), (c15, .int), (c23, .int), (c32, .int), (c40, .int), (c48, .int)] t ∧ va_D (va_A [(h0, .inr (1, [.null, .null, .null, .null, .null, .null, .null, .null, .null, .int 0, .int 0, .int 0, .int 0, .int 0]))] sz) [(h0, .inr (1, [.ref p1, .ref p2, .ref p3, .ref q7, .ref q15, .ref q23, .ref q32, .ref q40, .ref q48, .int 0, .int 0, .int 0, .int 0, .int 0])), (q7, .inl (c7, 43008, .inl (fun _ => 0))), (q15, .inl (c15, 43008, .inl (fun _ => 0))), (q23, .inl (c23, 42, .inl (fun _ => 0))), (q32, .inl (c32, 210, .inl (fun _ => 0))), (q40, .inl (c40, 25, .inl (fun _ => 0))), (q48, .inl (c48, 25, .inl (fun _ => 0)))]) (va_A [(h0, .inr (1, [.null, .null, .null, .null, .null, .null, .null, .null, .null, .int 0, .int 0, .int 0, .int 0, .int 0]))] sz)) 6 86318 (va_A [(h0, .inr (1, [.null, .null, .null, .null, .null, .null, .null, .null, .null, .int 0, .int 0, .int 0, .int 0, .int 0]))] sz) := by
  refine Met.ofW (cc := cX1_init) (maxL := 4) (ret := none) (by decide) rfl ?_
  intro p e s m args below meth c s₁ B hml hv
  obtain ⟨rfl, hsz, hP, ⟨hK, hNW⟩, hD0⟩ := hv
  have hx := B.exec
  have hb := B.bytes
  have hr := B.returns
  have hts := atoms_spec (ws := (Cond.code yX1_init cX1_init 4 none) :: WG) B.pre
  have hW : ∀ w ∈ WG, w.before _ s = true := fun w h => hts w (List.mem_cons_of_mem _ h)
  have hown : s.vm.findClass RX1 = some m.cls := findClass_of_methodNamed B.named
  have hlocks := B.notSynchronized
  have hin : meth.name = "<init>" := (name_of_methodNamed B.named B.method).1
  subst hsz
  have hD := hD0.self (sz := s.heap.size)
  generalize hAe : va_A [(h0, .inr (1, [.null, .null, .null, .null, .null, .null, .null, .null, .null, .int 0, .int 0, .int 0, .int 0, .int 0]))] s.heap.size = A at hD ⊢
  have hA : ∀ q : Nat, s.heap.size ≤ q → A q := fun q h => by rw [← hAe]; exact Or.inr h
  have hS : va_S A s.heap s.heap [] := va_S.rf
  have hl := lv_entry ([.ref h0, .ref p1, .ref p2, .ref p3]) (n := 4) (Nat.le_of_ble_eq_true rfl)
  rw [lg_entry_eq]
  generalize (lg_sl ([.ref h0, .ref p1, .ref p2, .ref p3]) ++ List.replicate (4 - (lg_sl ([.ref h0, .ref p1, .ref p2, .ref p3])).length) Slot.unset).toArray = ls at hl ⊢
  have hl : lv_has ls 4 [(0, .ref h0), (1, .ref p1), (2, .ref p2), (3, .ref p3)] := hl
  refine lv_aload_n hx hb dX1_init_0 rfl (lv_at hl 0 rfl) ?_
  refine W.objInit hx hb hown (hW _ vg19) (hW _ vg1) (hW _ vg2) rfl (by rw [hml]; exact hl.1) rfl dX1_init_1 (Nat.le_of_ble_eq_true rfl) (Nat.le_of_ble_eq_true rfl) ?_
  refine W.eq (g2 := F0 m 4 ls []) rfl ?_
  refine lv_aload_n hx hb dX1_init_4 rfl (lv_at hl 0 rfl) ?_
  refine lv_ldc (v := 43008) hx hb hown (hW _ vg20) dX1_init_5 ?_
  refine va_newa (D := D) (cl := vwCl) (atype := .int) (ty := .int) (a0 := (43008, .inl (fun _ => 0))) (N' := 43008) hx hb (hW _ vg3) rfl hK hP hD hS hA (fun cA => rfl) (by decide) (by decide) (Nat.le_of_ble_eq_true rfl) (Nat.le_of_ble_eq_true rfl) (Nat.le_of_ble_eq_true rfl) dX1_init_7 (fun q7 c7 H hK hP hD hS => ?_)
  have hP : va_P D vwCl [(h0, .inr (1, [.null, .null, .null, .null, .null, .null, .null, .null, .null, .int 0, .int 0, .int 0, .int 0, .int 0])), (q7, .inl (c7, 43008, .inl (fun _ => 0)))] H := hP
  have hD : va_D A [(h0, .inr (1, [.null, .null, .null, .null, .null, .null, .null, .null, .null, .int 0, .int 0, .int 0, .int 0, .int 0])), (q7, .inl (c7, 43008, .inl (fun _ => 0)))] := hD
  have hK : va_K D vwCl [(c7, .int)] s := hK
  refine W.widen (k := 1) (n := 43008) (Nat.le_of_ble_eq_true rfl) (Nat.le_of_ble_eq_true rfl) ?_
  refine va_putF (D := D) (ci := 1) (v := .ref q7) (ty := .array .int) (C := RX1) (T := TX1) (N := 14) hx hb hW inX1G tyX1 tyX1_ok nmX1 hown hK hP hD hS 0 rfl rfl 3 (by decide) (hW _ vg21) (fun _ h9 => h9) rfl hin rfl (by decide +kernel) rfl rfl (Nat.le_of_ble_eq_true rfl) dX1_init_9 (fun H locs hP hD hS => ?_)
  have hP : va_P D vwCl [(h0, .inr (1, [.null, .null, .null, .ref q7, .null, .null, .null, .null, .null, .int 0, .int 0, .int 0, .int 0, .int 0])), (q7, .inl (c7, 43008, .inl (fun _ => 0)))] H := hP
  have hD : va_D A [(h0, .inr (1, [.null, .null, .null, .ref q7, .null, .null, .null, .null, .null, .int 0, .int 0, .int 0, .int 0, .int 0])), (q7, .inl (c7, 43008, .inl (fun _ => 0)))] := hD
  refine lv_aload_n hx hb dX1_init_12 rfl (lv_at hl 0 rfl) ?_
  refine lv_ldc (v := 43008) hx hb hown (hW _ vg20) dX1_init_13 ?_
  refine va_newa (D := D) (cl := vwCl) (atype := .int) (ty := .int) (a0 := (43008, .inl (fun _ => 0))) (N' := 43008) hx hb (hW _ vg3) rfl hK hP hD hS hA (fun cA => rfl) (by decide) (by decide) (Nat.le_of_ble_eq_true rfl) (Nat.le_of_ble_eq_true rfl) (Nat.le_of_ble_eq_true rfl) dX1_init_15 (fun q15 c15 H hK hP hD hS => ?_)
  have hP : va_P D vwCl [(h0, .inr (1, [.null, .null, .null, .ref q7, .null, .null, .null, .null, .null, .int 0, .int 0, .int 0, .int 0, .int 0])), (q7, .inl (c7, 43008, .inl (fun _ => 0))), (q15, .inl (c15, 43008, .inl (fun _ => 0)))] H := hP
  have hD : va_D A [(h0, .inr (1, [.null, .null, .null, .ref q7, .null, .null, .null, .null, .null, .int 0, .int 0, .int 0, .int 0, .int 0])), (q7, .inl (c7, 43008, .inl (fun _ => 0))), (q15, .inl (c15, 43008, .inl (fun _ => 0)))] := hD
  have hK : va_K D vwCl [(c7, .int), (c15, .int)] s := hK
  refine W.widen (k := 2) (n := 86016) (Nat.le_of_ble_eq_true rfl) (Nat.le_of_ble_eq_true rfl) ?_
  refine va_putF (D := D) (ci := 1) (v := .ref q15) (ty := .array .int) (C := RX1) (T := TX1) (N := 14) hx hb hW inX1G tyX1 tyX1_ok nmX1 hown hK hP hD hS 0 rfl rfl 4 (by decide) (hW _ vg22) (fun _ h9 => h9) rfl hin rfl (by decide +kernel) rfl rfl (Nat.le_of_ble_eq_true rfl) dX1_init_17 (fun H locs hP hD hS => ?_)
  have hP : va_P D vwCl [(h0, .inr (1, [.null, .null, .null, .ref q7, .ref q15, .null, .null, .null, .null, .int 0, .int 0, .int 0, .int 0, .int 0])), (q7, .inl (c7, 43008, .inl (fun _ => 0))), (q15, .inl (c15, 43008, .inl (fun _ => 0)))] H := hP
  have hD : va_D A [(h0, .inr (1, [.null, .null, .null, .ref q7, .ref q15, .null, .null, .null, .null, .int 0, .int 0, .int 0, .int 0, .int 0])), (q7, .inl (c7, 43008, .inl (fun _ => 0))), (q15, .inl (c15, 43008, .inl (fun _ => 0)))] := hD
  refine lv_aload_n hx hb dX1_init_20 rfl (lv_at hl 0 rfl) ?_
  refine lv_bipush (v := 42) hx hb dX1_init_21 (by decide) ?_
  refine va_newa (D := D) (cl := vwCl) (atype := .int) (ty := .int) (a0 := (42, .inl (fun _ => 0))) (N' := 42) hx hb (hW _ vg3) rfl hK hP hD hS hA (fun cA => rfl) (by decide) (by decide) (Nat.le_of_ble_eq_true rfl) (Nat.le_of_ble_eq_true rfl) (Nat.le_of_ble_eq_true rfl) dX1_init_23 (fun q23 c23 H hK hP hD hS => ?_)
  have hP : va_P D vwCl [(h0, .inr (1, [.null, .null, .null, .ref q7, .ref q15, .null, .null, .null, .null, .int 0, .int 0, .int 0, .int 0, .int 0])), (q7, .inl (c7, 43008, .inl (fun _ => 0))), (q15, .inl (c15, 43008, .inl (fun _ => 0))), (q23, .inl (c23, 42, .inl (fun _ => 0)))] H := hP
  have hD : va_D A [(h0, .inr (1, [.null, .null, .null, .ref q7, .ref q15, .null, .null, .null, .null, .int 0, .int 0, .int 0, .int 0, .int 0])), (q7, .inl (c7, 43008, .inl (fun _ => 0))), (q15, .inl (c15, 43008, .inl (fun _ => 0))), (q23, .inl (c23, 42, .inl (fun _ => 0)))] := hD
  have hK : va_K D vwCl [(c7, .int), (c15, .int), (c23, .int)] s := hK
  refine W.widen (k := 3) (n := 86058) (Nat.le_of_ble_eq_true rfl) (Nat.le_of_ble_eq_true rfl) ?_
  refine va_putF (D := D) (ci := 1) (v := .ref q23) (ty := .array .int) (C := RX1) (T := TX1) (N := 14) hx hb hW inX1G tyX1 tyX1_ok nmX1 hown hK hP hD hS 0 rfl rfl 5 (by decide) (hW _ vg23) (fun _ h9 => h9) rfl hin rfl (by decide +kernel) rfl rfl (Nat.le_of_ble_eq_true rfl) dX1_init_25 (fun H locs hP hD hS => ?_)
  have hP : va_P D vwCl [(h0, .inr (1, [.null, .null, .null, .ref q7, .ref q15, .ref q23, .null, .null, .null, .int 0, .int 0, .int 0, .int 0, .int 0])), (q7, .inl (c7, 43008, .inl (fun _ => 0))), (q15, .inl (c15, 43008, .inl (fun _ => 0))), (q23, .inl (c23, 42, .inl (fun _ => 0)))] H := hP
  have hD : va_D A [(h0, .inr (1, [.null, .null, .null, .ref q7, .ref q15, .ref q23, .null, .null, .null, .int 0, .int 0, .int 0, .int 0, .int 0])), (q7, .inl (c7, 43008, .inl (fun _ => 0))), (q15, .inl (c15, 43008, .inl (fun _ => 0))), (q23, .inl (c23, 42, .inl (fun _ => 0)))] := hD
  refine lv_aload_n hx hb dX1_init_28 rfl (lv_at hl 0 rfl) ?_
  refine lv_sipush (v := 210) hx hb dX1_init_29 (by decide) ?_
  refine va_newa (D := D) (cl := vwCl) (atype := .int) (ty := .int) (a0 := (210, .inl (fun _ => 0))) (N' := 210) hx hb (hW _ vg3) rfl hK hP hD hS hA (fun cA => rfl) (by decide) (by decide) (Nat.le_of_ble_eq_true rfl) (Nat.le_of_ble_eq_true rfl) (Nat.le_of_ble_eq_true rfl) dX1_init_32 (fun q32 c32 H hK hP hD hS => ?_)
  have hP : va_P D vwCl [(h0, .inr (1, [.null, .null, .null, .ref q7, .ref q15, .ref q23, .null, .null, .null, .int 0, .int 0, .int 0, .int 0, .int 0])), (q7, .inl (c7, 43008, .inl (fun _ => 0))), (q15, .inl (c15, 43008, .inl (fun _ => 0))), (q23, .inl (c23, 42, .inl (fun _ => 0))), (q32, .inl (c32, 210, .inl (fun _ => 0)))] H := hP
  have hD : va_D A [(h0, .inr (1, [.null, .null, .null, .ref q7, .ref q15, .ref q23, .null, .null, .null, .int 0, .int 0, .int 0, .int 0, .int 0])), (q7, .inl (c7, 43008, .inl (fun _ => 0))), (q15, .inl (c15, 43008, .inl (fun _ => 0))), (q23, .inl (c23, 42, .inl (fun _ => 0))), (q32, .inl (c32, 210, .inl (fun _ => 0)))] := hD
  have hK : va_K D vwCl [(c7, .int), (c15, .int), (c23, .int), (c32, .int)] s := hK
  refine W.widen (k := 4) (n := 86268) (Nat.le_of_ble_eq_true rfl) (Nat.le_of_ble_eq_true rfl) ?_
  refine va_putF (D := D) (ci := 1) (v := .ref q32) (ty := .array .int) (C := RX1) (T := TX1) (N := 14) hx hb hW inX1G tyX1 tyX1_ok nmX1 hown hK hP hD hS 0 rfl rfl 6 (by decide) (hW _ vg24) (fun _ h9 => h9) rfl hin rfl (by decide +kernel) rfl rfl (Nat.le_of_ble_eq_true rfl) dX1_init_34 (fun H locs hP hD hS => ?_)
  have hP : va_P D vwCl [(h0, .inr (1, [.null, .null, .null, .ref q7, .ref q15, .ref q23, .ref q32, .null, .null, .int 0, .int 0, .int 0, .int 0, .int 0])), (q7, .inl (c7, 43008, .inl (fun _ => 0))), (q15, .inl (c15, 43008, .inl (fun _ => 0))), (q23, .inl (c23, 42, .inl (fun _ => 0))), (q32, .inl (c32, 210, .inl (fun _ => 0)))] H := hP
  have hD : va_D A [(h0, .inr (1, [.null, .null, .null, .ref q7, .ref q15, .ref q23, .ref q32, .null, .null, .int 0, .int 0, .int 0, .int 0, .int 0])), (q7, .inl (c7, 43008, .inl (fun _ => 0))), (q15, .inl (c15, 43008, .inl (fun _ => 0))), (q23, .inl (c23, 42, .inl (fun _ => 0))), (q32, .inl (c32, 210, .inl (fun _ => 0)))] := hD
  refine lv_aload_n hx hb dX1_init_37 rfl (lv_at hl 0 rfl) ?_
  refine lv_bipush (v := 25) hx hb dX1_init_38 (by decide) ?_
  refine va_newa (D := D) (cl := vwCl) (atype := .int) (ty := .int) (a0 := (25, .inl (fun _ => 0))) (N' := 25) hx hb (hW _ vg3) rfl hK hP hD hS hA (fun cA => rfl) (by decide) (by decide) (Nat.le_of_ble_eq_true rfl) (Nat.le_of_ble_eq_true rfl) (Nat.le_of_ble_eq_true rfl) dX1_init_40 (fun q40 c40 H hK hP hD hS => ?_)
  have hP : va_P D vwCl [(h0, .inr (1, [.null, .null, .null, .ref q7, .ref q15, .ref q23, .ref q32, .null, .null, .int 0, .int 0, .int 0, .int 0, .int 0])), (q7, .inl (c7, 43008, .inl (fun _ => 0))), (q15, .inl (c15, 43008, .inl (fun _ => 0))), (q23, .inl (c23, 42, .inl (fun _ => 0))), (q32, .inl (c32, 210, .inl (fun _ => 0))), (q40, .inl (c40, 25, .inl (fun _ => 0)))] H := hP
  have hD : va_D A [(h0, .inr (1, [.null, .null, .null, .ref q7, .ref q15, .ref q23, .ref q32, .null, .null, .int 0, .int 0, .int 0, .int 0, .int 0])), (q7, .inl (c7, 43008, .inl (fun _ => 0))), (q15, .inl (c15, 43008, .inl (fun _ => 0))), (q23, .inl (c23, 42, .inl (fun _ => 0))), (q32, .inl (c32, 210, .inl (fun _ => 0))), (q40, .inl (c40, 25, .inl (fun _ => 0)))] := hD
  have hK : va_K D vwCl [(c7, .int), (c15, .int), (c23, .int), (c32, .int), (c40, .int)] s := hK
  refine W.widen (k := 5) (n := 86293) (Nat.le_of_ble_eq_true rfl) (Nat.le_of_ble_eq_true rfl) ?_
  refine va_putF (D := D) (ci := 1) (v := .ref q40) (ty := .array .int) (C := RX1) (T := TX1) (N := 14) hx hb hW inX1G tyX1 tyX1_ok nmX1 hown hK hP hD hS 0 rfl rfl 7 (by decide) (hW _ vg25) (fun _ h9 => h9) rfl hin rfl (by decide +kernel) rfl rfl (Nat.le_of_ble_eq_true rfl) dX1_init_42 (fun H locs hP hD hS => ?_)
  have hP : va_P D vwCl [(h0, .inr (1, [.null, .null, .null, .ref q7, .ref q15, .ref q23, .ref q32, .ref q40, .null, .int 0, .int 0, .int 0, .int 0, .int 0])), (q7, .inl (c7, 43008, .inl (fun _ => 0))), (q15, .inl (c15, 43008, .inl (fun _ => 0))), (q23, .inl (c23, 42, .inl (fun _ => 0))), (q32, .inl (c32, 210, .inl (fun _ => 0))), (q40, .inl (c40, 25, .inl (fun _ => 0)))] H := hP
  have hD : va_D A [(h0, .inr (1, [.null, .null, .null, .ref q7, .ref q15, .ref q23, .ref q32, .ref q40, .null, .int 0, .int 0, .int 0, .int 0, .int 0])), (q7, .inl (c7, 43008, .inl (fun _ => 0))), (q15, .inl (c15, 43008, .inl (fun _ => 0))), (q23, .inl (c23, 42, .inl (fun _ => 0))), (q32, .inl (c32, 210, .inl (fun _ => 0))), (q40, .inl (c40, 25, .inl (fun _ => 0)))] := hD
  refine lv_aload_n hx hb dX1_init_45 rfl (lv_at hl 0 rfl) ?_
  refine lv_bipush (v := 25) hx hb dX1_init_46 (by decide) ?_
  refine va_newa (D := D) (cl := vwCl) (atype := .int) (ty := .int) (a0 := (25, .inl (fun _ => 0))) (N' := 25) hx hb (hW _ vg3) rfl hK hP hD hS hA (fun cA => rfl) (by decide) (by decide) (Nat.le_of_ble_eq_true rfl) (Nat.le_of_ble_eq_true rfl) (Nat.le_of_ble_eq_true rfl) dX1_init_48 (fun q48 c48 H hK hP hD hS => ?_)
  have hP : va_P D vwCl [(h0, .inr (1, [.null, .null, .null, .ref q7, .ref q15, .ref q23, .ref q32, .ref q40, .null, .int 0, .int 0, .int 0, .int 0, .int 0])), (q7, .inl (c7, 43008, .inl (fun _ => 0))), (q15, .inl (c15, 43008, .inl (fun _ => 0))), (q23, .inl (c23, 42, .inl (fun _ => 0))), (q32, .inl (c32, 210, .inl (fun _ => 0))), (q40, .inl (c40, 25, .inl (fun _ => 0))), (q48, .inl (c48, 25, .inl (fun _ => 0)))] H := hP
  have hD : va_D A [(h0, .inr (1, [.null, .null, .null, .ref q7, .ref q15, .ref q23, .ref q32, .ref q40, .null, .int 0, .int 0, .int 0, .int 0, .int 0])), (q7, .inl (c7, 43008, .inl (fun _ => 0))), (q15, .inl (c15, 43008, .inl (fun _ => 0))), (q23, .inl (c23, 42, .inl (fun _ => 0))), (q32, .inl (c32, 210, .inl (fun _ => 0))), (q40, .inl (c40, 25, .inl (fun _ => 0))), (q48, .inl (c48, 25, .inl (fun _ => 0)))] := hD
  have hK : va_K D vwCl [(c7, .int), (c15, .int), (c23, .int), (c32, .int), (c40, .int), (c48, .int)] s := hK
  refine W.widen (k := 6) (n := 86318) (Nat.le_of_ble_eq_true rfl) (Nat.le_of_ble_eq_true rfl) ?_
  refine va_putF (D := D) (ci := 1) (v := .ref q48) (ty := .array .int) (C := RX1) (T := TX1) (N := 14) hx hb hW inX1G tyX1 tyX1_ok nmX1 hown hK hP hD hS 0 rfl rfl 8 (by decide) (hW _ vg26) (fun _ h9 => h9) rfl hin rfl (by decide +kernel) rfl rfl (Nat.le_of_ble_eq_true rfl) dX1_init_50 (fun H locs hP hD hS => ?_)
  have hP : va_P D vwCl [(h0, .inr (1, [.null, .null, .null, .ref q7, .ref q15, .ref q23, .ref q32, .ref q40, .ref q48, .int 0, .int 0, .int 0, .int 0, .int 0])), (q7, .inl (c7, 43008, .inl (fun _ => 0))), (q15, .inl (c15, 43008, .inl (fun _ => 0))), (q23, .inl (c23, 42, .inl (fun _ => 0))), (q32, .inl (c32, 210, .inl (fun _ => 0))), (q40, .inl (c40, 25, .inl (fun _ => 0))), (q48, .inl (c48, 25, .inl (fun _ => 0)))] H := hP
  have hD : va_D A [(h0, .inr (1, [.null, .null, .null, .ref q7, .ref q15, .ref q23, .ref q32, .ref q40, .ref q48, .int 0, .int 0, .int 0, .int 0, .int 0])), (q7, .inl (c7, 43008, .inl (fun _ => 0))), (q15, .inl (c15, 43008, .inl (fun _ => 0))), (q23, .inl (c23, 42, .inl (fun _ => 0))), (q32, .inl (c32, 210, .inl (fun _ => 0))), (q40, .inl (c40, 25, .inl (fun _ => 0))), (q48, .inl (c48, 25, .inl (fun _ => 0)))] := hD
  refine lv_aload_n hx hb dX1_init_53 rfl (lv_at hl 0 rfl) ?_
  refine lv_iconst (v := 0) hx hb dX1_init_54 (by decide) ?_
  refine va_put (D := D) (ci := 1) (v := .int 0) (ty := .int) (C := RX1) (T := TX1) (N := 14) hx hb hW inX1G tyX1 tyX1_ok nmX1 hown hK hP hD hS 0 rfl rfl 9 (by decide) (hW _ vg27) (fun _ h9 => h9) rfl (by decide +kernel) rfl rfl (Nat.le_of_ble_eq_true rfl) dX1_init_55 (fun H locs hP hD hS => ?_)
  have hP : va_P D vwCl [(h0, .inr (1, [.null, .null, .null, .ref q7, .ref q15, .ref q23, .ref q32, .ref q40, .ref q48, .int 0, .int 0, .int 0, .int 0, .int 0])), (q7, .inl (c7, 43008, .inl (fun _ => 0))), (q15, .inl (c15, 43008, .inl (fun _ => 0))), (q23, .inl (c23, 42, .inl (fun _ => 0))), (q32, .inl (c32, 210, .inl (fun _ => 0))), (q40, .inl (c40, 25, .inl (fun _ => 0))), (q48, .inl (c48, 25, .inl (fun _ => 0)))] H := hP
  have hD : va_D A [(h0, .inr (1, [.null, .null, .null, .ref q7, .ref q15, .ref q23, .ref q32, .ref q40, .ref q48, .int 0, .int 0, .int 0, .int 0, .int 0])), (q7, .inl (c7, 43008, .inl (fun _ => 0))), (q15, .inl (c15, 43008, .inl (fun _ => 0))), (q23, .inl (c23, 42, .inl (fun _ => 0))), (q32, .inl (c32, 210, .inl (fun _ => 0))), (q40, .inl (c40, 25, .inl (fun _ => 0))), (q48, .inl (c48, 25, .inl (fun _ => 0)))] := hD
  refine lv_aload_n hx hb dX1_init_58 rfl (lv_at hl 0 rfl) ?_
  refine lv_iconst (v := 0) hx hb dX1_init_59 (by decide) ?_
  refine va_put (D := D) (ci := 1) (v := .int 0) (ty := .int) (C := RX1) (T := TX1) (N := 14) hx hb hW inX1G tyX1 tyX1_ok nmX1 hown hK hP hD hS 0 rfl rfl 10 (by decide) (hW _ vg28) (fun _ h9 => h9) rfl (by decide +kernel) rfl rfl (Nat.le_of_ble_eq_true rfl) dX1_init_60 (fun H locs hP hD hS => ?_)
  have hP : va_P D vwCl [(h0, .inr (1, [.null, .null, .null, .ref q7, .ref q15, .ref q23, .ref q32, .ref q40, .ref q48, .int 0, .int 0, .int 0, .int 0, .int 0])), (q7, .inl (c7, 43008, .inl (fun _ => 0))), (q15, .inl (c15, 43008, .inl (fun _ => 0))), (q23, .inl (c23, 42, .inl (fun _ => 0))), (q32, .inl (c32, 210, .inl (fun _ => 0))), (q40, .inl (c40, 25, .inl (fun _ => 0))), (q48, .inl (c48, 25, .inl (fun _ => 0)))] H := hP
  have hD : va_D A [(h0, .inr (1, [.null, .null, .null, .ref q7, .ref q15, .ref q23, .ref q32, .ref q40, .ref q48, .int 0, .int 0, .int 0, .int 0, .int 0])), (q7, .inl (c7, 43008, .inl (fun _ => 0))), (q15, .inl (c15, 43008, .inl (fun _ => 0))), (q23, .inl (c23, 42, .inl (fun _ => 0))), (q32, .inl (c32, 210, .inl (fun _ => 0))), (q40, .inl (c40, 25, .inl (fun _ => 0))), (q48, .inl (c48, 25, .inl (fun _ => 0)))] := hD
  refine lv_aload_n hx hb dX1_init_63 rfl (lv_at hl 0 rfl) ?_
  refine lv_iconst (v := 0) hx hb dX1_init_64 (by decide) ?_
  refine va_put (D := D) (ci := 1) (v := .int 0) (ty := .int) (C := RX1) (T := TX1) (N := 14) hx hb hW inX1G tyX1 tyX1_ok nmX1 hown hK hP hD hS 0 rfl rfl 11 (by decide) (hW _ vg29) (fun _ h9 => h9) rfl (by decide +kernel) rfl rfl (Nat.le_of_ble_eq_true rfl) dX1_init_65 (fun H locs hP hD hS => ?_)
  have hP : va_P D vwCl [(h0, .inr (1, [.null, .null, .null, .ref q7, .ref q15, .ref q23, .ref q32, .ref q40, .ref q48, .int 0, .int 0, .int 0, .int 0, .int 0])), (q7, .inl (c7, 43008, .inl (fun _ => 0))), (q15, .inl (c15, 43008, .inl (fun _ => 0))), (q23, .inl (c23, 42, .inl (fun _ => 0))), (q32, .inl (c32, 210, .inl (fun _ => 0))), (q40, .inl (c40, 25, .inl (fun _ => 0))), (q48, .inl (c48, 25, .inl (fun _ => 0)))] H := hP
  have hD : va_D A [(h0, .inr (1, [.null, .null, .null, .ref q7, .ref q15, .ref q23, .ref q32, .ref q40, .ref q48, .int 0, .int 0, .int 0, .int 0, .int 0])), (q7, .inl (c7, 43008, .inl (fun _ => 0))), (q15, .inl (c15, 43008, .inl (fun _ => 0))), (q23, .inl (c23, 42, .inl (fun _ => 0))), (q32, .inl (c32, 210, .inl (fun _ => 0))), (q40, .inl (c40, 25, .inl (fun _ => 0))), (q48, .inl (c48, 25, .inl (fun _ => 0)))] := hD
  refine lv_aload_n hx hb dX1_init_68 rfl (lv_at hl 0 rfl) ?_
  refine lv_iconst (v := 0) hx hb dX1_init_69 (by decide) ?_
  refine va_put (D := D) (ci := 1) (v := .int 0) (ty := .int) (C := RX1) (T := TX1) (N := 14) hx hb hW inX1G tyX1 tyX1_ok nmX1 hown hK hP hD hS 0 rfl rfl 12 (by decide) (hW _ vg30) (fun _ h9 => h9) rfl (by decide +kernel) rfl rfl (Nat.le_of_ble_eq_true rfl) dX1_init_70 (fun H locs hP hD hS => ?_)
  have hP : va_P D vwCl [(h0, .inr (1, [.null, .null, .null, .ref q7, .ref q15, .ref q23, .ref q32, .ref q40, .ref q48, .int 0, .int 0, .int 0, .int 0, .int 0])), (q7, .inl (c7, 43008, .inl (fun _ => 0))), (q15, .inl (c15, 43008, .inl (fun _ => 0))), (q23, .inl (c23, 42, .inl (fun _ => 0))), (q32, .inl (c32, 210, .inl (fun _ => 0))), (q40, .inl (c40, 25, .inl (fun _ => 0))), (q48, .inl (c48, 25, .inl (fun _ => 0)))] H := hP
  have hD : va_D A [(h0, .inr (1, [.null, .null, .null, .ref q7, .ref q15, .ref q23, .ref q32, .ref q40, .ref q48, .int 0, .int 0, .int 0, .int 0, .int 0])), (q7, .inl (c7, 43008, .inl (fun _ => 0))), (q15, .inl (c15, 43008, .inl (fun _ => 0))), (q23, .inl (c23, 42, .inl (fun _ => 0))), (q32, .inl (c32, 210, .inl (fun _ => 0))), (q40, .inl (c40, 25, .inl (fun _ => 0))), (q48, .inl (c48, 25, .inl (fun _ => 0)))] := hD
  refine lv_aload_n hx hb dX1_init_73 rfl (lv_at hl 0 rfl) ?_
  refine lv_iconst (v := 0) hx hb dX1_init_74 (by decide) ?_
  refine va_put (D := D) (ci := 1) (v := .int 0) (ty := .int) (C := RX1) (T := TX1) (N := 14) hx hb hW inX1G tyX1 tyX1_ok nmX1 hown hK hP hD hS 0 rfl rfl 13 (by decide) (hW _ vg31) (fun _ h9 => h9) rfl (by decide +kernel) rfl rfl (Nat.le_of_ble_eq_true rfl) dX1_init_75 (fun H locs hP hD hS => ?_)
  have hP : va_P D vwCl [(h0, .inr (1, [.null, .null, .null, .ref q7, .ref q15, .ref q23, .ref q32, .ref q40, .ref q48, .int 0, .int 0, .int 0, .int 0, .int 0])), (q7, .inl (c7, 43008, .inl (fun _ => 0))), (q15, .inl (c15, 43008, .inl (fun _ => 0))), (q23, .inl (c23, 42, .inl (fun _ => 0))), (q32, .inl (c32, 210, .inl (fun _ => 0))), (q40, .inl (c40, 25, .inl (fun _ => 0))), (q48, .inl (c48, 25, .inl (fun _ => 0)))] H := hP
  have hD : va_D A [(h0, .inr (1, [.null, .null, .null, .ref q7, .ref q15, .ref q23, .ref q32, .ref q40, .ref q48, .int 0, .int 0, .int 0, .int 0, .int 0])), (q7, .inl (c7, 43008, .inl (fun _ => 0))), (q15, .inl (c15, 43008, .inl (fun _ => 0))), (q23, .inl (c23, 42, .inl (fun _ => 0))), (q32, .inl (c32, 210, .inl (fun _ => 0))), (q40, .inl (c40, 25, .inl (fun _ => 0))), (q48, .inl (c48, 25, .inl (fun _ => 0)))] := hD
  refine lv_aload_n hx hb dX1_init_78 rfl (lv_at hl 0 rfl) ?_
  refine lv_aload_n hx hb dX1_init_79 rfl (lv_at hl 1 rfl) ?_
  refine va_putF (D := D) (ci := 1) (v := .ref p1) (ty := .object "ResourceEnds$Things") (C := RX1) (T := TX1) (N := 14) hx hb hW inX1G tyX1 tyX1_ok nmX1 hown hK hP hD hS 0 rfl rfl 0 (by decide) (hW _ vg32) (fun _ h9 => h9) rfl hin rfl (by decide +kernel) rfl rfl (Nat.le_of_ble_eq_true rfl) dX1_init_80 (fun H locs hP hD hS => ?_)
  have hP : va_P D vwCl [(h0, .inr (1, [.ref p1, .null, .null, .ref q7, .ref q15, .ref q23, .ref q32, .ref q40, .ref q48, .int 0, .int 0, .int 0, .int 0, .int 0])), (q7, .inl (c7, 43008, .inl (fun _ => 0))), (q15, .inl (c15, 43008, .inl (fun _ => 0))), (q23, .inl (c23, 42, .inl (fun _ => 0))), (q32, .inl (c32, 210, .inl (fun _ => 0))), (q40, .inl (c40, 25, .inl (fun _ => 0))), (q48, .inl (c48, 25, .inl (fun _ => 0)))] H := hP
  have hD : va_D A [(h0, .inr (1, [.ref p1, .null, .null, .ref q7, .ref q15, .ref q23, .ref q32, .ref q40, .ref q48, .int 0, .int 0, .int 0, .int 0, .int 0])), (q7, .inl (c7, 43008, .inl (fun _ => 0))), (q15, .inl (c15, 43008, .inl (fun _ => 0))), (q23, .inl (c23, 42, .inl (fun _ => 0))), (q32, .inl (c32, 210, .inl (fun _ => 0))), (q40, .inl (c40, 25, .inl (fun _ => 0))), (q48, .inl (c48, 25, .inl (fun _ => 0)))] := hD
  refine lv_aload_n hx hb dX1_init_83 rfl (lv_at hl 0 rfl) ?_
  refine lv_aload_n hx hb dX1_init_84 rfl (lv_at hl 2 rfl) ?_
  refine va_putF (D := D) (ci := 1) (v := .ref p2) (ty := .object "ResourceEnds$Steps") (C := RX1) (T := TX1) (N := 14) hx hb hW inX1G tyX1 tyX1_ok nmX1 hown hK hP hD hS 0 rfl rfl 1 (by decide) (hW _ vg33) (fun _ h9 => h9) rfl hin rfl (by decide +kernel) rfl rfl (Nat.le_of_ble_eq_true rfl) dX1_init_85 (fun H locs hP hD hS => ?_)
  have hP : va_P D vwCl [(h0, .inr (1, [.ref p1, .ref p2, .null, .ref q7, .ref q15, .ref q23, .ref q32, .ref q40, .ref q48, .int 0, .int 0, .int 0, .int 0, .int 0])), (q7, .inl (c7, 43008, .inl (fun _ => 0))), (q15, .inl (c15, 43008, .inl (fun _ => 0))), (q23, .inl (c23, 42, .inl (fun _ => 0))), (q32, .inl (c32, 210, .inl (fun _ => 0))), (q40, .inl (c40, 25, .inl (fun _ => 0))), (q48, .inl (c48, 25, .inl (fun _ => 0)))] H := hP
  have hD : va_D A [(h0, .inr (1, [.ref p1, .ref p2, .null, .ref q7, .ref q15, .ref q23, .ref q32, .ref q40, .ref q48, .int 0, .int 0, .int 0, .int 0, .int 0])), (q7, .inl (c7, 43008, .inl (fun _ => 0))), (q15, .inl (c15, 43008, .inl (fun _ => 0))), (q23, .inl (c23, 42, .inl (fun _ => 0))), (q32, .inl (c32, 210, .inl (fun _ => 0))), (q40, .inl (c40, 25, .inl (fun _ => 0))), (q48, .inl (c48, 25, .inl (fun _ => 0)))] := hD
  refine lv_aload_n hx hb dX1_init_88 rfl (lv_at hl 0 rfl) ?_
  refine lv_aload_n hx hb dX1_init_89 rfl (lv_at hl 3 rfl) ?_
  refine va_putF (D := D) (ci := 1) (v := .ref p3) (ty := .object "ResourceEnds$Moves") (C := RX1) (T := TX1) (N := 14) hx hb hW inX1G tyX1 tyX1_ok nmX1 hown hK hP hD hS 0 rfl rfl 2 (by decide) (hW _ vg34) (fun _ h9 => h9) rfl hin rfl (by decide +kernel) rfl rfl (Nat.le_of_ble_eq_true rfl) dX1_init_90 (fun H locs hP hD hS => ?_)
  have hP : va_P D vwCl [(h0, .inr (1, [.ref p1, .ref p2, .ref p3, .ref q7, .ref q15, .ref q23, .ref q32, .ref q40, .ref q48, .int 0, .int 0, .int 0, .int 0, .int 0])), (q7, .inl (c7, 43008, .inl (fun _ => 0))), (q15, .inl (c15, 43008, .inl (fun _ => 0))), (q23, .inl (c23, 42, .inl (fun _ => 0))), (q32, .inl (c32, 210, .inl (fun _ => 0))), (q40, .inl (c40, 25, .inl (fun _ => 0))), (q48, .inl (c48, 25, .inl (fun _ => 0)))] H := hP
  have hD : va_D A [(h0, .inr (1, [.ref p1, .ref p2, .ref p3, .ref q7, .ref q15, .ref q23, .ref q32, .ref q40, .ref q48, .int 0, .int 0, .int 0, .int 0, .int 0])), (q7, .inl (c7, 43008, .inl (fun _ => 0))), (q15, .inl (c15, 43008, .inl (fun _ => 0))), (q23, .inl (c23, 42, .inl (fun _ => 0))), (q32, .inl (c32, 210, .inl (fun _ => 0))), (q40, .inl (c40, 25, .inl (fun _ => 0))), (q48, .inl (c48, 25, .inl (fun _ => 0)))] := hD
  have hP9 := hP
  have hD9 := hD
  have hK9 := hK
  exact W.vret hx hb hr (fun t ht hW9 => ⟨⟨(), rfl, trivial, q7, q15, q23, q32, q40, q48, c7, c15, c23, c32, c40, c48, by rw [ht]; exact hP9, va_K.moved hW9.alike hK9, hD9⟩, hS.F ht⟩) hS.2.2 dX1_init_93 hlocks
set_option maxHeartbeats 4000000 in
set_option maxRecDepth 100000 in
theorem kX4_init (l : Launch) (D : va_G) (h0 : Nat) (sz : Nat) : Met l yX4_init ((Cond.code yX4_init cX4_init 1 none) :: WG) ({ frames := 1, cells := 1, slots := 100, locals := 12 } : Room) (Pz D sz [(h0, .inr (4, [.null, .int 0, .int 0, .int 0, .int 0, .int 0, .int 0]))] [.ref h0]) (va_Qv (S := Unit) (fun _ => True) (fun _ t => ∃ (q7 : Nat) (c7 : ClassId), va_P D vwCl [(h0, .inr (4, [.ref q7, .int 0, .int 0, .int 0, .int 0, .int 0, .int 0])), (q7, .inl (c7, 100, .inl (fun _ => 0)))] t.heap ∧ va_K D vwCl [(c7, .int)] t ∧ va_D (va_A [(h0, .inr (4, [.null, .int 0, .int 0, .int 0, .int 0, .int 0, .int 0]))] sz) [(h0, .inr (4, [.ref q7, .int 0, .int 0, .int 0, .int 0, .int 0, .int 0])), (q7, .inl (c7, 100, .inl (fun _ => 0)))]) (va_A [(h0, .inr (4, [.null, .int 0, .int 0, .int 0, .int 0, .int 0, .int 0]))] sz)) 1 100 (va_A [(h0, .inr (4, [.null, .int 0, .int 0, .int 0, .int 0, .int 0, .int 0]))] sz) := by
  refine Met.ofW (cc := cX4_init) (maxL := 1) (ret := none) (by decide) rfl ?_
  intro p e s m args below meth c s₁ B hml hv
  obtain ⟨rfl, hsz, hP, ⟨hK, hNW⟩, hD0⟩ := hv
  have hx := B.exec
  have hb := B.bytes
  have hr := B.returns
  have hts := atoms_spec (ws := (Cond.code yX4_init cX4_init 1 none) :: WG) B.pre
  have hW : ∀ w ∈ WG, w.before _ s = true := fun w h => hts w (List.mem_cons_of_mem _ h)
  have hown : s.vm.findClass RX4 = some m.cls := findClass_of_methodNamed B.named
  have hlocks := B.notSynchronized
  have hin : meth.name = "<init>" := (name_of_methodNamed B.named B.method).1
  subst hsz
  have hD := hD0.self (sz := s.heap.size)
  generalize hAe : va_A [(h0, .inr (4, [.null, .int 0, .int 0, .int 0, .int 0, .int 0, .int 0]))] s.heap.size = A at hD ⊢
  have hA : ∀ q : Nat, s.heap.size ≤ q → A q := fun q h => by rw [← hAe]; exact Or.inr h
  have hS : va_S A s.heap s.heap [] := va_S.rf
  have hl := lv_entry ([.ref h0]) (n := 1) (Nat.le_of_ble_eq_true rfl)
  rw [lg_entry_eq]
  generalize (lg_sl ([.ref h0]) ++ List.replicate (1 - (lg_sl ([.ref h0])).length) Slot.unset).toArray = ls at hl ⊢
  have hl : lv_has ls 1 [(0, .ref h0)] := hl
  refine lv_aload_n hx hb dX4_init_0 rfl (lv_at hl 0 rfl) ?_
  refine W.objInit hx hb hown (hW _ vg35) (hW _ vg1) (hW _ vg2) rfl (by rw [hml]; exact hl.1) rfl dX4_init_1 (Nat.le_of_ble_eq_true rfl) (Nat.le_of_ble_eq_true rfl) ?_
  refine W.eq (g2 := F0 m 4 ls []) rfl ?_
  refine lv_aload_n hx hb dX4_init_4 rfl (lv_at hl 0 rfl) ?_
  refine lv_bipush (v := 100) hx hb dX4_init_5 (by decide) ?_
  refine va_newa (D := D) (cl := vwCl) (atype := .int) (ty := .int) (a0 := (100, .inl (fun _ => 0))) (N' := 100) hx hb (hW _ vg3) rfl hK hP hD hS hA (fun cA => rfl) (by decide) (by decide) (Nat.le_of_ble_eq_true rfl) (Nat.le_of_ble_eq_true rfl) (Nat.le_of_ble_eq_true rfl) dX4_init_7 (fun q7 c7 H hK hP hD hS => ?_)
  have hP : va_P D vwCl [(h0, .inr (4, [.null, .int 0, .int 0, .int 0, .int 0, .int 0, .int 0])), (q7, .inl (c7, 100, .inl (fun _ => 0)))] H := hP
  have hD : va_D A [(h0, .inr (4, [.null, .int 0, .int 0, .int 0, .int 0, .int 0, .int 0])), (q7, .inl (c7, 100, .inl (fun _ => 0)))] := hD
  have hK : va_K D vwCl [(c7, .int)] s := hK
  refine W.widen (k := 1) (n := 100) (Nat.le_of_ble_eq_true rfl) (Nat.le_of_ble_eq_true rfl) ?_
  refine va_putF (D := D) (ci := 4) (v := .ref q7) (ty := .array .int) (C := RX4) (T := TX4) (N := 7) hx hb hW inX4G tyX4 tyX4_ok nmX4 hown hK hP hD hS 0 rfl rfl 0 (by decide) (hW _ vg36) (fun _ h9 => h9) rfl hin rfl (by decide +kernel) rfl rfl (Nat.le_of_ble_eq_true rfl) dX4_init_9 (fun H locs hP hD hS => ?_)
  have hP : va_P D vwCl [(h0, .inr (4, [.ref q7, .int 0, .int 0, .int 0, .int 0, .int 0, .int 0])), (q7, .inl (c7, 100, .inl (fun _ => 0)))] H := hP
  have hD : va_D A [(h0, .inr (4, [.ref q7, .int 0, .int 0, .int 0, .int 0, .int 0, .int 0])), (q7, .inl (c7, 100, .inl (fun _ => 0)))] := hD
  refine lv_aload_n hx hb dX4_init_12 rfl (lv_at hl 0 rfl) ?_
  refine lv_iconst (v := 0) hx hb dX4_init_13 (by decide) ?_
  refine va_put (D := D) (ci := 4) (v := .int 0) (ty := .boolean) (C := RX4) (T := TX4) (N := 7) hx hb hW inX4G tyX4 tyX4_ok nmX4 hown hK hP hD hS 0 rfl rfl 1 (by decide) (hW _ vg37) (fun _ h9 => h9) rfl (by decide +kernel) rfl rfl (Nat.le_of_ble_eq_true rfl) dX4_init_14 (fun H locs hP hD hS => ?_)
  have hP : va_P D vwCl [(h0, .inr (4, [.ref q7, .int 0, .int 0, .int 0, .int 0, .int 0, .int 0])), (q7, .inl (c7, 100, .inl (fun _ => 0)))] H := hP
  have hD : va_D A [(h0, .inr (4, [.ref q7, .int 0, .int 0, .int 0, .int 0, .int 0, .int 0])), (q7, .inl (c7, 100, .inl (fun _ => 0)))] := hD
  refine lv_aload_n hx hb dX4_init_17 rfl (lv_at hl 0 rfl) ?_
  refine lv_iconst (v := 0) hx hb dX4_init_18 (by decide) ?_
  refine va_put (D := D) (ci := 4) (v := .int 0) (ty := .int) (C := RX4) (T := TX4) (N := 7) hx hb hW inX4G tyX4 tyX4_ok nmX4 hown hK hP hD hS 0 rfl rfl 2 (by decide) (hW _ vg38) (fun _ h9 => h9) rfl (by decide +kernel) rfl rfl (Nat.le_of_ble_eq_true rfl) dX4_init_19 (fun H locs hP hD hS => ?_)
  have hP : va_P D vwCl [(h0, .inr (4, [.ref q7, .int 0, .int 0, .int 0, .int 0, .int 0, .int 0])), (q7, .inl (c7, 100, .inl (fun _ => 0)))] H := hP
  have hD : va_D A [(h0, .inr (4, [.ref q7, .int 0, .int 0, .int 0, .int 0, .int 0, .int 0])), (q7, .inl (c7, 100, .inl (fun _ => 0)))] := hD
  refine lv_aload_n hx hb dX4_init_22 rfl (lv_at hl 0 rfl) ?_
  refine lv_iconst (v := 0) hx hb dX4_init_23 (by decide) ?_
  refine va_put (D := D) (ci := 4) (v := .int 0) (ty := .int) (C := RX4) (T := TX4) (N := 7) hx hb hW inX4G tyX4 tyX4_ok nmX4 hown hK hP hD hS 0 rfl rfl 3 (by decide) (hW _ vg39) (fun _ h9 => h9) rfl (by decide +kernel) rfl rfl (Nat.le_of_ble_eq_true rfl) dX4_init_24 (fun H locs hP hD hS => ?_)
  have hP : va_P D vwCl [(h0, .inr (4, [.ref q7, .int 0, .int 0, .int 0, .int 0, .int 0, .int 0])), (q7, .inl (c7, 100, .inl (fun _ => 0)))] H := hP
  have hD : va_D A [(h0, .inr (4, [.ref q7, .int 0, .int 0, .int 0, .int 0, .int 0, .int 0])), (q7, .inl (c7, 100, .inl (fun _ => 0)))] := hD
  refine lv_aload_n hx hb dX4_init_27 rfl (lv_at hl 0 rfl) ?_
  refine lv_iconst (v := 0) hx hb dX4_init_28 (by decide) ?_
  refine va_put (D := D) (ci := 4) (v := .int 0) (ty := .int) (C := RX4) (T := TX4) (N := 7) hx hb hW inX4G tyX4 tyX4_ok nmX4 hown hK hP hD hS 0 rfl rfl 4 (by decide) (hW _ vg40) (fun _ h9 => h9) rfl (by decide +kernel) rfl rfl (Nat.le_of_ble_eq_true rfl) dX4_init_29 (fun H locs hP hD hS => ?_)
  have hP : va_P D vwCl [(h0, .inr (4, [.ref q7, .int 0, .int 0, .int 0, .int 0, .int 0, .int 0])), (q7, .inl (c7, 100, .inl (fun _ => 0)))] H := hP
  have hD : va_D A [(h0, .inr (4, [.ref q7, .int 0, .int 0, .int 0, .int 0, .int 0, .int 0])), (q7, .inl (c7, 100, .inl (fun _ => 0)))] := hD
  refine lv_aload_n hx hb dX4_init_32 rfl (lv_at hl 0 rfl) ?_
  refine lv_iconst (v := 0) hx hb dX4_init_33 (by decide) ?_
  refine va_put (D := D) (ci := 4) (v := .int 0) (ty := .int) (C := RX4) (T := TX4) (N := 7) hx hb hW inX4G tyX4 tyX4_ok nmX4 hown hK hP hD hS 0 rfl rfl 5 (by decide) (hW _ vg41) (fun _ h9 => h9) rfl (by decide +kernel) rfl rfl (Nat.le_of_ble_eq_true rfl) dX4_init_34 (fun H locs hP hD hS => ?_)
  have hP : va_P D vwCl [(h0, .inr (4, [.ref q7, .int 0, .int 0, .int 0, .int 0, .int 0, .int 0])), (q7, .inl (c7, 100, .inl (fun _ => 0)))] H := hP
  have hD : va_D A [(h0, .inr (4, [.ref q7, .int 0, .int 0, .int 0, .int 0, .int 0, .int 0])), (q7, .inl (c7, 100, .inl (fun _ => 0)))] := hD
  refine lv_aload_n hx hb dX4_init_37 rfl (lv_at hl 0 rfl) ?_
  refine lv_iconst (v := 0) hx hb dX4_init_38 (by decide) ?_
  refine va_put (D := D) (ci := 4) (v := .int 0) (ty := .int) (C := RX4) (T := TX4) (N := 7) hx hb hW inX4G tyX4 tyX4_ok nmX4 hown hK hP hD hS 0 rfl rfl 6 (by decide) (hW _ vg42) (fun _ h9 => h9) rfl (by decide +kernel) rfl rfl (Nat.le_of_ble_eq_true rfl) dX4_init_39 (fun H locs hP hD hS => ?_)
  have hP : va_P D vwCl [(h0, .inr (4, [.ref q7, .int 0, .int 0, .int 0, .int 0, .int 0, .int 0])), (q7, .inl (c7, 100, .inl (fun _ => 0)))] H := hP
  have hD : va_D A [(h0, .inr (4, [.ref q7, .int 0, .int 0, .int 0, .int 0, .int 0, .int 0])), (q7, .inl (c7, 100, .inl (fun _ => 0)))] := hD
  have hP9 := hP
  have hD9 := hD
  have hK9 := hK
  exact W.vret hx hb hr (fun t ht hW9 => ⟨⟨(), rfl, trivial, q7, c7, by rw [ht]; exact hP9, va_K.moved hW9.alike hK9, hD9⟩, hS.F ht⟩) hS.2.2 dX4_init_42 hlocks
set_option maxHeartbeats 4000000 in
set_option maxRecDepth 100000 in
theorem kX5_init (l : Launch) (D : va_G) (h0 : Nat) (sz : Nat) : Met l yX5_init ((Cond.code yX5_init cX5_init 1 none) :: WG) ({ frames := 2, cells := 20, slots := 86666, locals := 35 } : Room) (Pz D sz [(h0, .inr (5, [.null, .null, .null, .null, .null, .int 0]))] [.ref h0]) (va_Qv (S := Unit) (fun _ => True) (fun _ t => ∃ (a : Nat → Nat) (k : Nat → ClassId), a 0 = h0 ∧ va_P D vwCl (wX a k z0) t.heap ∧ va_K D vwCl (tX k) t ∧ va_D (va_A [(h0, .inr (5, [.null, .null, .null, .null, .null, .int 0]))] sz) (wX a k z0)) (va_A [(h0, .inr (5, [.null, .null, .null, .null, .null, .int 0]))] sz)) 20 86666 (va_A [(h0, .inr (5, [.null, .null, .null, .null, .null, .int 0]))] sz) := by
  refine Met.ofW (cc := cX5_init) (maxL := 1) (ret := none) (by decide) rfl ?_
  intro p e s m args below meth c s₁ B hml hv
  obtain ⟨rfl, hsz, hP, ⟨hK, hNW⟩, hD0⟩ := hv
  have hx := B.exec
  have hb := B.bytes
  have hr := B.returns
  have hts := atoms_spec (ws := (Cond.code yX5_init cX5_init 1 none) :: WG) B.pre
  have hW : ∀ w ∈ WG, w.before _ s = true := fun w h => hts w (List.mem_cons_of_mem _ h)
  have hown : s.vm.findClass RX5 = some m.cls := findClass_of_methodNamed B.named
  have hlocks := B.notSynchronized
  have hin : meth.name = "<init>" := (name_of_methodNamed B.named B.method).1
  subst hsz
  have hD := hD0.self (sz := s.heap.size)
  generalize hAe : va_A [(h0, .inr (5, [.null, .null, .null, .null, .null, .int 0]))] s.heap.size = A at hD ⊢
  have hA : ∀ q : Nat, s.heap.size ≤ q → A q := fun q h => by rw [← hAe]; exact Or.inr h
  have hS : va_S A s.heap s.heap [] := va_S.rf
  have hl := lv_entry ([.ref h0]) (n := 1) (Nat.le_of_ble_eq_true rfl)
  rw [lg_entry_eq]
  generalize (lg_sl ([.ref h0]) ++ List.replicate (1 - (lg_sl ([.ref h0])).length) Slot.unset).toArray = ls at hl ⊢
  have hl : lv_has ls 1 [(0, .ref h0)] := hl
  refine lv_aload_n hx hb dX5_init_0 rfl (lv_at hl 0 rfl) ?_
  refine W.objInit hx hb hown (hW _ vg43) (hW _ vg1) (hW _ vg2) rfl (by rw [hml]; exact hl.1) rfl dX5_init_1 (Nat.le_of_ble_eq_true rfl) (Nat.le_of_ble_eq_true rfl) ?_
  refine W.eq (g2 := F0 m 4 ls []) rfl ?_
  refine lv_aload_n hx hb dX5_init_4 rfl (lv_at hl 0 rfl) ?_
  refine va_new (ci := 3) (fs := [.null, .null, .null, .int 0]) (C := RX3) (T := TX3) (N := 4) hx hb hW inX3G tyX3 tyX3_ok hown (hW _ vg44) (hW _ vg45) (hW _ vg46) hK hP hD hS hA rfl (fun j hj => by rcases (show j = 0 ∨ j = 1 ∨ j = 2 ∨ j = 3 by omega) with rfl | rfl | rfl | rfl <;> rfl) (Nat.le_of_ble_eq_true rfl) (Nat.le_of_ble_eq_true rfl) dX5_init_5 (fun q5 H hP hD hS => ?_)
  have hP : va_P D vwCl [(h0, .inr (5, [.null, .null, .null, .null, .null, .int 0])), (q5, .inr (3, [.null, .null, .null, .int 0]))] H := hP
  have hD : va_D A [(h0, .inr (5, [.null, .null, .null, .null, .null, .int 0])), (q5, .inr (3, [.null, .null, .null, .int 0]))] := hD
  refine W.widen (k := 1) (n := 4) (Nat.le_of_ble_eq_true rfl) (Nat.le_of_ble_eq_true rfl) ?_
  refine lv_dup hx hb dX5_init_8 rfl ?_
  have hPc := hP.sub (ws' := [(q5, .inr (3, [.null, .null, .null, .int 0]))]) [1] rfl
  have hDc := hD.sub (ws' := [(q5, .inr (3, [.null, .null, .null, .int 0]))]) [1] (by decide) rfl
  have hKc := hK.sub (tys' := []) [] rfl
  have hFc := va_free (wc := [(q5, .inr (3, [.null, .null, .null, .int 0]))]) hD hS hA [1] rfl
  refine va_callv (va_runIN (As := []) (rest := [.ref q5, .ref h0]) ⟨hx, hb, hml, hown, hts⟩ (kX3_init l D q5  H.size) ⟨va_cnB 0 hts (wg_c vg47) rfl rfl rfl (hNW _ vn48) (hW _ vg46) hdX3_init ⟨Nat.le_of_ble_eq_true rfl, Nat.le_of_ble_eq_true rfl⟩, rfl, hW _ vg49⟩ (pz_S hKc hNW hPc (hDc.weaken (fun _ _ _ _ => trivial))) rfl rfl hl.1 rfl (lv_room (Nat.le_of_ble_eq_true rfl)) dX5_init_9 ⟨Nat.le_of_ble_eq_true rfl, Nat.le_of_ble_eq_true rfl⟩) hS (fun q _ h => hFc q h) hFc (fun u t H1 locs ht hvm hw hB hz1 hk1 hS => ?_)
  obtain ⟨q6_9, q13_9, q20_9, c6_9, c13_9, c20_9, hP1, hK1, hD1⟩ := hB
  rw [ht] at hP1
  have hK1 := va_K.moved hvm.symm hK1
  obtain ⟨hP, hD⟩ := va_join (wr := [(h0, .inr (5, [.null, .null, .null, .null, .null, .int 0]))]) (w1 := [(q5, .inr (3, [.ref q6_9, .ref q13_9, .ref q20_9, .int 0])), (q6_9, .inl (c6_9, 5, .inl (fun _ => 0))), (q13_9, .inl (c13_9, 5, .inl (fun _ => 0))), (q20_9, .inl (c20_9, 5, .inl (fun _ => 0)))]) hP hD [1] [0] rfl rfl (by decide) (by decide) hk1 hFc hP1 hD1
  have hK := (hK.sub (tys' := []) [] rfl).app hK1
  generalize H1 = H at hP hS ⊢
  have hP : va_P D vwCl [(h0, .inr (5, [.null, .null, .null, .null, .null, .int 0])), (q5, .inr (3, [.ref q6_9, .ref q13_9, .ref q20_9, .int 0])), (q6_9, .inl (c6_9, 5, .inl (fun _ => 0))), (q13_9, .inl (c13_9, 5, .inl (fun _ => 0))), (q20_9, .inl (c20_9, 5, .inl (fun _ => 0)))] H := hP
  have hD : va_D A [(h0, .inr (5, [.null, .null, .null, .null, .null, .int 0])), (q5, .inr (3, [.ref q6_9, .ref q13_9, .ref q20_9, .int 0])), (q6_9, .inl (c6_9, 5, .inl (fun _ => 0))), (q13_9, .inl (c13_9, 5, .inl (fun _ => 0))), (q20_9, .inl (c20_9, 5, .inl (fun _ => 0)))] := hD
  have hK : va_K D vwCl [(c6_9, .int), (c13_9, .boolean), (c20_9, .int)] s := hK
  refine W.widen (k := 4) (n := 19) (Nat.le_of_ble_eq_true rfl) (Nat.le_of_ble_eq_true rfl) ?_
  refine va_putF (D := D) (ci := 5) (v := .ref q5) (ty := .object "ResourceEnds$Things") (C := RX5) (T := TX5) (N := 6) hx hb hW inX5G tyX5 tyX5_ok nmX5 hown hK hP hD hS 0 rfl rfl 0 (by decide) (hW _ vg50) (fun _ h9 => h9) rfl hin rfl (by decide +kernel) rfl rfl (Nat.le_of_ble_eq_true rfl) dX5_init_12 (fun H locs hP hD hS => ?_)
  have hP : va_P D vwCl [(h0, .inr (5, [.ref q5, .null, .null, .null, .null, .int 0])), (q5, .inr (3, [.ref q6_9, .ref q13_9, .ref q20_9, .int 0])), (q6_9, .inl (c6_9, 5, .inl (fun _ => 0))), (q13_9, .inl (c13_9, 5, .inl (fun _ => 0))), (q20_9, .inl (c20_9, 5, .inl (fun _ => 0)))] H := hP
  have hD : va_D A [(h0, .inr (5, [.ref q5, .null, .null, .null, .null, .int 0])), (q5, .inr (3, [.ref q6_9, .ref q13_9, .ref q20_9, .int 0])), (q6_9, .inl (c6_9, 5, .inl (fun _ => 0))), (q13_9, .inl (c13_9, 5, .inl (fun _ => 0))), (q20_9, .inl (c20_9, 5, .inl (fun _ => 0)))] := hD
  refine lv_aload_n hx hb dX5_init_15 rfl (lv_at hl 0 rfl) ?_
  refine va_new (ci := 2) (fs := [.null, .null, .null, .null, .null, .int 0]) (C := RX2) (T := TX2) (N := 6) hx hb hW inX2G tyX2 tyX2_ok hown (hW _ vg51) (hW _ vg52) (hW _ vg53) hK hP hD hS hA rfl (fun j hj => by rcases (show j = 0 ∨ j = 1 ∨ j = 2 ∨ j = 3 ∨ j = 4 ∨ j = 5 by omega) with rfl | rfl | rfl | rfl | rfl | rfl <;> rfl) (Nat.le_of_ble_eq_true rfl) (Nat.le_of_ble_eq_true rfl) dX5_init_16 (fun q16 H hP hD hS => ?_)
  have hP : va_P D vwCl [(h0, .inr (5, [.ref q5, .null, .null, .null, .null, .int 0])), (q5, .inr (3, [.ref q6_9, .ref q13_9, .ref q20_9, .int 0])), (q6_9, .inl (c6_9, 5, .inl (fun _ => 0))), (q13_9, .inl (c13_9, 5, .inl (fun _ => 0))), (q20_9, .inl (c20_9, 5, .inl (fun _ => 0))), (q16, .inr (2, [.null, .null, .null, .null, .null, .int 0]))] H := hP
  have hD : va_D A [(h0, .inr (5, [.ref q5, .null, .null, .null, .null, .int 0])), (q5, .inr (3, [.ref q6_9, .ref q13_9, .ref q20_9, .int 0])), (q6_9, .inl (c6_9, 5, .inl (fun _ => 0))), (q13_9, .inl (c13_9, 5, .inl (fun _ => 0))), (q20_9, .inl (c20_9, 5, .inl (fun _ => 0))), (q16, .inr (2, [.null, .null, .null, .null, .null, .int 0]))] := hD
  refine W.widen (k := 5) (n := 25) (Nat.le_of_ble_eq_true rfl) (Nat.le_of_ble_eq_true rfl) ?_
  refine lv_dup hx hb dX5_init_19 rfl ?_
  have hPc := hP.sub (ws' := [(q16, .inr (2, [.null, .null, .null, .null, .null, .int 0]))]) [5] rfl
  have hDc := hD.sub (ws' := [(q16, .inr (2, [.null, .null, .null, .null, .null, .int 0]))]) [5] (by decide) rfl
  have hKc := hK.sub (tys' := []) [] rfl
  have hFc := va_free (wc := [(q16, .inr (2, [.null, .null, .null, .null, .null, .int 0]))]) hD hS hA [5] rfl
  refine va_callv (va_runIN (As := []) (rest := [.ref q16, .ref h0]) ⟨hx, hb, hml, hown, hts⟩ (kX2_init l D q16  H.size) ⟨va_cnB 0 hts (wg_c vg54) rfl rfl rfl (hNW _ vn55) (hW _ vg53) hdX2_init ⟨Nat.le_of_ble_eq_true rfl, Nat.le_of_ble_eq_true rfl⟩, rfl, hW _ vg56⟩ (pz_S hKc hNW hPc (hDc.weaken (fun _ _ _ _ => trivial))) rfl rfl hl.1 rfl (lv_room (Nat.le_of_ble_eq_true rfl)) dX5_init_20 ⟨Nat.le_of_ble_eq_true rfl, Nat.le_of_ble_eq_true rfl⟩) hS (fun q _ h => hFc q h) hFc (fun u t H1 locs ht hvm hw hB hz1 hk1 hS => ?_)
  obtain ⟨q7_20, q15_20, q23_20, q31_20, q39_20, c7_20, c15_20, c23_20, c31_20, c39_20, hP1, hK1, hD1⟩ := hB
  rw [ht] at hP1
  have hK1 := va_K.moved hvm.symm hK1
  obtain ⟨hP, hD⟩ := va_join (wr := [(h0, .inr (5, [.ref q5, .null, .null, .null, .null, .int 0])), (q5, .inr (3, [.ref q6_9, .ref q13_9, .ref q20_9, .int 0])), (q6_9, .inl (c6_9, 5, .inl (fun _ => 0))), (q13_9, .inl (c13_9, 5, .inl (fun _ => 0))), (q20_9, .inl (c20_9, 5, .inl (fun _ => 0)))]) (w1 := [(q16, .inr (2, [.ref q7_20, .ref q15_20, .ref q23_20, .ref q31_20, .ref q39_20, .int 0])), (q7_20, .inl (c7_20, 40, .inl (fun _ => 0))), (q15_20, .inl (c15_20, 40, .inl (fun _ => 0))), (q23_20, .inl (c23_20, 40, .inl (fun _ => 0))), (q31_20, .inl (c31_20, 40, .inl (fun _ => 0))), (q39_20, .inl (c39_20, 40, .inl (fun _ => 0)))]) hP hD [5] [0, 1, 2, 3, 4] rfl rfl (by decide) (by decide) hk1 hFc hP1 hD1
  have hK := (hK.sub (tys' := [(c6_9, .int), (c13_9, .boolean), (c20_9, .int)]) [0, 1, 2] rfl).app hK1
  generalize H1 = H at hP hS ⊢
  have hP : va_P D vwCl [(h0, .inr (5, [.ref q5, .null, .null, .null, .null, .int 0])), (q5, .inr (3, [.ref q6_9, .ref q13_9, .ref q20_9, .int 0])), (q6_9, .inl (c6_9, 5, .inl (fun _ => 0))), (q13_9, .inl (c13_9, 5, .inl (fun _ => 0))), (q20_9, .inl (c20_9, 5, .inl (fun _ => 0))), (q16, .inr (2, [.ref q7_20, .ref q15_20, .ref q23_20, .ref q31_20, .ref q39_20, .int 0])), (q7_20, .inl (c7_20, 40, .inl (fun _ => 0))), (q15_20, .inl (c15_20, 40, .inl (fun _ => 0))), (q23_20, .inl (c23_20, 40, .inl (fun _ => 0))), (q31_20, .inl (c31_20, 40, .inl (fun _ => 0))), (q39_20, .inl (c39_20, 40, .inl (fun _ => 0)))] H := hP
  have hD : va_D A [(h0, .inr (5, [.ref q5, .null, .null, .null, .null, .int 0])), (q5, .inr (3, [.ref q6_9, .ref q13_9, .ref q20_9, .int 0])), (q6_9, .inl (c6_9, 5, .inl (fun _ => 0))), (q13_9, .inl (c13_9, 5, .inl (fun _ => 0))), (q20_9, .inl (c20_9, 5, .inl (fun _ => 0))), (q16, .inr (2, [.ref q7_20, .ref q15_20, .ref q23_20, .ref q31_20, .ref q39_20, .int 0])), (q7_20, .inl (c7_20, 40, .inl (fun _ => 0))), (q15_20, .inl (c15_20, 40, .inl (fun _ => 0))), (q23_20, .inl (c23_20, 40, .inl (fun _ => 0))), (q31_20, .inl (c31_20, 40, .inl (fun _ => 0))), (q39_20, .inl (c39_20, 40, .inl (fun _ => 0)))] := hD
  have hK : va_K D vwCl [(c6_9, .int), (c13_9, .boolean), (c20_9, .int), (c7_20, .int), (c15_20, .int), (c23_20, .int), (c31_20, .boolean), (c39_20, .int)] s := hK
  refine W.widen (k := 10) (n := 225) (Nat.le_of_ble_eq_true rfl) (Nat.le_of_ble_eq_true rfl) ?_
  refine va_putF (D := D) (ci := 5) (v := .ref q16) (ty := .object "ResourceEnds$Steps") (C := RX5) (T := TX5) (N := 6) hx hb hW inX5G tyX5 tyX5_ok nmX5 hown hK hP hD hS 0 rfl rfl 1 (by decide) (hW _ vg57) (fun _ h9 => h9) rfl hin rfl (by decide +kernel) rfl rfl (Nat.le_of_ble_eq_true rfl) dX5_init_23 (fun H locs hP hD hS => ?_)
  have hP : va_P D vwCl [(h0, .inr (5, [.ref q5, .ref q16, .null, .null, .null, .int 0])), (q5, .inr (3, [.ref q6_9, .ref q13_9, .ref q20_9, .int 0])), (q6_9, .inl (c6_9, 5, .inl (fun _ => 0))), (q13_9, .inl (c13_9, 5, .inl (fun _ => 0))), (q20_9, .inl (c20_9, 5, .inl (fun _ => 0))), (q16, .inr (2, [.ref q7_20, .ref q15_20, .ref q23_20, .ref q31_20, .ref q39_20, .int 0])), (q7_20, .inl (c7_20, 40, .inl (fun _ => 0))), (q15_20, .inl (c15_20, 40, .inl (fun _ => 0))), (q23_20, .inl (c23_20, 40, .inl (fun _ => 0))), (q31_20, .inl (c31_20, 40, .inl (fun _ => 0))), (q39_20, .inl (c39_20, 40, .inl (fun _ => 0)))] H := hP
  have hD : va_D A [(h0, .inr (5, [.ref q5, .ref q16, .null, .null, .null, .int 0])), (q5, .inr (3, [.ref q6_9, .ref q13_9, .ref q20_9, .int 0])), (q6_9, .inl (c6_9, 5, .inl (fun _ => 0))), (q13_9, .inl (c13_9, 5, .inl (fun _ => 0))), (q20_9, .inl (c20_9, 5, .inl (fun _ => 0))), (q16, .inr (2, [.ref q7_20, .ref q15_20, .ref q23_20, .ref q31_20, .ref q39_20, .int 0])), (q7_20, .inl (c7_20, 40, .inl (fun _ => 0))), (q15_20, .inl (c15_20, 40, .inl (fun _ => 0))), (q23_20, .inl (c23_20, 40, .inl (fun _ => 0))), (q31_20, .inl (c31_20, 40, .inl (fun _ => 0))), (q39_20, .inl (c39_20, 40, .inl (fun _ => 0)))] := hD
  refine lv_aload_n hx hb dX5_init_26 rfl (lv_at hl 0 rfl) ?_
  refine va_new (ci := 0) (fs := [.null, .null]) (C := RX0) (T := TX0) (N := 2) hx hb hW inX0G tyX0 tyX0_ok hown (hW _ vg58) (hW _ vg59) (hW _ vg60) hK hP hD hS hA rfl (fun j hj => by rcases (show j = 0 ∨ j = 1 by omega) with rfl | rfl <;> rfl) (Nat.le_of_ble_eq_true rfl) (Nat.le_of_ble_eq_true rfl) dX5_init_27 (fun q27 H hP hD hS => ?_)
  have hP : va_P D vwCl [(h0, .inr (5, [.ref q5, .ref q16, .null, .null, .null, .int 0])), (q5, .inr (3, [.ref q6_9, .ref q13_9, .ref q20_9, .int 0])), (q6_9, .inl (c6_9, 5, .inl (fun _ => 0))), (q13_9, .inl (c13_9, 5, .inl (fun _ => 0))), (q20_9, .inl (c20_9, 5, .inl (fun _ => 0))), (q16, .inr (2, [.ref q7_20, .ref q15_20, .ref q23_20, .ref q31_20, .ref q39_20, .int 0])), (q7_20, .inl (c7_20, 40, .inl (fun _ => 0))), (q15_20, .inl (c15_20, 40, .inl (fun _ => 0))), (q23_20, .inl (c23_20, 40, .inl (fun _ => 0))), (q31_20, .inl (c31_20, 40, .inl (fun _ => 0))), (q39_20, .inl (c39_20, 40, .inl (fun _ => 0))), (q27, .inr (0, [.null, .null]))] H := hP
  have hD : va_D A [(h0, .inr (5, [.ref q5, .ref q16, .null, .null, .null, .int 0])), (q5, .inr (3, [.ref q6_9, .ref q13_9, .ref q20_9, .int 0])), (q6_9, .inl (c6_9, 5, .inl (fun _ => 0))), (q13_9, .inl (c13_9, 5, .inl (fun _ => 0))), (q20_9, .inl (c20_9, 5, .inl (fun _ => 0))), (q16, .inr (2, [.ref q7_20, .ref q15_20, .ref q23_20, .ref q31_20, .ref q39_20, .int 0])), (q7_20, .inl (c7_20, 40, .inl (fun _ => 0))), (q15_20, .inl (c15_20, 40, .inl (fun _ => 0))), (q23_20, .inl (c23_20, 40, .inl (fun _ => 0))), (q31_20, .inl (c31_20, 40, .inl (fun _ => 0))), (q39_20, .inl (c39_20, 40, .inl (fun _ => 0))), (q27, .inr (0, [.null, .null]))] := hD
  refine W.widen (k := 11) (n := 227) (Nat.le_of_ble_eq_true rfl) (Nat.le_of_ble_eq_true rfl) ?_
  refine lv_dup hx hb dX5_init_30 rfl ?_
  refine lv_aload_n hx hb dX5_init_31 rfl (lv_at hl 0 rfl) ?_
  refine va_get (D := D) (ci := 5) (v := .ref q5) (C := RX5) (T := TX5) (N := 6) hx hb hW inX5G hown hK hP 0 rfl rfl 0 (by decide) (hW _ vg50) (fun _ h9 => h9) rfl dX5_init_32 ?_
  refine lv_aload_n hx hb dX5_init_35 rfl (lv_at hl 0 rfl) ?_
  refine va_get (D := D) (ci := 5) (v := .ref q16) (C := RX5) (T := TX5) (N := 6) hx hb hW inX5G hown hK hP 0 rfl rfl 1 (by decide) (hW _ vg57) (fun _ h9 => h9) rfl dX5_init_36 ?_
  have hPc := hP.sub (ws' := [(q27, .inr (0, [.null, .null]))]) [11] rfl
  have hDc := hD.sub (ws' := [(q27, .inr (0, [.null, .null]))]) [11] (by decide) rfl
  have hKc := hK.sub (tys' := []) [] rfl
  have hFc := va_free (wc := [(q27, .inr (0, [.null, .null]))]) hD hS hA [11] rfl
  refine va_callv (va_runIN (As := [.ref q5, .ref q16]) (rest := [.ref q27, .ref h0]) ⟨hx, hb, hml, hown, hts⟩ (kX0_init l D q27 q5 q16 H.size) ⟨va_cnB 2 hts (wg_c vg61) rfl rfl rfl (hNW _ vn62) (hW _ vg60) hdX0_init ⟨Nat.le_of_ble_eq_true rfl, Nat.le_of_ble_eq_true rfl⟩, rfl, hW _ vg63⟩ (pz_S hKc hNW hPc (hDc.weaken (fun _ _ _ _ => trivial))) rfl rfl hl.1 rfl (lv_room (Nat.le_of_ble_eq_true rfl)) dX5_init_39 ⟨Nat.le_of_ble_eq_true rfl, Nat.le_of_ble_eq_true rfl⟩) hS (fun q _ h => hFc q h) hFc (fun u t H1 locs ht hvm hw hB hz1 hk1 hS => ?_)
  obtain ⟨hP1, hK1, hD1⟩ := hB
  rw [ht] at hP1
  have hK1 := va_K.moved hvm.symm hK1
  obtain ⟨hP, hD⟩ := va_join (wr := [(h0, .inr (5, [.ref q5, .ref q16, .null, .null, .null, .int 0])), (q5, .inr (3, [.ref q6_9, .ref q13_9, .ref q20_9, .int 0])), (q6_9, .inl (c6_9, 5, .inl (fun _ => 0))), (q13_9, .inl (c13_9, 5, .inl (fun _ => 0))), (q20_9, .inl (c20_9, 5, .inl (fun _ => 0))), (q16, .inr (2, [.ref q7_20, .ref q15_20, .ref q23_20, .ref q31_20, .ref q39_20, .int 0])), (q7_20, .inl (c7_20, 40, .inl (fun _ => 0))), (q15_20, .inl (c15_20, 40, .inl (fun _ => 0))), (q23_20, .inl (c23_20, 40, .inl (fun _ => 0))), (q31_20, .inl (c31_20, 40, .inl (fun _ => 0))), (q39_20, .inl (c39_20, 40, .inl (fun _ => 0)))]) (w1 := [(q27, .inr (0, [.ref q5, .ref q16]))]) hP hD [11] [0, 1, 2, 3, 4, 5, 6, 7, 8, 9, 10] rfl rfl (by decide) (by decide) hk1 hFc hP1 hD1
  have hK := (hK.sub (tys' := [(c6_9, .int), (c13_9, .boolean), (c20_9, .int), (c7_20, .int), (c15_20, .int), (c23_20, .int), (c31_20, .boolean), (c39_20, .int)]) [0, 1, 2, 3, 4, 5, 6, 7] rfl).app hK1
  generalize H1 = H at hP hS ⊢
  have hP : va_P D vwCl [(h0, .inr (5, [.ref q5, .ref q16, .null, .null, .null, .int 0])), (q5, .inr (3, [.ref q6_9, .ref q13_9, .ref q20_9, .int 0])), (q6_9, .inl (c6_9, 5, .inl (fun _ => 0))), (q13_9, .inl (c13_9, 5, .inl (fun _ => 0))), (q20_9, .inl (c20_9, 5, .inl (fun _ => 0))), (q16, .inr (2, [.ref q7_20, .ref q15_20, .ref q23_20, .ref q31_20, .ref q39_20, .int 0])), (q7_20, .inl (c7_20, 40, .inl (fun _ => 0))), (q15_20, .inl (c15_20, 40, .inl (fun _ => 0))), (q23_20, .inl (c23_20, 40, .inl (fun _ => 0))), (q31_20, .inl (c31_20, 40, .inl (fun _ => 0))), (q39_20, .inl (c39_20, 40, .inl (fun _ => 0))), (q27, .inr (0, [.ref q5, .ref q16]))] H := hP
  have hD : va_D A [(h0, .inr (5, [.ref q5, .ref q16, .null, .null, .null, .int 0])), (q5, .inr (3, [.ref q6_9, .ref q13_9, .ref q20_9, .int 0])), (q6_9, .inl (c6_9, 5, .inl (fun _ => 0))), (q13_9, .inl (c13_9, 5, .inl (fun _ => 0))), (q20_9, .inl (c20_9, 5, .inl (fun _ => 0))), (q16, .inr (2, [.ref q7_20, .ref q15_20, .ref q23_20, .ref q31_20, .ref q39_20, .int 0])), (q7_20, .inl (c7_20, 40, .inl (fun _ => 0))), (q15_20, .inl (c15_20, 40, .inl (fun _ => 0))), (q23_20, .inl (c23_20, 40, .inl (fun _ => 0))), (q31_20, .inl (c31_20, 40, .inl (fun _ => 0))), (q39_20, .inl (c39_20, 40, .inl (fun _ => 0))), (q27, .inr (0, [.ref q5, .ref q16]))] := hD
  have hK : va_K D vwCl [(c6_9, .int), (c13_9, .boolean), (c20_9, .int), (c7_20, .int), (c15_20, .int), (c23_20, .int), (c31_20, .boolean), (c39_20, .int)] s := hK
  refine W.widen (k := 11) (n := 227) (Nat.le_of_ble_eq_true rfl) (Nat.le_of_ble_eq_true rfl) ?_
  refine va_putF (D := D) (ci := 5) (v := .ref q27) (ty := .object "ResourceEnds$Moves") (C := RX5) (T := TX5) (N := 6) hx hb hW inX5G tyX5 tyX5_ok nmX5 hown hK hP hD hS 0 rfl rfl 2 (by decide) (hW _ vg64) (fun _ h9 => h9) rfl hin rfl (by decide +kernel) rfl rfl (Nat.le_of_ble_eq_true rfl) dX5_init_42 (fun H locs hP hD hS => ?_)
  have hP : va_P D vwCl [(h0, .inr (5, [.ref q5, .ref q16, .ref q27, .null, .null, .int 0])), (q5, .inr (3, [.ref q6_9, .ref q13_9, .ref q20_9, .int 0])), (q6_9, .inl (c6_9, 5, .inl (fun _ => 0))), (q13_9, .inl (c13_9, 5, .inl (fun _ => 0))), (q20_9, .inl (c20_9, 5, .inl (fun _ => 0))), (q16, .inr (2, [.ref q7_20, .ref q15_20, .ref q23_20, .ref q31_20, .ref q39_20, .int 0])), (q7_20, .inl (c7_20, 40, .inl (fun _ => 0))), (q15_20, .inl (c15_20, 40, .inl (fun _ => 0))), (q23_20, .inl (c23_20, 40, .inl (fun _ => 0))), (q31_20, .inl (c31_20, 40, .inl (fun _ => 0))), (q39_20, .inl (c39_20, 40, .inl (fun _ => 0))), (q27, .inr (0, [.ref q5, .ref q16]))] H := hP
  have hD : va_D A [(h0, .inr (5, [.ref q5, .ref q16, .ref q27, .null, .null, .int 0])), (q5, .inr (3, [.ref q6_9, .ref q13_9, .ref q20_9, .int 0])), (q6_9, .inl (c6_9, 5, .inl (fun _ => 0))), (q13_9, .inl (c13_9, 5, .inl (fun _ => 0))), (q20_9, .inl (c20_9, 5, .inl (fun _ => 0))), (q16, .inr (2, [.ref q7_20, .ref q15_20, .ref q23_20, .ref q31_20, .ref q39_20, .int 0])), (q7_20, .inl (c7_20, 40, .inl (fun _ => 0))), (q15_20, .inl (c15_20, 40, .inl (fun _ => 0))), (q23_20, .inl (c23_20, 40, .inl (fun _ => 0))), (q31_20, .inl (c31_20, 40, .inl (fun _ => 0))), (q39_20, .inl (c39_20, 40, .inl (fun _ => 0))), (q27, .inr (0, [.ref q5, .ref q16]))] := hD
  refine lv_aload_n hx hb dX5_init_45 rfl (lv_at hl 0 rfl) ?_
  refine va_new (ci := 1) (fs := [.null, .null, .null, .null, .null, .null, .null, .null, .null, .int 0, .int 0, .int 0, .int 0, .int 0]) (C := RX1) (T := TX1) (N := 14) hx hb hW inX1G tyX1 tyX1_ok hown (hW _ vg65) (hW _ vg66) (hW _ vg67) hK hP hD hS hA rfl (fun j hj => by rcases (show j = 0 ∨ j = 1 ∨ j = 2 ∨ j = 3 ∨ j = 4 ∨ j = 5 ∨ j = 6 ∨ j = 7 ∨ j = 8 ∨ j = 9 ∨ j = 10 ∨ j = 11 ∨ j = 12 ∨ j = 13 by omega) with rfl | rfl | rfl | rfl | rfl | rfl | rfl | rfl | rfl | rfl | rfl | rfl | rfl | rfl <;> rfl) (Nat.le_of_ble_eq_true rfl) (Nat.le_of_ble_eq_true rfl) dX5_init_46 (fun q46 H hP hD hS => ?_)
  have hP : va_P D vwCl [(h0, .inr (5, [.ref q5, .ref q16, .ref q27, .null, .null, .int 0])), (q5, .inr (3, [.ref q6_9, .ref q13_9, .ref q20_9, .int 0])), (q6_9, .inl (c6_9, 5, .inl (fun _ => 0))), (q13_9, .inl (c13_9, 5, .inl (fun _ => 0))), (q20_9, .inl (c20_9, 5, .inl (fun _ => 0))), (q16, .inr (2, [.ref q7_20, .ref q15_20, .ref q23_20, .ref q31_20, .ref q39_20, .int 0])), (q7_20, .inl (c7_20, 40, .inl (fun _ => 0))), (q15_20, .inl (c15_20, 40, .inl (fun _ => 0))), (q23_20, .inl (c23_20, 40, .inl (fun _ => 0))), (q31_20, .inl (c31_20, 40, .inl (fun _ => 0))), (q39_20, .inl (c39_20, 40, .inl (fun _ => 0))), (q27, .inr (0, [.ref q5, .ref q16])), (q46, .inr (1, [.null, .null, .null, .null, .null, .null, .null, .null, .null, .int 0, .int 0, .int 0, .int 0, .int 0]))] H := hP
  have hD : va_D A [(h0, .inr (5, [.ref q5, .ref q16, .ref q27, .null, .null, .int 0])), (q5, .inr (3, [.ref q6_9, .ref q13_9, .ref q20_9, .int 0])), (q6_9, .inl (c6_9, 5, .inl (fun _ => 0))), (q13_9, .inl (c13_9, 5, .inl (fun _ => 0))), (q20_9, .inl (c20_9, 5, .inl (fun _ => 0))), (q16, .inr (2, [.ref q7_20, .ref q15_20, .ref q23_20, .ref q31_20, .ref q39_20, .int 0])), (q7_20, .inl (c7_20, 40, .inl (fun _ => 0))), (q15_20, .inl (c15_20, 40, .inl (fun _ => 0))), (q23_20, .inl (c23_20, 40, .inl (fun _ => 0))), (q31_20, .inl (c31_20, 40, .inl (fun _ => 0))), (q39_20, .inl (c39_20, 40, .inl (fun _ => 0))), (q27, .inr (0, [.ref q5, .ref q16])), (q46, .inr (1, [.null, .null, .null, .null, .null, .null, .null, .null, .null, .int 0, .int 0, .int 0, .int 0, .int 0]))] := hD
  refine W.widen (k := 12) (n := 241) (Nat.le_of_ble_eq_true rfl) (Nat.le_of_ble_eq_true rfl) ?_
  refine lv_dup hx hb dX5_init_49 rfl ?_
  refine lv_aload_n hx hb dX5_init_50 rfl (lv_at hl 0 rfl) ?_
  refine va_get (D := D) (ci := 5) (v := .ref q5) (C := RX5) (T := TX5) (N := 6) hx hb hW inX5G hown hK hP 0 rfl rfl 0 (by decide) (hW _ vg50) (fun _ h9 => h9) rfl dX5_init_51 ?_
  refine lv_aload_n hx hb dX5_init_54 rfl (lv_at hl 0 rfl) ?_
  refine va_get (D := D) (ci := 5) (v := .ref q16) (C := RX5) (T := TX5) (N := 6) hx hb hW inX5G hown hK hP 0 rfl rfl 1 (by decide) (hW _ vg57) (fun _ h9 => h9) rfl dX5_init_55 ?_
  refine lv_aload_n hx hb dX5_init_58 rfl (lv_at hl 0 rfl) ?_
  refine va_get (D := D) (ci := 5) (v := .ref q27) (C := RX5) (T := TX5) (N := 6) hx hb hW inX5G hown hK hP 0 rfl rfl 2 (by decide) (hW _ vg64) (fun _ h9 => h9) rfl dX5_init_59 ?_
  have hPc := hP.sub (ws' := [(q46, .inr (1, [.null, .null, .null, .null, .null, .null, .null, .null, .null, .int 0, .int 0, .int 0, .int 0, .int 0]))]) [12] rfl
  have hDc := hD.sub (ws' := [(q46, .inr (1, [.null, .null, .null, .null, .null, .null, .null, .null, .null, .int 0, .int 0, .int 0, .int 0, .int 0]))]) [12] (by decide) rfl
  have hKc := hK.sub (tys' := []) [] rfl
  have hFc := va_free (wc := [(q46, .inr (1, [.null, .null, .null, .null, .null, .null, .null, .null, .null, .int 0, .int 0, .int 0, .int 0, .int 0]))]) hD hS hA [12] rfl
  refine va_callv (va_runIN (As := [.ref q5, .ref q16, .ref q27]) (rest := [.ref q46, .ref h0]) ⟨hx, hb, hml, hown, hts⟩ (kX1_init l D q46 q5 q16 q27 H.size) ⟨va_cnB 3 hts (wg_c vg68) rfl rfl rfl (hNW _ vn69) (hW _ vg67) hdX1_init ⟨Nat.le_of_ble_eq_true rfl, Nat.le_of_ble_eq_true rfl⟩, rfl, hW _ vg70⟩ (pz_S hKc hNW hPc (hDc.weaken (fun _ _ _ _ => trivial))) rfl rfl hl.1 rfl (lv_room (Nat.le_of_ble_eq_true rfl)) dX5_init_62 ⟨Nat.le_of_ble_eq_true rfl, Nat.le_of_ble_eq_true rfl⟩) hS (fun q _ h => hFc q h) hFc (fun u t H1 locs ht hvm hw hB hz1 hk1 hS => ?_)
  obtain ⟨q7_62, q15_62, q23_62, q32_62, q40_62, q48_62, c7_62, c15_62, c23_62, c32_62, c40_62, c48_62, hP1, hK1, hD1⟩ := hB
  rw [ht] at hP1
  have hK1 := va_K.moved hvm.symm hK1
  obtain ⟨hP, hD⟩ := va_join (wr := [(h0, .inr (5, [.ref q5, .ref q16, .ref q27, .null, .null, .int 0])), (q5, .inr (3, [.ref q6_9, .ref q13_9, .ref q20_9, .int 0])), (q6_9, .inl (c6_9, 5, .inl (fun _ => 0))), (q13_9, .inl (c13_9, 5, .inl (fun _ => 0))), (q20_9, .inl (c20_9, 5, .inl (fun _ => 0))), (q16, .inr (2, [.ref q7_20, .ref q15_20, .ref q23_20, .ref q31_20, .ref q39_20, .int 0])), (q7_20, .inl (c7_20, 40, .inl (fun _ => 0))), (q15_20, .inl (c15_20, 40, .inl (fun _ => 0))), (q23_20, .inl (c23_20, 40, .inl (fun _ => 0))), (q31_20, .inl (c31_20, 40, .inl (fun _ => 0))), (q39_20, .inl (c39_20, 40, .inl (fun _ => 0))), (q27, .inr (0, [.ref q5, .ref q16]))]) (w1 := [(q46, .inr (1, [.ref q5, .ref q16, .ref q27, .ref q7_62, .ref q15_62, .ref q23_62, .ref q32_62, .ref q40_62, .ref q48_62, .int 0, .int 0, .int 0, .int 0, .int 0])), (q7_62, .inl (c7_62, 43008, .inl (fun _ => 0))), (q15_62, .inl (c15_62, 43008, .inl (fun _ => 0))), (q23_62, .inl (c23_62, 42, .inl (fun _ => 0))), (q32_62, .inl (c32_62, 210, .inl (fun _ => 0))), (q40_62, .inl (c40_62, 25, .inl (fun _ => 0))), (q48_62, .inl (c48_62, 25, .inl (fun _ => 0)))]) hP hD [12] [0, 1, 2, 3, 4, 5, 6, 7, 8, 9, 10, 11] rfl rfl (by decide) (by decide) hk1 hFc hP1 hD1
  have hK := (hK.sub (tys' := [(c6_9, .int), (c13_9, .boolean), (c20_9, .int), (c7_20, .int), (c15_20, .int), (c23_20, .int), (c31_20, .boolean), (c39_20, .int)]) [0, 1, 2, 3, 4, 5, 6, 7] rfl).app hK1
  generalize H1 = H at hP hS ⊢
  have hP : va_P D vwCl [(h0, .inr (5, [.ref q5, .ref q16, .ref q27, .null, .null, .int 0])), (q5, .inr (3, [.ref q6_9, .ref q13_9, .ref q20_9, .int 0])), (q6_9, .inl (c6_9, 5, .inl (fun _ => 0))), (q13_9, .inl (c13_9, 5, .inl (fun _ => 0))), (q20_9, .inl (c20_9, 5, .inl (fun _ => 0))), (q16, .inr (2, [.ref q7_20, .ref q15_20, .ref q23_20, .ref q31_20, .ref q39_20, .int 0])), (q7_20, .inl (c7_20, 40, .inl (fun _ => 0))), (q15_20, .inl (c15_20, 40, .inl (fun _ => 0))), (q23_20, .inl (c23_20, 40, .inl (fun _ => 0))), (q31_20, .inl (c31_20, 40, .inl (fun _ => 0))), (q39_20, .inl (c39_20, 40, .inl (fun _ => 0))), (q27, .inr (0, [.ref q5, .ref q16])), (q46, .inr (1, [.ref q5, .ref q16, .ref q27, .ref q7_62, .ref q15_62, .ref q23_62, .ref q32_62, .ref q40_62, .ref q48_62, .int 0, .int 0, .int 0, .int 0, .int 0])), (q7_62, .inl (c7_62, 43008, .inl (fun _ => 0))), (q15_62, .inl (c15_62, 43008, .inl (fun _ => 0))), (q23_62, .inl (c23_62, 42, .inl (fun _ => 0))), (q32_62, .inl (c32_62, 210, .inl (fun _ => 0))), (q40_62, .inl (c40_62, 25, .inl (fun _ => 0))), (q48_62, .inl (c48_62, 25, .inl (fun _ => 0)))] H := hP
  have hD : va_D A [(h0, .inr (5, [.ref q5, .ref q16, .ref q27, .null, .null, .int 0])), (q5, .inr (3, [.ref q6_9, .ref q13_9, .ref q20_9, .int 0])), (q6_9, .inl (c6_9, 5, .inl (fun _ => 0))), (q13_9, .inl (c13_9, 5, .inl (fun _ => 0))), (q20_9, .inl (c20_9, 5, .inl (fun _ => 0))), (q16, .inr (2, [.ref q7_20, .ref q15_20, .ref q23_20, .ref q31_20, .ref q39_20, .int 0])), (q7_20, .inl (c7_20, 40, .inl (fun _ => 0))), (q15_20, .inl (c15_20, 40, .inl (fun _ => 0))), (q23_20, .inl (c23_20, 40, .inl (fun _ => 0))), (q31_20, .inl (c31_20, 40, .inl (fun _ => 0))), (q39_20, .inl (c39_20, 40, .inl (fun _ => 0))), (q27, .inr (0, [.ref q5, .ref q16])), (q46, .inr (1, [.ref q5, .ref q16, .ref q27, .ref q7_62, .ref q15_62, .ref q23_62, .ref q32_62, .ref q40_62, .ref q48_62, .int 0, .int 0, .int 0, .int 0, .int 0])), (q7_62, .inl (c7_62, 43008, .inl (fun _ => 0))), (q15_62, .inl (c15_62, 43008, .inl (fun _ => 0))), (q23_62, .inl (c23_62, 42, .inl (fun _ => 0))), (q32_62, .inl (c32_62, 210, .inl (fun _ => 0))), (q40_62, .inl (c40_62, 25, .inl (fun _ => 0))), (q48_62, .inl (c48_62, 25, .inl (fun _ => 0)))] := hD
  have hK : va_K D vwCl [(c6_9, .int), (c13_9, .boolean), (c20_9, .int), (c7_20, .int), (c15_20, .int), (c23_20, .int), (c31_20, .boolean), (c39_20, .int), (c7_62, .int), (c15_62, .int), (c23_62, .int), (c32_62, .int), (c40_62, .int), (c48_62, .int)] s := hK
  refine W.widen (k := 18) (n := 86559) (Nat.le_of_ble_eq_true rfl) (Nat.le_of_ble_eq_true rfl) ?_
  refine va_putF (D := D) (ci := 5) (v := .ref q46) (ty := .object "ResourceEnds$Search") (C := RX5) (T := TX5) (N := 6) hx hb hW inX5G tyX5 tyX5_ok nmX5 hown hK hP hD hS 0 rfl rfl 3 (by decide) (hW _ vg71) (fun _ h9 => h9) rfl hin rfl (by decide +kernel) rfl rfl (Nat.le_of_ble_eq_true rfl) dX5_init_65 (fun H locs hP hD hS => ?_)
  have hP : va_P D vwCl [(h0, .inr (5, [.ref q5, .ref q16, .ref q27, .ref q46, .null, .int 0])), (q5, .inr (3, [.ref q6_9, .ref q13_9, .ref q20_9, .int 0])), (q6_9, .inl (c6_9, 5, .inl (fun _ => 0))), (q13_9, .inl (c13_9, 5, .inl (fun _ => 0))), (q20_9, .inl (c20_9, 5, .inl (fun _ => 0))), (q16, .inr (2, [.ref q7_20, .ref q15_20, .ref q23_20, .ref q31_20, .ref q39_20, .int 0])), (q7_20, .inl (c7_20, 40, .inl (fun _ => 0))), (q15_20, .inl (c15_20, 40, .inl (fun _ => 0))), (q23_20, .inl (c23_20, 40, .inl (fun _ => 0))), (q31_20, .inl (c31_20, 40, .inl (fun _ => 0))), (q39_20, .inl (c39_20, 40, .inl (fun _ => 0))), (q27, .inr (0, [.ref q5, .ref q16])), (q46, .inr (1, [.ref q5, .ref q16, .ref q27, .ref q7_62, .ref q15_62, .ref q23_62, .ref q32_62, .ref q40_62, .ref q48_62, .int 0, .int 0, .int 0, .int 0, .int 0])), (q7_62, .inl (c7_62, 43008, .inl (fun _ => 0))), (q15_62, .inl (c15_62, 43008, .inl (fun _ => 0))), (q23_62, .inl (c23_62, 42, .inl (fun _ => 0))), (q32_62, .inl (c32_62, 210, .inl (fun _ => 0))), (q40_62, .inl (c40_62, 25, .inl (fun _ => 0))), (q48_62, .inl (c48_62, 25, .inl (fun _ => 0)))] H := hP
  have hD : va_D A [(h0, .inr (5, [.ref q5, .ref q16, .ref q27, .ref q46, .null, .int 0])), (q5, .inr (3, [.ref q6_9, .ref q13_9, .ref q20_9, .int 0])), (q6_9, .inl (c6_9, 5, .inl (fun _ => 0))), (q13_9, .inl (c13_9, 5, .inl (fun _ => 0))), (q20_9, .inl (c20_9, 5, .inl (fun _ => 0))), (q16, .inr (2, [.ref q7_20, .ref q15_20, .ref q23_20, .ref q31_20, .ref q39_20, .int 0])), (q7_20, .inl (c7_20, 40, .inl (fun _ => 0))), (q15_20, .inl (c15_20, 40, .inl (fun _ => 0))), (q23_20, .inl (c23_20, 40, .inl (fun _ => 0))), (q31_20, .inl (c31_20, 40, .inl (fun _ => 0))), (q39_20, .inl (c39_20, 40, .inl (fun _ => 0))), (q27, .inr (0, [.ref q5, .ref q16])), (q46, .inr (1, [.ref q5, .ref q16, .ref q27, .ref q7_62, .ref q15_62, .ref q23_62, .ref q32_62, .ref q40_62, .ref q48_62, .int 0, .int 0, .int 0, .int 0, .int 0])), (q7_62, .inl (c7_62, 43008, .inl (fun _ => 0))), (q15_62, .inl (c15_62, 43008, .inl (fun _ => 0))), (q23_62, .inl (c23_62, 42, .inl (fun _ => 0))), (q32_62, .inl (c32_62, 210, .inl (fun _ => 0))), (q40_62, .inl (c40_62, 25, .inl (fun _ => 0))), (q48_62, .inl (c48_62, 25, .inl (fun _ => 0)))] := hD
  refine lv_aload_n hx hb dX5_init_68 rfl (lv_at hl 0 rfl) ?_
  refine va_new (ci := 4) (fs := [.null, .int 0, .int 0, .int 0, .int 0, .int 0, .int 0]) (C := RX4) (T := TX4) (N := 7) hx hb hW inX4G tyX4 tyX4_ok hown (hW _ vg72) (hW _ vg73) (hW _ vg74) hK hP hD hS hA rfl (fun j hj => by rcases (show j = 0 ∨ j = 1 ∨ j = 2 ∨ j = 3 ∨ j = 4 ∨ j = 5 ∨ j = 6 by omega) with rfl | rfl | rfl | rfl | rfl | rfl | rfl <;> rfl) (Nat.le_of_ble_eq_true rfl) (Nat.le_of_ble_eq_true rfl) dX5_init_69 (fun q69 H hP hD hS => ?_)
  have hP : va_P D vwCl [(h0, .inr (5, [.ref q5, .ref q16, .ref q27, .ref q46, .null, .int 0])), (q5, .inr (3, [.ref q6_9, .ref q13_9, .ref q20_9, .int 0])), (q6_9, .inl (c6_9, 5, .inl (fun _ => 0))), (q13_9, .inl (c13_9, 5, .inl (fun _ => 0))), (q20_9, .inl (c20_9, 5, .inl (fun _ => 0))), (q16, .inr (2, [.ref q7_20, .ref q15_20, .ref q23_20, .ref q31_20, .ref q39_20, .int 0])), (q7_20, .inl (c7_20, 40, .inl (fun _ => 0))), (q15_20, .inl (c15_20, 40, .inl (fun _ => 0))), (q23_20, .inl (c23_20, 40, .inl (fun _ => 0))), (q31_20, .inl (c31_20, 40, .inl (fun _ => 0))), (q39_20, .inl (c39_20, 40, .inl (fun _ => 0))), (q27, .inr (0, [.ref q5, .ref q16])), (q46, .inr (1, [.ref q5, .ref q16, .ref q27, .ref q7_62, .ref q15_62, .ref q23_62, .ref q32_62, .ref q40_62, .ref q48_62, .int 0, .int 0, .int 0, .int 0, .int 0])), (q7_62, .inl (c7_62, 43008, .inl (fun _ => 0))), (q15_62, .inl (c15_62, 43008, .inl (fun _ => 0))), (q23_62, .inl (c23_62, 42, .inl (fun _ => 0))), (q32_62, .inl (c32_62, 210, .inl (fun _ => 0))), (q40_62, .inl (c40_62, 25, .inl (fun _ => 0))), (q48_62, .inl (c48_62, 25, .inl (fun _ => 0))), (q69, .inr (4, [.null, .int 0, .int 0, .int 0, .int 0, .int 0, .int 0]))] H := hP
  have hD : va_D A [(h0, .inr (5, [.ref q5, .ref q16, .ref q27, .ref q46, .null, .int 0])), (q5, .inr (3, [.ref q6_9, .ref q13_9, .ref q20_9, .int 0])), (q6_9, .inl (c6_9, 5, .inl (fun _ => 0))), (q13_9, .inl (c13_9, 5, .inl (fun _ => 0))), (q20_9, .inl (c20_9, 5, .inl (fun _ => 0))), (q16, .inr (2, [.ref q7_20, .ref q15_20, .ref q23_20, .ref q31_20, .ref q39_20, .int 0])), (q7_20, .inl (c7_20, 40, .inl (fun _ => 0))), (q15_20, .inl (c15_20, 40, .inl (fun _ => 0))), (q23_20, .inl (c23_20, 40, .inl (fun _ => 0))), (q31_20, .inl (c31_20, 40, .inl (fun _ => 0))), (q39_20, .inl (c39_20, 40, .inl (fun _ => 0))), (q27, .inr (0, [.ref q5, .ref q16])), (q46, .inr (1, [.ref q5, .ref q16, .ref q27, .ref q7_62, .ref q15_62, .ref q23_62, .ref q32_62, .ref q40_62, .ref q48_62, .int 0, .int 0, .int 0, .int 0, .int 0])), (q7_62, .inl (c7_62, 43008, .inl (fun _ => 0))), (q15_62, .inl (c15_62, 43008, .inl (fun _ => 0))), (q23_62, .inl (c23_62, 42, .inl (fun _ => 0))), (q32_62, .inl (c32_62, 210, .inl (fun _ => 0))), (q40_62, .inl (c40_62, 25, .inl (fun _ => 0))), (q48_62, .inl (c48_62, 25, .inl (fun _ => 0))), (q69, .inr (4, [.null, .int 0, .int 0, .int 0, .int 0, .int 0, .int 0]))] := hD
  refine W.widen (k := 19) (n := 86566) (Nat.le_of_ble_eq_true rfl) (Nat.le_of_ble_eq_true rfl) ?_
  refine lv_dup hx hb dX5_init_72 rfl ?_
  have hPc := hP.sub (ws' := [(q69, .inr (4, [.null, .int 0, .int 0, .int 0, .int 0, .int 0, .int 0]))]) [19] rfl
  have hDc := hD.sub (ws' := [(q69, .inr (4, [.null, .int 0, .int 0, .int 0, .int 0, .int 0, .int 0]))]) [19] (by decide) rfl
  have hKc := hK.sub (tys' := []) [] rfl
  have hFc := va_free (wc := [(q69, .inr (4, [.null, .int 0, .int 0, .int 0, .int 0, .int 0, .int 0]))]) hD hS hA [19] rfl
  refine va_callv (va_runIN (As := []) (rest := [.ref q69, .ref h0]) ⟨hx, hb, hml, hown, hts⟩ (kX4_init l D q69  H.size) ⟨va_cnB 0 hts (wg_c vg75) rfl rfl rfl (hNW _ vn76) (hW _ vg74) hdX4_init ⟨Nat.le_of_ble_eq_true rfl, Nat.le_of_ble_eq_true rfl⟩, rfl, hW _ vg77⟩ (pz_S hKc hNW hPc (hDc.weaken (fun _ _ _ _ => trivial))) rfl rfl hl.1 rfl (lv_room (Nat.le_of_ble_eq_true rfl)) dX5_init_73 ⟨Nat.le_of_ble_eq_true rfl, Nat.le_of_ble_eq_true rfl⟩) hS (fun q _ h => hFc q h) hFc (fun u t H1 locs ht hvm hw hB hz1 hk1 hS => ?_)
  obtain ⟨q7_73, c7_73, hP1, hK1, hD1⟩ := hB
  rw [ht] at hP1
  have hK1 := va_K.moved hvm.symm hK1
  obtain ⟨hP, hD⟩ := va_join (wr := [(h0, .inr (5, [.ref q5, .ref q16, .ref q27, .ref q46, .null, .int 0])), (q5, .inr (3, [.ref q6_9, .ref q13_9, .ref q20_9, .int 0])), (q6_9, .inl (c6_9, 5, .inl (fun _ => 0))), (q13_9, .inl (c13_9, 5, .inl (fun _ => 0))), (q20_9, .inl (c20_9, 5, .inl (fun _ => 0))), (q16, .inr (2, [.ref q7_20, .ref q15_20, .ref q23_20, .ref q31_20, .ref q39_20, .int 0])), (q7_20, .inl (c7_20, 40, .inl (fun _ => 0))), (q15_20, .inl (c15_20, 40, .inl (fun _ => 0))), (q23_20, .inl (c23_20, 40, .inl (fun _ => 0))), (q31_20, .inl (c31_20, 40, .inl (fun _ => 0))), (q39_20, .inl (c39_20, 40, .inl (fun _ => 0))), (q27, .inr (0, [.ref q5, .ref q16])), (q46, .inr (1, [.ref q5, .ref q16, .ref q27, .ref q7_62, .ref q15_62, .ref q23_62, .ref q32_62, .ref q40_62, .ref q48_62, .int 0, .int 0, .int 0, .int 0, .int 0])), (q7_62, .inl (c7_62, 43008, .inl (fun _ => 0))), (q15_62, .inl (c15_62, 43008, .inl (fun _ => 0))), (q23_62, .inl (c23_62, 42, .inl (fun _ => 0))), (q32_62, .inl (c32_62, 210, .inl (fun _ => 0))), (q40_62, .inl (c40_62, 25, .inl (fun _ => 0))), (q48_62, .inl (c48_62, 25, .inl (fun _ => 0)))]) (w1 := [(q69, .inr (4, [.ref q7_73, .int 0, .int 0, .int 0, .int 0, .int 0, .int 0])), (q7_73, .inl (c7_73, 100, .inl (fun _ => 0)))]) hP hD [19] [0, 1, 2, 3, 4, 5, 6, 7, 8, 9, 10, 11, 12, 13, 14, 15, 16, 17, 18] rfl rfl (by decide) (by decide) hk1 hFc hP1 hD1
  have hK := (hK.sub (tys' := [(c6_9, .int), (c13_9, .boolean), (c20_9, .int), (c7_20, .int), (c15_20, .int), (c23_20, .int), (c31_20, .boolean), (c39_20, .int), (c7_62, .int), (c15_62, .int), (c23_62, .int), (c32_62, .int), (c40_62, .int), (c48_62, .int)]) [0, 1, 2, 3, 4, 5, 6, 7, 8, 9, 10, 11, 12, 13] rfl).app hK1
  generalize H1 = H at hP hS ⊢
  have hP : va_P D vwCl [(h0, .inr (5, [.ref q5, .ref q16, .ref q27, .ref q46, .null, .int 0])), (q5, .inr (3, [.ref q6_9, .ref q13_9, .ref q20_9, .int 0])), (q6_9, .inl (c6_9, 5, .inl (fun _ => 0))), (q13_9, .inl (c13_9, 5, .inl (fun _ => 0))), (q20_9, .inl (c20_9, 5, .inl (fun _ => 0))), (q16, .inr (2, [.ref q7_20, .ref q15_20, .ref q23_20, .ref q31_20, .ref q39_20, .int 0])), (q7_20, .inl (c7_20, 40, .inl (fun _ => 0))), (q15_20, .inl (c15_20, 40, .inl (fun _ => 0))), (q23_20, .inl (c23_20, 40, .inl (fun _ => 0))), (q31_20, .inl (c31_20, 40, .inl (fun _ => 0))), (q39_20, .inl (c39_20, 40, .inl (fun _ => 0))), (q27, .inr (0, [.ref q5, .ref q16])), (q46, .inr (1, [.ref q5, .ref q16, .ref q27, .ref q7_62, .ref q15_62, .ref q23_62, .ref q32_62, .ref q40_62, .ref q48_62, .int 0, .int 0, .int 0, .int 0, .int 0])), (q7_62, .inl (c7_62, 43008, .inl (fun _ => 0))), (q15_62, .inl (c15_62, 43008, .inl (fun _ => 0))), (q23_62, .inl (c23_62, 42, .inl (fun _ => 0))), (q32_62, .inl (c32_62, 210, .inl (fun _ => 0))), (q40_62, .inl (c40_62, 25, .inl (fun _ => 0))), (q48_62, .inl (c48_62, 25, .inl (fun _ => 0))), (q69, .inr (4, [.ref q7_73, .int 0, .int 0, .int 0, .int 0, .int 0, .int 0])), (q7_73, .inl (c7_73, 100, .inl (fun _ => 0)))] H := hP
  have hD : va_D A [(h0, .inr (5, [.ref q5, .ref q16, .ref q27, .ref q46, .null, .int 0])), (q5, .inr (3, [.ref q6_9, .ref q13_9, .ref q20_9, .int 0])), (q6_9, .inl (c6_9, 5, .inl (fun _ => 0))), (q13_9, .inl (c13_9, 5, .inl (fun _ => 0))), (q20_9, .inl (c20_9, 5, .inl (fun _ => 0))), (q16, .inr (2, [.ref q7_20, .ref q15_20, .ref q23_20, .ref q31_20, .ref q39_20, .int 0])), (q7_20, .inl (c7_20, 40, .inl (fun _ => 0))), (q15_20, .inl (c15_20, 40, .inl (fun _ => 0))), (q23_20, .inl (c23_20, 40, .inl (fun _ => 0))), (q31_20, .inl (c31_20, 40, .inl (fun _ => 0))), (q39_20, .inl (c39_20, 40, .inl (fun _ => 0))), (q27, .inr (0, [.ref q5, .ref q16])), (q46, .inr (1, [.ref q5, .ref q16, .ref q27, .ref q7_62, .ref q15_62, .ref q23_62, .ref q32_62, .ref q40_62, .ref q48_62, .int 0, .int 0, .int 0, .int 0, .int 0])), (q7_62, .inl (c7_62, 43008, .inl (fun _ => 0))), (q15_62, .inl (c15_62, 43008, .inl (fun _ => 0))), (q23_62, .inl (c23_62, 42, .inl (fun _ => 0))), (q32_62, .inl (c32_62, 210, .inl (fun _ => 0))), (q40_62, .inl (c40_62, 25, .inl (fun _ => 0))), (q48_62, .inl (c48_62, 25, .inl (fun _ => 0))), (q69, .inr (4, [.ref q7_73, .int 0, .int 0, .int 0, .int 0, .int 0, .int 0])), (q7_73, .inl (c7_73, 100, .inl (fun _ => 0)))] := hD
  have hK : va_K D vwCl [(c6_9, .int), (c13_9, .boolean), (c20_9, .int), (c7_20, .int), (c15_20, .int), (c23_20, .int), (c31_20, .boolean), (c39_20, .int), (c7_62, .int), (c15_62, .int), (c23_62, .int), (c32_62, .int), (c40_62, .int), (c48_62, .int), (c7_73, .int)] s := hK
  refine W.widen (k := 20) (n := 86666) (Nat.le_of_ble_eq_true rfl) (Nat.le_of_ble_eq_true rfl) ?_
  refine va_putF (D := D) (ci := 5) (v := .ref q69) (ty := .object "ResourceEnds$Trial") (C := RX5) (T := TX5) (N := 6) hx hb hW inX5G tyX5 tyX5_ok nmX5 hown hK hP hD hS 0 rfl rfl 4 (by decide) (hW _ vg78) (fun _ h9 => h9) rfl hin rfl (by decide +kernel) rfl rfl (Nat.le_of_ble_eq_true rfl) dX5_init_76 (fun H locs hP hD hS => ?_)
  have hP : va_P D vwCl [(h0, .inr (5, [.ref q5, .ref q16, .ref q27, .ref q46, .ref q69, .int 0])), (q5, .inr (3, [.ref q6_9, .ref q13_9, .ref q20_9, .int 0])), (q6_9, .inl (c6_9, 5, .inl (fun _ => 0))), (q13_9, .inl (c13_9, 5, .inl (fun _ => 0))), (q20_9, .inl (c20_9, 5, .inl (fun _ => 0))), (q16, .inr (2, [.ref q7_20, .ref q15_20, .ref q23_20, .ref q31_20, .ref q39_20, .int 0])), (q7_20, .inl (c7_20, 40, .inl (fun _ => 0))), (q15_20, .inl (c15_20, 40, .inl (fun _ => 0))), (q23_20, .inl (c23_20, 40, .inl (fun _ => 0))), (q31_20, .inl (c31_20, 40, .inl (fun _ => 0))), (q39_20, .inl (c39_20, 40, .inl (fun _ => 0))), (q27, .inr (0, [.ref q5, .ref q16])), (q46, .inr (1, [.ref q5, .ref q16, .ref q27, .ref q7_62, .ref q15_62, .ref q23_62, .ref q32_62, .ref q40_62, .ref q48_62, .int 0, .int 0, .int 0, .int 0, .int 0])), (q7_62, .inl (c7_62, 43008, .inl (fun _ => 0))), (q15_62, .inl (c15_62, 43008, .inl (fun _ => 0))), (q23_62, .inl (c23_62, 42, .inl (fun _ => 0))), (q32_62, .inl (c32_62, 210, .inl (fun _ => 0))), (q40_62, .inl (c40_62, 25, .inl (fun _ => 0))), (q48_62, .inl (c48_62, 25, .inl (fun _ => 0))), (q69, .inr (4, [.ref q7_73, .int 0, .int 0, .int 0, .int 0, .int 0, .int 0])), (q7_73, .inl (c7_73, 100, .inl (fun _ => 0)))] H := hP
  have hD : va_D A [(h0, .inr (5, [.ref q5, .ref q16, .ref q27, .ref q46, .ref q69, .int 0])), (q5, .inr (3, [.ref q6_9, .ref q13_9, .ref q20_9, .int 0])), (q6_9, .inl (c6_9, 5, .inl (fun _ => 0))), (q13_9, .inl (c13_9, 5, .inl (fun _ => 0))), (q20_9, .inl (c20_9, 5, .inl (fun _ => 0))), (q16, .inr (2, [.ref q7_20, .ref q15_20, .ref q23_20, .ref q31_20, .ref q39_20, .int 0])), (q7_20, .inl (c7_20, 40, .inl (fun _ => 0))), (q15_20, .inl (c15_20, 40, .inl (fun _ => 0))), (q23_20, .inl (c23_20, 40, .inl (fun _ => 0))), (q31_20, .inl (c31_20, 40, .inl (fun _ => 0))), (q39_20, .inl (c39_20, 40, .inl (fun _ => 0))), (q27, .inr (0, [.ref q5, .ref q16])), (q46, .inr (1, [.ref q5, .ref q16, .ref q27, .ref q7_62, .ref q15_62, .ref q23_62, .ref q32_62, .ref q40_62, .ref q48_62, .int 0, .int 0, .int 0, .int 0, .int 0])), (q7_62, .inl (c7_62, 43008, .inl (fun _ => 0))), (q15_62, .inl (c15_62, 43008, .inl (fun _ => 0))), (q23_62, .inl (c23_62, 42, .inl (fun _ => 0))), (q32_62, .inl (c32_62, 210, .inl (fun _ => 0))), (q40_62, .inl (c40_62, 25, .inl (fun _ => 0))), (q48_62, .inl (c48_62, 25, .inl (fun _ => 0))), (q69, .inr (4, [.ref q7_73, .int 0, .int 0, .int 0, .int 0, .int 0, .int 0])), (q7_73, .inl (c7_73, 100, .inl (fun _ => 0)))] := hD
  refine lv_aload_n hx hb dX5_init_79 rfl (lv_at hl 0 rfl) ?_
  refine lv_iconst (v := 0) hx hb dX5_init_80 (by decide) ?_
  refine va_put (D := D) (ci := 5) (v := .int 0) (ty := .boolean) (C := RX5) (T := TX5) (N := 6) hx hb hW inX5G tyX5 tyX5_ok nmX5 hown hK hP hD hS 0 rfl rfl 5 (by decide) (hW _ vg79) (fun _ h9 => h9) rfl (by decide +kernel) rfl rfl (Nat.le_of_ble_eq_true rfl) dX5_init_81 (fun H locs hP hD hS => ?_)
  have hP : va_P D vwCl [(h0, .inr (5, [.ref q5, .ref q16, .ref q27, .ref q46, .ref q69, .int 0])), (q5, .inr (3, [.ref q6_9, .ref q13_9, .ref q20_9, .int 0])), (q6_9, .inl (c6_9, 5, .inl (fun _ => 0))), (q13_9, .inl (c13_9, 5, .inl (fun _ => 0))), (q20_9, .inl (c20_9, 5, .inl (fun _ => 0))), (q16, .inr (2, [.ref q7_20, .ref q15_20, .ref q23_20, .ref q31_20, .ref q39_20, .int 0])), (q7_20, .inl (c7_20, 40, .inl (fun _ => 0))), (q15_20, .inl (c15_20, 40, .inl (fun _ => 0))), (q23_20, .inl (c23_20, 40, .inl (fun _ => 0))), (q31_20, .inl (c31_20, 40, .inl (fun _ => 0))), (q39_20, .inl (c39_20, 40, .inl (fun _ => 0))), (q27, .inr (0, [.ref q5, .ref q16])), (q46, .inr (1, [.ref q5, .ref q16, .ref q27, .ref q7_62, .ref q15_62, .ref q23_62, .ref q32_62, .ref q40_62, .ref q48_62, .int 0, .int 0, .int 0, .int 0, .int 0])), (q7_62, .inl (c7_62, 43008, .inl (fun _ => 0))), (q15_62, .inl (c15_62, 43008, .inl (fun _ => 0))), (q23_62, .inl (c23_62, 42, .inl (fun _ => 0))), (q32_62, .inl (c32_62, 210, .inl (fun _ => 0))), (q40_62, .inl (c40_62, 25, .inl (fun _ => 0))), (q48_62, .inl (c48_62, 25, .inl (fun _ => 0))), (q69, .inr (4, [.ref q7_73, .int 0, .int 0, .int 0, .int 0, .int 0, .int 0])), (q7_73, .inl (c7_73, 100, .inl (fun _ => 0)))] H := hP
  have hD : va_D A [(h0, .inr (5, [.ref q5, .ref q16, .ref q27, .ref q46, .ref q69, .int 0])), (q5, .inr (3, [.ref q6_9, .ref q13_9, .ref q20_9, .int 0])), (q6_9, .inl (c6_9, 5, .inl (fun _ => 0))), (q13_9, .inl (c13_9, 5, .inl (fun _ => 0))), (q20_9, .inl (c20_9, 5, .inl (fun _ => 0))), (q16, .inr (2, [.ref q7_20, .ref q15_20, .ref q23_20, .ref q31_20, .ref q39_20, .int 0])), (q7_20, .inl (c7_20, 40, .inl (fun _ => 0))), (q15_20, .inl (c15_20, 40, .inl (fun _ => 0))), (q23_20, .inl (c23_20, 40, .inl (fun _ => 0))), (q31_20, .inl (c31_20, 40, .inl (fun _ => 0))), (q39_20, .inl (c39_20, 40, .inl (fun _ => 0))), (q27, .inr (0, [.ref q5, .ref q16])), (q46, .inr (1, [.ref q5, .ref q16, .ref q27, .ref q7_62, .ref q15_62, .ref q23_62, .ref q32_62, .ref q40_62, .ref q48_62, .int 0, .int 0, .int 0, .int 0, .int 0])), (q7_62, .inl (c7_62, 43008, .inl (fun _ => 0))), (q15_62, .inl (c15_62, 43008, .inl (fun _ => 0))), (q23_62, .inl (c23_62, 42, .inl (fun _ => 0))), (q32_62, .inl (c32_62, 210, .inl (fun _ => 0))), (q40_62, .inl (c40_62, 25, .inl (fun _ => 0))), (q48_62, .inl (c48_62, 25, .inl (fun _ => 0))), (q69, .inr (4, [.ref q7_73, .int 0, .int 0, .int 0, .int 0, .int 0, .int 0])), (q7_73, .inl (c7_73, 100, .inl (fun _ => 0)))] := hD
  have hP9 := hP.sub (ws' := wX (fun i => match i with | 0 => h0 | 1 => q5 | 2 => q16 | 3 => q27 | 4 => q46 | 5 => q69 | 6 => q6_9 | 7 => q13_9 | 8 => q20_9 | 9 => q7_20 | 10 => q15_20 | 11 => q23_20 | 12 => q31_20 | 13 => q39_20 | 14 => q7_62 | 15 => q15_62 | 16 => q23_62 | 17 => q32_62 | 18 => q40_62 | 19 => q48_62 | _ => q7_73) (fun i => match i with | 0 => c6_9 | 1 => c13_9 | 2 => c20_9 | 3 => c7_20 | 4 => c15_20 | 5 => c23_20 | 6 => c31_20 | 7 => c39_20 | 8 => c7_62 | 9 => c15_62 | 10 => c23_62 | 11 => c32_62 | 12 => c40_62 | 13 => c48_62 | _ => c7_73) z0) [0, 1, 5, 11, 12, 19, 2, 3, 4, 6, 7, 8, 9, 10, 13, 14, 15, 16, 17, 18, 20] rfl
  have hD9 := hD.sub (ws' := wX (fun i => match i with | 0 => h0 | 1 => q5 | 2 => q16 | 3 => q27 | 4 => q46 | 5 => q69 | 6 => q6_9 | 7 => q13_9 | 8 => q20_9 | 9 => q7_20 | 10 => q15_20 | 11 => q23_20 | 12 => q31_20 | 13 => q39_20 | 14 => q7_62 | 15 => q15_62 | 16 => q23_62 | 17 => q32_62 | 18 => q40_62 | 19 => q48_62 | _ => q7_73) (fun i => match i with | 0 => c6_9 | 1 => c13_9 | 2 => c20_9 | 3 => c7_20 | 4 => c15_20 | 5 => c23_20 | 6 => c31_20 | 7 => c39_20 | 8 => c7_62 | 9 => c15_62 | 10 => c23_62 | 11 => c32_62 | 12 => c40_62 | 13 => c48_62 | _ => c7_73) z0) [0, 1, 5, 11, 12, 19, 2, 3, 4, 6, 7, 8, 9, 10, 13, 14, 15, 16, 17, 18, 20] (by decide) rfl
  have hK9 := hK.sub (tys' := tX (fun i => match i with | 0 => c6_9 | 1 => c13_9 | 2 => c20_9 | 3 => c7_20 | 4 => c15_20 | 5 => c23_20 | 6 => c31_20 | 7 => c39_20 | 8 => c7_62 | 9 => c15_62 | 10 => c23_62 | 11 => c32_62 | 12 => c40_62 | 13 => c48_62 | _ => c7_73)) [0, 1, 2, 3, 4, 5, 6, 7, 8, 9, 10, 11, 12, 13, 14] rfl
  exact W.vret hx hb hr (fun t ht hW9 => ⟨⟨(), rfl, trivial, (fun i => match i with | 0 => h0 | 1 => q5 | 2 => q16 | 3 => q27 | 4 => q46 | 5 => q69 | 6 => q6_9 | 7 => q13_9 | 8 => q20_9 | 9 => q7_20 | 10 => q15_20 | 11 => q23_20 | 12 => q31_20 | 13 => q39_20 | 14 => q7_62 | 15 => q15_62 | 16 => q23_62 | 17 => q32_62 | 18 => q40_62 | 19 => q48_62 | _ => q7_73), (fun i => match i with | 0 => c6_9 | 1 => c13_9 | 2 => c20_9 | 3 => c7_20 | 4 => c15_20 | 5 => c23_20 | 6 => c31_20 | 7 => c39_20 | 8 => c7_62 | 9 => c15_62 | 10 => c23_62 | 11 => c32_62 | 12 => c40_62 | 13 => c48_62 | _ => c7_73), rfl, by rw [ht]; exact hP9, va_K.moved hW9.alike hK9, hD9⟩, hS.F ht⟩) hS.2.2 dX5_init_84 hlocks
set_option maxHeartbeats 4000000 in
set_option maxRecDepth 100000 in
theorem kX6_init (l : Launch) (D : va_G) (h0 : Nat) (sz : Nat) : Met l yX6_init ((Cond.code yX6_init cX6_init 1 none) :: WG) ({ frames := 1, cells := 13, slots := 129364, locals := 12 } : Room) (Pz D sz [(h0, .inr (6, [.int 0, .null, .null, .null, .int 0, .null, .null, .null, .null, .null, .int 0, .null, .int 0, .null, .null, .null, .int 0, .int 0, .null, .int 0, .int 0, .int 0]))] [.ref h0]) (va_Qv (S := Unit) (fun _ => True) (fun _ t => ∃ (a : Nat → Nat) (k : Nat → ClassId), a 0 = h0 ∧ va_P D vwCl (wM a k z0) t.heap ∧ va_K D vwCl (tM k) t ∧ va_D (va_A [(h0, .inr (6, [.int 0, .null, .null, .null, .int 0, .null, .null, .null, .null, .null, .int 0, .null, .int 0, .null, .null, .null, .int 0, .int 0, .null, .int 0, .int 0, .int 0]))] sz) (wM a k z0)) (va_A [(h0, .inr (6, [.int 0, .null, .null, .null, .int 0, .null, .null, .null, .null, .null, .int 0, .null, .int 0, .null, .null, .null, .int 0, .int 0, .null, .int 0, .int 0, .int 0]))] sz)) 13 129364 (va_A [(h0, .inr (6, [.int 0, .null, .null, .null, .int 0, .null, .null, .null, .null, .null, .int 0, .null, .int 0, .null, .null, .null, .int 0, .int 0, .null, .int 0, .int 0, .int 0]))] sz) := by
  refine Met.ofW (cc := cX6_init) (maxL := 1) (ret := none) (by decide) rfl ?_
  intro p e s m args below meth c s₁ B hml hv
  obtain ⟨rfl, hsz, hP, ⟨hK, hNW⟩, hD0⟩ := hv
  have hx := B.exec
  have hb := B.bytes
  have hr := B.returns
  have hts := atoms_spec (ws := (Cond.code yX6_init cX6_init 1 none) :: WG) B.pre
  have hW : ∀ w ∈ WG, w.before _ s = true := fun w h => hts w (List.mem_cons_of_mem _ h)
  have hown : s.vm.findClass RX6 = some m.cls := findClass_of_methodNamed B.named
  have hlocks := B.notSynchronized
  have hin : meth.name = "<init>" := (name_of_methodNamed B.named B.method).1
  subst hsz
  have hD := hD0.self (sz := s.heap.size)
  generalize hAe : va_A [(h0, .inr (6, [.int 0, .null, .null, .null, .int 0, .null, .null, .null, .null, .null, .int 0, .null, .int 0, .null, .null, .null, .int 0, .int 0, .null, .int 0, .int 0, .int 0]))] s.heap.size = A at hD ⊢
  have hA : ∀ q : Nat, s.heap.size ≤ q → A q := fun q h => by rw [← hAe]; exact Or.inr h
  have hS : va_S A s.heap s.heap [] := va_S.rf
  have hl := lv_entry ([.ref h0]) (n := 1) (Nat.le_of_ble_eq_true rfl)
  rw [lg_entry_eq]
  generalize (lg_sl ([.ref h0]) ++ List.replicate (1 - (lg_sl ([.ref h0])).length) Slot.unset).toArray = ls at hl ⊢
  have hl : lv_has ls 1 [(0, .ref h0)] := hl
  refine lv_aload_n hx hb dX6_init_0 rfl (lv_at hl 0 rfl) ?_
  refine W.objInit hx hb hown (hW _ vg80) (hW _ vg1) (hW _ vg2) rfl (by rw [hml]; exact hl.1) rfl dX6_init_1 (Nat.le_of_ble_eq_true rfl) (Nat.le_of_ble_eq_true rfl) ?_
  refine W.eq (g2 := F0 m 4 ls []) rfl ?_
  refine lv_aload_n hx hb dX6_init_4 rfl (lv_at hl 0 rfl) ?_
  refine lv_iconst (v := 5) hx hb dX6_init_5 (by decide) ?_
  refine va_newa (D := D) (cl := vwCl) (atype := .int) (ty := .int) (a0 := (5, .inl (fun _ => 0))) (N' := 5) hx hb (hW _ vg3) rfl hK hP hD hS hA (fun cA => rfl) (by decide) (by decide) (Nat.le_of_ble_eq_true rfl) (Nat.le_of_ble_eq_true rfl) (Nat.le_of_ble_eq_true rfl) dX6_init_6 (fun q6 c6 H hK hP hD hS => ?_)
  have hP : va_P D vwCl [(h0, .inr (6, [.int 0, .null, .null, .null, .int 0, .null, .null, .null, .null, .null, .int 0, .null, .int 0, .null, .null, .null, .int 0, .int 0, .null, .int 0, .int 0, .int 0])), (q6, .inl (c6, 5, .inl (fun _ => 0)))] H := hP
  have hD : va_D A [(h0, .inr (6, [.int 0, .null, .null, .null, .int 0, .null, .null, .null, .null, .null, .int 0, .null, .int 0, .null, .null, .null, .int 0, .int 0, .null, .int 0, .int 0, .int 0])), (q6, .inl (c6, 5, .inl (fun _ => 0)))] := hD
  have hK : va_K D vwCl [(c6, .int)] s := hK
  refine W.widen (k := 1) (n := 5) (Nat.le_of_ble_eq_true rfl) (Nat.le_of_ble_eq_true rfl) ?_
  refine va_putF (D := D) (ci := 6) (v := .ref q6) (ty := .array .int) (C := RX6) (T := TX6) (N := 22) hx hb hW inX6G tyX6 tyX6_ok nmX6 hown hK hP hD hS 0 rfl rfl 1 (by decide) (hW _ vg81) (fun _ h9 => h9) rfl hin rfl (by decide +kernel) rfl rfl (Nat.le_of_ble_eq_true rfl) dX6_init_8 (fun H locs hP hD hS => ?_)
  have hP : va_P D vwCl [(h0, .inr (6, [.int 0, .ref q6, .null, .null, .int 0, .null, .null, .null, .null, .null, .int 0, .null, .int 0, .null, .null, .null, .int 0, .int 0, .null, .int 0, .int 0, .int 0])), (q6, .inl (c6, 5, .inl (fun _ => 0)))] H := hP
  have hD : va_D A [(h0, .inr (6, [.int 0, .ref q6, .null, .null, .int 0, .null, .null, .null, .null, .null, .int 0, .null, .int 0, .null, .null, .null, .int 0, .int 0, .null, .int 0, .int 0, .int 0])), (q6, .inl (c6, 5, .inl (fun _ => 0)))] := hD
  refine lv_aload_n hx hb dX6_init_11 rfl (lv_at hl 0 rfl) ?_
  refine lv_iconst (v := 5) hx hb dX6_init_12 (by decide) ?_
  refine va_newa (D := D) (cl := vwCl) (atype := .boolean) (ty := .boolean) (a0 := (5, .inl (fun _ => 0))) (N' := 5) hx hb (hW _ vg5) rfl hK hP hD hS hA (fun cA => rfl) (by decide) (by decide) (Nat.le_of_ble_eq_true rfl) (Nat.le_of_ble_eq_true rfl) (Nat.le_of_ble_eq_true rfl) dX6_init_13 (fun q13 c13 H hK hP hD hS => ?_)
  have hP : va_P D vwCl [(h0, .inr (6, [.int 0, .ref q6, .null, .null, .int 0, .null, .null, .null, .null, .null, .int 0, .null, .int 0, .null, .null, .null, .int 0, .int 0, .null, .int 0, .int 0, .int 0])), (q6, .inl (c6, 5, .inl (fun _ => 0))), (q13, .inl (c13, 5, .inl (fun _ => 0)))] H := hP
  have hD : va_D A [(h0, .inr (6, [.int 0, .ref q6, .null, .null, .int 0, .null, .null, .null, .null, .null, .int 0, .null, .int 0, .null, .null, .null, .int 0, .int 0, .null, .int 0, .int 0, .int 0])), (q6, .inl (c6, 5, .inl (fun _ => 0))), (q13, .inl (c13, 5, .inl (fun _ => 0)))] := hD
  have hK : va_K D vwCl [(c6, .int), (c13, .boolean)] s := hK
  refine W.widen (k := 2) (n := 10) (Nat.le_of_ble_eq_true rfl) (Nat.le_of_ble_eq_true rfl) ?_
  refine va_putF (D := D) (ci := 6) (v := .ref q13) (ty := .array .boolean) (C := RX6) (T := TX6) (N := 22) hx hb hW inX6G tyX6 tyX6_ok nmX6 hown hK hP hD hS 0 rfl rfl 2 (by decide) (hW _ vg82) (fun _ h9 => h9) rfl hin rfl (by decide +kernel) rfl rfl (Nat.le_of_ble_eq_true rfl) dX6_init_15 (fun H locs hP hD hS => ?_)
  have hP : va_P D vwCl [(h0, .inr (6, [.int 0, .ref q6, .ref q13, .null, .int 0, .null, .null, .null, .null, .null, .int 0, .null, .int 0, .null, .null, .null, .int 0, .int 0, .null, .int 0, .int 0, .int 0])), (q6, .inl (c6, 5, .inl (fun _ => 0))), (q13, .inl (c13, 5, .inl (fun _ => 0)))] H := hP
  have hD : va_D A [(h0, .inr (6, [.int 0, .ref q6, .ref q13, .null, .int 0, .null, .null, .null, .null, .null, .int 0, .null, .int 0, .null, .null, .null, .int 0, .int 0, .null, .int 0, .int 0, .int 0])), (q6, .inl (c6, 5, .inl (fun _ => 0))), (q13, .inl (c13, 5, .inl (fun _ => 0)))] := hD
  refine lv_aload_n hx hb dX6_init_18 rfl (lv_at hl 0 rfl) ?_
  refine lv_iconst (v := 5) hx hb dX6_init_19 (by decide) ?_
  refine va_newa (D := D) (cl := vwCl) (atype := .int) (ty := .int) (a0 := (5, .inl (fun _ => 0))) (N' := 5) hx hb (hW _ vg3) rfl hK hP hD hS hA (fun cA => rfl) (by decide) (by decide) (Nat.le_of_ble_eq_true rfl) (Nat.le_of_ble_eq_true rfl) (Nat.le_of_ble_eq_true rfl) dX6_init_20 (fun q20 c20 H hK hP hD hS => ?_)
  have hP : va_P D vwCl [(h0, .inr (6, [.int 0, .ref q6, .ref q13, .null, .int 0, .null, .null, .null, .null, .null, .int 0, .null, .int 0, .null, .null, .null, .int 0, .int 0, .null, .int 0, .int 0, .int 0])), (q6, .inl (c6, 5, .inl (fun _ => 0))), (q13, .inl (c13, 5, .inl (fun _ => 0))), (q20, .inl (c20, 5, .inl (fun _ => 0)))] H := hP
  have hD : va_D A [(h0, .inr (6, [.int 0, .ref q6, .ref q13, .null, .int 0, .null, .null, .null, .null, .null, .int 0, .null, .int 0, .null, .null, .null, .int 0, .int 0, .null, .int 0, .int 0, .int 0])), (q6, .inl (c6, 5, .inl (fun _ => 0))), (q13, .inl (c13, 5, .inl (fun _ => 0))), (q20, .inl (c20, 5, .inl (fun _ => 0)))] := hD
  have hK : va_K D vwCl [(c6, .int), (c13, .boolean), (c20, .int)] s := hK
  refine W.widen (k := 3) (n := 15) (Nat.le_of_ble_eq_true rfl) (Nat.le_of_ble_eq_true rfl) ?_
  refine va_putF (D := D) (ci := 6) (v := .ref q20) (ty := .array .int) (C := RX6) (T := TX6) (N := 22) hx hb hW inX6G tyX6 tyX6_ok nmX6 hown hK hP hD hS 0 rfl rfl 3 (by decide) (hW _ vg83) (fun _ h9 => h9) rfl hin rfl (by decide +kernel) rfl rfl (Nat.le_of_ble_eq_true rfl) dX6_init_22 (fun H locs hP hD hS => ?_)
  have hP : va_P D vwCl [(h0, .inr (6, [.int 0, .ref q6, .ref q13, .ref q20, .int 0, .null, .null, .null, .null, .null, .int 0, .null, .int 0, .null, .null, .null, .int 0, .int 0, .null, .int 0, .int 0, .int 0])), (q6, .inl (c6, 5, .inl (fun _ => 0))), (q13, .inl (c13, 5, .inl (fun _ => 0))), (q20, .inl (c20, 5, .inl (fun _ => 0)))] H := hP
  have hD : va_D A [(h0, .inr (6, [.int 0, .ref q6, .ref q13, .ref q20, .int 0, .null, .null, .null, .null, .null, .int 0, .null, .int 0, .null, .null, .null, .int 0, .int 0, .null, .int 0, .int 0, .int 0])), (q6, .inl (c6, 5, .inl (fun _ => 0))), (q13, .inl (c13, 5, .inl (fun _ => 0))), (q20, .inl (c20, 5, .inl (fun _ => 0)))] := hD
  refine lv_aload_n hx hb dX6_init_25 rfl (lv_at hl 0 rfl) ?_
  refine lv_bipush (v := 40) hx hb dX6_init_26 (by decide) ?_
  refine va_newa (D := D) (cl := vwCl) (atype := .int) (ty := .int) (a0 := (40, .inl (fun _ => 0))) (N' := 40) hx hb (hW _ vg3) rfl hK hP hD hS hA (fun cA => rfl) (by decide) (by decide) (Nat.le_of_ble_eq_true rfl) (Nat.le_of_ble_eq_true rfl) (Nat.le_of_ble_eq_true rfl) dX6_init_28 (fun q28 c28 H hK hP hD hS => ?_)
  have hP : va_P D vwCl [(h0, .inr (6, [.int 0, .ref q6, .ref q13, .ref q20, .int 0, .null, .null, .null, .null, .null, .int 0, .null, .int 0, .null, .null, .null, .int 0, .int 0, .null, .int 0, .int 0, .int 0])), (q6, .inl (c6, 5, .inl (fun _ => 0))), (q13, .inl (c13, 5, .inl (fun _ => 0))), (q20, .inl (c20, 5, .inl (fun _ => 0))), (q28, .inl (c28, 40, .inl (fun _ => 0)))] H := hP
  have hD : va_D A [(h0, .inr (6, [.int 0, .ref q6, .ref q13, .ref q20, .int 0, .null, .null, .null, .null, .null, .int 0, .null, .int 0, .null, .null, .null, .int 0, .int 0, .null, .int 0, .int 0, .int 0])), (q6, .inl (c6, 5, .inl (fun _ => 0))), (q13, .inl (c13, 5, .inl (fun _ => 0))), (q20, .inl (c20, 5, .inl (fun _ => 0))), (q28, .inl (c28, 40, .inl (fun _ => 0)))] := hD
  have hK : va_K D vwCl [(c6, .int), (c13, .boolean), (c20, .int), (c28, .int)] s := hK
  refine W.widen (k := 4) (n := 55) (Nat.le_of_ble_eq_true rfl) (Nat.le_of_ble_eq_true rfl) ?_
  refine va_putF (D := D) (ci := 6) (v := .ref q28) (ty := .array .int) (C := RX6) (T := TX6) (N := 22) hx hb hW inX6G tyX6 tyX6_ok nmX6 hown hK hP hD hS 0 rfl rfl 5 (by decide) (hW _ vg84) (fun _ h9 => h9) rfl hin rfl (by decide +kernel) rfl rfl (Nat.le_of_ble_eq_true rfl) dX6_init_30 (fun H locs hP hD hS => ?_)
  have hP : va_P D vwCl [(h0, .inr (6, [.int 0, .ref q6, .ref q13, .ref q20, .int 0, .ref q28, .null, .null, .null, .null, .int 0, .null, .int 0, .null, .null, .null, .int 0, .int 0, .null, .int 0, .int 0, .int 0])), (q6, .inl (c6, 5, .inl (fun _ => 0))), (q13, .inl (c13, 5, .inl (fun _ => 0))), (q20, .inl (c20, 5, .inl (fun _ => 0))), (q28, .inl (c28, 40, .inl (fun _ => 0)))] H := hP
  have hD : va_D A [(h0, .inr (6, [.int 0, .ref q6, .ref q13, .ref q20, .int 0, .ref q28, .null, .null, .null, .null, .int 0, .null, .int 0, .null, .null, .null, .int 0, .int 0, .null, .int 0, .int 0, .int 0])), (q6, .inl (c6, 5, .inl (fun _ => 0))), (q13, .inl (c13, 5, .inl (fun _ => 0))), (q20, .inl (c20, 5, .inl (fun _ => 0))), (q28, .inl (c28, 40, .inl (fun _ => 0)))] := hD
  refine lv_aload_n hx hb dX6_init_33 rfl (lv_at hl 0 rfl) ?_
  refine lv_bipush (v := 40) hx hb dX6_init_34 (by decide) ?_
  refine va_newa (D := D) (cl := vwCl) (atype := .int) (ty := .int) (a0 := (40, .inl (fun _ => 0))) (N' := 40) hx hb (hW _ vg3) rfl hK hP hD hS hA (fun cA => rfl) (by decide) (by decide) (Nat.le_of_ble_eq_true rfl) (Nat.le_of_ble_eq_true rfl) (Nat.le_of_ble_eq_true rfl) dX6_init_36 (fun q36 c36 H hK hP hD hS => ?_)
  have hP : va_P D vwCl [(h0, .inr (6, [.int 0, .ref q6, .ref q13, .ref q20, .int 0, .ref q28, .null, .null, .null, .null, .int 0, .null, .int 0, .null, .null, .null, .int 0, .int 0, .null, .int 0, .int 0, .int 0])), (q6, .inl (c6, 5, .inl (fun _ => 0))), (q13, .inl (c13, 5, .inl (fun _ => 0))), (q20, .inl (c20, 5, .inl (fun _ => 0))), (q28, .inl (c28, 40, .inl (fun _ => 0))), (q36, .inl (c36, 40, .inl (fun _ => 0)))] H := hP
  have hD : va_D A [(h0, .inr (6, [.int 0, .ref q6, .ref q13, .ref q20, .int 0, .ref q28, .null, .null, .null, .null, .int 0, .null, .int 0, .null, .null, .null, .int 0, .int 0, .null, .int 0, .int 0, .int 0])), (q6, .inl (c6, 5, .inl (fun _ => 0))), (q13, .inl (c13, 5, .inl (fun _ => 0))), (q20, .inl (c20, 5, .inl (fun _ => 0))), (q28, .inl (c28, 40, .inl (fun _ => 0))), (q36, .inl (c36, 40, .inl (fun _ => 0)))] := hD
  have hK : va_K D vwCl [(c6, .int), (c13, .boolean), (c20, .int), (c28, .int), (c36, .int)] s := hK
  refine W.widen (k := 5) (n := 95) (Nat.le_of_ble_eq_true rfl) (Nat.le_of_ble_eq_true rfl) ?_
  refine va_putF (D := D) (ci := 6) (v := .ref q36) (ty := .array .int) (C := RX6) (T := TX6) (N := 22) hx hb hW inX6G tyX6 tyX6_ok nmX6 hown hK hP hD hS 0 rfl rfl 6 (by decide) (hW _ vg85) (fun _ h9 => h9) rfl hin rfl (by decide +kernel) rfl rfl (Nat.le_of_ble_eq_true rfl) dX6_init_38 (fun H locs hP hD hS => ?_)
  have hP : va_P D vwCl [(h0, .inr (6, [.int 0, .ref q6, .ref q13, .ref q20, .int 0, .ref q28, .ref q36, .null, .null, .null, .int 0, .null, .int 0, .null, .null, .null, .int 0, .int 0, .null, .int 0, .int 0, .int 0])), (q6, .inl (c6, 5, .inl (fun _ => 0))), (q13, .inl (c13, 5, .inl (fun _ => 0))), (q20, .inl (c20, 5, .inl (fun _ => 0))), (q28, .inl (c28, 40, .inl (fun _ => 0))), (q36, .inl (c36, 40, .inl (fun _ => 0)))] H := hP
  have hD : va_D A [(h0, .inr (6, [.int 0, .ref q6, .ref q13, .ref q20, .int 0, .ref q28, .ref q36, .null, .null, .null, .int 0, .null, .int 0, .null, .null, .null, .int 0, .int 0, .null, .int 0, .int 0, .int 0])), (q6, .inl (c6, 5, .inl (fun _ => 0))), (q13, .inl (c13, 5, .inl (fun _ => 0))), (q20, .inl (c20, 5, .inl (fun _ => 0))), (q28, .inl (c28, 40, .inl (fun _ => 0))), (q36, .inl (c36, 40, .inl (fun _ => 0)))] := hD
  refine lv_aload_n hx hb dX6_init_41 rfl (lv_at hl 0 rfl) ?_
  refine lv_bipush (v := 40) hx hb dX6_init_42 (by decide) ?_
  refine va_newa (D := D) (cl := vwCl) (atype := .int) (ty := .int) (a0 := (40, .inl (fun _ => 0))) (N' := 40) hx hb (hW _ vg3) rfl hK hP hD hS hA (fun cA => rfl) (by decide) (by decide) (Nat.le_of_ble_eq_true rfl) (Nat.le_of_ble_eq_true rfl) (Nat.le_of_ble_eq_true rfl) dX6_init_44 (fun q44 c44 H hK hP hD hS => ?_)
  have hP : va_P D vwCl [(h0, .inr (6, [.int 0, .ref q6, .ref q13, .ref q20, .int 0, .ref q28, .ref q36, .null, .null, .null, .int 0, .null, .int 0, .null, .null, .null, .int 0, .int 0, .null, .int 0, .int 0, .int 0])), (q6, .inl (c6, 5, .inl (fun _ => 0))), (q13, .inl (c13, 5, .inl (fun _ => 0))), (q20, .inl (c20, 5, .inl (fun _ => 0))), (q28, .inl (c28, 40, .inl (fun _ => 0))), (q36, .inl (c36, 40, .inl (fun _ => 0))), (q44, .inl (c44, 40, .inl (fun _ => 0)))] H := hP
  have hD : va_D A [(h0, .inr (6, [.int 0, .ref q6, .ref q13, .ref q20, .int 0, .ref q28, .ref q36, .null, .null, .null, .int 0, .null, .int 0, .null, .null, .null, .int 0, .int 0, .null, .int 0, .int 0, .int 0])), (q6, .inl (c6, 5, .inl (fun _ => 0))), (q13, .inl (c13, 5, .inl (fun _ => 0))), (q20, .inl (c20, 5, .inl (fun _ => 0))), (q28, .inl (c28, 40, .inl (fun _ => 0))), (q36, .inl (c36, 40, .inl (fun _ => 0))), (q44, .inl (c44, 40, .inl (fun _ => 0)))] := hD
  have hK : va_K D vwCl [(c6, .int), (c13, .boolean), (c20, .int), (c28, .int), (c36, .int), (c44, .int)] s := hK
  refine W.widen (k := 6) (n := 135) (Nat.le_of_ble_eq_true rfl) (Nat.le_of_ble_eq_true rfl) ?_
  refine va_putF (D := D) (ci := 6) (v := .ref q44) (ty := .array .int) (C := RX6) (T := TX6) (N := 22) hx hb hW inX6G tyX6 tyX6_ok nmX6 hown hK hP hD hS 0 rfl rfl 7 (by decide) (hW _ vg86) (fun _ h9 => h9) rfl hin rfl (by decide +kernel) rfl rfl (Nat.le_of_ble_eq_true rfl) dX6_init_46 (fun H locs hP hD hS => ?_)
  have hP : va_P D vwCl [(h0, .inr (6, [.int 0, .ref q6, .ref q13, .ref q20, .int 0, .ref q28, .ref q36, .ref q44, .null, .null, .int 0, .null, .int 0, .null, .null, .null, .int 0, .int 0, .null, .int 0, .int 0, .int 0])), (q6, .inl (c6, 5, .inl (fun _ => 0))), (q13, .inl (c13, 5, .inl (fun _ => 0))), (q20, .inl (c20, 5, .inl (fun _ => 0))), (q28, .inl (c28, 40, .inl (fun _ => 0))), (q36, .inl (c36, 40, .inl (fun _ => 0))), (q44, .inl (c44, 40, .inl (fun _ => 0)))] H := hP
  have hD : va_D A [(h0, .inr (6, [.int 0, .ref q6, .ref q13, .ref q20, .int 0, .ref q28, .ref q36, .ref q44, .null, .null, .int 0, .null, .int 0, .null, .null, .null, .int 0, .int 0, .null, .int 0, .int 0, .int 0])), (q6, .inl (c6, 5, .inl (fun _ => 0))), (q13, .inl (c13, 5, .inl (fun _ => 0))), (q20, .inl (c20, 5, .inl (fun _ => 0))), (q28, .inl (c28, 40, .inl (fun _ => 0))), (q36, .inl (c36, 40, .inl (fun _ => 0))), (q44, .inl (c44, 40, .inl (fun _ => 0)))] := hD
  refine lv_aload_n hx hb dX6_init_49 rfl (lv_at hl 0 rfl) ?_
  refine lv_bipush (v := 40) hx hb dX6_init_50 (by decide) ?_
  refine va_newa (D := D) (cl := vwCl) (atype := .int) (ty := .int) (a0 := (40, .inl (fun _ => 0))) (N' := 40) hx hb (hW _ vg3) rfl hK hP hD hS hA (fun cA => rfl) (by decide) (by decide) (Nat.le_of_ble_eq_true rfl) (Nat.le_of_ble_eq_true rfl) (Nat.le_of_ble_eq_true rfl) dX6_init_52 (fun q52 c52 H hK hP hD hS => ?_)
  have hP : va_P D vwCl [(h0, .inr (6, [.int 0, .ref q6, .ref q13, .ref q20, .int 0, .ref q28, .ref q36, .ref q44, .null, .null, .int 0, .null, .int 0, .null, .null, .null, .int 0, .int 0, .null, .int 0, .int 0, .int 0])), (q6, .inl (c6, 5, .inl (fun _ => 0))), (q13, .inl (c13, 5, .inl (fun _ => 0))), (q20, .inl (c20, 5, .inl (fun _ => 0))), (q28, .inl (c28, 40, .inl (fun _ => 0))), (q36, .inl (c36, 40, .inl (fun _ => 0))), (q44, .inl (c44, 40, .inl (fun _ => 0))), (q52, .inl (c52, 40, .inl (fun _ => 0)))] H := hP
  have hD : va_D A [(h0, .inr (6, [.int 0, .ref q6, .ref q13, .ref q20, .int 0, .ref q28, .ref q36, .ref q44, .null, .null, .int 0, .null, .int 0, .null, .null, .null, .int 0, .int 0, .null, .int 0, .int 0, .int 0])), (q6, .inl (c6, 5, .inl (fun _ => 0))), (q13, .inl (c13, 5, .inl (fun _ => 0))), (q20, .inl (c20, 5, .inl (fun _ => 0))), (q28, .inl (c28, 40, .inl (fun _ => 0))), (q36, .inl (c36, 40, .inl (fun _ => 0))), (q44, .inl (c44, 40, .inl (fun _ => 0))), (q52, .inl (c52, 40, .inl (fun _ => 0)))] := hD
  have hK : va_K D vwCl [(c6, .int), (c13, .boolean), (c20, .int), (c28, .int), (c36, .int), (c44, .int), (c52, .int)] s := hK
  refine W.widen (k := 7) (n := 175) (Nat.le_of_ble_eq_true rfl) (Nat.le_of_ble_eq_true rfl) ?_
  refine va_putF (D := D) (ci := 6) (v := .ref q52) (ty := .array .int) (C := RX6) (T := TX6) (N := 22) hx hb hW inX6G tyX6 tyX6_ok nmX6 hown hK hP hD hS 0 rfl rfl 8 (by decide) (hW _ vg87) (fun _ h9 => h9) rfl hin rfl (by decide +kernel) rfl rfl (Nat.le_of_ble_eq_true rfl) dX6_init_54 (fun H locs hP hD hS => ?_)
  have hP : va_P D vwCl [(h0, .inr (6, [.int 0, .ref q6, .ref q13, .ref q20, .int 0, .ref q28, .ref q36, .ref q44, .ref q52, .null, .int 0, .null, .int 0, .null, .null, .null, .int 0, .int 0, .null, .int 0, .int 0, .int 0])), (q6, .inl (c6, 5, .inl (fun _ => 0))), (q13, .inl (c13, 5, .inl (fun _ => 0))), (q20, .inl (c20, 5, .inl (fun _ => 0))), (q28, .inl (c28, 40, .inl (fun _ => 0))), (q36, .inl (c36, 40, .inl (fun _ => 0))), (q44, .inl (c44, 40, .inl (fun _ => 0))), (q52, .inl (c52, 40, .inl (fun _ => 0)))] H := hP
  have hD : va_D A [(h0, .inr (6, [.int 0, .ref q6, .ref q13, .ref q20, .int 0, .ref q28, .ref q36, .ref q44, .ref q52, .null, .int 0, .null, .int 0, .null, .null, .null, .int 0, .int 0, .null, .int 0, .int 0, .int 0])), (q6, .inl (c6, 5, .inl (fun _ => 0))), (q13, .inl (c13, 5, .inl (fun _ => 0))), (q20, .inl (c20, 5, .inl (fun _ => 0))), (q28, .inl (c28, 40, .inl (fun _ => 0))), (q36, .inl (c36, 40, .inl (fun _ => 0))), (q44, .inl (c44, 40, .inl (fun _ => 0))), (q52, .inl (c52, 40, .inl (fun _ => 0)))] := hD
  refine lv_aload_n hx hb dX6_init_57 rfl (lv_at hl 0 rfl) ?_
  refine lv_bipush (v := 40) hx hb dX6_init_58 (by decide) ?_
  refine va_newa (D := D) (cl := vwCl) (atype := .int) (ty := .int) (a0 := (40, .inl (fun _ => 0))) (N' := 40) hx hb (hW _ vg3) rfl hK hP hD hS hA (fun cA => rfl) (by decide) (by decide) (Nat.le_of_ble_eq_true rfl) (Nat.le_of_ble_eq_true rfl) (Nat.le_of_ble_eq_true rfl) dX6_init_60 (fun q60 c60 H hK hP hD hS => ?_)
  have hP : va_P D vwCl [(h0, .inr (6, [.int 0, .ref q6, .ref q13, .ref q20, .int 0, .ref q28, .ref q36, .ref q44, .ref q52, .null, .int 0, .null, .int 0, .null, .null, .null, .int 0, .int 0, .null, .int 0, .int 0, .int 0])), (q6, .inl (c6, 5, .inl (fun _ => 0))), (q13, .inl (c13, 5, .inl (fun _ => 0))), (q20, .inl (c20, 5, .inl (fun _ => 0))), (q28, .inl (c28, 40, .inl (fun _ => 0))), (q36, .inl (c36, 40, .inl (fun _ => 0))), (q44, .inl (c44, 40, .inl (fun _ => 0))), (q52, .inl (c52, 40, .inl (fun _ => 0))), (q60, .inl (c60, 40, .inl (fun _ => 0)))] H := hP
  have hD : va_D A [(h0, .inr (6, [.int 0, .ref q6, .ref q13, .ref q20, .int 0, .ref q28, .ref q36, .ref q44, .ref q52, .null, .int 0, .null, .int 0, .null, .null, .null, .int 0, .int 0, .null, .int 0, .int 0, .int 0])), (q6, .inl (c6, 5, .inl (fun _ => 0))), (q13, .inl (c13, 5, .inl (fun _ => 0))), (q20, .inl (c20, 5, .inl (fun _ => 0))), (q28, .inl (c28, 40, .inl (fun _ => 0))), (q36, .inl (c36, 40, .inl (fun _ => 0))), (q44, .inl (c44, 40, .inl (fun _ => 0))), (q52, .inl (c52, 40, .inl (fun _ => 0))), (q60, .inl (c60, 40, .inl (fun _ => 0)))] := hD
  have hK : va_K D vwCl [(c6, .int), (c13, .boolean), (c20, .int), (c28, .int), (c36, .int), (c44, .int), (c52, .int), (c60, .int)] s := hK
  refine W.widen (k := 8) (n := 215) (Nat.le_of_ble_eq_true rfl) (Nat.le_of_ble_eq_true rfl) ?_
  refine va_putF (D := D) (ci := 6) (v := .ref q60) (ty := .array .int) (C := RX6) (T := TX6) (N := 22) hx hb hW inX6G tyX6 tyX6_ok nmX6 hown hK hP hD hS 0 rfl rfl 9 (by decide) (hW _ vg88) (fun _ h9 => h9) rfl hin rfl (by decide +kernel) rfl rfl (Nat.le_of_ble_eq_true rfl) dX6_init_62 (fun H locs hP hD hS => ?_)
  have hP : va_P D vwCl [(h0, .inr (6, [.int 0, .ref q6, .ref q13, .ref q20, .int 0, .ref q28, .ref q36, .ref q44, .ref q52, .ref q60, .int 0, .null, .int 0, .null, .null, .null, .int 0, .int 0, .null, .int 0, .int 0, .int 0])), (q6, .inl (c6, 5, .inl (fun _ => 0))), (q13, .inl (c13, 5, .inl (fun _ => 0))), (q20, .inl (c20, 5, .inl (fun _ => 0))), (q28, .inl (c28, 40, .inl (fun _ => 0))), (q36, .inl (c36, 40, .inl (fun _ => 0))), (q44, .inl (c44, 40, .inl (fun _ => 0))), (q52, .inl (c52, 40, .inl (fun _ => 0))), (q60, .inl (c60, 40, .inl (fun _ => 0)))] H := hP
  have hD : va_D A [(h0, .inr (6, [.int 0, .ref q6, .ref q13, .ref q20, .int 0, .ref q28, .ref q36, .ref q44, .ref q52, .ref q60, .int 0, .null, .int 0, .null, .null, .null, .int 0, .int 0, .null, .int 0, .int 0, .int 0])), (q6, .inl (c6, 5, .inl (fun _ => 0))), (q13, .inl (c13, 5, .inl (fun _ => 0))), (q20, .inl (c20, 5, .inl (fun _ => 0))), (q28, .inl (c28, 40, .inl (fun _ => 0))), (q36, .inl (c36, 40, .inl (fun _ => 0))), (q44, .inl (c44, 40, .inl (fun _ => 0))), (q52, .inl (c52, 40, .inl (fun _ => 0))), (q60, .inl (c60, 40, .inl (fun _ => 0)))] := hD
  refine lv_aload_n hx hb dX6_init_65 rfl (lv_at hl 0 rfl) ?_
  refine lv_ldc (v := 43008) hx hb hown (hW _ vg89) dX6_init_66 ?_
  refine va_newa (D := D) (cl := vwCl) (atype := .int) (ty := .int) (a0 := (43008, .inl (fun _ => 0))) (N' := 43008) hx hb (hW _ vg3) rfl hK hP hD hS hA (fun cA => rfl) (by decide) (by decide) (Nat.le_of_ble_eq_true rfl) (Nat.le_of_ble_eq_true rfl) (Nat.le_of_ble_eq_true rfl) dX6_init_68 (fun q68 c68 H hK hP hD hS => ?_)
  have hP : va_P D vwCl [(h0, .inr (6, [.int 0, .ref q6, .ref q13, .ref q20, .int 0, .ref q28, .ref q36, .ref q44, .ref q52, .ref q60, .int 0, .null, .int 0, .null, .null, .null, .int 0, .int 0, .null, .int 0, .int 0, .int 0])), (q6, .inl (c6, 5, .inl (fun _ => 0))), (q13, .inl (c13, 5, .inl (fun _ => 0))), (q20, .inl (c20, 5, .inl (fun _ => 0))), (q28, .inl (c28, 40, .inl (fun _ => 0))), (q36, .inl (c36, 40, .inl (fun _ => 0))), (q44, .inl (c44, 40, .inl (fun _ => 0))), (q52, .inl (c52, 40, .inl (fun _ => 0))), (q60, .inl (c60, 40, .inl (fun _ => 0))), (q68, .inl (c68, 43008, .inl (fun _ => 0)))] H := hP
  have hD : va_D A [(h0, .inr (6, [.int 0, .ref q6, .ref q13, .ref q20, .int 0, .ref q28, .ref q36, .ref q44, .ref q52, .ref q60, .int 0, .null, .int 0, .null, .null, .null, .int 0, .int 0, .null, .int 0, .int 0, .int 0])), (q6, .inl (c6, 5, .inl (fun _ => 0))), (q13, .inl (c13, 5, .inl (fun _ => 0))), (q20, .inl (c20, 5, .inl (fun _ => 0))), (q28, .inl (c28, 40, .inl (fun _ => 0))), (q36, .inl (c36, 40, .inl (fun _ => 0))), (q44, .inl (c44, 40, .inl (fun _ => 0))), (q52, .inl (c52, 40, .inl (fun _ => 0))), (q60, .inl (c60, 40, .inl (fun _ => 0))), (q68, .inl (c68, 43008, .inl (fun _ => 0)))] := hD
  have hK : va_K D vwCl [(c6, .int), (c13, .boolean), (c20, .int), (c28, .int), (c36, .int), (c44, .int), (c52, .int), (c60, .int), (c68, .int)] s := hK
  refine W.widen (k := 9) (n := 43223) (Nat.le_of_ble_eq_true rfl) (Nat.le_of_ble_eq_true rfl) ?_
  refine va_putF (D := D) (ci := 6) (v := .ref q68) (ty := .array .int) (C := RX6) (T := TX6) (N := 22) hx hb hW inX6G tyX6 tyX6_ok nmX6 hown hK hP hD hS 0 rfl rfl 11 (by decide) (hW _ vg90) (fun _ h9 => h9) rfl hin rfl (by decide +kernel) rfl rfl (Nat.le_of_ble_eq_true rfl) dX6_init_70 (fun H locs hP hD hS => ?_)
  have hP : va_P D vwCl [(h0, .inr (6, [.int 0, .ref q6, .ref q13, .ref q20, .int 0, .ref q28, .ref q36, .ref q44, .ref q52, .ref q60, .int 0, .ref q68, .int 0, .null, .null, .null, .int 0, .int 0, .null, .int 0, .int 0, .int 0])), (q6, .inl (c6, 5, .inl (fun _ => 0))), (q13, .inl (c13, 5, .inl (fun _ => 0))), (q20, .inl (c20, 5, .inl (fun _ => 0))), (q28, .inl (c28, 40, .inl (fun _ => 0))), (q36, .inl (c36, 40, .inl (fun _ => 0))), (q44, .inl (c44, 40, .inl (fun _ => 0))), (q52, .inl (c52, 40, .inl (fun _ => 0))), (q60, .inl (c60, 40, .inl (fun _ => 0))), (q68, .inl (c68, 43008, .inl (fun _ => 0)))] H := hP
  have hD : va_D A [(h0, .inr (6, [.int 0, .ref q6, .ref q13, .ref q20, .int 0, .ref q28, .ref q36, .ref q44, .ref q52, .ref q60, .int 0, .ref q68, .int 0, .null, .null, .null, .int 0, .int 0, .null, .int 0, .int 0, .int 0])), (q6, .inl (c6, 5, .inl (fun _ => 0))), (q13, .inl (c13, 5, .inl (fun _ => 0))), (q20, .inl (c20, 5, .inl (fun _ => 0))), (q28, .inl (c28, 40, .inl (fun _ => 0))), (q36, .inl (c36, 40, .inl (fun _ => 0))), (q44, .inl (c44, 40, .inl (fun _ => 0))), (q52, .inl (c52, 40, .inl (fun _ => 0))), (q60, .inl (c60, 40, .inl (fun _ => 0))), (q68, .inl (c68, 43008, .inl (fun _ => 0)))] := hD
  refine lv_aload_n hx hb dX6_init_73 rfl (lv_at hl 0 rfl) ?_
  refine lv_ldc (v := 43008) hx hb hown (hW _ vg89) dX6_init_74 ?_
  refine va_newa (D := D) (cl := vwCl) (atype := .int) (ty := .int) (a0 := (43008, .inl (fun _ => 0))) (N' := 43008) hx hb (hW _ vg3) rfl hK hP hD hS hA (fun cA => rfl) (by decide) (by decide) (Nat.le_of_ble_eq_true rfl) (Nat.le_of_ble_eq_true rfl) (Nat.le_of_ble_eq_true rfl) dX6_init_76 (fun q76 c76 H hK hP hD hS => ?_)
  have hP : va_P D vwCl [(h0, .inr (6, [.int 0, .ref q6, .ref q13, .ref q20, .int 0, .ref q28, .ref q36, .ref q44, .ref q52, .ref q60, .int 0, .ref q68, .int 0, .null, .null, .null, .int 0, .int 0, .null, .int 0, .int 0, .int 0])), (q6, .inl (c6, 5, .inl (fun _ => 0))), (q13, .inl (c13, 5, .inl (fun _ => 0))), (q20, .inl (c20, 5, .inl (fun _ => 0))), (q28, .inl (c28, 40, .inl (fun _ => 0))), (q36, .inl (c36, 40, .inl (fun _ => 0))), (q44, .inl (c44, 40, .inl (fun _ => 0))), (q52, .inl (c52, 40, .inl (fun _ => 0))), (q60, .inl (c60, 40, .inl (fun _ => 0))), (q68, .inl (c68, 43008, .inl (fun _ => 0))), (q76, .inl (c76, 43008, .inl (fun _ => 0)))] H := hP
  have hD : va_D A [(h0, .inr (6, [.int 0, .ref q6, .ref q13, .ref q20, .int 0, .ref q28, .ref q36, .ref q44, .ref q52, .ref q60, .int 0, .ref q68, .int 0, .null, .null, .null, .int 0, .int 0, .null, .int 0, .int 0, .int 0])), (q6, .inl (c6, 5, .inl (fun _ => 0))), (q13, .inl (c13, 5, .inl (fun _ => 0))), (q20, .inl (c20, 5, .inl (fun _ => 0))), (q28, .inl (c28, 40, .inl (fun _ => 0))), (q36, .inl (c36, 40, .inl (fun _ => 0))), (q44, .inl (c44, 40, .inl (fun _ => 0))), (q52, .inl (c52, 40, .inl (fun _ => 0))), (q60, .inl (c60, 40, .inl (fun _ => 0))), (q68, .inl (c68, 43008, .inl (fun _ => 0))), (q76, .inl (c76, 43008, .inl (fun _ => 0)))] := hD
  have hK : va_K D vwCl [(c6, .int), (c13, .boolean), (c20, .int), (c28, .int), (c36, .int), (c44, .int), (c52, .int), (c60, .int), (c68, .int), (c76, .int)] s := hK
  refine W.widen (k := 10) (n := 86231) (Nat.le_of_ble_eq_true rfl) (Nat.le_of_ble_eq_true rfl) ?_
  refine va_putF (D := D) (ci := 6) (v := .ref q76) (ty := .array .int) (C := RX6) (T := TX6) (N := 22) hx hb hW inX6G tyX6 tyX6_ok nmX6 hown hK hP hD hS 0 rfl rfl 13 (by decide) (hW _ vg91) (fun _ h9 => h9) rfl hin rfl (by decide +kernel) rfl rfl (Nat.le_of_ble_eq_true rfl) dX6_init_78 (fun H locs hP hD hS => ?_)
  have hP : va_P D vwCl [(h0, .inr (6, [.int 0, .ref q6, .ref q13, .ref q20, .int 0, .ref q28, .ref q36, .ref q44, .ref q52, .ref q60, .int 0, .ref q68, .int 0, .ref q76, .null, .null, .int 0, .int 0, .null, .int 0, .int 0, .int 0])), (q6, .inl (c6, 5, .inl (fun _ => 0))), (q13, .inl (c13, 5, .inl (fun _ => 0))), (q20, .inl (c20, 5, .inl (fun _ => 0))), (q28, .inl (c28, 40, .inl (fun _ => 0))), (q36, .inl (c36, 40, .inl (fun _ => 0))), (q44, .inl (c44, 40, .inl (fun _ => 0))), (q52, .inl (c52, 40, .inl (fun _ => 0))), (q60, .inl (c60, 40, .inl (fun _ => 0))), (q68, .inl (c68, 43008, .inl (fun _ => 0))), (q76, .inl (c76, 43008, .inl (fun _ => 0)))] H := hP
  have hD : va_D A [(h0, .inr (6, [.int 0, .ref q6, .ref q13, .ref q20, .int 0, .ref q28, .ref q36, .ref q44, .ref q52, .ref q60, .int 0, .ref q68, .int 0, .ref q76, .null, .null, .int 0, .int 0, .null, .int 0, .int 0, .int 0])), (q6, .inl (c6, 5, .inl (fun _ => 0))), (q13, .inl (c13, 5, .inl (fun _ => 0))), (q20, .inl (c20, 5, .inl (fun _ => 0))), (q28, .inl (c28, 40, .inl (fun _ => 0))), (q36, .inl (c36, 40, .inl (fun _ => 0))), (q44, .inl (c44, 40, .inl (fun _ => 0))), (q52, .inl (c52, 40, .inl (fun _ => 0))), (q60, .inl (c60, 40, .inl (fun _ => 0))), (q68, .inl (c68, 43008, .inl (fun _ => 0))), (q76, .inl (c76, 43008, .inl (fun _ => 0)))] := hD
  refine lv_aload_n hx hb dX6_init_81 rfl (lv_at hl 0 rfl) ?_
  refine lv_ldc (v := 43008) hx hb hown (hW _ vg89) dX6_init_82 ?_
  refine va_newa (D := D) (cl := vwCl) (atype := .boolean) (ty := .boolean) (a0 := (43008, .inl (fun _ => 0))) (N' := 43008) hx hb (hW _ vg5) rfl hK hP hD hS hA (fun cA => rfl) (by decide) (by decide) (Nat.le_of_ble_eq_true rfl) (Nat.le_of_ble_eq_true rfl) (Nat.le_of_ble_eq_true rfl) dX6_init_84 (fun q84 c84 H hK hP hD hS => ?_)
  have hP : va_P D vwCl [(h0, .inr (6, [.int 0, .ref q6, .ref q13, .ref q20, .int 0, .ref q28, .ref q36, .ref q44, .ref q52, .ref q60, .int 0, .ref q68, .int 0, .ref q76, .null, .null, .int 0, .int 0, .null, .int 0, .int 0, .int 0])), (q6, .inl (c6, 5, .inl (fun _ => 0))), (q13, .inl (c13, 5, .inl (fun _ => 0))), (q20, .inl (c20, 5, .inl (fun _ => 0))), (q28, .inl (c28, 40, .inl (fun _ => 0))), (q36, .inl (c36, 40, .inl (fun _ => 0))), (q44, .inl (c44, 40, .inl (fun _ => 0))), (q52, .inl (c52, 40, .inl (fun _ => 0))), (q60, .inl (c60, 40, .inl (fun _ => 0))), (q68, .inl (c68, 43008, .inl (fun _ => 0))), (q76, .inl (c76, 43008, .inl (fun _ => 0))), (q84, .inl (c84, 43008, .inl (fun _ => 0)))] H := hP
  have hD : va_D A [(h0, .inr (6, [.int 0, .ref q6, .ref q13, .ref q20, .int 0, .ref q28, .ref q36, .ref q44, .ref q52, .ref q60, .int 0, .ref q68, .int 0, .ref q76, .null, .null, .int 0, .int 0, .null, .int 0, .int 0, .int 0])), (q6, .inl (c6, 5, .inl (fun _ => 0))), (q13, .inl (c13, 5, .inl (fun _ => 0))), (q20, .inl (c20, 5, .inl (fun _ => 0))), (q28, .inl (c28, 40, .inl (fun _ => 0))), (q36, .inl (c36, 40, .inl (fun _ => 0))), (q44, .inl (c44, 40, .inl (fun _ => 0))), (q52, .inl (c52, 40, .inl (fun _ => 0))), (q60, .inl (c60, 40, .inl (fun _ => 0))), (q68, .inl (c68, 43008, .inl (fun _ => 0))), (q76, .inl (c76, 43008, .inl (fun _ => 0))), (q84, .inl (c84, 43008, .inl (fun _ => 0)))] := hD
  have hK : va_K D vwCl [(c6, .int), (c13, .boolean), (c20, .int), (c28, .int), (c36, .int), (c44, .int), (c52, .int), (c60, .int), (c68, .int), (c76, .int), (c84, .boolean)] s := hK
  refine W.widen (k := 11) (n := 129239) (Nat.le_of_ble_eq_true rfl) (Nat.le_of_ble_eq_true rfl) ?_
  refine va_putF (D := D) (ci := 6) (v := .ref q84) (ty := .array .boolean) (C := RX6) (T := TX6) (N := 22) hx hb hW inX6G tyX6 tyX6_ok nmX6 hown hK hP hD hS 0 rfl rfl 14 (by decide) (hW _ vg92) (fun _ h9 => h9) rfl hin rfl (by decide +kernel) rfl rfl (Nat.le_of_ble_eq_true rfl) dX6_init_86 (fun H locs hP hD hS => ?_)
  have hP : va_P D vwCl [(h0, .inr (6, [.int 0, .ref q6, .ref q13, .ref q20, .int 0, .ref q28, .ref q36, .ref q44, .ref q52, .ref q60, .int 0, .ref q68, .int 0, .ref q76, .ref q84, .null, .int 0, .int 0, .null, .int 0, .int 0, .int 0])), (q6, .inl (c6, 5, .inl (fun _ => 0))), (q13, .inl (c13, 5, .inl (fun _ => 0))), (q20, .inl (c20, 5, .inl (fun _ => 0))), (q28, .inl (c28, 40, .inl (fun _ => 0))), (q36, .inl (c36, 40, .inl (fun _ => 0))), (q44, .inl (c44, 40, .inl (fun _ => 0))), (q52, .inl (c52, 40, .inl (fun _ => 0))), (q60, .inl (c60, 40, .inl (fun _ => 0))), (q68, .inl (c68, 43008, .inl (fun _ => 0))), (q76, .inl (c76, 43008, .inl (fun _ => 0))), (q84, .inl (c84, 43008, .inl (fun _ => 0)))] H := hP
  have hD : va_D A [(h0, .inr (6, [.int 0, .ref q6, .ref q13, .ref q20, .int 0, .ref q28, .ref q36, .ref q44, .ref q52, .ref q60, .int 0, .ref q68, .int 0, .ref q76, .ref q84, .null, .int 0, .int 0, .null, .int 0, .int 0, .int 0])), (q6, .inl (c6, 5, .inl (fun _ => 0))), (q13, .inl (c13, 5, .inl (fun _ => 0))), (q20, .inl (c20, 5, .inl (fun _ => 0))), (q28, .inl (c28, 40, .inl (fun _ => 0))), (q36, .inl (c36, 40, .inl (fun _ => 0))), (q44, .inl (c44, 40, .inl (fun _ => 0))), (q52, .inl (c52, 40, .inl (fun _ => 0))), (q60, .inl (c60, 40, .inl (fun _ => 0))), (q68, .inl (c68, 43008, .inl (fun _ => 0))), (q76, .inl (c76, 43008, .inl (fun _ => 0))), (q84, .inl (c84, 43008, .inl (fun _ => 0)))] := hD
  refine lv_aload_n hx hb dX6_init_89 rfl (lv_at hl 0 rfl) ?_
  refine lv_bipush (v := 25) hx hb dX6_init_90 (by decide) ?_
  refine va_newa (D := D) (cl := vwCl) (atype := .int) (ty := .int) (a0 := (25, .inl (fun _ => 0))) (N' := 25) hx hb (hW _ vg3) rfl hK hP hD hS hA (fun cA => rfl) (by decide) (by decide) (Nat.le_of_ble_eq_true rfl) (Nat.le_of_ble_eq_true rfl) (Nat.le_of_ble_eq_true rfl) dX6_init_92 (fun q92 c92 H hK hP hD hS => ?_)
  have hP : va_P D vwCl [(h0, .inr (6, [.int 0, .ref q6, .ref q13, .ref q20, .int 0, .ref q28, .ref q36, .ref q44, .ref q52, .ref q60, .int 0, .ref q68, .int 0, .ref q76, .ref q84, .null, .int 0, .int 0, .null, .int 0, .int 0, .int 0])), (q6, .inl (c6, 5, .inl (fun _ => 0))), (q13, .inl (c13, 5, .inl (fun _ => 0))), (q20, .inl (c20, 5, .inl (fun _ => 0))), (q28, .inl (c28, 40, .inl (fun _ => 0))), (q36, .inl (c36, 40, .inl (fun _ => 0))), (q44, .inl (c44, 40, .inl (fun _ => 0))), (q52, .inl (c52, 40, .inl (fun _ => 0))), (q60, .inl (c60, 40, .inl (fun _ => 0))), (q68, .inl (c68, 43008, .inl (fun _ => 0))), (q76, .inl (c76, 43008, .inl (fun _ => 0))), (q84, .inl (c84, 43008, .inl (fun _ => 0))), (q92, .inl (c92, 25, .inl (fun _ => 0)))] H := hP
  have hD : va_D A [(h0, .inr (6, [.int 0, .ref q6, .ref q13, .ref q20, .int 0, .ref q28, .ref q36, .ref q44, .ref q52, .ref q60, .int 0, .ref q68, .int 0, .ref q76, .ref q84, .null, .int 0, .int 0, .null, .int 0, .int 0, .int 0])), (q6, .inl (c6, 5, .inl (fun _ => 0))), (q13, .inl (c13, 5, .inl (fun _ => 0))), (q20, .inl (c20, 5, .inl (fun _ => 0))), (q28, .inl (c28, 40, .inl (fun _ => 0))), (q36, .inl (c36, 40, .inl (fun _ => 0))), (q44, .inl (c44, 40, .inl (fun _ => 0))), (q52, .inl (c52, 40, .inl (fun _ => 0))), (q60, .inl (c60, 40, .inl (fun _ => 0))), (q68, .inl (c68, 43008, .inl (fun _ => 0))), (q76, .inl (c76, 43008, .inl (fun _ => 0))), (q84, .inl (c84, 43008, .inl (fun _ => 0))), (q92, .inl (c92, 25, .inl (fun _ => 0)))] := hD
  have hK : va_K D vwCl [(c6, .int), (c13, .boolean), (c20, .int), (c28, .int), (c36, .int), (c44, .int), (c52, .int), (c60, .int), (c68, .int), (c76, .int), (c84, .boolean), (c92, .int)] s := hK
  refine W.widen (k := 12) (n := 129264) (Nat.le_of_ble_eq_true rfl) (Nat.le_of_ble_eq_true rfl) ?_
  refine va_putF (D := D) (ci := 6) (v := .ref q92) (ty := .array .int) (C := RX6) (T := TX6) (N := 22) hx hb hW inX6G tyX6 tyX6_ok nmX6 hown hK hP hD hS 0 rfl rfl 15 (by decide) (hW _ vg93) (fun _ h9 => h9) rfl hin rfl (by decide +kernel) rfl rfl (Nat.le_of_ble_eq_true rfl) dX6_init_94 (fun H locs hP hD hS => ?_)
  have hP : va_P D vwCl [(h0, .inr (6, [.int 0, .ref q6, .ref q13, .ref q20, .int 0, .ref q28, .ref q36, .ref q44, .ref q52, .ref q60, .int 0, .ref q68, .int 0, .ref q76, .ref q84, .ref q92, .int 0, .int 0, .null, .int 0, .int 0, .int 0])), (q6, .inl (c6, 5, .inl (fun _ => 0))), (q13, .inl (c13, 5, .inl (fun _ => 0))), (q20, .inl (c20, 5, .inl (fun _ => 0))), (q28, .inl (c28, 40, .inl (fun _ => 0))), (q36, .inl (c36, 40, .inl (fun _ => 0))), (q44, .inl (c44, 40, .inl (fun _ => 0))), (q52, .inl (c52, 40, .inl (fun _ => 0))), (q60, .inl (c60, 40, .inl (fun _ => 0))), (q68, .inl (c68, 43008, .inl (fun _ => 0))), (q76, .inl (c76, 43008, .inl (fun _ => 0))), (q84, .inl (c84, 43008, .inl (fun _ => 0))), (q92, .inl (c92, 25, .inl (fun _ => 0)))] H := hP
  have hD : va_D A [(h0, .inr (6, [.int 0, .ref q6, .ref q13, .ref q20, .int 0, .ref q28, .ref q36, .ref q44, .ref q52, .ref q60, .int 0, .ref q68, .int 0, .ref q76, .ref q84, .ref q92, .int 0, .int 0, .null, .int 0, .int 0, .int 0])), (q6, .inl (c6, 5, .inl (fun _ => 0))), (q13, .inl (c13, 5, .inl (fun _ => 0))), (q20, .inl (c20, 5, .inl (fun _ => 0))), (q28, .inl (c28, 40, .inl (fun _ => 0))), (q36, .inl (c36, 40, .inl (fun _ => 0))), (q44, .inl (c44, 40, .inl (fun _ => 0))), (q52, .inl (c52, 40, .inl (fun _ => 0))), (q60, .inl (c60, 40, .inl (fun _ => 0))), (q68, .inl (c68, 43008, .inl (fun _ => 0))), (q76, .inl (c76, 43008, .inl (fun _ => 0))), (q84, .inl (c84, 43008, .inl (fun _ => 0))), (q92, .inl (c92, 25, .inl (fun _ => 0)))] := hD
  refine lv_aload_n hx hb dX6_init_97 rfl (lv_at hl 0 rfl) ?_
  refine lv_bipush (v := 100) hx hb dX6_init_98 (by decide) ?_
  refine va_newa (D := D) (cl := vwCl) (atype := .int) (ty := .int) (a0 := (100, .inl (fun _ => 0))) (N' := 100) hx hb (hW _ vg3) rfl hK hP hD hS hA (fun cA => rfl) (by decide) (by decide) (Nat.le_of_ble_eq_true rfl) (Nat.le_of_ble_eq_true rfl) (Nat.le_of_ble_eq_true rfl) dX6_init_100 (fun q100 c100 H hK hP hD hS => ?_)
  have hP : va_P D vwCl [(h0, .inr (6, [.int 0, .ref q6, .ref q13, .ref q20, .int 0, .ref q28, .ref q36, .ref q44, .ref q52, .ref q60, .int 0, .ref q68, .int 0, .ref q76, .ref q84, .ref q92, .int 0, .int 0, .null, .int 0, .int 0, .int 0])), (q6, .inl (c6, 5, .inl (fun _ => 0))), (q13, .inl (c13, 5, .inl (fun _ => 0))), (q20, .inl (c20, 5, .inl (fun _ => 0))), (q28, .inl (c28, 40, .inl (fun _ => 0))), (q36, .inl (c36, 40, .inl (fun _ => 0))), (q44, .inl (c44, 40, .inl (fun _ => 0))), (q52, .inl (c52, 40, .inl (fun _ => 0))), (q60, .inl (c60, 40, .inl (fun _ => 0))), (q68, .inl (c68, 43008, .inl (fun _ => 0))), (q76, .inl (c76, 43008, .inl (fun _ => 0))), (q84, .inl (c84, 43008, .inl (fun _ => 0))), (q92, .inl (c92, 25, .inl (fun _ => 0))), (q100, .inl (c100, 100, .inl (fun _ => 0)))] H := hP
  have hD : va_D A [(h0, .inr (6, [.int 0, .ref q6, .ref q13, .ref q20, .int 0, .ref q28, .ref q36, .ref q44, .ref q52, .ref q60, .int 0, .ref q68, .int 0, .ref q76, .ref q84, .ref q92, .int 0, .int 0, .null, .int 0, .int 0, .int 0])), (q6, .inl (c6, 5, .inl (fun _ => 0))), (q13, .inl (c13, 5, .inl (fun _ => 0))), (q20, .inl (c20, 5, .inl (fun _ => 0))), (q28, .inl (c28, 40, .inl (fun _ => 0))), (q36, .inl (c36, 40, .inl (fun _ => 0))), (q44, .inl (c44, 40, .inl (fun _ => 0))), (q52, .inl (c52, 40, .inl (fun _ => 0))), (q60, .inl (c60, 40, .inl (fun _ => 0))), (q68, .inl (c68, 43008, .inl (fun _ => 0))), (q76, .inl (c76, 43008, .inl (fun _ => 0))), (q84, .inl (c84, 43008, .inl (fun _ => 0))), (q92, .inl (c92, 25, .inl (fun _ => 0))), (q100, .inl (c100, 100, .inl (fun _ => 0)))] := hD
  have hK : va_K D vwCl [(c6, .int), (c13, .boolean), (c20, .int), (c28, .int), (c36, .int), (c44, .int), (c52, .int), (c60, .int), (c68, .int), (c76, .int), (c84, .boolean), (c92, .int), (c100, .int)] s := hK
  refine W.widen (k := 13) (n := 129364) (Nat.le_of_ble_eq_true rfl) (Nat.le_of_ble_eq_true rfl) ?_
  refine va_putF (D := D) (ci := 6) (v := .ref q100) (ty := .array .int) (C := RX6) (T := TX6) (N := 22) hx hb hW inX6G tyX6 tyX6_ok nmX6 hown hK hP hD hS 0 rfl rfl 18 (by decide) (hW _ vg94) (fun _ h9 => h9) rfl hin rfl (by decide +kernel) rfl rfl (Nat.le_of_ble_eq_true rfl) dX6_init_102 (fun H locs hP hD hS => ?_)
  have hP : va_P D vwCl [(h0, .inr (6, [.int 0, .ref q6, .ref q13, .ref q20, .int 0, .ref q28, .ref q36, .ref q44, .ref q52, .ref q60, .int 0, .ref q68, .int 0, .ref q76, .ref q84, .ref q92, .int 0, .int 0, .ref q100, .int 0, .int 0, .int 0])), (q6, .inl (c6, 5, .inl (fun _ => 0))), (q13, .inl (c13, 5, .inl (fun _ => 0))), (q20, .inl (c20, 5, .inl (fun _ => 0))), (q28, .inl (c28, 40, .inl (fun _ => 0))), (q36, .inl (c36, 40, .inl (fun _ => 0))), (q44, .inl (c44, 40, .inl (fun _ => 0))), (q52, .inl (c52, 40, .inl (fun _ => 0))), (q60, .inl (c60, 40, .inl (fun _ => 0))), (q68, .inl (c68, 43008, .inl (fun _ => 0))), (q76, .inl (c76, 43008, .inl (fun _ => 0))), (q84, .inl (c84, 43008, .inl (fun _ => 0))), (q92, .inl (c92, 25, .inl (fun _ => 0))), (q100, .inl (c100, 100, .inl (fun _ => 0)))] H := hP
  have hD : va_D A [(h0, .inr (6, [.int 0, .ref q6, .ref q13, .ref q20, .int 0, .ref q28, .ref q36, .ref q44, .ref q52, .ref q60, .int 0, .ref q68, .int 0, .ref q76, .ref q84, .ref q92, .int 0, .int 0, .ref q100, .int 0, .int 0, .int 0])), (q6, .inl (c6, 5, .inl (fun _ => 0))), (q13, .inl (c13, 5, .inl (fun _ => 0))), (q20, .inl (c20, 5, .inl (fun _ => 0))), (q28, .inl (c28, 40, .inl (fun _ => 0))), (q36, .inl (c36, 40, .inl (fun _ => 0))), (q44, .inl (c44, 40, .inl (fun _ => 0))), (q52, .inl (c52, 40, .inl (fun _ => 0))), (q60, .inl (c60, 40, .inl (fun _ => 0))), (q68, .inl (c68, 43008, .inl (fun _ => 0))), (q76, .inl (c76, 43008, .inl (fun _ => 0))), (q84, .inl (c84, 43008, .inl (fun _ => 0))), (q92, .inl (c92, 25, .inl (fun _ => 0))), (q100, .inl (c100, 100, .inl (fun _ => 0)))] := hD
  have hP9 := hP.sub (ws' := wM (fun i => match i with | 0 => h0 | 1 => q6 | 2 => q13 | 3 => q20 | 4 => q28 | 5 => q36 | 6 => q44 | 7 => q52 | 8 => q60 | 9 => q68 | 10 => q76 | 11 => q84 | 12 => q92 | _ => q100) (fun i => match i with | 0 => c6 | 1 => c13 | 2 => c20 | 3 => c28 | 4 => c36 | 5 => c44 | 6 => c52 | 7 => c60 | 8 => c68 | 9 => c76 | 10 => c84 | 11 => c92 | _ => c100) z0) [0, 1, 2, 3, 4, 5, 6, 7, 8, 9, 10, 11, 12, 13] rfl
  have hD9 := hD.sub (ws' := wM (fun i => match i with | 0 => h0 | 1 => q6 | 2 => q13 | 3 => q20 | 4 => q28 | 5 => q36 | 6 => q44 | 7 => q52 | 8 => q60 | 9 => q68 | 10 => q76 | 11 => q84 | 12 => q92 | _ => q100) (fun i => match i with | 0 => c6 | 1 => c13 | 2 => c20 | 3 => c28 | 4 => c36 | 5 => c44 | 6 => c52 | 7 => c60 | 8 => c68 | 9 => c76 | 10 => c84 | 11 => c92 | _ => c100) z0) [0, 1, 2, 3, 4, 5, 6, 7, 8, 9, 10, 11, 12, 13] (by decide) rfl
  have hK9 := hK.sub (tys' := tM (fun i => match i with | 0 => c6 | 1 => c13 | 2 => c20 | 3 => c28 | 4 => c36 | 5 => c44 | 6 => c52 | 7 => c60 | 8 => c68 | 9 => c76 | 10 => c84 | 11 => c92 | _ => c100)) [0, 1, 2, 3, 4, 5, 6, 7, 8, 9, 10, 11, 12] rfl
  exact W.vret hx hb hr (fun t ht hW9 => ⟨⟨(), rfl, trivial, (fun i => match i with | 0 => h0 | 1 => q6 | 2 => q13 | 3 => q20 | 4 => q28 | 5 => q36 | 6 => q44 | 7 => q52 | 8 => q60 | 9 => q68 | 10 => q76 | 11 => q84 | 12 => q92 | _ => q100), (fun i => match i with | 0 => c6 | 1 => c13 | 2 => c20 | 3 => c28 | 4 => c36 | 5 => c44 | 6 => c52 | 7 => c60 | 8 => c68 | 9 => c76 | 10 => c84 | 11 => c92 | _ => c100), rfl, by rw [ht]; exact hP9, va_K.moved hW9.alike hK9, hD9⟩, hS.F ht⟩) hS.2.2 dX6_init_105 hlocks
