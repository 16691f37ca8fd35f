theorem lg0 : (Cond.methodLink RL 13 yX5_thing) ∈ WG := wg_1 202 rfl rfl
theorem lg1 : (Cond.code yX5_thing cX5_thing 4 (some .int)) ∈ WG := wg_1 205 rfl rfl
theorem lg2 : (Cond.initialized RX5) ∈ WG := wg_1 1 rfl rfl
theorem lg3 : (Cond.instanceMethod yX5_thing) ∈ WG := wg_1 203 rfl rfl
theorem lg4 : (Cond.selects RX5 yX5_thing yX5_thing) ∈ WG := wg_1 204 rfl rfl
theorem lg5 : (Cond.methodLink RL 17 yX6_thing) ∈ WG := wg_3 56 rfl rfl
theorem lg6 : (Cond.code yX6_thing cX6_thing 4 (some .int)) ∈ WG := wg_3 59 rfl rfl
theorem lg7 : (Cond.initialized RX6) ∈ WG := wg_1 7 rfl rfl
theorem lg8 : (Cond.instanceMethod yX6_thing) ∈ WG := wg_3 57 rfl rfl
theorem lg9 : (Cond.selects RX6 yX6_thing yX6_thing) ∈ WG := wg_3 58 rfl rfl
theorem lg10 : (Cond.methodLink RL 18 yX5_step) ∈ WG := wg_1 221 rfl rfl
theorem lg11 : (Cond.code yX5_step cX5_step 8 (some .int)) ∈ WG := wg_1 224 rfl rfl
theorem lg12 : (Cond.instanceMethod yX5_step) ∈ WG := wg_1 222 rfl rfl
theorem lg13 : (Cond.selects RX5 yX5_step yX5_step) ∈ WG := wg_1 223 rfl rfl
theorem lg14 : (Cond.methodLink RL 22 yX6_step) ∈ WG := wg_3 67 rfl rfl
theorem lg15 : (Cond.code yX6_step cX6_step 7 (some .int)) ∈ WG := wg_3 70 rfl rfl
theorem lg16 : (Cond.instanceMethod yX6_step) ∈ WG := wg_3 68 rfl rfl
theorem lg17 : (Cond.selects RX6 yX6_step yX6_step) ∈ WG := wg_3 69 rfl rfl
theorem lg18 : (Cond.methodLink RL 23 yX5_change) ∈ WG := wg_2 3 rfl rfl
theorem lg19 : (Cond.code yX5_change cX5_change 9 (some .int)) ∈ WG := wg_2 6 rfl rfl
theorem lg20 : (Cond.instanceMethod yX5_change) ∈ WG := wg_2 4 rfl rfl
theorem lg21 : (Cond.selects RX5 yX5_change yX5_change) ∈ WG := wg_2 5 rfl rfl
theorem lg22 : (Cond.methodLink RL 27 yX6_change) ∈ WG := wg_3 79 rfl rfl
theorem lg23 : (Cond.code yX6_change cX6_change 9 (some .int)) ∈ WG := wg_3 82 rfl rfl
theorem lg24 : (Cond.instanceMethod yX6_change) ∈ WG := wg_3 80 rfl rfl
theorem lg25 : (Cond.selects RX6 yX6_change yX6_change) ∈ WG := wg_3 81 rfl rfl
theorem lg26 : (Cond.methodLink RL 28 yX5_check) ∈ WG := wg_2 12 rfl rfl
theorem lg27 : (Cond.code yX5_check cX5_check 1 (some .int)) ∈ WG := wg_2 15 rfl rfl
theorem lg28 : (Cond.instanceMethod yX5_check) ∈ WG := wg_2 13 rfl rfl
theorem lg29 : (Cond.selects RX5 yX5_check yX5_check) ∈ WG := wg_2 14 rfl rfl
theorem lg30 : (Cond.methodLink RL 32 yX6_check) ∈ WG := wg_3 83 rfl rfl
theorem lg31 : (Cond.code yX6_check cX6_check 4 (some .int)) ∈ WG := wg_3 86 rfl rfl
theorem lg32 : (Cond.instanceMethod yX6_check) ∈ WG := wg_3 84 rfl rfl
theorem lg33 : (Cond.selects RX6 yX6_check yX6_check) ∈ WG := wg_3 85 rfl rfl
theorem lg34 : (Cond.methodLink RL 33 yX5_found) ∈ WG := wg_2 138 rfl rfl
theorem lg35 : (Cond.code yX5_found cX5_found 4 (some .int)) ∈ WG := wg_2 141 rfl rfl
theorem lg36 : (Cond.instanceMethod yX5_found) ∈ WG := wg_2 139 rfl rfl
theorem lg37 : (Cond.selects RX5 yX5_found yX5_found) ∈ WG := wg_2 140 rfl rfl
theorem lg38 : (Cond.methodLink RL 37 yX6_found) ∈ WG := wg_3 132 rfl rfl
theorem lg39 : (Cond.code yX6_found cX6_found 4 (some .int)) ∈ WG := wg_3 135 rfl rfl
theorem lg40 : (Cond.instanceMethod yX6_found) ∈ WG := wg_3 133 rfl rfl
theorem lg41 : (Cond.selects RX6 yX6_found yX6_found) ∈ WG := wg_3 134 rfl rfl
theorem lg42 : (Cond.methodLink RL 38 yX5_way) ∈ WG := wg_2 150 rfl rfl
theorem lg43 : (Cond.code yX5_way cX5_way 5 (some .int)) ∈ WG := wg_2 153 rfl rfl
theorem lg44 : (Cond.instanceMethod yX5_way) ∈ WG := wg_2 151 rfl rfl
theorem lg45 : (Cond.selects RX5 yX5_way yX5_way) ∈ WG := wg_2 152 rfl rfl
theorem lg46 : (Cond.methodLink RL 42 yX6_way) ∈ WG := wg_3 148 rfl rfl
theorem lg47 : (Cond.code yX6_way cX6_way 8 (some .int)) ∈ WG := wg_3 151 rfl rfl
theorem lg48 : (Cond.instanceMethod yX6_way) ∈ WG := wg_3 149 rfl rfl
theorem lg49 : (Cond.selects RX6 yX6_way yX6_way) ∈ WG := wg_3 150 rfl rfl
theorem lg50 : (Cond.methodLink RL 43 yX5_closed) ∈ WG := wg_2 160 rfl rfl
theorem lg51 : (Cond.code yX5_closed cX5_closed 3 (some .int)) ∈ WG := wg_2 163 rfl rfl
theorem lg52 : (Cond.instanceMethod yX5_closed) ∈ WG := wg_2 161 rfl rfl
theorem lg53 : (Cond.selects RX5 yX5_closed yX5_closed) ∈ WG := wg_2 162 rfl rfl
theorem lg54 : (Cond.methodLink RL 47 yX6_closed) ∈ WG := wg_3 152 rfl rfl
theorem lg55 : (Cond.code yX6_closed cX6_closed 2 (some .int)) ∈ WG := wg_3 155 rfl rfl
theorem lg56 : (Cond.instanceMethod yX6_closed) ∈ WG := wg_3 153 rfl rfl
theorem lg57 : (Cond.selects RX6 yX6_closed yX6_closed) ∈ WG := wg_3 154 rfl rfl
theorem lg58 : (Cond.methodLink RL 48 yX5_states) ∈ WG := wg_2 164 rfl rfl
theorem lg59 : (Cond.code yX5_states cX5_states 3 (some .int)) ∈ WG := wg_2 167 rfl rfl
theorem lg60 : (Cond.instanceMethod yX5_states) ∈ WG := wg_2 165 rfl rfl
theorem lg61 : (Cond.selects RX5 yX5_states yX5_states) ∈ WG := wg_2 166 rfl rfl
theorem lg62 : (Cond.methodLink RL 51 yX6_states) ∈ WG := wg_3 156 rfl rfl
theorem lg63 : (Cond.code yX6_states cX6_states 5 (some .int)) ∈ WG := wg_3 159 rfl rfl
theorem lg64 : (Cond.instanceMethod yX6_states) ∈ WG := wg_3 157 rfl rfl
theorem lg65 : (Cond.selects RX6 yX6_states yX6_states) ∈ WG := wg_3 158 rfl rfl
theorem lg66 : (Cond.methodLink RL 52 yX5_nodes) ∈ WG := wg_2 168 rfl rfl
theorem lg67 : (Cond.code yX5_nodes cX5_nodes 2 (some .int)) ∈ WG := wg_2 171 rfl rfl
theorem lg68 : (Cond.instanceMethod yX5_nodes) ∈ WG := wg_2 169 rfl rfl
theorem lg69 : (Cond.selects RX5 yX5_nodes yX5_nodes) ∈ WG := wg_2 170 rfl rfl
theorem lg70 : (Cond.methodLink RL 55 yX6_nodes) ∈ WG := wg_3 160 rfl rfl
theorem lg71 : (Cond.code yX6_nodes cX6_nodes 4 (some .int)) ∈ WG := wg_3 163 rfl rfl
theorem lg72 : (Cond.instanceMethod yX6_nodes) ∈ WG := wg_3 161 rfl rfl
theorem lg73 : (Cond.selects RX6 yX6_nodes yX6_nodes) ∈ WG := wg_3 162 rfl rfl
theorem lg74 : (Cond.methodLink RL 56 yX5_atOnce) ∈ WG := wg_2 172 rfl rfl
theorem lg75 : (Cond.code yX5_atOnce cX5_atOnce 2 (some .int)) ∈ WG := wg_2 175 rfl rfl
theorem lg76 : (Cond.instanceMethod yX5_atOnce) ∈ WG := wg_2 173 rfl rfl
theorem lg77 : (Cond.selects RX5 yX5_atOnce yX5_atOnce) ∈ WG := wg_2 174 rfl rfl
theorem lg78 : (Cond.methodLink RL 59 yX6_atOnce) ∈ WG := wg_3 164 rfl rfl
theorem lg79 : (Cond.code yX6_atOnce cX6_atOnce 7 (some .int)) ∈ WG := wg_3 167 rfl rfl
theorem lg80 : (Cond.instanceMethod yX6_atOnce) ∈ WG := wg_3 165 rfl rfl
theorem lg81 : (Cond.selects RX6 yX6_atOnce yX6_atOnce) ∈ WG := wg_3 166 rfl rfl
theorem lg82 : (Cond.methodLink RL 60 yX5_run) ∈ WG := wg_2 176 rfl rfl
theorem lg83 : (Cond.code yX5_run cX5_run 3 (some .int)) ∈ WG := wg_2 179 rfl rfl
theorem lg84 : (Cond.instanceMethod yX5_run) ∈ WG := wg_2 177 rfl rfl
theorem lg85 : (Cond.selects RX5 yX5_run yX5_run) ∈ WG := wg_2 178 rfl rfl
theorem lg86 : (Cond.methodLink RL 63 yX6_run) ∈ WG := wg_3 168 rfl rfl
theorem lg87 : (Cond.code yX6_run cX6_run 6 (some .int)) ∈ WG := wg_3 171 rfl rfl
theorem lg88 : (Cond.instanceMethod yX6_run) ∈ WG := wg_3 169 rfl rfl
theorem lg89 : (Cond.selects RX6 yX6_run yX6_run) ∈ WG := wg_3 170 rfl rfl
theorem lg90 : (Cond.methodLink RL 64 yX5_ran) ∈ WG := wg_2 195 rfl rfl
theorem lg91 : (Cond.code yX5_ran cX5_ran 2 (some .int)) ∈ WG := wg_2 198 rfl rfl
theorem lg92 : (Cond.instanceMethod yX5_ran) ∈ WG := wg_2 196 rfl rfl
theorem lg93 : (Cond.selects RX5 yX5_ran yX5_ran) ∈ WG := wg_2 197 rfl rfl
theorem lg94 : (Cond.methodLink RL 67 yX6_ran) ∈ WG := wg_3 173 rfl rfl
theorem lg95 : (Cond.code yX6_ran cX6_ran 2 (some .int)) ∈ WG := wg_3 176 rfl rfl
theorem lg96 : (Cond.instanceMethod yX6_ran) ∈ WG := wg_3 174 rfl rfl
theorem lg97 : (Cond.selects RX6 yX6_ran yX6_ran) ∈ WG := wg_3 175 rfl rfl
theorem lg98 : (Cond.methodLink RL 68 yX5_came) ∈ WG := wg_2 199 rfl rfl
theorem lg99 : (Cond.code yX5_came cX5_came 3 (some .int)) ∈ WG := wg_2 202 rfl rfl
theorem lg100 : (Cond.instanceMethod yX5_came) ∈ WG := wg_2 200 rfl rfl
theorem lg101 : (Cond.selects RX5 yX5_came yX5_came) ∈ WG := wg_2 201 rfl rfl
theorem lg102 : (Cond.methodLink RL 71 yX6_came) ∈ WG := wg_3 177 rfl rfl
theorem lg103 : (Cond.code yX6_came cX6_came 2 (some .int)) ∈ WG := wg_3 180 rfl rfl
theorem lg104 : (Cond.instanceMethod yX6_came) ∈ WG := wg_3 178 rfl rfl
theorem lg105 : (Cond.selects RX6 yX6_came yX6_came) ∈ WG := wg_3 179 rfl rfl
theorem lg106 : (Cond.methodLink RL 72 yX5_told) ∈ WG := wg_2 206 rfl rfl
theorem lg107 : (Cond.code yX5_told cX5_told 3 (some .int)) ∈ WG := wg_2 209 rfl rfl
theorem lg108 : (Cond.instanceMethod yX5_told) ∈ WG := wg_2 207 rfl rfl
theorem lg109 : (Cond.selects RX5 yX5_told yX5_told) ∈ WG := wg_2 208 rfl rfl
theorem lg110 : (Cond.methodLink RL 75 yX6_told) ∈ WG := wg_3 181 rfl rfl
theorem lg111 : (Cond.code yX6_told cX6_told 3 (some .int)) ∈ WG := wg_3 184 rfl rfl
theorem lg112 : (Cond.instanceMethod yX6_told) ∈ WG := wg_3 182 rfl rfl
theorem lg113 : (Cond.selects RX6 yX6_told yX6_told) ∈ WG := wg_3 183 rfl rfl
theorem lg114 : (Cond.methodLink RL 76 yX5_count) ∈ WG := wg_2 210 rfl rfl
theorem lg115 : (Cond.code yX5_count cX5_count 2 (some .int)) ∈ WG := wg_2 213 rfl rfl
theorem lg116 : (Cond.instanceMethod yX5_count) ∈ WG := wg_2 211 rfl rfl
theorem lg117 : (Cond.selects RX5 yX5_count yX5_count) ∈ WG := wg_2 212 rfl rfl
theorem lg118 : (Cond.methodLink RL 79 yX6_count) ∈ WG := wg_3 185 rfl rfl
theorem lg119 : (Cond.code yX6_count cX6_count 2 (some .int)) ∈ WG := wg_3 188 rfl rfl
theorem lg120 : (Cond.instanceMethod yX6_count) ∈ WG := wg_3 186 rfl rfl
theorem lg121 : (Cond.selects RX6 yX6_count yX6_count) ∈ WG := wg_3 187 rfl rfl
theorem lg122 : (Cond.methodLink RL 80 yX5_clear) ∈ WG := wg_2 214 rfl rfl
theorem lg123 : (Cond.code yX5_clear cX5_clear 2 (some .int)) ∈ WG := wg_2 217 rfl rfl
theorem lg124 : (Cond.instanceMethod yX5_clear) ∈ WG := wg_2 215 rfl rfl
theorem lg125 : (Cond.selects RX5 yX5_clear yX5_clear) ∈ WG := wg_2 216 rfl rfl
theorem lg126 : (Cond.methodLink RL 83 yX6_clear) ∈ WG := wg_3 189 rfl rfl
theorem lg127 : (Cond.code yX6_clear cX6_clear 2 (some .int)) ∈ WG := wg_3 192 rfl rfl
theorem lg128 : (Cond.instanceMethod yX6_clear) ∈ WG := wg_3 190 rfl rfl
theorem lg129 : (Cond.selects RX6 yX6_clear yX6_clear) ∈ WG := wg_3 191 rfl rfl
/-- what the law's walk stands on: its entry, the two worlds apart from each other and from what was there before -/
def LC (p : Program) (s : State) (m : MethodId) (meth : Method) (c : Code) (bb L : Nat) (xs : Nat → Int32) (D : va_G) (a b : Nat → Nat) (k k2 : Nat → ClassId) : Prop :=
  lw_At p s m meth c bb L xs ∧ L ≤ 3584 ∧ Kx D (tX k) s ∧ Kx D (tM k2) s ∧ va_D (AX a) (wX a k z0) ∧ va_D (AM b) (wM b k2 z0) ∧ (∀ q, AX a q → s.heap.size ≤ q) ∧ (∀ q, AM b q → s.heap.size ≤ q) ∧ (∀ q, AX a q → ¬ AM b q)
section LawCalls
variable {p : Program} {l : Launch} {e : Env} {R : Room} {s : State} {m : MethodId} {args : Array Value} {below : List Frame} {meth : Method} {c : Code} {H H0 : Heap} {locs : List Loc} {cells slots : Nat} {Q : State → Prop}
variable {pc : Nat} {ls : Array Slot} {rest st0 : List Value} {ar : Array Value} {D : va_G} {w' wo : va_W} {A1 A2 A0 : Nat → Prop} {cc : ByteArray}
theorem lawWI {r : Int32} (hr : va_Run p l e R s m args below meth c H locs cells slots 0 0 (F0 m pc ls st0) rest (va_Qi (S := Unit) (fun z _ => z = r) (fun _ t => va_P D vwCl w' t.heap) A1 ar) A1) (hS : va_S A0 H0 H locs) (hA : ∀ q, A1 q → A0 q) (ho : va_P D vwCl wo H) (hd : va_D A2 wo) (hdis : ∀ q, A1 q → ¬ A2 q)
    (kk : ∀ (H1 : Heap) (locs1 : List Loc), va_P D vwCl w' H1 → va_P D vwCl wo H1 → va_S A0 H0 H1 locs1 → W p l e R s m args below meth c H1 locs1 cells slots Q (F0 m (pc + 3) ls (.int r :: rest))) : W p l e R s m args below meth c H locs cells slots Q (F0 m pc ls st0) :=
  va_calli hr hS (fun q _ h => hA q h) hA (fun r' u t H1 locs1 ht _ hp hb hz hk hs => by
    rw [hp]
    exact kk H1 locs1 (ht ▸ hb) (ho.kept (fun j q hq => hk q.1 (ho j q hq).lt (fun z => hdis _ z (hd.2 j q hq)))) hs)
theorem lawLd {b L j : Nat} {xs : Nat → Int32} (hx : p.tables.exec = Jvm.exec) (hb : c.code = cc) (hX : va_X b L xs s H0) (hbl : b < H0.size) (hbA : ¬ A0 b) (hS : va_S A0 H0 H locs) (hj : j < L) (hL : L < 2 ^ 31) {x : Int32} (e9 : x = nI j) (hdg : decode cc pc = .ok (.iaload, 1))
    (kk : W p l e R s m args below meth c H locs cells slots Q (F0 m (pc + 1) ls (.int (xs j) :: rest))) : W p l e R s m args below meth c H locs cells slots Q (F0 m pc ls (.int x :: .ref b :: rest)) := by
  subst e9
  refine va_sld hx hb hX hbl hbA hS (vp_in_nI hj hL) hdg ?_
  rw [nI_clamp (by omega)]
  exact kk
end LawCalls
def bz (x : Int32) : Int32 := if x = 0 then 0 else 1
theorem bz_01 (x : Int32) : bz x = 0 ∨ bz x = 1 := by
  unfold bz
  by_cases h : x = 0
  · rw [if_pos h]; exact Or.inl rfl
  · rw [if_neg h]; exact Or.inr rfl
theorem bz_p {x : Int32} (h : x = 0) : bz x = 0 := if_pos h
theorem bz_n {x : Int32} (h : ¬ x = 0) : bz x = 1 := if_neg h
set_option maxHeartbeats 4000000 in
set_option maxRecDepth 100000 in
theorem law_c0 {p : Program} {l : Launch} {e : Env} {s : State} {m : MethodId} {below : List Frame} {meth : Method} {c : Code} {bb L i : Nat} {xs : Nat → Int32} {D : va_G} {a b : Nat → Nat} {k k2 : Nat → ClassId} (hC : LC p s m meth c bb L xs D a b k k2) (hi : i + 7 ≤ L) (hcont : ∀ (σ τ : ST) (H : Heap) (locs : List Loc) (ls : Array Slot), Rel σ τ → va_P D vwCl (wX a k σ) H → va_P D vwCl (wM b k2 τ) H → va_S (fun q => s.heap.size ≤ q) s.heap H locs → lv_has ls 4 [(0, .ref bb), (1, .ref (a 0)), (2, .ref (b 0)), (3, .int (nI i))] → W p l e room_1 s m #[Value.ref bb] below meth c H locs 600000 7302250 (lw_Z below #[Value.ref bb] s) (F0 m 680 ls [])) : ∀ (σ τ : ST) (H : Heap) (locs : List Loc) (ls : Array Slot), Rel σ τ → va_P D vwCl (wX a k σ) H → va_P D vwCl (wM b k2 τ) H → va_S (fun q => s.heap.size ≤ q) s.heap H locs → lv_has ls 4 [(0, .ref bb), (1, .ref (a 0)), (2, .ref (b 0)), (3, .int (nI i))] → W p l e room_1 s m #[Value.ref bb] below meth c H locs 600000 7302250 (lw_Z below #[Value.ref bb] s) (F0 m 112 ls []) := by
  obtain ⟨⟨hx, hb, hr, hml, hown, hts, hX, hbl, hlocks, hgv⟩, hL, hKX, hKM, hDX, hDM, hAX, hAM, hdis⟩ := hC
  have hW : ∀ w ∈ WG, w.before #[Value.ref bb] s = true := fun w h => hts w (List.mem_filter.mp h).1
  have hbA : ¬ (fun q : Nat => s.heap.size ≤ q) bb := Nat.not_le.mpr hbl
  intro σ τ H locs ls hR hPX hPM hS hl
  obtain ⟨r, σ2, τ2, e1, e2, hR2⟩ := op_thing hR (xs (i + 1)) (bz (xs (i + 2))) (xs (i + 3)) (bz_01 _)
  refine lv_aload_n hx hb dL_law_112 rfl (lv_at hl 1 rfl) ?_
  refine lv_aload_n hx hb dL_law_113 rfl (lv_at hl 0 rfl) ?_
  refine lv_iload_n hx hb dL_law_114 rfl (lv_at hl 3 rfl) ?_
  refine lv_iconst (v := 1) hx hb dL_law_115 (by decide) ?_
  refine lv_iadd hx hb dL_law_116 ?_
  refine lawLd (j := i + 1) hx hb hX hbl hbA hS (by omega) (by omega) (show nI i + nI 1 = _ from nI_add i 1) dL_law_117 ?_
  refine lv_aload_n hx hb dL_law_118 rfl (lv_at hl 0 rfl) ?_
  refine lv_iload_n hx hb dL_law_119 rfl (lv_at hl 3 rfl) ?_
  refine lv_iconst (v := 2) hx hb dL_law_120 (by decide) ?_
  refine lv_iadd hx hb dL_law_121 ?_
  refine lawLd (j := i + 2) hx hb hX hbl hbA hS (by omega) (by omega) (show nI i + nI 2 = _ from nI_add i 2) dL_law_122 ?_
  suffices hj123 : W p l e room_1 s m #[Value.ref bb] below meth c H locs 600000 7302250 (lw_Z below #[Value.ref bb] s) (F0 m 131 ls [.int (bz (xs (i + 2))), .int (xs (i + 1)), .ref (a 0)]) from by
      refine lv_if_eq (tgt := 130) hx hb dL_law_123 (by decide) (fun c9 => ?_) (fun c9 => ?_)
      · refine lv_iconst (v := 0) hx hb dL_law_130 (by decide) ?_
        rw [bz_p c9] at hj123
        exact hj123
      · refine lv_iconst (v := 1) hx hb dL_law_126 (by decide) ?_
        refine lv_goto (tgt := 131) hx hb dL_law_127 (by decide) ?_
        rw [bz_n c9] at hj123
        exact hj123
  refine lv_aload_n hx hb dL_law_131 rfl (lv_at hl 0 rfl) ?_
  refine lv_iload_n hx hb dL_law_132 rfl (lv_at hl 3 rfl) ?_
  refine lv_iconst (v := 3) hx hb dL_law_133 (by decide) ?_
  refine lv_iadd hx hb dL_law_134 ?_
  refine lawLd (j := i + 3) hx hb hX hbl hbA hS (by omega) (by omega) (show nI i + nI 3 = _ from nI_add i 3) dL_law_135 ?_
  refine lawWI (r := r) (va_runV (As := [.int (xs (i + 1)), .int (bz (xs (i + 2))), .int (xs (i + 3))]) (rest := []) ⟨hx, hb, hml, hown, hts⟩ (mX5_thing l D a k σ _ _ _ (r, σ2) e1) ⟨callB_of 3 hts (wg_l lg1) rfl rfl rfl (hW _ lg2) (hW _ lg0) hdX5_thing ⟨Nat.le_of_ble_eq_true rfl, Nat.le_of_ble_eq_true rfl⟩, hW _ lg3, hW _ lg4⟩ (pw_V hKX hPX (dX hDX) (ci := 5) (q0 := 0) rfl rfl) rfl rfl hl.1 rfl (lv_room (Nat.le_of_ble_eq_true rfl)) dL_law_136 ⟨Nat.le_refl _, Nat.le_refl _⟩) hS hAX hPM (dM hDM) hdis (fun H locs hPX hPM hS => ?_)
  refine lv_aload_n hx hb dL_law_139 rfl (lv_at hl 2 rfl) ?_
  refine lv_aload_n hx hb dL_law_140 rfl (lv_at hl 0 rfl) ?_
  refine lv_iload_n hx hb dL_law_141 rfl (lv_at hl 3 rfl) ?_
  refine lv_iconst (v := 1) hx hb dL_law_142 (by decide) ?_
  refine lv_iadd hx hb dL_law_143 ?_
  refine lawLd (j := i + 1) hx hb hX hbl hbA hS (by omega) (by omega) (show nI i + nI 1 = _ from nI_add i 1) dL_law_144 ?_
  refine lv_aload_n hx hb dL_law_145 rfl (lv_at hl 0 rfl) ?_
  refine lv_iload_n hx hb dL_law_146 rfl (lv_at hl 3 rfl) ?_
  refine lv_iconst (v := 2) hx hb dL_law_147 (by decide) ?_
  refine lv_iadd hx hb dL_law_148 ?_
  refine lawLd (j := i + 2) hx hb hX hbl hbA hS (by omega) (by omega) (show nI i + nI 2 = _ from nI_add i 2) dL_law_149 ?_
  suffices hj150 : W p l e room_1 s m #[Value.ref bb] below meth c H locs 600000 7302250 (lw_Z below #[Value.ref bb] s) (F0 m 158 ls [.int (bz (xs (i + 2))), .int (xs (i + 1)), .ref (b 0), .int r]) from by
      refine lv_if_eq (tgt := 157) hx hb dL_law_150 (by decide) (fun c9 => ?_) (fun c9 => ?_)
      · refine lv_iconst (v := 0) hx hb dL_law_157 (by decide) ?_
        rw [bz_p c9] at hj150
        exact hj150
      · refine lv_iconst (v := 1) hx hb dL_law_153 (by decide) ?_
        refine lv_goto (tgt := 158) hx hb dL_law_154 (by decide) ?_
        rw [bz_n c9] at hj150
        exact hj150
  refine lv_aload_n hx hb dL_law_158 rfl (lv_at hl 0 rfl) ?_
  refine lv_iload_n hx hb dL_law_159 rfl (lv_at hl 3 rfl) ?_
  refine lv_iconst (v := 3) hx hb dL_law_160 (by decide) ?_
  refine lv_iadd hx hb dL_law_161 ?_
  refine lawLd (j := i + 3) hx hb hX hbl hbA hS (by omega) (by omega) (show nI i + nI 3 = _ from nI_add i 3) dL_law_162 ?_
  refine lawWI (r := r) (va_runV (As := [.int (xs (i + 1)), .int (bz (xs (i + 2))), .int (xs (i + 3))]) (rest := [.int r]) ⟨hx, hb, hml, hown, hts⟩ (mX6_thing l D b k2 τ _ _ _ (r, τ2) e2) ⟨callB_of 3 hts (wg_l lg6) rfl rfl rfl (hW _ lg7) (hW _ lg5) hdX6_thing ⟨Nat.le_of_ble_eq_true rfl, Nat.le_of_ble_eq_true rfl⟩, hW _ lg8, hW _ lg9⟩ (pw_V hKM hPM (dM hDM) (ci := 6) (q0 := 0) rfl rfl) rfl rfl hl.1 rfl (lv_room (Nat.le_of_ble_eq_true rfl)) dL_law_163 ⟨Nat.le_refl _, Nat.le_refl _⟩) hS hAM hPX (dX hDX) (fun q h1 h2 => hdis q h2 h1) (fun H locs hPM hPX hS => ?_)
  refine lv_icmp_eq (tgt := 680) hx hb dL_law_166 (by decide) (fun c9 => ?_) (fun c9 => absurd rfl c9)
  exact hcont σ2 τ2 H locs ls hR2 hPX hPM hS hl
set_option maxHeartbeats 4000000 in
set_option maxRecDepth 100000 in
theorem law_c1 {p : Program} {l : Launch} {e : Env} {s : State} {m : MethodId} {below : List Frame} {meth : Method} {c : Code} {bb L i : Nat} {xs : Nat → Int32} {D : va_G} {a b : Nat → Nat} {k k2 : Nat → ClassId} (hC : LC p s m meth c bb L xs D a b k k2) (hi : i + 7 ≤ L) (hcont : ∀ (σ τ : ST) (H : Heap) (locs : List Loc) (ls : Array Slot), Rel σ τ → va_P D vwCl (wX a k σ) H → va_P D vwCl (wM b k2 τ) H → va_S (fun q => s.heap.size ≤ q) s.heap H locs → lv_has ls 4 [(0, .ref bb), (1, .ref (a 0)), (2, .ref (b 0)), (3, .int (nI i))] → W p l e room_1 s m #[Value.ref bb] below meth c H locs 600000 7302250 (lw_Z below #[Value.ref bb] s) (F0 m 680 ls [])) : ∀ (σ τ : ST) (H : Heap) (locs : List Loc) (ls : Array Slot), Rel σ τ → va_P D vwCl (wX a k σ) H → va_P D vwCl (wM b k2 τ) H → va_S (fun q => s.heap.size ≤ q) s.heap H locs → lv_has ls 4 [(0, .ref bb), (1, .ref (a 0)), (2, .ref (b 0)), (3, .int (nI i))] → W p l e room_1 s m #[Value.ref bb] below meth c H locs 600000 7302250 (lw_Z below #[Value.ref bb] s) (F0 m 171 ls []) := by
  obtain ⟨⟨hx, hb, hr, hml, hown, hts, hX, hbl, hlocks, hgv⟩, hL, hKX, hKM, hDX, hDM, hAX, hAM, hdis⟩ := hC
  have hW : ∀ w ∈ WG, w.before #[Value.ref bb] s = true := fun w h => hts w (List.mem_filter.mp h).1
  have hbA : ¬ (fun q : Nat => s.heap.size ≤ q) bb := Nat.not_le.mpr hbl
  intro σ τ H locs ls hR hPX hPM hS hl
  obtain ⟨r, σ2, τ2, e1, e2, hR2⟩ := op_step hR (xs (i + 1)) (xs (i + 2)) (xs (i + 3)) (bz (xs (i + 4))) (xs (i + 5)) (bz_01 _)
  refine lv_aload_n hx hb dL_law_171 rfl (lv_at hl 1 rfl) ?_
  refine lv_aload_n hx hb dL_law_172 rfl (lv_at hl 0 rfl) ?_
  refine lv_iload_n hx hb dL_law_173 rfl (lv_at hl 3 rfl) ?_
  refine lv_iconst (v := 1) hx hb dL_law_174 (by decide) ?_
  refine lv_iadd hx hb dL_law_175 ?_
  refine lawLd (j := i + 1) hx hb hX hbl hbA hS (by omega) (by omega) (show nI i + nI 1 = _ from nI_add i 1) dL_law_176 ?_
  refine lv_aload_n hx hb dL_law_177 rfl (lv_at hl 0 rfl) ?_
  refine lv_iload_n hx hb dL_law_178 rfl (lv_at hl 3 rfl) ?_
  refine lv_iconst (v := 2) hx hb dL_law_179 (by decide) ?_
  refine lv_iadd hx hb dL_law_180 ?_
  refine lawLd (j := i + 2) hx hb hX hbl hbA hS (by omega) (by omega) (show nI i + nI 2 = _ from nI_add i 2) dL_law_181 ?_
  refine lv_aload_n hx hb dL_law_182 rfl (lv_at hl 0 rfl) ?_
  refine lv_iload_n hx hb dL_law_183 rfl (lv_at hl 3 rfl) ?_
  refine lv_iconst (v := 3) hx hb dL_law_184 (by decide) ?_
  refine lv_iadd hx hb dL_law_185 ?_
  refine lawLd (j := i + 3) hx hb hX hbl hbA hS (by omega) (by omega) (show nI i + nI 3 = _ from nI_add i 3) dL_law_186 ?_
  refine lv_aload_n hx hb dL_law_187 rfl (lv_at hl 0 rfl) ?_
  refine lv_iload_n hx hb dL_law_188 rfl (lv_at hl 3 rfl) ?_
  refine lv_iconst (v := 4) hx hb dL_law_189 (by decide) ?_
  refine lv_iadd hx hb dL_law_190 ?_
  refine lawLd (j := i + 4) hx hb hX hbl hbA hS (by omega) (by omega) (show nI i + nI 4 = _ from nI_add i 4) dL_law_191 ?_
  suffices hj192 : W p l e room_1 s m #[Value.ref bb] below meth c H locs 600000 7302250 (lw_Z below #[Value.ref bb] s) (F0 m 200 ls [.int (bz (xs (i + 4))), .int (xs (i + 3)), .int (xs (i + 2)), .int (xs (i + 1)), .ref (a 0)]) from by
      refine lv_if_eq (tgt := 199) hx hb dL_law_192 (by decide) (fun c9 => ?_) (fun c9 => ?_)
      · refine lv_iconst (v := 0) hx hb dL_law_199 (by decide) ?_
        rw [bz_p c9] at hj192
        exact hj192
      · refine lv_iconst (v := 1) hx hb dL_law_195 (by decide) ?_
        refine lv_goto (tgt := 200) hx hb dL_law_196 (by decide) ?_
        rw [bz_n c9] at hj192
        exact hj192
  refine lv_aload_n hx hb dL_law_200 rfl (lv_at hl 0 rfl) ?_
  refine lv_iload_n hx hb dL_law_201 rfl (lv_at hl 3 rfl) ?_
  refine lv_iconst (v := 5) hx hb dL_law_202 (by decide) ?_
  refine lv_iadd hx hb dL_law_203 ?_
  refine lawLd (j := i + 5) hx hb hX hbl hbA hS (by omega) (by omega) (show nI i + nI 5 = _ from nI_add i 5) dL_law_204 ?_
  refine lawWI (r := r) (va_runV (As := [.int (xs (i + 1)), .int (xs (i + 2)), .int (xs (i + 3)), .int (bz (xs (i + 4))), .int (xs (i + 5))]) (rest := []) ⟨hx, hb, hml, hown, hts⟩ (mX5_step l D a k σ _ _ _ _ _ (r, σ2) e1) ⟨callB_of 5 hts (wg_l lg11) rfl rfl rfl (hW _ lg2) (hW _ lg10) hdX5_step ⟨Nat.le_of_ble_eq_true rfl, Nat.le_of_ble_eq_true rfl⟩, hW _ lg12, hW _ lg13⟩ (pw_V hKX hPX (dX hDX) (ci := 5) (q0 := 0) rfl rfl) rfl rfl hl.1 rfl (lv_room (Nat.le_of_ble_eq_true rfl)) dL_law_205 ⟨Nat.le_refl _, Nat.le_refl _⟩) hS hAX hPM (dM hDM) hdis (fun H locs hPX hPM hS => ?_)
  refine lv_aload_n hx hb dL_law_208 rfl (lv_at hl 2 rfl) ?_
  refine lv_aload_n hx hb dL_law_209 rfl (lv_at hl 0 rfl) ?_
  refine lv_iload_n hx hb dL_law_210 rfl (lv_at hl 3 rfl) ?_
  refine lv_iconst (v := 1) hx hb dL_law_211 (by decide) ?_
  refine lv_iadd hx hb dL_law_212 ?_
  refine lawLd (j := i + 1) hx hb hX hbl hbA hS (by omega) (by omega) (show nI i + nI 1 = _ from nI_add i 1) dL_law_213 ?_
  refine lv_aload_n hx hb dL_law_214 rfl (lv_at hl 0 rfl) ?_
  refine lv_iload_n hx hb dL_law_215 rfl (lv_at hl 3 rfl) ?_
  refine lv_iconst (v := 2) hx hb dL_law_216 (by decide) ?_
  refine lv_iadd hx hb dL_law_217 ?_
  refine lawLd (j := i + 2) hx hb hX hbl hbA hS (by omega) (by omega) (show nI i + nI 2 = _ from nI_add i 2) dL_law_218 ?_
  refine lv_aload_n hx hb dL_law_219 rfl (lv_at hl 0 rfl) ?_
  refine lv_iload_n hx hb dL_law_220 rfl (lv_at hl 3 rfl) ?_
  refine lv_iconst (v := 3) hx hb dL_law_221 (by decide) ?_
  refine lv_iadd hx hb dL_law_222 ?_
  refine lawLd (j := i + 3) hx hb hX hbl hbA hS (by omega) (by omega) (show nI i + nI 3 = _ from nI_add i 3) dL_law_223 ?_
  refine lv_aload_n hx hb dL_law_224 rfl (lv_at hl 0 rfl) ?_
  refine lv_iload_n hx hb dL_law_225 rfl (lv_at hl 3 rfl) ?_
  refine lv_iconst (v := 4) hx hb dL_law_226 (by decide) ?_
  refine lv_iadd hx hb dL_law_227 ?_
  refine lawLd (j := i + 4) hx hb hX hbl hbA hS (by omega) (by omega) (show nI i + nI 4 = _ from nI_add i 4) dL_law_228 ?_
  suffices hj229 : W p l e room_1 s m #[Value.ref bb] below meth c H locs 600000 7302250 (lw_Z below #[Value.ref bb] s) (F0 m 237 ls [.int (bz (xs (i + 4))), .int (xs (i + 3)), .int (xs (i + 2)), .int (xs (i + 1)), .ref (b 0), .int r]) from by
      refine lv_if_eq (tgt := 236) hx hb dL_law_229 (by decide) (fun c9 => ?_) (fun c9 => ?_)
      · refine lv_iconst (v := 0) hx hb dL_law_236 (by decide) ?_
        rw [bz_p c9] at hj229
        exact hj229
      · refine lv_iconst (v := 1) hx hb dL_law_232 (by decide) ?_
        refine lv_goto (tgt := 237) hx hb dL_law_233 (by decide) ?_
        rw [bz_n c9] at hj229
        exact hj229
  refine lv_aload_n hx hb dL_law_237 rfl (lv_at hl 0 rfl) ?_
  refine lv_iload_n hx hb dL_law_238 rfl (lv_at hl 3 rfl) ?_
  refine lv_iconst (v := 5) hx hb dL_law_239 (by decide) ?_
  refine lv_iadd hx hb dL_law_240 ?_
  refine lawLd (j := i + 5) hx hb hX hbl hbA hS (by omega) (by omega) (show nI i + nI 5 = _ from nI_add i 5) dL_law_241 ?_
  refine lawWI (r := r) (va_runV (As := [.int (xs (i + 1)), .int (xs (i + 2)), .int (xs (i + 3)), .int (bz (xs (i + 4))), .int (xs (i + 5))]) (rest := [.int r]) ⟨hx, hb, hml, hown, hts⟩ (mX6_step l D b k2 τ _ _ _ _ _ (r, τ2) e2) ⟨callB_of 5 hts (wg_l lg15) rfl rfl rfl (hW _ lg7) (hW _ lg14) hdX6_step ⟨Nat.le_of_ble_eq_true rfl, Nat.le_of_ble_eq_true rfl⟩, hW _ lg16, hW _ lg17⟩ (pw_V hKM hPM (dM hDM) (ci := 6) (q0 := 0) rfl rfl) rfl rfl hl.1 rfl (lv_room (Nat.le_of_ble_eq_true rfl)) dL_law_242 ⟨Nat.le_refl _, Nat.le_refl _⟩) hS hAM hPX (dX hDX) (fun q h1 h2 => hdis q h2 h1) (fun H locs hPM hPX hS => ?_)
  refine lv_icmp_eq (tgt := 680) hx hb dL_law_245 (by decide) (fun c9 => ?_) (fun c9 => absurd rfl c9)
  exact hcont σ2 τ2 H locs ls hR2 hPX hPM hS hl
set_option maxHeartbeats 4000000 in
set_option maxRecDepth 100000 in
theorem law_c2 {p : Program} {l : Launch} {e : Env} {s : State} {m : MethodId} {below : List Frame} {meth : Method} {c : Code} {bb L i : Nat} {xs : Nat → Int32} {D : va_G} {a b : Nat → Nat} {k k2 : Nat → ClassId} (hC : LC p s m meth c bb L xs D a b k k2) (hi : i + 7 ≤ L) (hcont : ∀ (σ τ : ST) (H : Heap) (locs : List Loc) (ls : Array Slot), Rel σ τ → va_P D vwCl (wX a k σ) H → va_P D vwCl (wM b k2 τ) H → va_S (fun q => s.heap.size ≤ q) s.heap H locs → lv_has ls 4 [(0, .ref bb), (1, .ref (a 0)), (2, .ref (b 0)), (3, .int (nI i))] → W p l e room_1 s m #[Value.ref bb] below meth c H locs 600000 7302250 (lw_Z below #[Value.ref bb] s) (F0 m 680 ls [])) : ∀ (σ τ : ST) (H : Heap) (locs : List Loc) (ls : Array Slot), Rel σ τ → va_P D vwCl (wX a k σ) H → va_P D vwCl (wM b k2 τ) H → va_S (fun q => s.heap.size ≤ q) s.heap H locs → lv_has ls 4 [(0, .ref bb), (1, .ref (a 0)), (2, .ref (b 0)), (3, .int (nI i))] → W p l e room_1 s m #[Value.ref bb] below meth c H locs 600000 7302250 (lw_Z below #[Value.ref bb] s) (F0 m 250 ls []) := by
  obtain ⟨⟨hx, hb, hr, hml, hown, hts, hX, hbl, hlocks, hgv⟩, hL, hKX, hKM, hDX, hDM, hAX, hAM, hdis⟩ := hC
  have hW : ∀ w ∈ WG, w.before #[Value.ref bb] s = true := fun w h => hts w (List.mem_filter.mp h).1
  have hbA : ¬ (fun q : Nat => s.heap.size ≤ q) bb := Nat.not_le.mpr hbl
  intro σ τ H locs ls hR hPX hPM hS hl
  obtain ⟨r, σ2, τ2, e1, e2, hR2⟩ := op_change hR (xs (i + 1)) (xs (i + 2)) (xs (i + 3)) (xs (i + 4)) (bz (xs (i + 5))) (xs (i + 6)) (bz_01 _)
  refine lv_aload_n hx hb dL_law_250 rfl (lv_at hl 1 rfl) ?_
  refine lv_aload_n hx hb dL_law_251 rfl (lv_at hl 0 rfl) ?_
  refine lv_iload_n hx hb dL_law_252 rfl (lv_at hl 3 rfl) ?_
  refine lv_iconst (v := 1) hx hb dL_law_253 (by decide) ?_
  refine lv_iadd hx hb dL_law_254 ?_
  refine lawLd (j := i + 1) hx hb hX hbl hbA hS (by omega) (by omega) (show nI i + nI 1 = _ from nI_add i 1) dL_law_255 ?_
  refine lv_aload_n hx hb dL_law_256 rfl (lv_at hl 0 rfl) ?_
  refine lv_iload_n hx hb dL_law_257 rfl (lv_at hl 3 rfl) ?_
  refine lv_iconst (v := 2) hx hb dL_law_258 (by decide) ?_
  refine lv_iadd hx hb dL_law_259 ?_
  refine lawLd (j := i + 2) hx hb hX hbl hbA hS (by omega) (by omega) (show nI i + nI 2 = _ from nI_add i 2) dL_law_260 ?_
  refine lv_aload_n hx hb dL_law_261 rfl (lv_at hl 0 rfl) ?_
  refine lv_iload_n hx hb dL_law_262 rfl (lv_at hl 3 rfl) ?_
  refine lv_iconst (v := 3) hx hb dL_law_263 (by decide) ?_
  refine lv_iadd hx hb dL_law_264 ?_
  refine lawLd (j := i + 3) hx hb hX hbl hbA hS (by omega) (by omega) (show nI i + nI 3 = _ from nI_add i 3) dL_law_265 ?_
  refine lv_aload_n hx hb dL_law_266 rfl (lv_at hl 0 rfl) ?_
  refine lv_iload_n hx hb dL_law_267 rfl (lv_at hl 3 rfl) ?_
  refine lv_iconst (v := 4) hx hb dL_law_268 (by decide) ?_
  refine lv_iadd hx hb dL_law_269 ?_
  refine lawLd (j := i + 4) hx hb hX hbl hbA hS (by omega) (by omega) (show nI i + nI 4 = _ from nI_add i 4) dL_law_270 ?_
  refine lv_aload_n hx hb dL_law_271 rfl (lv_at hl 0 rfl) ?_
  refine lv_iload_n hx hb dL_law_272 rfl (lv_at hl 3 rfl) ?_
  refine lv_iconst (v := 5) hx hb dL_law_273 (by decide) ?_
  refine lv_iadd hx hb dL_law_274 ?_
  refine lawLd (j := i + 5) hx hb hX hbl hbA hS (by omega) (by omega) (show nI i + nI 5 = _ from nI_add i 5) dL_law_275 ?_
  suffices hj276 : W p l e room_1 s m #[Value.ref bb] below meth c H locs 600000 7302250 (lw_Z below #[Value.ref bb] s) (F0 m 284 ls [.int (bz (xs (i + 5))), .int (xs (i + 4)), .int (xs (i + 3)), .int (xs (i + 2)), .int (xs (i + 1)), .ref (a 0)]) from by
      refine lv_if_eq (tgt := 283) hx hb dL_law_276 (by decide) (fun c9 => ?_) (fun c9 => ?_)
      · refine lv_iconst (v := 0) hx hb dL_law_283 (by decide) ?_
        rw [bz_p c9] at hj276
        exact hj276
      · refine lv_iconst (v := 1) hx hb dL_law_279 (by decide) ?_
        refine lv_goto (tgt := 284) hx hb dL_law_280 (by decide) ?_
        rw [bz_n c9] at hj276
        exact hj276
  refine lv_aload_n hx hb dL_law_284 rfl (lv_at hl 0 rfl) ?_
  refine lv_iload_n hx hb dL_law_285 rfl (lv_at hl 3 rfl) ?_
  refine lv_bipush (v := 6) hx hb dL_law_286 (by decide) ?_
  refine lv_iadd hx hb dL_law_288 ?_
  refine lawLd (j := i + 6) hx hb hX hbl hbA hS (by omega) (by omega) (show nI i + nI 6 = _ from nI_add i 6) dL_law_289 ?_
  refine lawWI (r := r) (va_runV (As := [.int (xs (i + 1)), .int (xs (i + 2)), .int (xs (i + 3)), .int (xs (i + 4)), .int (bz (xs (i + 5))), .int (xs (i + 6))]) (rest := []) ⟨hx, hb, hml, hown, hts⟩ (mX5_change l D a k σ _ _ _ _ _ _ (r, σ2) e1) ⟨callB_of 6 hts (wg_l lg19) rfl rfl rfl (hW _ lg2) (hW _ lg18) hdX5_change ⟨Nat.le_of_ble_eq_true rfl, Nat.le_of_ble_eq_true rfl⟩, hW _ lg20, hW _ lg21⟩ (pw_V hKX hPX (dX hDX) (ci := 5) (q0 := 0) rfl rfl) rfl rfl hl.1 rfl (lv_room (Nat.le_of_ble_eq_true rfl)) dL_law_290 ⟨Nat.le_refl _, Nat.le_refl _⟩) hS hAX hPM (dM hDM) hdis (fun H locs hPX hPM hS => ?_)
  refine lv_aload_n hx hb dL_law_293 rfl (lv_at hl 2 rfl) ?_
  refine lv_aload_n hx hb dL_law_294 rfl (lv_at hl 0 rfl) ?_
  refine lv_iload_n hx hb dL_law_295 rfl (lv_at hl 3 rfl) ?_
  refine lv_iconst (v := 1) hx hb dL_law_296 (by decide) ?_
  refine lv_iadd hx hb dL_law_297 ?_
  refine lawLd (j := i + 1) hx hb hX hbl hbA hS (by omega) (by omega) (show nI i + nI 1 = _ from nI_add i 1) dL_law_298 ?_
  refine lv_aload_n hx hb dL_law_299 rfl (lv_at hl 0 rfl) ?_
  refine lv_iload_n hx hb dL_law_300 rfl (lv_at hl 3 rfl) ?_
  refine lv_iconst (v := 2) hx hb dL_law_301 (by decide) ?_
  refine lv_iadd hx hb dL_law_302 ?_
  refine lawLd (j := i + 2) hx hb hX hbl hbA hS (by omega) (by omega) (show nI i + nI 2 = _ from nI_add i 2) dL_law_303 ?_
  refine lv_aload_n hx hb dL_law_304 rfl (lv_at hl 0 rfl) ?_
  refine lv_iload_n hx hb dL_law_305 rfl (lv_at hl 3 rfl) ?_
  refine lv_iconst (v := 3) hx hb dL_law_306 (by decide) ?_
  refine lv_iadd hx hb dL_law_307 ?_
  refine lawLd (j := i + 3) hx hb hX hbl hbA hS (by omega) (by omega) (show nI i + nI 3 = _ from nI_add i 3) dL_law_308 ?_
  refine lv_aload_n hx hb dL_law_309 rfl (lv_at hl 0 rfl) ?_
  refine lv_iload_n hx hb dL_law_310 rfl (lv_at hl 3 rfl) ?_
  refine lv_iconst (v := 4) hx hb dL_law_311 (by decide) ?_
  refine lv_iadd hx hb dL_law_312 ?_
  refine lawLd (j := i + 4) hx hb hX hbl hbA hS (by omega) (by omega) (show nI i + nI 4 = _ from nI_add i 4) dL_law_313 ?_
  refine lv_aload_n hx hb dL_law_314 rfl (lv_at hl 0 rfl) ?_
  refine lv_iload_n hx hb dL_law_315 rfl (lv_at hl 3 rfl) ?_
  refine lv_iconst (v := 5) hx hb dL_law_316 (by decide) ?_
  refine lv_iadd hx hb dL_law_317 ?_
  refine lawLd (j := i + 5) hx hb hX hbl hbA hS (by omega) (by omega) (show nI i + nI 5 = _ from nI_add i 5) dL_law_318 ?_
  suffices hj319 : W p l e room_1 s m #[Value.ref bb] below meth c H locs 600000 7302250 (lw_Z below #[Value.ref bb] s) (F0 m 327 ls [.int (bz (xs (i + 5))), .int (xs (i + 4)), .int (xs (i + 3)), .int (xs (i + 2)), .int (xs (i + 1)), .ref (b 0), .int r]) from by
      refine lv_if_eq (tgt := 326) hx hb dL_law_319 (by decide) (fun c9 => ?_) (fun c9 => ?_)
      · refine lv_iconst (v := 0) hx hb dL_law_326 (by decide) ?_
        rw [bz_p c9] at hj319
        exact hj319
      · refine lv_iconst (v := 1) hx hb dL_law_322 (by decide) ?_
        refine lv_goto (tgt := 327) hx hb dL_law_323 (by decide) ?_
        rw [bz_n c9] at hj319
        exact hj319
  refine lv_aload_n hx hb dL_law_327 rfl (lv_at hl 0 rfl) ?_
  refine lv_iload_n hx hb dL_law_328 rfl (lv_at hl 3 rfl) ?_
  refine lv_bipush (v := 6) hx hb dL_law_329 (by decide) ?_
  refine lv_iadd hx hb dL_law_331 ?_
  refine lawLd (j := i + 6) hx hb hX hbl hbA hS (by omega) (by omega) (show nI i + nI 6 = _ from nI_add i 6) dL_law_332 ?_
  refine lawWI (r := r) (va_runV (As := [.int (xs (i + 1)), .int (xs (i + 2)), .int (xs (i + 3)), .int (xs (i + 4)), .int (bz (xs (i + 5))), .int (xs (i + 6))]) (rest := [.int r]) ⟨hx, hb, hml, hown, hts⟩ (mX6_change l D b k2 τ _ _ _ _ _ _ (r, τ2) e2) ⟨callB_of 6 hts (wg_l lg23) rfl rfl rfl (hW _ lg7) (hW _ lg22) hdX6_change ⟨Nat.le_of_ble_eq_true rfl, Nat.le_of_ble_eq_true rfl⟩, hW _ lg24, hW _ lg25⟩ (pw_V hKM hPM (dM hDM) (ci := 6) (q0 := 0) rfl rfl) rfl rfl hl.1 rfl (lv_room (Nat.le_of_ble_eq_true rfl)) dL_law_333 ⟨Nat.le_refl _, Nat.le_refl _⟩) hS hAM hPX (dX hDX) (fun q h1 h2 => hdis q h2 h1) (fun H locs hPM hPX hS => ?_)
  refine lv_icmp_eq (tgt := 680) hx hb dL_law_336 (by decide) (fun c9 => ?_) (fun c9 => absurd rfl c9)
  exact hcont σ2 τ2 H locs ls hR2 hPX hPM hS hl
set_option maxHeartbeats 4000000 in
set_option maxRecDepth 100000 in
theorem law_c3 {p : Program} {l : Launch} {e : Env} {s : State} {m : MethodId} {below : List Frame} {meth : Method} {c : Code} {bb L i : Nat} {xs : Nat → Int32} {D : va_G} {a b : Nat → Nat} {k k2 : Nat → ClassId} (hC : LC p s m meth c bb L xs D a b k k2) (hi : i + 7 ≤ L) (hcont : ∀ (σ τ : ST) (H : Heap) (locs : List Loc) (ls : Array Slot), Rel σ τ → va_P D vwCl (wX a k σ) H → va_P D vwCl (wM b k2 τ) H → va_S (fun q => s.heap.size ≤ q) s.heap H locs → lv_has ls 4 [(0, .ref bb), (1, .ref (a 0)), (2, .ref (b 0)), (3, .int (nI i))] → W p l e room_1 s m #[Value.ref bb] below meth c H locs 600000 7302250 (lw_Z below #[Value.ref bb] s) (F0 m 680 ls [])) : ∀ (σ τ : ST) (H : Heap) (locs : List Loc) (ls : Array Slot), Rel σ τ → va_P D vwCl (wX a k σ) H → va_P D vwCl (wM b k2 τ) H → va_S (fun q => s.heap.size ≤ q) s.heap H locs → lv_has ls 4 [(0, .ref bb), (1, .ref (a 0)), (2, .ref (b 0)), (3, .int (nI i))] → W p l e room_1 s m #[Value.ref bb] below meth c H locs 600000 7302250 (lw_Z below #[Value.ref bb] s) (F0 m 341 ls []) := by
  obtain ⟨⟨hx, hb, hr, hml, hown, hts, hX, hbl, hlocks, hgv⟩, hL, hKX, hKM, hDX, hDM, hAX, hAM, hdis⟩ := hC
  have hW : ∀ w ∈ WG, w.before #[Value.ref bb] s = true := fun w h => hts w (List.mem_filter.mp h).1
  have hbA : ¬ (fun q : Nat => s.heap.size ≤ q) bb := Nat.not_le.mpr hbl
  intro σ τ H locs ls hR hPX hPM hS hl
  obtain ⟨r, σ2, τ2, e1, e2, hR2⟩ := op_check hR 
  refine lv_aload_n hx hb dL_law_341 rfl (lv_at hl 1 rfl) ?_
  refine lawWI (r := r) (va_runV (As := []) (rest := []) ⟨hx, hb, hml, hown, hts⟩ (mX5_check l D a k σ  (r, σ2) e1) ⟨callB_of 0 hts (wg_l lg27) rfl rfl rfl (hW _ lg2) (hW _ lg26) hdX5_check ⟨Nat.le_of_ble_eq_true rfl, Nat.le_of_ble_eq_true rfl⟩, hW _ lg28, hW _ lg29⟩ (pw_V hKX hPX (dX hDX) (ci := 5) (q0 := 0) rfl rfl) rfl rfl hl.1 rfl (lv_room (Nat.le_of_ble_eq_true rfl)) dL_law_342 ⟨Nat.le_refl _, Nat.le_refl _⟩) hS hAX hPM (dM hDM) hdis (fun H locs hPX hPM hS => ?_)
  refine lv_aload_n hx hb dL_law_345 rfl (lv_at hl 2 rfl) ?_
  refine lawWI (r := r) (va_runV (As := []) (rest := [.int r]) ⟨hx, hb, hml, hown, hts⟩ (mX6_check l D b k2 τ  (r, τ2) e2) ⟨callB_of 0 hts (wg_l lg31) rfl rfl rfl (hW _ lg7) (hW _ lg30) hdX6_check ⟨Nat.le_of_ble_eq_true rfl, Nat.le_of_ble_eq_true rfl⟩, hW _ lg32, hW _ lg33⟩ (pw_V hKM hPM (dM hDM) (ci := 6) (q0 := 0) rfl rfl) rfl rfl hl.1 rfl (lv_room (Nat.le_of_ble_eq_true rfl)) dL_law_346 ⟨Nat.le_refl _, Nat.le_refl _⟩) hS hAM hPX (dX hDX) (fun q h1 h2 => hdis q h2 h1) (fun H locs hPM hPX hS => ?_)
  refine lv_icmp_eq (tgt := 680) hx hb dL_law_349 (by decide) (fun c9 => ?_) (fun c9 => absurd rfl c9)
  exact hcont σ2 τ2 H locs ls hR2 hPX hPM hS hl
set_option maxHeartbeats 4000000 in
set_option maxRecDepth 100000 in
theorem law_c4 {p : Program} {l : Launch} {e : Env} {s : State} {m : MethodId} {below : List Frame} {meth : Method} {c : Code} {bb L i : Nat} {xs : Nat → Int32} {D : va_G} {a b : Nat → Nat} {k k2 : Nat → ClassId} (hC : LC p s m meth c bb L xs D a b k k2) (hi : i + 7 ≤ L) (hcont : ∀ (σ τ : ST) (H : Heap) (locs : List Loc) (ls : Array Slot), Rel σ τ → va_P D vwCl (wX a k σ) H → va_P D vwCl (wM b k2 τ) H → va_S (fun q => s.heap.size ≤ q) s.heap H locs → lv_has ls 4 [(0, .ref bb), (1, .ref (a 0)), (2, .ref (b 0)), (3, .int (nI i))] → W p l e room_1 s m #[Value.ref bb] below meth c H locs 600000 7302250 (lw_Z below #[Value.ref bb] s) (F0 m 680 ls [])) : ∀ (σ τ : ST) (H : Heap) (locs : List Loc) (ls : Array Slot), Rel σ τ → va_P D vwCl (wX a k σ) H → va_P D vwCl (wM b k2 τ) H → va_S (fun q => s.heap.size ≤ q) s.heap H locs → lv_has ls 4 [(0, .ref bb), (1, .ref (a 0)), (2, .ref (b 0)), (3, .int (nI i))] → W p l e room_1 s m #[Value.ref bb] below meth c H locs 600000 7302250 (lw_Z below #[Value.ref bb] s) (F0 m 354 ls []) := by
  obtain ⟨⟨hx, hb, hr, hml, hown, hts, hX, hbl, hlocks, hgv⟩, hL, hKX, hKM, hDX, hDM, hAX, hAM, hdis⟩ := hC
  have hW : ∀ w ∈ WG, w.before #[Value.ref bb] s = true := fun w h => hts w (List.mem_filter.mp h).1
  have hbA : ¬ (fun q : Nat => s.heap.size ≤ q) bb := Nat.not_le.mpr hbl
  intro σ τ H locs ls hR hPX hPM hS hl
  obtain ⟨r, e1, e2⟩ := op_found hR (xs (i + 1)) (xs (i + 2))
  refine lv_aload_n hx hb dL_law_354 rfl (lv_at hl 1 rfl) ?_
  refine lv_aload_n hx hb dL_law_355 rfl (lv_at hl 0 rfl) ?_
  refine lv_iload_n hx hb dL_law_356 rfl (lv_at hl 3 rfl) ?_
  refine lv_iconst (v := 1) hx hb dL_law_357 (by decide) ?_
  refine lv_iadd hx hb dL_law_358 ?_
  refine lawLd (j := i + 1) hx hb hX hbl hbA hS (by omega) (by omega) (show nI i + nI 1 = _ from nI_add i 1) dL_law_359 ?_
  refine lv_aload_n hx hb dL_law_360 rfl (lv_at hl 0 rfl) ?_
  refine lv_iload_n hx hb dL_law_361 rfl (lv_at hl 3 rfl) ?_
  refine lv_iconst (v := 2) hx hb dL_law_362 (by decide) ?_
  refine lv_iadd hx hb dL_law_363 ?_
  refine lawLd (j := i + 2) hx hb hX hbl hbA hS (by omega) (by omega) (show nI i + nI 2 = _ from nI_add i 2) dL_law_364 ?_
  refine callRI (va_runV (As := [.int (xs (i + 1)), .int (xs (i + 2))]) (rest := []) ⟨hx, hb, hml, hown, hts⟩ (mX5_found l D a k σ _ _ r e1) ⟨callB_of 2 hts (wg_l lg35) rfl rfl rfl (hW _ lg2) (hW _ lg34) hdX5_found ⟨Nat.le_of_ble_eq_true rfl, Nat.le_of_ble_eq_true rfl⟩, hW _ lg36, hW _ lg37⟩ (pw_V hKX hPX (dX hDX) (ci := 5) (q0 := 0) rfl rfl) rfl rfl hl.1 rfl (lv_room (Nat.le_of_ble_eq_true rfl)) dL_law_365 ⟨Nat.le_refl _, Nat.le_refl _⟩) ?_
  refine lv_aload_n hx hb dL_law_368 rfl (lv_at hl 2 rfl) ?_
  refine lv_aload_n hx hb dL_law_369 rfl (lv_at hl 0 rfl) ?_
  refine lv_iload_n hx hb dL_law_370 rfl (lv_at hl 3 rfl) ?_
  refine lv_iconst (v := 1) hx hb dL_law_371 (by decide) ?_
  refine lv_iadd hx hb dL_law_372 ?_
  refine lawLd (j := i + 1) hx hb hX hbl hbA hS (by omega) (by omega) (show nI i + nI 1 = _ from nI_add i 1) dL_law_373 ?_
  refine lv_aload_n hx hb dL_law_374 rfl (lv_at hl 0 rfl) ?_
  refine lv_iload_n hx hb dL_law_375 rfl (lv_at hl 3 rfl) ?_
  refine lv_iconst (v := 2) hx hb dL_law_376 (by decide) ?_
  refine lv_iadd hx hb dL_law_377 ?_
  refine lawLd (j := i + 2) hx hb hX hbl hbA hS (by omega) (by omega) (show nI i + nI 2 = _ from nI_add i 2) dL_law_378 ?_
  refine callRI (va_runV (As := [.int (xs (i + 1)), .int (xs (i + 2))]) (rest := [.int r]) ⟨hx, hb, hml, hown, hts⟩ (mX6_found l D b k2 τ _ _ r e2) ⟨callB_of 2 hts (wg_l lg39) rfl rfl rfl (hW _ lg7) (hW _ lg38) hdX6_found ⟨Nat.le_of_ble_eq_true rfl, Nat.le_of_ble_eq_true rfl⟩, hW _ lg40, hW _ lg41⟩ (pw_V hKM hPM (dM hDM) (ci := 6) (q0 := 0) rfl rfl) rfl rfl hl.1 rfl (lv_room (Nat.le_of_ble_eq_true rfl)) dL_law_379 ⟨Nat.le_refl _, Nat.le_refl _⟩) ?_
  refine lv_icmp_eq (tgt := 680) hx hb dL_law_382 (by decide) (fun c9 => ?_) (fun c9 => absurd rfl c9)
  exact hcont σ τ H locs ls hR hPX hPM hS hl
set_option maxHeartbeats 4000000 in
set_option maxRecDepth 100000 in
theorem law_c5 {p : Program} {l : Launch} {e : Env} {s : State} {m : MethodId} {below : List Frame} {meth : Method} {c : Code} {bb L i : Nat} {xs : Nat → Int32} {D : va_G} {a b : Nat → Nat} {k k2 : Nat → ClassId} (hC : LC p s m meth c bb L xs D a b k k2) (hi : i + 7 ≤ L) (hcont : ∀ (σ τ : ST) (H : Heap) (locs : List Loc) (ls : Array Slot), Rel σ τ → va_P D vwCl (wX a k σ) H → va_P D vwCl (wM b k2 τ) H → va_S (fun q => s.heap.size ≤ q) s.heap H locs → lv_has ls 4 [(0, .ref bb), (1, .ref (a 0)), (2, .ref (b 0)), (3, .int (nI i))] → W p l e room_1 s m #[Value.ref bb] below meth c H locs 600000 7302250 (lw_Z below #[Value.ref bb] s) (F0 m 680 ls [])) : ∀ (σ τ : ST) (H : Heap) (locs : List Loc) (ls : Array Slot), Rel σ τ → va_P D vwCl (wX a k σ) H → va_P D vwCl (wM b k2 τ) H → va_S (fun q => s.heap.size ≤ q) s.heap H locs → lv_has ls 4 [(0, .ref bb), (1, .ref (a 0)), (2, .ref (b 0)), (3, .int (nI i))] → W p l e room_1 s m #[Value.ref bb] below meth c H locs 600000 7302250 (lw_Z below #[Value.ref bb] s) (F0 m 387 ls []) := by
  obtain ⟨⟨hx, hb, hr, hml, hown, hts, hX, hbl, hlocks, hgv⟩, hL, hKX, hKM, hDX, hDM, hAX, hAM, hdis⟩ := hC
  have hW : ∀ w ∈ WG, w.before #[Value.ref bb] s = true := fun w h => hts w (List.mem_filter.mp h).1
  have hbA : ¬ (fun q : Nat => s.heap.size ≤ q) bb := Nat.not_le.mpr hbl
  intro σ τ H locs ls hR hPX hPM hS hl
  obtain ⟨r, e1, e2⟩ := op_way hR (xs (i + 1)) (xs (i + 2)) (xs (i + 3))
  refine lv_aload_n hx hb dL_law_387 rfl (lv_at hl 1 rfl) ?_
  refine lv_aload_n hx hb dL_law_388 rfl (lv_at hl 0 rfl) ?_
  refine lv_iload_n hx hb dL_law_389 rfl (lv_at hl 3 rfl) ?_
  refine lv_iconst (v := 1) hx hb dL_law_390 (by decide) ?_
  refine lv_iadd hx hb dL_law_391 ?_
  refine lawLd (j := i + 1) hx hb hX hbl hbA hS (by omega) (by omega) (show nI i + nI 1 = _ from nI_add i 1) dL_law_392 ?_
  refine lv_aload_n hx hb dL_law_393 rfl (lv_at hl 0 rfl) ?_
  refine lv_iload_n hx hb dL_law_394 rfl (lv_at hl 3 rfl) ?_
  refine lv_iconst (v := 2) hx hb dL_law_395 (by decide) ?_
  refine lv_iadd hx hb dL_law_396 ?_
  refine lawLd (j := i + 2) hx hb hX hbl hbA hS (by omega) (by omega) (show nI i + nI 2 = _ from nI_add i 2) dL_law_397 ?_
  refine lv_aload_n hx hb dL_law_398 rfl (lv_at hl 0 rfl) ?_
  refine lv_iload_n hx hb dL_law_399 rfl (lv_at hl 3 rfl) ?_
  refine lv_iconst (v := 3) hx hb dL_law_400 (by decide) ?_
  refine lv_iadd hx hb dL_law_401 ?_
  refine lawLd (j := i + 3) hx hb hX hbl hbA hS (by omega) (by omega) (show nI i + nI 3 = _ from nI_add i 3) dL_law_402 ?_
  refine callRI (va_runV (As := [.int (xs (i + 1)), .int (xs (i + 2)), .int (xs (i + 3))]) (rest := []) ⟨hx, hb, hml, hown, hts⟩ (mX5_way l D a k σ _ _ _ r e1) ⟨callB_of 3 hts (wg_l lg43) rfl rfl rfl (hW _ lg2) (hW _ lg42) hdX5_way ⟨Nat.le_of_ble_eq_true rfl, Nat.le_of_ble_eq_true rfl⟩, hW _ lg44, hW _ lg45⟩ (pw_V hKX hPX (dX hDX) (ci := 5) (q0 := 0) rfl rfl) rfl rfl hl.1 rfl (lv_room (Nat.le_of_ble_eq_true rfl)) dL_law_403 ⟨Nat.le_refl _, Nat.le_refl _⟩) ?_
  refine lv_aload_n hx hb dL_law_406 rfl (lv_at hl 2 rfl) ?_
  refine lv_aload_n hx hb dL_law_407 rfl (lv_at hl 0 rfl) ?_
  refine lv_iload_n hx hb dL_law_408 rfl (lv_at hl 3 rfl) ?_
  refine lv_iconst (v := 1) hx hb dL_law_409 (by decide) ?_
  refine lv_iadd hx hb dL_law_410 ?_
  refine lawLd (j := i + 1) hx hb hX hbl hbA hS (by omega) (by omega) (show nI i + nI 1 = _ from nI_add i 1) dL_law_411 ?_
  refine lv_aload_n hx hb dL_law_412 rfl (lv_at hl 0 rfl) ?_
  refine lv_iload_n hx hb dL_law_413 rfl (lv_at hl 3 rfl) ?_
  refine lv_iconst (v := 2) hx hb dL_law_414 (by decide) ?_
  refine lv_iadd hx hb dL_law_415 ?_
  refine lawLd (j := i + 2) hx hb hX hbl hbA hS (by omega) (by omega) (show nI i + nI 2 = _ from nI_add i 2) dL_law_416 ?_
  refine lv_aload_n hx hb dL_law_417 rfl (lv_at hl 0 rfl) ?_
  refine lv_iload_n hx hb dL_law_418 rfl (lv_at hl 3 rfl) ?_
  refine lv_iconst (v := 3) hx hb dL_law_419 (by decide) ?_
  refine lv_iadd hx hb dL_law_420 ?_
  refine lawLd (j := i + 3) hx hb hX hbl hbA hS (by omega) (by omega) (show nI i + nI 3 = _ from nI_add i 3) dL_law_421 ?_
  refine callRI (va_runV (As := [.int (xs (i + 1)), .int (xs (i + 2)), .int (xs (i + 3))]) (rest := [.int r]) ⟨hx, hb, hml, hown, hts⟩ (mX6_way l D b k2 τ _ _ _ r e2) ⟨callB_of 3 hts (wg_l lg47) rfl rfl rfl (hW _ lg7) (hW _ lg46) hdX6_way ⟨Nat.le_of_ble_eq_true rfl, Nat.le_of_ble_eq_true rfl⟩, hW _ lg48, hW _ lg49⟩ (pw_V hKM hPM (dM hDM) (ci := 6) (q0 := 0) rfl rfl) rfl rfl hl.1 rfl (lv_room (Nat.le_of_ble_eq_true rfl)) dL_law_422 ⟨Nat.le_refl _, Nat.le_refl _⟩) ?_
  refine lv_icmp_eq (tgt := 680) hx hb dL_law_425 (by decide) (fun c9 => ?_) (fun c9 => absurd rfl c9)
  exact hcont σ τ H locs ls hR hPX hPM hS hl
set_option maxHeartbeats 4000000 in
set_option maxRecDepth 100000 in
theorem law_c6 {p : Program} {l : Launch} {e : Env} {s : State} {m : MethodId} {below : List Frame} {meth : Method} {c : Code} {bb L i : Nat} {xs : Nat → Int32} {D : va_G} {a b : Nat → Nat} {k k2 : Nat → ClassId} (hC : LC p s m meth c bb L xs D a b k k2) (hi : i + 7 ≤ L) (hcont : ∀ (σ τ : ST) (H : Heap) (locs : List Loc) (ls : Array Slot), Rel σ τ → va_P D vwCl (wX a k σ) H → va_P D vwCl (wM b k2 τ) H → va_S (fun q => s.heap.size ≤ q) s.heap H locs → lv_has ls 4 [(0, .ref bb), (1, .ref (a 0)), (2, .ref (b 0)), (3, .int (nI i))] → W p l e room_1 s m #[Value.ref bb] below meth c H locs 600000 7302250 (lw_Z below #[Value.ref bb] s) (F0 m 680 ls [])) : ∀ (σ τ : ST) (H : Heap) (locs : List Loc) (ls : Array Slot), Rel σ τ → va_P D vwCl (wX a k σ) H → va_P D vwCl (wM b k2 τ) H → va_S (fun q => s.heap.size ≤ q) s.heap H locs → lv_has ls 4 [(0, .ref bb), (1, .ref (a 0)), (2, .ref (b 0)), (3, .int (nI i))] → W p l e room_1 s m #[Value.ref bb] below meth c H locs 600000 7302250 (lw_Z below #[Value.ref bb] s) (F0 m 430 ls []) := by
  obtain ⟨⟨hx, hb, hr, hml, hown, hts, hX, hbl, hlocks, hgv⟩, hL, hKX, hKM, hDX, hDM, hAX, hAM, hdis⟩ := hC
  have hW : ∀ w ∈ WG, w.before #[Value.ref bb] s = true := fun w h => hts w (List.mem_filter.mp h).1
  have hbA : ¬ (fun q : Nat => s.heap.size ≤ q) bb := Nat.not_le.mpr hbl
  intro σ τ H locs ls hR hPX hPM hS hl
  obtain ⟨r, e1, e2⟩ := op_closed hR (xs (i + 1))
  refine lv_aload_n hx hb dL_law_430 rfl (lv_at hl 1 rfl) ?_
  refine lv_aload_n hx hb dL_law_431 rfl (lv_at hl 0 rfl) ?_
  refine lv_iload_n hx hb dL_law_432 rfl (lv_at hl 3 rfl) ?_
  refine lv_iconst (v := 1) hx hb dL_law_433 (by decide) ?_
  refine lv_iadd hx hb dL_law_434 ?_
  refine lawLd (j := i + 1) hx hb hX hbl hbA hS (by omega) (by omega) (show nI i + nI 1 = _ from nI_add i 1) dL_law_435 ?_
  refine callRI (va_runV (As := [.int (xs (i + 1))]) (rest := []) ⟨hx, hb, hml, hown, hts⟩ (mX5_closed l D a k σ _ r e1) ⟨callB_of 1 hts (wg_l lg51) rfl rfl rfl (hW _ lg2) (hW _ lg50) hdX5_closed ⟨Nat.le_of_ble_eq_true rfl, Nat.le_of_ble_eq_true rfl⟩, hW _ lg52, hW _ lg53⟩ (pw_V hKX hPX (dX hDX) (ci := 5) (q0 := 0) rfl rfl) rfl rfl hl.1 rfl (lv_room (Nat.le_of_ble_eq_true rfl)) dL_law_436 ⟨Nat.le_refl _, Nat.le_refl _⟩) ?_
  refine lv_aload_n hx hb dL_law_439 rfl (lv_at hl 2 rfl) ?_
  refine lv_aload_n hx hb dL_law_440 rfl (lv_at hl 0 rfl) ?_
  refine lv_iload_n hx hb dL_law_441 rfl (lv_at hl 3 rfl) ?_
  refine lv_iconst (v := 1) hx hb dL_law_442 (by decide) ?_
  refine lv_iadd hx hb dL_law_443 ?_
  refine lawLd (j := i + 1) hx hb hX hbl hbA hS (by omega) (by omega) (show nI i + nI 1 = _ from nI_add i 1) dL_law_444 ?_
  refine callRI (va_runV (As := [.int (xs (i + 1))]) (rest := [.int r]) ⟨hx, hb, hml, hown, hts⟩ (mX6_closed l D b k2 τ _ r e2) ⟨callB_of 1 hts (wg_l lg55) rfl rfl rfl (hW _ lg7) (hW _ lg54) hdX6_closed ⟨Nat.le_of_ble_eq_true rfl, Nat.le_of_ble_eq_true rfl⟩, hW _ lg56, hW _ lg57⟩ (pw_V hKM hPM (dM hDM) (ci := 6) (q0 := 0) rfl rfl) rfl rfl hl.1 rfl (lv_room (Nat.le_of_ble_eq_true rfl)) dL_law_445 ⟨Nat.le_refl _, Nat.le_refl _⟩) ?_
  refine lv_icmp_eq (tgt := 680) hx hb dL_law_448 (by decide) (fun c9 => ?_) (fun c9 => absurd rfl c9)
  exact hcont σ τ H locs ls hR hPX hPM hS hl
set_option maxHeartbeats 4000000 in
set_option maxRecDepth 100000 in
theorem law_c7 {p : Program} {l : Launch} {e : Env} {s : State} {m : MethodId} {below : List Frame} {meth : Method} {c : Code} {bb L i : Nat} {xs : Nat → Int32} {D : va_G} {a b : Nat → Nat} {k k2 : Nat → ClassId} (hC : LC p s m meth c bb L xs D a b k k2) (hi : i + 7 ≤ L) (hcont : ∀ (σ τ : ST) (H : Heap) (locs : List Loc) (ls : Array Slot), Rel σ τ → va_P D vwCl (wX a k σ) H → va_P D vwCl (wM b k2 τ) H → va_S (fun q => s.heap.size ≤ q) s.heap H locs → lv_has ls 4 [(0, .ref bb), (1, .ref (a 0)), (2, .ref (b 0)), (3, .int (nI i))] → W p l e room_1 s m #[Value.ref bb] below meth c H locs 600000 7302250 (lw_Z below #[Value.ref bb] s) (F0 m 680 ls [])) : ∀ (σ τ : ST) (H : Heap) (locs : List Loc) (ls : Array Slot), Rel σ τ → va_P D vwCl (wX a k σ) H → va_P D vwCl (wM b k2 τ) H → va_S (fun q => s.heap.size ≤ q) s.heap H locs → lv_has ls 4 [(0, .ref bb), (1, .ref (a 0)), (2, .ref (b 0)), (3, .int (nI i))] → W p l e room_1 s m #[Value.ref bb] below meth c H locs 600000 7302250 (lw_Z below #[Value.ref bb] s) (F0 m 453 ls []) := by
  obtain ⟨⟨hx, hb, hr, hml, hown, hts, hX, hbl, hlocks, hgv⟩, hL, hKX, hKM, hDX, hDM, hAX, hAM, hdis⟩ := hC
  have hW : ∀ w ∈ WG, w.before #[Value.ref bb] s = true := fun w h => hts w (List.mem_filter.mp h).1
  have hbA : ¬ (fun q : Nat => s.heap.size ≤ q) bb := Nat.not_le.mpr hbl
  intro σ τ H locs ls hR hPX hPM hS hl
  obtain ⟨r, e1, e2⟩ := op_states hR (xs (i + 1)) (xs (i + 2))
  refine lv_aload_n hx hb dL_law_453 rfl (lv_at hl 1 rfl) ?_
  refine lv_aload_n hx hb dL_law_454 rfl (lv_at hl 0 rfl) ?_
  refine lv_iload_n hx hb dL_law_455 rfl (lv_at hl 3 rfl) ?_
  refine lv_iconst (v := 1) hx hb dL_law_456 (by decide) ?_
  refine lv_iadd hx hb dL_law_457 ?_
  refine lawLd (j := i + 1) hx hb hX hbl hbA hS (by omega) (by omega) (show nI i + nI 1 = _ from nI_add i 1) dL_law_458 ?_
  refine lv_aload_n hx hb dL_law_459 rfl (lv_at hl 0 rfl) ?_
  refine lv_iload_n hx hb dL_law_460 rfl (lv_at hl 3 rfl) ?_
  refine lv_iconst (v := 2) hx hb dL_law_461 (by decide) ?_
  refine lv_iadd hx hb dL_law_462 ?_
  refine lawLd (j := i + 2) hx hb hX hbl hbA hS (by omega) (by omega) (show nI i + nI 2 = _ from nI_add i 2) dL_law_463 ?_
  refine callRI (va_runV (As := [.int (xs (i + 1)), .int (xs (i + 2))]) (rest := []) ⟨hx, hb, hml, hown, hts⟩ (mX5_states l D a k σ _ _ r e1) ⟨callB_of 2 hts (wg_l lg59) rfl rfl rfl (hW _ lg2) (hW _ lg58) hdX5_states ⟨Nat.le_of_ble_eq_true rfl, Nat.le_of_ble_eq_true rfl⟩, hW _ lg60, hW _ lg61⟩ (pw_V hKX hPX (dX hDX) (ci := 5) (q0 := 0) rfl rfl) rfl rfl hl.1 rfl (lv_room (Nat.le_of_ble_eq_true rfl)) dL_law_464 ⟨Nat.le_refl _, Nat.le_refl _⟩) ?_
  refine lv_aload_n hx hb dL_law_467 rfl (lv_at hl 2 rfl) ?_
  refine lv_aload_n hx hb dL_law_468 rfl (lv_at hl 0 rfl) ?_
  refine lv_iload_n hx hb dL_law_469 rfl (lv_at hl 3 rfl) ?_
  refine lv_iconst (v := 1) hx hb dL_law_470 (by decide) ?_
  refine lv_iadd hx hb dL_law_471 ?_
  refine lawLd (j := i + 1) hx hb hX hbl hbA hS (by omega) (by omega) (show nI i + nI 1 = _ from nI_add i 1) dL_law_472 ?_
  refine lv_aload_n hx hb dL_law_473 rfl (lv_at hl 0 rfl) ?_
  refine lv_iload_n hx hb dL_law_474 rfl (lv_at hl 3 rfl) ?_
  refine lv_iconst (v := 2) hx hb dL_law_475 (by decide) ?_
  refine lv_iadd hx hb dL_law_476 ?_
  refine lawLd (j := i + 2) hx hb hX hbl hbA hS (by omega) (by omega) (show nI i + nI 2 = _ from nI_add i 2) dL_law_477 ?_
  refine callRI (va_runV (As := [.int (xs (i + 1)), .int (xs (i + 2))]) (rest := [.int r]) ⟨hx, hb, hml, hown, hts⟩ (mX6_states l D b k2 τ _ _ r e2) ⟨callB_of 2 hts (wg_l lg63) rfl rfl rfl (hW _ lg7) (hW _ lg62) hdX6_states ⟨Nat.le_of_ble_eq_true rfl, Nat.le_of_ble_eq_true rfl⟩, hW _ lg64, hW _ lg65⟩ (pw_V hKM hPM (dM hDM) (ci := 6) (q0 := 0) rfl rfl) rfl rfl hl.1 rfl (lv_room (Nat.le_of_ble_eq_true rfl)) dL_law_478 ⟨Nat.le_refl _, Nat.le_refl _⟩) ?_
  refine lv_icmp_eq (tgt := 680) hx hb dL_law_481 (by decide) (fun c9 => ?_) (fun c9 => absurd rfl c9)
  exact hcont σ τ H locs ls hR hPX hPM hS hl
set_option maxHeartbeats 4000000 in
set_option maxRecDepth 100000 in
theorem law_c8 {p : Program} {l : Launch} {e : Env} {s : State} {m : MethodId} {below : List Frame} {meth : Method} {c : Code} {bb L i : Nat} {xs : Nat → Int32} {D : va_G} {a b : Nat → Nat} {k k2 : Nat → ClassId} (hC : LC p s m meth c bb L xs D a b k k2) (hi : i + 7 ≤ L) (hcont : ∀ (σ τ : ST) (H : Heap) (locs : List Loc) (ls : Array Slot), Rel σ τ → va_P D vwCl (wX a k σ) H → va_P D vwCl (wM b k2 τ) H → va_S (fun q => s.heap.size ≤ q) s.heap H locs → lv_has ls 4 [(0, .ref bb), (1, .ref (a 0)), (2, .ref (b 0)), (3, .int (nI i))] → W p l e room_1 s m #[Value.ref bb] below meth c H locs 600000 7302250 (lw_Z below #[Value.ref bb] s) (F0 m 680 ls [])) : ∀ (σ τ : ST) (H : Heap) (locs : List Loc) (ls : Array Slot), Rel σ τ → va_P D vwCl (wX a k σ) H → va_P D vwCl (wM b k2 τ) H → va_S (fun q => s.heap.size ≤ q) s.heap H locs → lv_has ls 4 [(0, .ref bb), (1, .ref (a 0)), (2, .ref (b 0)), (3, .int (nI i))] → W p l e room_1 s m #[Value.ref bb] below meth c H locs 600000 7302250 (lw_Z below #[Value.ref bb] s) (F0 m 486 ls []) := by
  obtain ⟨⟨hx, hb, hr, hml, hown, hts, hX, hbl, hlocks, hgv⟩, hL, hKX, hKM, hDX, hDM, hAX, hAM, hdis⟩ := hC
  have hW : ∀ w ∈ WG, w.before #[Value.ref bb] s = true := fun w h => hts w (List.mem_filter.mp h).1
  have hbA : ¬ (fun q : Nat => s.heap.size ≤ q) bb := Nat.not_le.mpr hbl
  intro σ τ H locs ls hR hPX hPM hS hl
  obtain ⟨r, e1, e2⟩ := op_nodes hR (xs (i + 1))
  refine lv_aload_n hx hb dL_law_486 rfl (lv_at hl 1 rfl) ?_
  refine lv_aload_n hx hb dL_law_487 rfl (lv_at hl 0 rfl) ?_
  refine lv_iload_n hx hb dL_law_488 rfl (lv_at hl 3 rfl) ?_
  refine lv_iconst (v := 1) hx hb dL_law_489 (by decide) ?_
  refine lv_iadd hx hb dL_law_490 ?_
  refine lawLd (j := i + 1) hx hb hX hbl hbA hS (by omega) (by omega) (show nI i + nI 1 = _ from nI_add i 1) dL_law_491 ?_
  refine callRI (va_runV (As := [.int (xs (i + 1))]) (rest := []) ⟨hx, hb, hml, hown, hts⟩ (mX5_nodes l D a k σ _ r e1) ⟨callB_of 1 hts (wg_l lg67) rfl rfl rfl (hW _ lg2) (hW _ lg66) hdX5_nodes ⟨Nat.le_of_ble_eq_true rfl, Nat.le_of_ble_eq_true rfl⟩, hW _ lg68, hW _ lg69⟩ (pw_V hKX hPX (dX hDX) (ci := 5) (q0 := 0) rfl rfl) rfl rfl hl.1 rfl (lv_room (Nat.le_of_ble_eq_true rfl)) dL_law_492 ⟨Nat.le_refl _, Nat.le_refl _⟩) ?_
  refine lv_aload_n hx hb dL_law_495 rfl (lv_at hl 2 rfl) ?_
  refine lv_aload_n hx hb dL_law_496 rfl (lv_at hl 0 rfl) ?_
  refine lv_iload_n hx hb dL_law_497 rfl (lv_at hl 3 rfl) ?_
  refine lv_iconst (v := 1) hx hb dL_law_498 (by decide) ?_
  refine lv_iadd hx hb dL_law_499 ?_
  refine lawLd (j := i + 1) hx hb hX hbl hbA hS (by omega) (by omega) (show nI i + nI 1 = _ from nI_add i 1) dL_law_500 ?_
  refine callRI (va_runV (As := [.int (xs (i + 1))]) (rest := [.int r]) ⟨hx, hb, hml, hown, hts⟩ (mX6_nodes l D b k2 τ _ r e2) ⟨callB_of 1 hts (wg_l lg71) rfl rfl rfl (hW _ lg7) (hW _ lg70) hdX6_nodes ⟨Nat.le_of_ble_eq_true rfl, Nat.le_of_ble_eq_true rfl⟩, hW _ lg72, hW _ lg73⟩ (pw_V hKM hPM (dM hDM) (ci := 6) (q0 := 0) rfl rfl) rfl rfl hl.1 rfl (lv_room (Nat.le_of_ble_eq_true rfl)) dL_law_501 ⟨Nat.le_refl _, Nat.le_refl _⟩) ?_
  refine lv_icmp_eq (tgt := 680) hx hb dL_law_504 (by decide) (fun c9 => ?_) (fun c9 => absurd rfl c9)
  exact hcont σ τ H locs ls hR hPX hPM hS hl
set_option maxHeartbeats 4000000 in
set_option maxRecDepth 100000 in
theorem law_c9 {p : Program} {l : Launch} {e : Env} {s : State} {m : MethodId} {below : List Frame} {meth : Method} {c : Code} {bb L i : Nat} {xs : Nat → Int32} {D : va_G} {a b : Nat → Nat} {k k2 : Nat → ClassId} (hC : LC p s m meth c bb L xs D a b k k2) (hi : i + 7 ≤ L) (hcont : ∀ (σ τ : ST) (H : Heap) (locs : List Loc) (ls : Array Slot), Rel σ τ → va_P D vwCl (wX a k σ) H → va_P D vwCl (wM b k2 τ) H → va_S (fun q => s.heap.size ≤ q) s.heap H locs → lv_has ls 4 [(0, .ref bb), (1, .ref (a 0)), (2, .ref (b 0)), (3, .int (nI i))] → W p l e room_1 s m #[Value.ref bb] below meth c H locs 600000 7302250 (lw_Z below #[Value.ref bb] s) (F0 m 680 ls [])) : ∀ (σ τ : ST) (H : Heap) (locs : List Loc) (ls : Array Slot), Rel σ τ → va_P D vwCl (wX a k σ) H → va_P D vwCl (wM b k2 τ) H → va_S (fun q => s.heap.size ≤ q) s.heap H locs → lv_has ls 4 [(0, .ref bb), (1, .ref (a 0)), (2, .ref (b 0)), (3, .int (nI i))] → W p l e room_1 s m #[Value.ref bb] below meth c H locs 600000 7302250 (lw_Z below #[Value.ref bb] s) (F0 m 509 ls []) := by
  obtain ⟨⟨hx, hb, hr, hml, hown, hts, hX, hbl, hlocks, hgv⟩, hL, hKX, hKM, hDX, hDM, hAX, hAM, hdis⟩ := hC
  have hW : ∀ w ∈ WG, w.before #[Value.ref bb] s = true := fun w h => hts w (List.mem_filter.mp h).1
  have hbA : ¬ (fun q : Nat => s.heap.size ≤ q) bb := Nat.not_le.mpr hbl
  intro σ τ H locs ls hR hPX hPM hS hl
  obtain ⟨r, e1, e2⟩ := op_once hR (xs (i + 1))
  refine lv_aload_n hx hb dL_law_509 rfl (lv_at hl 1 rfl) ?_
  refine lv_aload_n hx hb dL_law_510 rfl (lv_at hl 0 rfl) ?_
  refine lv_iload_n hx hb dL_law_511 rfl (lv_at hl 3 rfl) ?_
  refine lv_iconst (v := 1) hx hb dL_law_512 (by decide) ?_
  refine lv_iadd hx hb dL_law_513 ?_
  refine lawLd (j := i + 1) hx hb hX hbl hbA hS (by omega) (by omega) (show nI i + nI 1 = _ from nI_add i 1) dL_law_514 ?_
  refine callRI (va_runV (As := [.int (xs (i + 1))]) (rest := []) ⟨hx, hb, hml, hown, hts⟩ (mX5_atOnce l D a k σ _ r e1) ⟨callB_of 1 hts (wg_l lg75) rfl rfl rfl (hW _ lg2) (hW _ lg74) hdX5_atOnce ⟨Nat.le_of_ble_eq_true rfl, Nat.le_of_ble_eq_true rfl⟩, hW _ lg76, hW _ lg77⟩ (pw_V hKX hPX (dX hDX) (ci := 5) (q0 := 0) rfl rfl) rfl rfl hl.1 rfl (lv_room (Nat.le_of_ble_eq_true rfl)) dL_law_515 ⟨Nat.le_refl _, Nat.le_refl _⟩) ?_
  refine lv_aload_n hx hb dL_law_518 rfl (lv_at hl 2 rfl) ?_
  refine lv_aload_n hx hb dL_law_519 rfl (lv_at hl 0 rfl) ?_
  refine lv_iload_n hx hb dL_law_520 rfl (lv_at hl 3 rfl) ?_
  refine lv_iconst (v := 1) hx hb dL_law_521 (by decide) ?_
  refine lv_iadd hx hb dL_law_522 ?_
  refine lawLd (j := i + 1) hx hb hX hbl hbA hS (by omega) (by omega) (show nI i + nI 1 = _ from nI_add i 1) dL_law_523 ?_
  refine callRI (va_runV (As := [.int (xs (i + 1))]) (rest := [.int r]) ⟨hx, hb, hml, hown, hts⟩ (mX6_atOnce l D b k2 τ _ r e2) ⟨callB_of 1 hts (wg_l lg79) rfl rfl rfl (hW _ lg7) (hW _ lg78) hdX6_atOnce ⟨Nat.le_of_ble_eq_true rfl, Nat.le_of_ble_eq_true rfl⟩, hW _ lg80, hW _ lg81⟩ (pw_V hKM hPM (dM hDM) (ci := 6) (q0 := 0) rfl rfl) rfl rfl hl.1 rfl (lv_room (Nat.le_of_ble_eq_true rfl)) dL_law_524 ⟨Nat.le_refl _, Nat.le_refl _⟩) ?_
  refine lv_icmp_eq (tgt := 680) hx hb dL_law_527 (by decide) (fun c9 => ?_) (fun c9 => absurd rfl c9)
  exact hcont σ τ H locs ls hR hPX hPM hS hl
set_option maxHeartbeats 4000000 in
set_option maxRecDepth 100000 in
theorem law_c10 {p : Program} {l : Launch} {e : Env} {s : State} {m : MethodId} {below : List Frame} {meth : Method} {c : Code} {bb L i : Nat} {xs : Nat → Int32} {D : va_G} {a b : Nat → Nat} {k k2 : Nat → ClassId} (hC : LC p s m meth c bb L xs D a b k k2) (hi : i + 7 ≤ L) (hcont : ∀ (σ τ : ST) (H : Heap) (locs : List Loc) (ls : Array Slot), Rel σ τ → va_P D vwCl (wX a k σ) H → va_P D vwCl (wM b k2 τ) H → va_S (fun q => s.heap.size ≤ q) s.heap H locs → lv_has ls 4 [(0, .ref bb), (1, .ref (a 0)), (2, .ref (b 0)), (3, .int (nI i))] → W p l e room_1 s m #[Value.ref bb] below meth c H locs 600000 7302250 (lw_Z below #[Value.ref bb] s) (F0 m 680 ls [])) : ∀ (σ τ : ST) (H : Heap) (locs : List Loc) (ls : Array Slot), Rel σ τ → va_P D vwCl (wX a k σ) H → va_P D vwCl (wM b k2 τ) H → va_S (fun q => s.heap.size ≤ q) s.heap H locs → lv_has ls 4 [(0, .ref bb), (1, .ref (a 0)), (2, .ref (b 0)), (3, .int (nI i))] → W p l e room_1 s m #[Value.ref bb] below meth c H locs 600000 7302250 (lw_Z below #[Value.ref bb] s) (F0 m 532 ls []) := by
  obtain ⟨⟨hx, hb, hr, hml, hown, hts, hX, hbl, hlocks, hgv⟩, hL, hKX, hKM, hDX, hDM, hAX, hAM, hdis⟩ := hC
  have hW : ∀ w ∈ WG, w.before #[Value.ref bb] s = true := fun w h => hts w (List.mem_filter.mp h).1
  have hbA : ¬ (fun q : Nat => s.heap.size ≤ q) bb := Nat.not_le.mpr hbl
  intro σ τ H locs ls hR hPX hPM hS hl
  obtain ⟨r, σ2, τ2, e1, e2, hR2⟩ := op_run hR (xs (i + 1)) (xs (i + 2))
  refine lv_aload_n hx hb dL_law_532 rfl (lv_at hl 1 rfl) ?_
  refine lv_aload_n hx hb dL_law_533 rfl (lv_at hl 0 rfl) ?_
  refine lv_iload_n hx hb dL_law_534 rfl (lv_at hl 3 rfl) ?_
  refine lv_iconst (v := 1) hx hb dL_law_535 (by decide) ?_
  refine lv_iadd hx hb dL_law_536 ?_
  refine lawLd (j := i + 1) hx hb hX hbl hbA hS (by omega) (by omega) (show nI i + nI 1 = _ from nI_add i 1) dL_law_537 ?_
  refine lv_aload_n hx hb dL_law_538 rfl (lv_at hl 0 rfl) ?_
  refine lv_iload_n hx hb dL_law_539 rfl (lv_at hl 3 rfl) ?_
  refine lv_iconst (v := 2) hx hb dL_law_540 (by decide) ?_
  refine lv_iadd hx hb dL_law_541 ?_
  refine lawLd (j := i + 2) hx hb hX hbl hbA hS (by omega) (by omega) (show nI i + nI 2 = _ from nI_add i 2) dL_law_542 ?_
  refine lawWI (r := r) (va_runV (As := [.int (xs (i + 1)), .int (xs (i + 2))]) (rest := []) ⟨hx, hb, hml, hown, hts⟩ (mX5_run l D a k σ _ _ (r, σ2) e1) ⟨callB_of 2 hts (wg_l lg83) rfl rfl rfl (hW _ lg2) (hW _ lg82) hdX5_run ⟨Nat.le_of_ble_eq_true rfl, Nat.le_of_ble_eq_true rfl⟩, hW _ lg84, hW _ lg85⟩ (pw_V hKX hPX (dX hDX) (ci := 5) (q0 := 0) rfl rfl) rfl rfl hl.1 rfl (lv_room (Nat.le_of_ble_eq_true rfl)) dL_law_543 ⟨Nat.le_refl _, Nat.le_refl _⟩) hS hAX hPM (dM hDM) hdis (fun H locs hPX hPM hS => ?_)
  refine lv_aload_n hx hb dL_law_546 rfl (lv_at hl 2 rfl) ?_
  refine lv_aload_n hx hb dL_law_547 rfl (lv_at hl 0 rfl) ?_
  refine lv_iload_n hx hb dL_law_548 rfl (lv_at hl 3 rfl) ?_
  refine lv_iconst (v := 1) hx hb dL_law_549 (by decide) ?_
  refine lv_iadd hx hb dL_law_550 ?_
  refine lawLd (j := i + 1) hx hb hX hbl hbA hS (by omega) (by omega) (show nI i + nI 1 = _ from nI_add i 1) dL_law_551 ?_
  refine lv_aload_n hx hb dL_law_552 rfl (lv_at hl 0 rfl) ?_
  refine lv_iload_n hx hb dL_law_553 rfl (lv_at hl 3 rfl) ?_
  refine lv_iconst (v := 2) hx hb dL_law_554 (by decide) ?_
  refine lv_iadd hx hb dL_law_555 ?_
  refine lawLd (j := i + 2) hx hb hX hbl hbA hS (by omega) (by omega) (show nI i + nI 2 = _ from nI_add i 2) dL_law_556 ?_
  refine lawWI (r := r) (va_runV (As := [.int (xs (i + 1)), .int (xs (i + 2))]) (rest := [.int r]) ⟨hx, hb, hml, hown, hts⟩ (mX6_run l D b k2 τ _ _ (r, τ2) e2) ⟨callB_of 2 hts (wg_l lg87) rfl rfl rfl (hW _ lg7) (hW _ lg86) hdX6_run ⟨Nat.le_of_ble_eq_true rfl, Nat.le_of_ble_eq_true rfl⟩, hW _ lg88, hW _ lg89⟩ (pw_V hKM hPM (dM hDM) (ci := 6) (q0 := 0) rfl rfl) rfl rfl hl.1 rfl (lv_room (Nat.le_of_ble_eq_true rfl)) dL_law_557 ⟨Nat.le_refl _, Nat.le_refl _⟩) hS hAM hPX (dX hDX) (fun q h1 h2 => hdis q h2 h1) (fun H locs hPM hPX hS => ?_)
  refine lv_icmp_eq (tgt := 680) hx hb dL_law_560 (by decide) (fun c9 => ?_) (fun c9 => absurd rfl c9)
  exact hcont σ2 τ2 H locs ls hR2 hPX hPM hS hl
set_option maxHeartbeats 4000000 in
set_option maxRecDepth 100000 in
theorem law_c11 {p : Program} {l : Launch} {e : Env} {s : State} {m : MethodId} {below : List Frame} {meth : Method} {c : Code} {bb L i : Nat} {xs : Nat → Int32} {D : va_G} {a b : Nat → Nat} {k k2 : Nat → ClassId} (hC : LC p s m meth c bb L xs D a b k k2) (hi : i + 7 ≤ L) (hcont : ∀ (σ τ : ST) (H : Heap) (locs : List Loc) (ls : Array Slot), Rel σ τ → va_P D vwCl (wX a k σ) H → va_P D vwCl (wM b k2 τ) H → va_S (fun q => s.heap.size ≤ q) s.heap H locs → lv_has ls 4 [(0, .ref bb), (1, .ref (a 0)), (2, .ref (b 0)), (3, .int (nI i))] → W p l e room_1 s m #[Value.ref bb] below meth c H locs 600000 7302250 (lw_Z below #[Value.ref bb] s) (F0 m 680 ls [])) : ∀ (σ τ : ST) (H : Heap) (locs : List Loc) (ls : Array Slot), Rel σ τ → va_P D vwCl (wX a k σ) H → va_P D vwCl (wM b k2 τ) H → va_S (fun q => s.heap.size ≤ q) s.heap H locs → lv_has ls 4 [(0, .ref bb), (1, .ref (a 0)), (2, .ref (b 0)), (3, .int (nI i))] → W p l e room_1 s m #[Value.ref bb] below meth c H locs 600000 7302250 (lw_Z below #[Value.ref bb] s) (F0 m 565 ls []) := by
  obtain ⟨⟨hx, hb, hr, hml, hown, hts, hX, hbl, hlocks, hgv⟩, hL, hKX, hKM, hDX, hDM, hAX, hAM, hdis⟩ := hC
  have hW : ∀ w ∈ WG, w.before #[Value.ref bb] s = true := fun w h => hts w (List.mem_filter.mp h).1
  have hbA : ¬ (fun q : Nat => s.heap.size ≤ q) bb := Nat.not_le.mpr hbl
  intro σ τ H locs ls hR hPX hPM hS hl
  obtain ⟨r, e1, e2⟩ := op_ran hR (xs (i + 1))
  refine lv_aload_n hx hb dL_law_565 rfl (lv_at hl 1 rfl) ?_
  refine lv_aload_n hx hb dL_law_566 rfl (lv_at hl 0 rfl) ?_
  refine lv_iload_n hx hb dL_law_567 rfl (lv_at hl 3 rfl) ?_
  refine lv_iconst (v := 1) hx hb dL_law_568 (by decide) ?_
  refine lv_iadd hx hb dL_law_569 ?_
  refine lawLd (j := i + 1) hx hb hX hbl hbA hS (by omega) (by omega) (show nI i + nI 1 = _ from nI_add i 1) dL_law_570 ?_
  refine callRI (va_runV (As := [.int (xs (i + 1))]) (rest := []) ⟨hx, hb, hml, hown, hts⟩ (mX5_ran l D a k σ _ r e1) ⟨callB_of 1 hts (wg_l lg91) rfl rfl rfl (hW _ lg2) (hW _ lg90) hdX5_ran ⟨Nat.le_of_ble_eq_true rfl, Nat.le_of_ble_eq_true rfl⟩, hW _ lg92, hW _ lg93⟩ (pw_V hKX hPX (dX hDX) (ci := 5) (q0 := 0) rfl rfl) rfl rfl hl.1 rfl (lv_room (Nat.le_of_ble_eq_true rfl)) dL_law_571 ⟨Nat.le_refl _, Nat.le_refl _⟩) ?_
  refine lv_aload_n hx hb dL_law_574 rfl (lv_at hl 2 rfl) ?_
  refine lv_aload_n hx hb dL_law_575 rfl (lv_at hl 0 rfl) ?_
  refine lv_iload_n hx hb dL_law_576 rfl (lv_at hl 3 rfl) ?_
  refine lv_iconst (v := 1) hx hb dL_law_577 (by decide) ?_
  refine lv_iadd hx hb dL_law_578 ?_
  refine lawLd (j := i + 1) hx hb hX hbl hbA hS (by omega) (by omega) (show nI i + nI 1 = _ from nI_add i 1) dL_law_579 ?_
  refine callRI (va_runV (As := [.int (xs (i + 1))]) (rest := [.int r]) ⟨hx, hb, hml, hown, hts⟩ (mX6_ran l D b k2 τ _ r e2) ⟨callB_of 1 hts (wg_l lg95) rfl rfl rfl (hW _ lg7) (hW _ lg94) hdX6_ran ⟨Nat.le_of_ble_eq_true rfl, Nat.le_of_ble_eq_true rfl⟩, hW _ lg96, hW _ lg97⟩ (pw_V hKM hPM (dM hDM) (ci := 6) (q0 := 0) rfl rfl) rfl rfl hl.1 rfl (lv_room (Nat.le_of_ble_eq_true rfl)) dL_law_580 ⟨Nat.le_refl _, Nat.le_refl _⟩) ?_
  refine lv_icmp_eq (tgt := 680) hx hb dL_law_583 (by decide) (fun c9 => ?_) (fun c9 => absurd rfl c9)
  exact hcont σ τ H locs ls hR hPX hPM hS hl
set_option maxHeartbeats 4000000 in
set_option maxRecDepth 100000 in
theorem law_c12 {p : Program} {l : Launch} {e : Env} {s : State} {m : MethodId} {below : List Frame} {meth : Method} {c : Code} {bb L i : Nat} {xs : Nat → Int32} {D : va_G} {a b : Nat → Nat} {k k2 : Nat → ClassId} (hC : LC p s m meth c bb L xs D a b k k2) (hi : i + 7 ≤ L) (hcont : ∀ (σ τ : ST) (H : Heap) (locs : List Loc) (ls : Array Slot), Rel σ τ → va_P D vwCl (wX a k σ) H → va_P D vwCl (wM b k2 τ) H → va_S (fun q => s.heap.size ≤ q) s.heap H locs → lv_has ls 4 [(0, .ref bb), (1, .ref (a 0)), (2, .ref (b 0)), (3, .int (nI i))] → W p l e room_1 s m #[Value.ref bb] below meth c H locs 600000 7302250 (lw_Z below #[Value.ref bb] s) (F0 m 680 ls [])) : ∀ (σ τ : ST) (H : Heap) (locs : List Loc) (ls : Array Slot), Rel σ τ → va_P D vwCl (wX a k σ) H → va_P D vwCl (wM b k2 τ) H → va_S (fun q => s.heap.size ≤ q) s.heap H locs → lv_has ls 4 [(0, .ref bb), (1, .ref (a 0)), (2, .ref (b 0)), (3, .int (nI i))] → W p l e room_1 s m #[Value.ref bb] below meth c H locs 600000 7302250 (lw_Z below #[Value.ref bb] s) (F0 m 588 ls []) := by
  obtain ⟨⟨hx, hb, hr, hml, hown, hts, hX, hbl, hlocks, hgv⟩, hL, hKX, hKM, hDX, hDM, hAX, hAM, hdis⟩ := hC
  have hW : ∀ w ∈ WG, w.before #[Value.ref bb] s = true := fun w h => hts w (List.mem_filter.mp h).1
  have hbA : ¬ (fun q : Nat => s.heap.size ≤ q) bb := Nat.not_le.mpr hbl
  intro σ τ H locs ls hR hPX hPM hS hl
  obtain ⟨r, e1, e2⟩ := op_came hR (xs (i + 1))
  refine lv_aload_n hx hb dL_law_588 rfl (lv_at hl 1 rfl) ?_
  refine lv_aload_n hx hb dL_law_589 rfl (lv_at hl 0 rfl) ?_
  refine lv_iload_n hx hb dL_law_590 rfl (lv_at hl 3 rfl) ?_
  refine lv_iconst (v := 1) hx hb dL_law_591 (by decide) ?_
  refine lv_iadd hx hb dL_law_592 ?_
  refine lawLd (j := i + 1) hx hb hX hbl hbA hS (by omega) (by omega) (show nI i + nI 1 = _ from nI_add i 1) dL_law_593 ?_
  refine callRI (va_runV (As := [.int (xs (i + 1))]) (rest := []) ⟨hx, hb, hml, hown, hts⟩ (mX5_came l D a k σ _ r e1) ⟨callB_of 1 hts (wg_l lg99) rfl rfl rfl (hW _ lg2) (hW _ lg98) hdX5_came ⟨Nat.le_of_ble_eq_true rfl, Nat.le_of_ble_eq_true rfl⟩, hW _ lg100, hW _ lg101⟩ (pw_V hKX hPX (dX hDX) (ci := 5) (q0 := 0) rfl rfl) rfl rfl hl.1 rfl (lv_room (Nat.le_of_ble_eq_true rfl)) dL_law_594 ⟨Nat.le_refl _, Nat.le_refl _⟩) ?_
  refine lv_aload_n hx hb dL_law_597 rfl (lv_at hl 2 rfl) ?_
  refine lv_aload_n hx hb dL_law_598 rfl (lv_at hl 0 rfl) ?_
  refine lv_iload_n hx hb dL_law_599 rfl (lv_at hl 3 rfl) ?_
  refine lv_iconst (v := 1) hx hb dL_law_600 (by decide) ?_
  refine lv_iadd hx hb dL_law_601 ?_
  refine lawLd (j := i + 1) hx hb hX hbl hbA hS (by omega) (by omega) (show nI i + nI 1 = _ from nI_add i 1) dL_law_602 ?_
  refine callRI (va_runV (As := [.int (xs (i + 1))]) (rest := [.int r]) ⟨hx, hb, hml, hown, hts⟩ (mX6_came l D b k2 τ _ r e2) ⟨callB_of 1 hts (wg_l lg103) rfl rfl rfl (hW _ lg7) (hW _ lg102) hdX6_came ⟨Nat.le_of_ble_eq_true rfl, Nat.le_of_ble_eq_true rfl⟩, hW _ lg104, hW _ lg105⟩ (pw_V hKM hPM (dM hDM) (ci := 6) (q0 := 0) rfl rfl) rfl rfl hl.1 rfl (lv_room (Nat.le_of_ble_eq_true rfl)) dL_law_603 ⟨Nat.le_refl _, Nat.le_refl _⟩) ?_
  refine lv_icmp_eq (tgt := 680) hx hb dL_law_606 (by decide) (fun c9 => ?_) (fun c9 => absurd rfl c9)
  exact hcont σ τ H locs ls hR hPX hPM hS hl
set_option maxHeartbeats 4000000 in
set_option maxRecDepth 100000 in
theorem law_c13 {p : Program} {l : Launch} {e : Env} {s : State} {m : MethodId} {below : List Frame} {meth : Method} {c : Code} {bb L i : Nat} {xs : Nat → Int32} {D : va_G} {a b : Nat → Nat} {k k2 : Nat → ClassId} (hC : LC p s m meth c bb L xs D a b k k2) (hi : i + 7 ≤ L) (hcont : ∀ (σ τ : ST) (H : Heap) (locs : List Loc) (ls : Array Slot), Rel σ τ → va_P D vwCl (wX a k σ) H → va_P D vwCl (wM b k2 τ) H → va_S (fun q => s.heap.size ≤ q) s.heap H locs → lv_has ls 4 [(0, .ref bb), (1, .ref (a 0)), (2, .ref (b 0)), (3, .int (nI i))] → W p l e room_1 s m #[Value.ref bb] below meth c H locs 600000 7302250 (lw_Z below #[Value.ref bb] s) (F0 m 680 ls [])) : ∀ (σ τ : ST) (H : Heap) (locs : List Loc) (ls : Array Slot), Rel σ τ → va_P D vwCl (wX a k σ) H → va_P D vwCl (wM b k2 τ) H → va_S (fun q => s.heap.size ≤ q) s.heap H locs → lv_has ls 4 [(0, .ref bb), (1, .ref (a 0)), (2, .ref (b 0)), (3, .int (nI i))] → W p l e room_1 s m #[Value.ref bb] below meth c H locs 600000 7302250 (lw_Z below #[Value.ref bb] s) (F0 m 611 ls []) := by
  obtain ⟨⟨hx, hb, hr, hml, hown, hts, hX, hbl, hlocks, hgv⟩, hL, hKX, hKM, hDX, hDM, hAX, hAM, hdis⟩ := hC
  have hW : ∀ w ∈ WG, w.before #[Value.ref bb] s = true := fun w h => hts w (List.mem_filter.mp h).1
  have hbA : ¬ (fun q : Nat => s.heap.size ≤ q) bb := Nat.not_le.mpr hbl
  intro σ τ H locs ls hR hPX hPM hS hl
  obtain ⟨r, e1, e2⟩ := op_told hR (xs (i + 1)) (xs (i + 2))
  refine lv_aload_n hx hb dL_law_611 rfl (lv_at hl 1 rfl) ?_
  refine lv_aload_n hx hb dL_law_612 rfl (lv_at hl 0 rfl) ?_
  refine lv_iload_n hx hb dL_law_613 rfl (lv_at hl 3 rfl) ?_
  refine lv_iconst (v := 1) hx hb dL_law_614 (by decide) ?_
  refine lv_iadd hx hb dL_law_615 ?_
  refine lawLd (j := i + 1) hx hb hX hbl hbA hS (by omega) (by omega) (show nI i + nI 1 = _ from nI_add i 1) dL_law_616 ?_
  refine lv_aload_n hx hb dL_law_617 rfl (lv_at hl 0 rfl) ?_
  refine lv_iload_n hx hb dL_law_618 rfl (lv_at hl 3 rfl) ?_
  refine lv_iconst (v := 2) hx hb dL_law_619 (by decide) ?_
  refine lv_iadd hx hb dL_law_620 ?_
  refine lawLd (j := i + 2) hx hb hX hbl hbA hS (by omega) (by omega) (show nI i + nI 2 = _ from nI_add i 2) dL_law_621 ?_
  refine callRI (va_runV (As := [.int (xs (i + 1)), .int (xs (i + 2))]) (rest := []) ⟨hx, hb, hml, hown, hts⟩ (mX5_told l D a k σ _ _ r e1) ⟨callB_of 2 hts (wg_l lg107) rfl rfl rfl (hW _ lg2) (hW _ lg106) hdX5_told ⟨Nat.le_of_ble_eq_true rfl, Nat.le_of_ble_eq_true rfl⟩, hW _ lg108, hW _ lg109⟩ (pw_V hKX hPX (dX hDX) (ci := 5) (q0 := 0) rfl rfl) rfl rfl hl.1 rfl (lv_room (Nat.le_of_ble_eq_true rfl)) dL_law_622 ⟨Nat.le_refl _, Nat.le_refl _⟩) ?_
  refine lv_aload_n hx hb dL_law_625 rfl (lv_at hl 2 rfl) ?_
  refine lv_aload_n hx hb dL_law_626 rfl (lv_at hl 0 rfl) ?_
  refine lv_iload_n hx hb dL_law_627 rfl (lv_at hl 3 rfl) ?_
  refine lv_iconst (v := 1) hx hb dL_law_628 (by decide) ?_
  refine lv_iadd hx hb dL_law_629 ?_
  refine lawLd (j := i + 1) hx hb hX hbl hbA hS (by omega) (by omega) (show nI i + nI 1 = _ from nI_add i 1) dL_law_630 ?_
  refine lv_aload_n hx hb dL_law_631 rfl (lv_at hl 0 rfl) ?_
  refine lv_iload_n hx hb dL_law_632 rfl (lv_at hl 3 rfl) ?_
  refine lv_iconst (v := 2) hx hb dL_law_633 (by decide) ?_
  refine lv_iadd hx hb dL_law_634 ?_
  refine lawLd (j := i + 2) hx hb hX hbl hbA hS (by omega) (by omega) (show nI i + nI 2 = _ from nI_add i 2) dL_law_635 ?_
  refine callRI (va_runV (As := [.int (xs (i + 1)), .int (xs (i + 2))]) (rest := [.int r]) ⟨hx, hb, hml, hown, hts⟩ (mX6_told l D b k2 τ _ _ r e2) ⟨callB_of 2 hts (wg_l lg111) rfl rfl rfl (hW _ lg7) (hW _ lg110) hdX6_told ⟨Nat.le_of_ble_eq_true rfl, Nat.le_of_ble_eq_true rfl⟩, hW _ lg112, hW _ lg113⟩ (pw_V hKM hPM (dM hDM) (ci := 6) (q0 := 0) rfl rfl) rfl rfl hl.1 rfl (lv_room (Nat.le_of_ble_eq_true rfl)) dL_law_636 ⟨Nat.le_refl _, Nat.le_refl _⟩) ?_
  refine lv_icmp_eq (tgt := 680) hx hb dL_law_639 (by decide) (fun c9 => ?_) (fun c9 => absurd rfl c9)
  exact hcont σ τ H locs ls hR hPX hPM hS hl
set_option maxHeartbeats 4000000 in
set_option maxRecDepth 100000 in
theorem law_c14 {p : Program} {l : Launch} {e : Env} {s : State} {m : MethodId} {below : List Frame} {meth : Method} {c : Code} {bb L i : Nat} {xs : Nat → Int32} {D : va_G} {a b : Nat → Nat} {k k2 : Nat → ClassId} (hC : LC p s m meth c bb L xs D a b k k2) (hi : i + 7 ≤ L) (hcont : ∀ (σ τ : ST) (H : Heap) (locs : List Loc) (ls : Array Slot), Rel σ τ → va_P D vwCl (wX a k σ) H → va_P D vwCl (wM b k2 τ) H → va_S (fun q => s.heap.size ≤ q) s.heap H locs → lv_has ls 4 [(0, .ref bb), (1, .ref (a 0)), (2, .ref (b 0)), (3, .int (nI i))] → W p l e room_1 s m #[Value.ref bb] below meth c H locs 600000 7302250 (lw_Z below #[Value.ref bb] s) (F0 m 680 ls [])) : ∀ (σ τ : ST) (H : Heap) (locs : List Loc) (ls : Array Slot), Rel σ τ → va_P D vwCl (wX a k σ) H → va_P D vwCl (wM b k2 τ) H → va_S (fun q => s.heap.size ≤ q) s.heap H locs → lv_has ls 4 [(0, .ref bb), (1, .ref (a 0)), (2, .ref (b 0)), (3, .int (nI i))] → W p l e room_1 s m #[Value.ref bb] below meth c H locs 600000 7302250 (lw_Z below #[Value.ref bb] s) (F0 m 644 ls []) := by
  obtain ⟨⟨hx, hb, hr, hml, hown, hts, hX, hbl, hlocks, hgv⟩, hL, hKX, hKM, hDX, hDM, hAX, hAM, hdis⟩ := hC
  have hW : ∀ w ∈ WG, w.before #[Value.ref bb] s = true := fun w h => hts w (List.mem_filter.mp h).1
  have hbA : ¬ (fun q : Nat => s.heap.size ≤ q) bb := Nat.not_le.mpr hbl
  intro σ τ H locs ls hR hPX hPM hS hl
  obtain ⟨r, e1, e2⟩ := op_count hR (xs (i + 1))
  refine lv_aload_n hx hb dL_law_644 rfl (lv_at hl 1 rfl) ?_
  refine lv_aload_n hx hb dL_law_645 rfl (lv_at hl 0 rfl) ?_
  refine lv_iload_n hx hb dL_law_646 rfl (lv_at hl 3 rfl) ?_
  refine lv_iconst (v := 1) hx hb dL_law_647 (by decide) ?_
  refine lv_iadd hx hb dL_law_648 ?_
  refine lawLd (j := i + 1) hx hb hX hbl hbA hS (by omega) (by omega) (show nI i + nI 1 = _ from nI_add i 1) dL_law_649 ?_
  refine callRI (va_runV (As := [.int (xs (i + 1))]) (rest := []) ⟨hx, hb, hml, hown, hts⟩ (mX5_count l D a k σ _ r e1) ⟨callB_of 1 hts (wg_l lg115) rfl rfl rfl (hW _ lg2) (hW _ lg114) hdX5_count ⟨Nat.le_of_ble_eq_true rfl, Nat.le_of_ble_eq_true rfl⟩, hW _ lg116, hW _ lg117⟩ (pw_V hKX hPX (dX hDX) (ci := 5) (q0 := 0) rfl rfl) rfl rfl hl.1 rfl (lv_room (Nat.le_of_ble_eq_true rfl)) dL_law_650 ⟨Nat.le_refl _, Nat.le_refl _⟩) ?_
  refine lv_aload_n hx hb dL_law_653 rfl (lv_at hl 2 rfl) ?_
  refine lv_aload_n hx hb dL_law_654 rfl (lv_at hl 0 rfl) ?_
  refine lv_iload_n hx hb dL_law_655 rfl (lv_at hl 3 rfl) ?_
  refine lv_iconst (v := 1) hx hb dL_law_656 (by decide) ?_
  refine lv_iadd hx hb dL_law_657 ?_
  refine lawLd (j := i + 1) hx hb hX hbl hbA hS (by omega) (by omega) (show nI i + nI 1 = _ from nI_add i 1) dL_law_658 ?_
  refine callRI (va_runV (As := [.int (xs (i + 1))]) (rest := [.int r]) ⟨hx, hb, hml, hown, hts⟩ (mX6_count l D b k2 τ _ r e2) ⟨callB_of 1 hts (wg_l lg119) rfl rfl rfl (hW _ lg7) (hW _ lg118) hdX6_count ⟨Nat.le_of_ble_eq_true rfl, Nat.le_of_ble_eq_true rfl⟩, hW _ lg120, hW _ lg121⟩ (pw_V hKM hPM (dM hDM) (ci := 6) (q0 := 0) rfl rfl) rfl rfl hl.1 rfl (lv_room (Nat.le_of_ble_eq_true rfl)) dL_law_659 ⟨Nat.le_refl _, Nat.le_refl _⟩) ?_
  refine lv_icmp_eq (tgt := 680) hx hb dL_law_662 (by decide) (fun c9 => ?_) (fun c9 => absurd rfl c9)
  exact hcont σ τ H locs ls hR hPX hPM hS hl
set_option maxHeartbeats 4000000 in
set_option maxRecDepth 100000 in
theorem law_c15 {p : Program} {l : Launch} {e : Env} {s : State} {m : MethodId} {below : List Frame} {meth : Method} {c : Code} {bb L i : Nat} {xs : Nat → Int32} {D : va_G} {a b : Nat → Nat} {k k2 : Nat → ClassId} (hC : LC p s m meth c bb L xs D a b k k2) (hi : i + 7 ≤ L) (hcont : ∀ (σ τ : ST) (H : Heap) (locs : List Loc) (ls : Array Slot), Rel σ τ → va_P D vwCl (wX a k σ) H → va_P D vwCl (wM b k2 τ) H → va_S (fun q => s.heap.size ≤ q) s.heap H locs → lv_has ls 4 [(0, .ref bb), (1, .ref (a 0)), (2, .ref (b 0)), (3, .int (nI i))] → W p l e room_1 s m #[Value.ref bb] below meth c H locs 600000 7302250 (lw_Z below #[Value.ref bb] s) (F0 m 680 ls [])) : ∀ (σ τ : ST) (H : Heap) (locs : List Loc) (ls : Array Slot), Rel σ τ → va_P D vwCl (wX a k σ) H → va_P D vwCl (wM b k2 τ) H → va_S (fun q => s.heap.size ≤ q) s.heap H locs → lv_has ls 4 [(0, .ref bb), (1, .ref (a 0)), (2, .ref (b 0)), (3, .int (nI i))] → W p l e room_1 s m #[Value.ref bb] below meth c H locs 600000 7302250 (lw_Z below #[Value.ref bb] s) (F0 m 667 ls []) := by
  obtain ⟨⟨hx, hb, hr, hml, hown, hts, hX, hbl, hlocks, hgv⟩, hL, hKX, hKM, hDX, hDM, hAX, hAM, hdis⟩ := hC
  have hW : ∀ w ∈ WG, w.before #[Value.ref bb] s = true := fun w h => hts w (List.mem_filter.mp h).1
  have hbA : ¬ (fun q : Nat => s.heap.size ≤ q) bb := Nat.not_le.mpr hbl
  intro σ τ H locs ls hR hPX hPM hS hl
  obtain ⟨r, σ2, τ2, e1, e2, hR2⟩ := op_clear hR 
  refine lv_aload_n hx hb dL_law_667 rfl (lv_at hl 1 rfl) ?_
  refine lawWI (r := r) (va_runV (As := []) (rest := []) ⟨hx, hb, hml, hown, hts⟩ (mX5_clear l D a k σ  (r, σ2) e1) ⟨callB_of 0 hts (wg_l lg123) rfl rfl rfl (hW _ lg2) (hW _ lg122) hdX5_clear ⟨Nat.le_of_ble_eq_true rfl, Nat.le_of_ble_eq_true rfl⟩, hW _ lg124, hW _ lg125⟩ (pw_V hKX hPX (dX hDX) (ci := 5) (q0 := 0) rfl rfl) rfl rfl hl.1 rfl (lv_room (Nat.le_of_ble_eq_true rfl)) dL_law_668 ⟨Nat.le_refl _, Nat.le_refl _⟩) hS hAX hPM (dM hDM) hdis (fun H locs hPX hPM hS => ?_)
  refine lv_aload_n hx hb dL_law_671 rfl (lv_at hl 2 rfl) ?_
  refine lawWI (r := r) (va_runV (As := []) (rest := [.int r]) ⟨hx, hb, hml, hown, hts⟩ (mX6_clear l D b k2 τ  (r, τ2) e2) ⟨callB_of 0 hts (wg_l lg127) rfl rfl rfl (hW _ lg7) (hW _ lg126) hdX6_clear ⟨Nat.le_of_ble_eq_true rfl, Nat.le_of_ble_eq_true rfl⟩, hW _ lg128, hW _ lg129⟩ (pw_V hKM hPM (dM hDM) (ci := 6) (q0 := 0) rfl rfl) rfl rfl hl.1 rfl (lv_room (Nat.le_of_ble_eq_true rfl)) dL_law_672 ⟨Nat.le_refl _, Nat.le_refl _⟩) hS hAM hPX (dX hDX) (fun q h1 h2 => hdis q h2 h1) (fun H locs hPM hPX hS => ?_)
  refine lv_icmp_eq (tgt := 680) hx hb dL_law_675 (by decide) (fun c9 => ?_) (fun c9 => absurd rfl c9)
  exact hcont σ2 τ2 H locs ls hR2 hPX hPM hS hl
