/-! ===== the base of this claim: words, states, pure words for what the machine does ===== -/
/-- the words of the tables that are good at every state behind -/
def WG : List Cond := lw_tbl.filter goodWord
theorem wg_of {w : Cond} (i : Nat) (h : lw_tbl[i]? = some w) (hg : goodWord w = true) : w ∈ WG := List.mem_filter.mpr ⟨List.mem_of_getElem? h, hg⟩
theorem wg_s {w : Cond} (i : Nat) (h : (k2_sels lw_privs)[i]? = some w) (hg : goodWord w = true) : w ∈ WG := List.mem_filter.mpr ⟨List.mem_append_left _ (List.mem_of_getElem? h), hg⟩
theorem wt_1 {w : Cond} (i : Nat) (h : tables_1_1[i]? = some w) : w ∈ lw_tbl := List.mem_append_right _ (List.mem_append_left _ (List.mem_of_getElem? h))
theorem wt_2 {w : Cond} (i : Nat) (h : tables_1_2[i]? = some w) : w ∈ lw_tbl := List.mem_append_right _ (List.mem_append_right _ (List.mem_append_left _ (List.mem_of_getElem? h)))
theorem wt_3 {w : Cond} (i : Nat) (h : tables_1_3[i]? = some w) : w ∈ lw_tbl := List.mem_append_right _ (List.mem_append_right _ (List.mem_append_right _ (List.mem_of_getElem? h)))
theorem wg_1 {w : Cond} (i : Nat) (h : tables_1_1[i]? = some w) (hg : goodWord w = true) : w ∈ WG := List.mem_filter.mpr ⟨wt_1 i h, hg⟩
theorem wg_2 {w : Cond} (i : Nat) (h : tables_1_2[i]? = some w) (hg : goodWord w = true) : w ∈ WG := List.mem_filter.mpr ⟨wt_2 i h, hg⟩
theorem wg_3 {w : Cond} (i : Nat) (h : tables_1_3[i]? = some w) (hg : goodWord w = true) : w ∈ WG := List.mem_filter.mpr ⟨wt_3 i h, hg⟩
theorem wg_tbl : GoodIn lw_tbl WG := fun w h => ⟨(List.mem_filter.mp h).1, good_of_word (List.mem_filter.mp h).2⟩
theorem wg_all {big : List Cond} {c : Cond} (hc : c ∈ WG) (hb : ∀ w ∈ WG, w ∈ big) : GoodIn big (c :: WG) := by
  intro w hw
  rcases List.mem_cons.mp hw with rfl | h
  · exact ⟨hb _ hc, good_of_word (List.mem_filter.mp hc).2⟩
  · exact ⟨hb _ h, good_of_word (List.mem_filter.mp h).2⟩
theorem wg_c {c c' : Cond} (hc : c ∈ WG) : GoodIn (c' :: WG) (c :: WG) := wg_all hc (fun _ h => List.mem_cons_of_mem _ h)
theorem wg_l {c : Cond} (hc : c ∈ WG) : GoodIn lw_tbl (c :: WG) := wg_all hc (fun _ h => (List.mem_filter.mp h).1)
theorem wg_sub {ws : List Cond} (h1 : ∀ w ∈ ws, w ∈ lw_tbl) (h2 : ws.all goodWord = true) : ∀ w ∈ ws, w ∈ WG := fun w h => List.mem_filter.mpr ⟨h1 w h, List.all_eq_true.mp h2 w h⟩
def isNw : Cond → Bool
  | .fieldLinkNest _ _ _ _ _ _ => true
  | .methodLinkNest _ _ _ _ => true
  | _ => false
def NWL : List Cond := lw_tbl.filter isNw
theorem nw_of {w : Cond} (i : Nat) (h : lw_tbl[i]? = some w) (hg : isNw w = true) : w ∈ NWL := List.mem_filter.mpr ⟨List.mem_of_getElem? h, hg⟩
theorem nw_1 {w : Cond} (i : Nat) (h : tables_1_1[i]? = some w) (hg : isNw w = true) : w ∈ NWL := List.mem_filter.mpr ⟨wt_1 i h, hg⟩
theorem nw_2 {w : Cond} (i : Nat) (h : tables_1_2[i]? = some w) (hg : isNw w = true) : w ∈ NWL := List.mem_filter.mpr ⟨wt_2 i h, hg⟩
theorem nw_3 {w : Cond} (i : Nat) (h : tables_1_3[i]? = some w) (hg : isNw w = true) : w ∈ NWL := List.mem_filter.mpr ⟨wt_3 i h, hg⟩
def NWs (U : State) : Prop := ∀ w ∈ NWL, va_Nw w U
theorem nw_warm1 {w : Cond} (hw : isNw w = true) {s U : State} (hW : s.WarmedH U.vm) (h : va_Nw w s) : va_Nw w U := by
  cases w <;> first | exact va_Nw.warmF hW h | exact va_Nw.warmM hW h | (exact absurd hw (by simp [isNw]))
theorem nw_same1 {w : Cond} (hw : isNw w = true) {s U : State} (hW : s.vm = U.vm) (h : va_Nw w s) : va_Nw w U := by
  cases w <;> first | exact va_Nw.same rfl hW h | (exact absurd hw (by simp [isNw]))
theorem nw_use {w : Cond} (hw : isNw w = true) {A : Array Value} {U : State} (h : va_Nw w U) : w.before A U = true := by
  cases w <;> first | exact va_Nw.use rfl h | (exact absurd hw (by simp [isNw]))
theorem nw_of1 {w : Cond} (hw : isNw w = true) {A : Array Value} {U : State} (h : w.before A U = true) : va_Nw w U := by
  cases w <;> first | exact va_Nw.of rfl h | (exact absurd hw (by simp [isNw]))
theorem NWs.warm {s U : State} (hW : s.WarmedH U.vm) (h : NWs s) : NWs U := fun w hw => nw_warm1 (List.mem_filter.mp hw).2 hW (h w hw)
theorem NWs.same {s U : State} (hW : s.vm = U.vm) (h : NWs s) : NWs U := fun w hw => nw_same1 (List.mem_filter.mp hw).2 hW (h w hw)
theorem NWs.fld {s : State} (h : NWs s) {a : String} {i : Nat} {b n d g : String} {A : Array Value} (hw : (Cond.fieldLinkNest a i b n d g) ∈ NWL) : (Cond.fieldLinkNest a i b n d g).before A s = true := va_Nw.use rfl (h _ hw)
theorem NWs.start {args : Array Value} {s : State} (h : ∀ w ∈ lw_tbl, w.before args s = true) : NWs s := fun w hw => nw_of1 (List.mem_filter.mp hw).2 (h w (List.mem_filter.mp hw).1)
-- states: whole numbers by their place, arrays by their place
abbrev ST : Type := (Nat → Int32) × (Nat → Nat → Int32)
def setF (σ : ST) (j : Nat) (v : Int32) : ST := (fun i => cond (Nat.beq i j) v (σ.1 i), σ.2)
def setA (σ : ST) (j i : Nat) (v : Int32) : ST := (σ.1, fun q => cond (Nat.beq q j) (upd (σ.2 j) i v) (σ.2 q))
def fillF (f : Nat → Int32) (n : Nat) (v : Int32) : Nat → Int32 := fun i => if i < n then v else f i
def fillA (σ : ST) (j n : Nat) (v : Int32) : ST := (σ.1, fun q => cond (Nat.beq q j) (fillF (σ.2 j) n v) (σ.2 q))
def FUEL : Nat := 60000
def nm {α β : Type} (x : α) (k : α → β) : β := k x
def ix {α : Type} (i : Int32) (n : Nat) (k : Option α) : Option α := if (i < 0 ∨ n ≤ i.toNatClampNeg) then none else k
def zb {α : Type} (v : Int32) (k : Option α) : Option α := if v = 0 ∨ v = 1 then k else none
def ushr32 (x y : Int32) : Int32 := (x.toUInt32 >>> (y.toUInt32 &&& Int32.toUInt32 31)).toInt32
def mx32 (x y : Int32) : Int32 := if x < y then y else x
theorem nm_o {α β : Type} {x y : α} {k : α → Option β} {o : β} (h : nm x k = some o) (e : y = x) : k y = some o := by rw [e]; exact h
theorem ix_o {α : Type} {i : Int32} {n : Nat} {k : Option α} {o : α} (h : ix i n k = some o) : vp_in i n ∧ k = some o := by
  unfold ix at h
  by_cases c : (i < 0 ∨ n ≤ i.toNatClampNeg)
  · rw [if_pos c] at h; cases h
  · rw [if_neg c] at h; exact ⟨c, h⟩
theorem zb_o {α : Type} {v : Int32} {k : Option α} {o : α} (h : zb v k = some o) : narrow .boolean (.int v) = .int v ∧ k = some o := by
  unfold zb at h
  by_cases c : v = 0 ∨ v = 1
  · rw [if_pos c] at h
    refine ⟨?_, h⟩
    rcases c with rfl | rfl <;> rfl
  · rw [if_neg c] at h; cases h
theorem ite_t {α : Type} {c : Prop} [Decidable c] {A B : Option α} {o : α} (h : (if c then A else B) = some o) (hc : c) : A = some o := by rw [if_pos hc] at h; exact h
theorem ite_f {α : Type} {c : Prop} [Decidable c] {A B : Option α} {o : α} (h : (if c then A else B) = some o) (hc : ¬ c) : B = some o := by rw [if_neg hc] at h; exact h
theorem bd_o {α β : Type} {x : Option α} {k : α → Option β} {o : β} (h : x.bind k = some o) : ∃ r, x = some r ∧ k r = some o := by
  cases x with
  | none => cases h
  | some r => exact ⟨r, rfl, h⟩
theorem va_D_congr {A : Nat → Prop} {ws ws' : va_W} (h : ws.map Prod.fst = ws'.map Prod.fst) (hD : va_D A ws) : va_D A ws' := by
  have key : ∀ (i : Nat) (p : Nat × va_E), ws'[i]? = some p → ∃ p', ws[i]? = some p' ∧ p'.1 = p.1 := by
    intro i p hp
    have h1 : (ws'.map Prod.fst)[i]? = some p.1 := by rw [List.getElem?_map, hp]; rfl
    rw [← h, List.getElem?_map] at h1
    cases hq : ws[i]? with
    | none => rw [hq] at h1; cases h1
    | some p' => rw [hq] at h1; exact ⟨p', rfl, Option.some.inj h1⟩
  refine ⟨fun i j p q hi hj e => ?_, fun k q hk => ?_⟩
  · obtain ⟨p', a1, a2⟩ := key i p hi
    obtain ⟨q', b1, b2⟩ := key j q hj
    exact hD.1 i j p' q' a1 b1 (by rw [a2, b2, e])
  · obtain ⟨q', b1, b2⟩ := key k q hk
    rw [← b2]
    exact hD.2 k q' b1
/-- what a method's walk stands on -/
def Cx (p : Program) (s : State) (m : MethodId) (args : Array Value) (meth : Method) (c : Code) (cc : ByteArray) (nL : Nat) (own : String) (cw : Cond) (ret : Option FieldType) : Prop :=
  p.tables.exec = Jvm.exec ∧ c.code = cc ∧ meth.sig.returnType = ret ∧ c.maxLocals = nL ∧ s.vm.findClass own = some m.cls ∧ (∀ w ∈ cw :: WG, w.before args s = true) ∧ meth.locks = false
section BaseCalls
variable {p : Program} {l : Launch} {e : Env} {R : Room} {s : State} {m : MethodId} {args : Array Value} {below : List Frame} {meth : Method} {c : Code} {H H0 : Heap} {locs : List Loc} {cells slots : Nat} {Q : State → Prop}
variable {pc : Nat} {ls : Array Slot} {rest st0 : List Value} {a : Array Value} {D : va_G} {cl : List vw_C} {w' : va_W} {A : Nat → Prop}
theorem callRI {r : Int32} (hr : va_Run p l e R s m args below meth c H locs cells slots 0 0 (F0 m pc ls st0) rest (vp_Si (fun z => z = r) a) (fun _ => False))
    (kk : W p l e R s m args below meth c H locs cells slots Q (F0 m (pc + 3) ls (.int r :: rest))) : W p l e R s m args below meth c H locs cells slots Q (F0 m pc ls st0) :=
  vp_callSi hr.run (fun z hz => by rw [hz]; exact kk)
theorem callWI {r : Int32} (hr : va_Run p l e R s m args below meth c H locs cells slots 0 0 (F0 m pc ls st0) rest (va_Qi (S := Unit) (fun z _ => z = r) (fun _ t => va_P D cl w' t.heap) A a) A) (hS : va_S A H0 H locs)
    (kk : ∀ (H1 : Heap) (locs1 : List Loc), va_P D cl w' H1 → va_S A H0 H1 locs1 → W p l e R s m args below meth c H1 locs1 cells slots Q (F0 m (pc + 3) ls (.int r :: rest))) : W p l e R s m args below meth c H locs cells slots Q (F0 m pc ls st0) :=
  va_calli hr hS (fun _ _ h => h) (fun _ h => h) (fun r' u t H1 locs1 ht _ hp hb _ _ hs => by rw [hp]; exact kk H1 locs1 (ht ▸ hb) hs)
theorem callWV (hr : va_Run p l e R s m args below meth c H locs cells slots 0 0 (F0 m pc ls st0) rest (va_Qv (S := Unit) (fun _ => True) (fun _ t => va_P D cl w' t.heap) A a) A) (hS : va_S A H0 H locs)
    (kk : ∀ (H1 : Heap) (locs1 : List Loc), va_P D cl w' H1 → va_S A H0 H1 locs1 → W p l e R s m args below meth c H1 locs1 cells slots Q (F0 m (pc + 3) ls rest)) : W p l e R s m args below meth c H locs cells slots Q (F0 m pc ls st0) :=
  va_callv hr hS (fun _ _ h => h) (fun _ h => h) (fun u t H1 locs1 ht _ hp hb _ _ hs => kk H1 locs1 (ht ▸ hb) hs)
end BaseCalls
def Pw (D : va_G) (tys : List (ClassId × FieldType)) (A : Nat → Prop) (ws : va_W) (av : List Value) : Array Value → State → Prop := va_Pc av (fun U => va_P D vwCl ws U.heap ∧ (va_K D vwCl tys U ∧ NWs U) ∧ va_D A ws)
def Kx (D : va_G) (tys : List (ClassId × FieldType)) (U : State) : Prop := va_K D vwCl tys U ∧ NWs U
theorem pw_blind {D : va_G} {tys : List (ClassId × FieldType)} {A : Nat → Prop} {ws : va_W} {av : List Value} : FrameBlind (Pw D tys A ws av) := by
  intro a U g mk q
  obtain ⟨q0, qP, ⟨qK, qN⟩, qD⟩ := q
  exact ⟨q0, qP, ⟨va_K.moved (u := U) (U := U.calling g mk a) (Vm.Alike.refl U.vm) qK, NWs.same (s := U) (U := U.calling g mk a) rfl qN⟩, qD⟩
theorem pw_S {D : va_G} {tys : List (ClassId × FieldType)} {A : Nat → Prop} {ws : va_W} {As : List Value} {s : State} {H : Heap} (hK : Kx D tys s) (hP : va_P D vwCl ws H) (hD : va_D A ws) : PreS s H (Pw D tys A ws As) As :=
  ⟨pw_blind, fun U hU hW => ⟨rfl, by rw [hU]; exact hP, ⟨va_K.moved hW.alike hK.1, hK.2.warm hW⟩, hD⟩⟩
theorem pw_V {D : va_G} {tys : List (ClassId × FieldType)} {A : Nat → Prop} {ws : va_W} {As : List Value} {s : State} {H : Heap} {b q0 ci : Nat} {q : vw_C} {fs : List Value} (hK : Kx D tys s) (hP : va_P D vwCl ws H) (hD : va_D A ws) (hc : vwCl[ci]? = some q) (he : ws[q0]? = some (b, .inr (ci, fs))) : PreV s H q.1 b (Pw D tys A ws (.ref b :: As)) As :=
  ⟨pw_blind, va_recv hK.1 hP hc he, fun U hU hW => ⟨rfl, by rw [hU]; exact hP, ⟨va_K.moved hW.alike hK.1, hK.2.warm hW⟩, hD⟩⟩
theorem inX0G : ∀ w ∈ u_ws RX0 TX0 2, w ∈ WG := by
  intro w hw
  obtain ⟨k, hk, rfl⟩ := List.mem_map.mp hw
  have hk := List.mem_range.mp hk
  match k, hk with
  | 0, _ => exact wg_1 87 rfl rfl
  | 1, _ => exact wg_1 89 rfl rfl
  | k + 2, h => exact absurd h (by omega)
theorem inX1G : ∀ w ∈ u_ws RX1 TX1 14, w ∈ WG := by
  intro w hw
  obtain ⟨k, hk, rfl⟩ := List.mem_map.mp hw
  have hk := List.mem_range.mp hk
  match k, hk with
  | 0, _ => exact wg_1 120 rfl rfl
  | 1, _ => exact wg_1 122 rfl rfl
  | 2, _ => exact wg_1 124 rfl rfl
  | 3, _ => exact wg_1 126 rfl rfl
  | 4, _ => exact wg_1 128 rfl rfl
  | 5, _ => exact wg_1 130 rfl rfl
  | 6, _ => exact wg_1 132 rfl rfl
  | 7, _ => exact wg_1 134 rfl rfl
  | 8, _ => exact wg_1 136 rfl rfl
  | 9, _ => exact wg_1 138 rfl rfl
  | 10, _ => exact wg_1 140 rfl rfl
  | 11, _ => exact wg_1 142 rfl rfl
  | 12, _ => exact wg_1 144 rfl rfl
  | 13, _ => exact wg_1 146 rfl rfl
  | k + 14, h => exact absurd h (by omega)
theorem inX2G : ∀ w ∈ u_ws RX2 TX2 6, w ∈ WG := by
  intro w hw
  obtain ⟨k, hk, rfl⟩ := List.mem_map.mp hw
  have hk := List.mem_range.mp hk
  match k, hk with
  | 0, _ => exact wg_1 66 rfl rfl
  | 1, _ => exact wg_1 68 rfl rfl
  | 2, _ => exact wg_1 70 rfl rfl
  | 3, _ => exact wg_1 72 rfl rfl
  | 4, _ => exact wg_1 74 rfl rfl
  | 5, _ => exact wg_1 76 rfl rfl
  | k + 6, h => exact absurd h (by omega)
theorem inX3G : ∀ w ∈ u_ws RX3 TX3 4, w ∈ WG := by
  intro w hw
  obtain ⟨k, hk, rfl⟩ := List.mem_map.mp hw
  have hk := List.mem_range.mp hk
  match k, hk with
  | 0, _ => exact wg_1 30 rfl rfl
  | 1, _ => exact wg_1 32 rfl rfl
  | 2, _ => exact wg_1 34 rfl rfl
  | 3, _ => exact wg_1 36 rfl rfl
  | k + 4, h => exact absurd h (by omega)
theorem inX4G : ∀ w ∈ u_ws RX4 TX4 7, w ∈ WG := by
  intro w hw
  obtain ⟨k, hk, rfl⟩ := List.mem_map.mp hw
  have hk := List.mem_range.mp hk
  match k, hk with
  | 0, _ => exact wg_1 168 rfl rfl
  | 1, _ => exact wg_1 170 rfl rfl
  | 2, _ => exact wg_1 172 rfl rfl
  | 3, _ => exact wg_1 174 rfl rfl
  | 4, _ => exact wg_1 176 rfl rfl
  | 5, _ => exact wg_1 178 rfl rfl
  | 6, _ => exact wg_1 180 rfl rfl
  | k + 7, h => exact absurd h (by omega)
theorem inX5G : ∀ w ∈ u_ws RX5 TX5 6, w ∈ WG := by
  intro w hw
  obtain ⟨k, hk, rfl⟩ := List.mem_map.mp hw
  have hk := List.mem_range.mp hk
  match k, hk with
  | 0, _ => exact wg_1 189 rfl rfl
  | 1, _ => exact wg_1 191 rfl rfl
  | 2, _ => exact wg_1 193 rfl rfl
  | 3, _ => exact wg_1 195 rfl rfl
  | 4, _ => exact wg_1 197 rfl rfl
  | 5, _ => exact wg_1 199 rfl rfl
  | k + 6, h => exact absurd h (by omega)
theorem inX6G : ∀ w ∈ u_ws RX6 TX6 22, w ∈ WG := by
  intro w hw
  obtain ⟨k, hk, rfl⟩ := List.mem_map.mp hw
  have hk := List.mem_range.mp hk
  match k, hk with
  | 0, _ => exact wg_3 11 rfl rfl
  | 1, _ => exact wg_3 13 rfl rfl
  | 2, _ => exact wg_3 15 rfl rfl
  | 3, _ => exact wg_3 17 rfl rfl
  | 4, _ => exact wg_3 19 rfl rfl
  | 5, _ => exact wg_3 21 rfl rfl
  | 6, _ => exact wg_3 23 rfl rfl
  | 7, _ => exact wg_3 25 rfl rfl
  | 8, _ => exact wg_3 27 rfl rfl
  | 9, _ => exact wg_3 29 rfl rfl
  | 10, _ => exact wg_3 31 rfl rfl
  | 11, _ => exact wg_3 33 rfl rfl
  | 12, _ => exact wg_3 35 rfl rfl
  | 13, _ => exact wg_3 37 rfl rfl
  | 14, _ => exact wg_3 39 rfl rfl
  | 15, _ => exact wg_3 41 rfl rfl
  | 16, _ => exact wg_3 43 rfl rfl
  | 17, _ => exact wg_3 45 rfl rfl
  | 18, _ => exact wg_3 47 rfl rfl
  | 19, _ => exact wg_3 49 rfl rfl
  | 20, _ => exact wg_3 51 rfl rfl
  | 21, _ => exact wg_3 53 rfl rfl
  | k + 22, h => exact absurd h (by omega)
-- ints: 0 ResourceEnds.allFound, 1 Things.size, 2 Steps.size, 3 Search.reached, 4 Search.findings, 5 Search.mostOpen, 6 Search.mostEntered, 7 Search.mostHeld, 8 Trial.wasDriven, 9 Trial.done, 10 Trial.chosen, 11 Trial.node, 12 Trial.thingsThen, 13 Trial.drawn
-- arrays: 0 Things.sorts[5], 1 Things.letsAgain[5], 2 Things.inners[5], 3 Steps.codes[40], 4 Steps.ts[40], 5 Steps.ss[40], 6 Steps.mayThrow[40], 7 Steps.handlers[40], 8 Search.order[43008], 9 Search.before[43008], 10 Search.nodesAt[42], 11 Search.statesAt[210], 12 Search.lengths[25], 13 Search.lastNodes[25], 14 Trial.places[100]
def wX (a : Nat → Nat) (k : Nat → ClassId) (σ : ST) : va_W := [(a 0, .inr (5, [.ref (a 1), .ref (a 2), .ref (a 3), .ref (a 4), .ref (a 5), .int (σ.1 0)])),
  (a 1, .inr (3, [.ref (a 6), .ref (a 7), .ref (a 8), .int (σ.1 1)])),
  (a 2, .inr (2, [.ref (a 9), .ref (a 10), .ref (a 11), .ref (a 12), .ref (a 13), .int (σ.1 2)])),
  (a 3, .inr (0, [.ref (a 1), .ref (a 2)])),
  (a 4, .inr (1, [.ref (a 1), .ref (a 2), .ref (a 3), .ref (a 14), .ref (a 15), .ref (a 16), .ref (a 17), .ref (a 18), .ref (a 19), .int (σ.1 3), .int (σ.1 4), .int (σ.1 5), .int (σ.1 6), .int (σ.1 7)])),
  (a 5, .inr (4, [.ref (a 20), .int (σ.1 8), .int (σ.1 9), .int (σ.1 10), .int (σ.1 11), .int (σ.1 12), .int (σ.1 13)])),
  (a 6, .inl (k 0, 5, .inl (σ.2 0))),
  (a 7, .inl (k 1, 5, .inl (σ.2 1))),
  (a 8, .inl (k 2, 5, .inl (σ.2 2))),
  (a 9, .inl (k 3, 40, .inl (σ.2 3))),
  (a 10, .inl (k 4, 40, .inl (σ.2 4))),
  (a 11, .inl (k 5, 40, .inl (σ.2 5))),
  (a 12, .inl (k 6, 40, .inl (σ.2 6))),
  (a 13, .inl (k 7, 40, .inl (σ.2 7))),
  (a 14, .inl (k 8, 43008, .inl (σ.2 8))),
  (a 15, .inl (k 9, 43008, .inl (σ.2 9))),
  (a 16, .inl (k 10, 42, .inl (σ.2 10))),
  (a 17, .inl (k 11, 210, .inl (σ.2 11))),
  (a 18, .inl (k 12, 25, .inl (σ.2 12))),
  (a 19, .inl (k 13, 25, .inl (σ.2 13))),
  (a 20, .inl (k 14, 100, .inl (σ.2 14)))]
def tX (k : Nat → ClassId) : List (ClassId × FieldType) := [(k 0, .int), (k 1, .boolean), (k 2, .int), (k 3, .int), (k 4, .int), (k 5, .int), (k 6, .boolean), (k 7, .int), (k 8, .int), (k 9, .int), (k 10, .int), (k 11, .int), (k 12, .int), (k 13, .int), (k 14, .int)]
def AX (a : Nat → Nat) : Nat → Prop := fun q => ∃ j, j < 21 ∧ q = a j
theorem dX {A : Nat → Prop} {a : Nat → Nat} {k : Nat → ClassId} {σ σ2 : ST} (h : va_D A (wX a k σ)) : va_D A (wX a k σ2) := va_D_congr (ws := wX a k σ) (ws' := wX a k σ2) rfl h
-- ints: 0 ResourceEndsModel.things, 1 ResourceEndsModel.steps, 2 ResourceEndsModel.isFound, 3 ResourceEndsModel.queued, 4 ResourceEndsModel.wasRun, 5 ResourceEndsModel.ranMany, 6 ResourceEndsModel.came, 7 ResourceEndsModel.chose, 8 ResourceEndsModel.cameThings
-- arrays: 0 ResourceEndsModel.sorts[5], 1 ResourceEndsModel.lets[5], 2 ResourceEndsModel.inners[5], 3 ResourceEndsModel.codes[40], 4 ResourceEndsModel.of[40], 5 ResourceEndsModel.to[40], 6 ResourceEndsModel.may[40], 7 ResourceEndsModel.handlers[40], 8 ResourceEndsModel.queue[43008], 9 ResourceEndsModel.from[43008], 10 ResourceEndsModel.seen[43008], 11 ResourceEndsModel.finding[25], 12 ResourceEndsModel.row[100]
def wM (a : Nat → Nat) (k : Nat → ClassId) (σ : ST) : va_W := [(a 0, .inr (6, [.int (σ.1 0), .ref (a 1), .ref (a 2), .ref (a 3), .int (σ.1 1), .ref (a 4), .ref (a 5), .ref (a 6), .ref (a 7), .ref (a 8), .int (σ.1 2), .ref (a 9), .int (σ.1 3), .ref (a 10), .ref (a 11), .ref (a 12), .int (σ.1 4), .int (σ.1 5), .ref (a 13), .int (σ.1 6), .int (σ.1 7), .int (σ.1 8)])),
  (a 1, .inl (k 0, 5, .inl (σ.2 0))),
  (a 2, .inl (k 1, 5, .inl (σ.2 1))),
  (a 3, .inl (k 2, 5, .inl (σ.2 2))),
  (a 4, .inl (k 3, 40, .inl (σ.2 3))),
  (a 5, .inl (k 4, 40, .inl (σ.2 4))),
  (a 6, .inl (k 5, 40, .inl (σ.2 5))),
  (a 7, .inl (k 6, 40, .inl (σ.2 6))),
  (a 8, .inl (k 7, 40, .inl (σ.2 7))),
  (a 9, .inl (k 8, 43008, .inl (σ.2 8))),
  (a 10, .inl (k 9, 43008, .inl (σ.2 9))),
  (a 11, .inl (k 10, 43008, .inl (σ.2 10))),
  (a 12, .inl (k 11, 25, .inl (σ.2 11))),
  (a 13, .inl (k 12, 100, .inl (σ.2 12)))]
def tM (k : Nat → ClassId) : List (ClassId × FieldType) := [(k 0, .int), (k 1, .boolean), (k 2, .int), (k 3, .int), (k 4, .int), (k 5, .int), (k 6, .int), (k 7, .int), (k 8, .int), (k 9, .int), (k 10, .boolean), (k 11, .int), (k 12, .int)]
def AM (a : Nat → Nat) : Nat → Prop := fun q => ∃ j, j < 14 ∧ q = a j
theorem dM {A : Nat → Prop} {a : Nat → Nat} {k : Nat → ClassId} {σ σ2 : ST} (h : va_D A (wM a k σ)) : va_D A (wM a k σ2) := va_D_congr (ws := wM a k σ) (ws' := wM a k σ2) rfl h
