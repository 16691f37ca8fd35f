/-! Arrays.fill over an int array -/
theorem vaP_set2 {D : va_G} {cl : List vw_C} {A : Nat → Prop} {p : Nat} {ws : va_W} {a : Nat} {e0 e : va_E} {H H1 : Heap} (h : va_P D cl ws H) (hD : va_D A ws) (hp : ws[p]? = some (a, e0)) (he : va_at D cl (a, e) H1) (oq : ∀ q : Nat, q < H.size → q ≠ a → H1[q]? = H[q]?) : va_P D cl (ws.set p (a, e)) H1 := by
  have hl := (List.getElem?_eq_some_iff.mp hp).1
  intro k q hk
  by_cases hkp : k = p
  · subst hkp
    rw [List.getElem?_set_self hl] at hk
    rw [← Option.some.inj hk]
    exact he
  · rw [List.getElem?_set_ne (fun z => hkp z.symm)] at hk
    refine (h k q hk).kept (oq q.1 (h k q hk).lt ?_)
    intro z
    exact hkp (hD.1 k p q (a, e0) hk hp z)
set_option maxHeartbeats 4000000 in
set_option maxRecDepth 100000 in
theorem fill_loop {p : Program} {l : Launch} {e : Env} {R : Room} {s : State} {m : MethodId} {args : Array Value} {below : List Frame} {meth : Method} {c : Code} {D : va_G} {cA : ClassId} {b n : Nat} {f : Nat → Int32} {v : Int32} {cw : Cond} (hn : n < 2 ^ 31) (C : Cx p s m args meth c cJ7_fill_53178 4 RJ7 cw none) (hK : Kx D [(cA, .int)] s) :
    ∀ (r i : Nat) (g : Nat → Int32) (H : Heap) (locs : List Loc) (ls : Array Slot), i + r = n → (∀ q, g q = if q < i then v else f q) → va_P D vwCl [(b, .inl (cA, n, .inl g))] H → va_D (fun q => q = b) [(b, .inl (cA, n, .inl g))] → va_S (fun q => q = b) s.heap H locs → lv_has ls 4 [(0, .ref b), (1, .int v), (2, .int (nI i)), (3, .int (nI n))] →
    W p l e R s m args below meth c H locs 0 0 (MQ below (va_Qv (S := Unit) (fun _ => True) (fun _ t => va_P D vwCl [(b, .inl (cA, n, .inl (fillF f n v)))] t.heap) (fun q => q = b)) args s 0 0 (fun q => q = b)) (F0 m 5 ls []) := by
  obtain ⟨hx, hb, hr, hml, hown, hts, hlocks⟩ := C
  intro r
  induction r with
  | zero =>
    intro i g H locs ls hi hg hP hD hS hl
    refine lv_iload_n hx hb dJ7_fill_53178_5 rfl (lv_at hl 2 rfl) ?_
    refine lv_iload_n hx hb dJ7_fill_53178_6 rfl (lv_at hl 3 rfl) ?_
    refine lv_icmp_ge (tgt := 20) hx hb dJ7_fill_53178_7 (by decide) (fun c7 => ?_) (fun c7 => absurd (nI_le (by omega) (by omega)) c7)
    have hgf : g = fillF f n v := by
      funext q
      rw [hg q]
      unfold fillF
      have : i = n := by omega
      rw [this]
    rw [hgf] at hP
    exact W.vret hx hb hr (fun t ht hW9 => ⟨⟨(), rfl, trivial, by show va_P _ _ _ t.heap; rw [ht]; exact hP⟩, hS.F ht⟩) hS.2.2 dJ7_fill_53178_20 hlocks
  | succ r ih =>
    intro i g H locs ls hi hg hP hD hS hl
    refine lv_iload_n hx hb dJ7_fill_53178_5 rfl (lv_at hl 2 rfl) ?_
    refine lv_iload_n hx hb dJ7_fill_53178_6 rfl (lv_at hl 3 rfl) ?_
    refine lv_icmp_ge (tgt := 20) hx hb dJ7_fill_53178_7 (by decide) (fun c7 => absurd c7 (nI_ge (by omega) hn)) (fun c7 => ?_)
    have hin : vp_in (nI i) n := vp_in_nI (by omega) hn
    refine lv_aload_n hx hb dJ7_fill_53178_10 rfl (lv_at hl 0 rfl) ?_
    refine lv_iload_n hx hb dJ7_fill_53178_11 rfl (lv_at hl 2 rfl) ?_
    refine lv_iload_n hx hb dJ7_fill_53178_12 rfl (lv_at hl 1 rfl) ?_
    refine va_iast (D := D) hx hb hK.1 hP hD hS 0 0 rfl rfl hin dJ7_fill_53178_13 (fun H locs hP hD hS => ?_)
    refine lv_iinc (v := nI (i + 1)) (lv' := [(2, .int (nI (i + 1))), (0, .ref b), (1, .int v), (3, .int (nI n))]) hx hb dJ7_fill_53178_14 hl (k := 2) rfl (nI_1 i) (by decide) rfl (fun ls hl => ?_)
    refine lv_goto (tgt := 5) hx hb dJ7_fill_53178_17 (by decide) ?_
    refine ih (i + 1) (upd g (nI i).toNatClampNeg v) H locs ls (by omega) ?_ hP hD hS (lv_sub hl [1, 2, 0, 3] rfl)
    intro q
    rw [nI_clamp (by omega)]
    unfold upd
    by_cases hq : q = i
    · rw [if_pos hq, if_pos (by omega)]
    · rw [if_neg hq, hg q]
      by_cases hq2 : q < i
      · rw [if_pos hq2, if_pos (by omega)]
      · rw [if_neg hq2, if_neg (by omega)]
set_option maxHeartbeats 4000000 in
set_option maxRecDepth 100000 in
theorem mFill (l : Launch) (D : va_G) (cA : ClassId) (b n : Nat) (f : Nat → Int32) (v : Int32) (hn : n < 2 ^ 31) : Met l yJ7_fill_53178 ((Cond.code yJ7_fill_53178 cJ7_fill_53178 4 none) :: WG) ({ frames := 0, cells := 0, slots := 0, locals := 0 } : Room) (Pw D [(cA, .int)] (fun q => q = b) [(b, .inl (cA, n, .inl f))] [.ref b, .int v]) (va_Qv (S := Unit) (fun _ => True) (fun _ t => va_P D vwCl [(b, .inl (cA, n, .inl (fillF f n v)))] t.heap) (fun q => q = b)) 0 0 (fun q => q = b) := by
  refine va_MetF (cc := cJ7_fill_53178) (maxL := 4) (ret := none) (by decide +kernel) rfl ?_
  intro p e s m args below meth c s₁ B hml0 hv
  have C : Cx p s m args meth c cJ7_fill_53178 4 RJ7 (Cond.code yJ7_fill_53178 cJ7_fill_53178 4 none) none := ⟨B.exec, B.bytes, B.returns, hml0, findClass_of_methodNamed B.named, atoms_spec (ws := (Cond.code yJ7_fill_53178 cJ7_fill_53178 4 none) :: WG) B.pre, B.notSynchronized⟩
  obtain ⟨rfl, hP, hK, hD⟩ := hv
  have hK : Kx D [(cA, .int)] s := hK
  have C0 := C
  obtain ⟨hx, hb, hr, hml, hown, hts, hlocks⟩ := C0
  have hl := lv_entry ([.ref b, .int v]) (n := 4) (Nat.le_of_ble_eq_true rfl)
  rw [lg_entry_eq]
  generalize (lg_sl ([.ref b, .int v]) ++ List.replicate (4 - (lg_sl ([.ref b, .int v])).length) Slot.unset).toArray = ls at hl ⊢
  have hl : lv_has ls 4 [(0, .ref b), (1, .int v)] := hl
  refine lv_iconst (v := 0) hx hb dJ7_fill_53178_0 (by decide) ?_
  refine lv_istore_n (lv' := [(2, .int 0), (0, .ref b), (1, .int v)]) hx hb dJ7_fill_53178_1 rfl hl (by decide) rfl (fun ls hl => ?_)
  refine lv_aload_n hx hb dJ7_fill_53178_2 rfl (lv_at hl 1 rfl) ?_
  refine va_alen (D := D) hx hb hK.1 hP 0 0 rfl rfl (v := nI n) rfl dJ7_fill_53178_3 ?_
  refine lv_istore_n (lv' := [(3, .int (nI n)), (2, .int 0), (0, .ref b), (1, .int v)]) hx hb dJ7_fill_53178_4 rfl hl (by decide) rfl (fun ls hl => ?_)
  exact fill_loop hn C hK n 0 f s.heap [] ls (by omega) (fun q => by rw [if_neg (by omega)]) hP hD va_S.rf (lv_sub hl [2, 3, 1, 0] rfl)
theorem hdFill : yJ7_fill_53178.cls ≠ "java/lang/invoke/MethodHandle" ∧ yJ7_fill_53178.cls ≠ "java/lang/invoke/VarHandle" ∧ (parseMethodDescriptor yJ7_fill_53178.desc).map (fun d => d.parameters.length) = some 2 := by decide +kernel
set_option maxHeartbeats 4000000 in
set_option maxRecDepth 100000 in
theorem fill_X {p : Program} {l : Launch} {e : Env} {R : Room} {s : State} {m : MethodId} {args : Array Value} {below : List Frame} {meth : Method} {c : Code} {H : Heap} {locs : List Loc} {Q : State → Prop} {pc index nL : Nat} {ls : Array Slot} {rest : List Value} {D : va_G} {a : Nat → Nat} {k : Nat → ClassId} {σ : ST} {cc : ByteArray} {own : String} {cw : Cond} {j n q : Nat} {v : Int32}
    (hx : p.tables.exec = Jvm.exec) (hb : c.code = cc) (hml : c.maxLocals = nL) (hown : s.vm.findClass own = some m.cls) (hts : ∀ w ∈ cw :: WG, w.before args s = true) (hlk : (Cond.methodLink own index yJ7_fill_53178).before args s = true) (hst : (Cond.static yJ7_fill_53178).before args s = true) (hini : (Cond.initialized RJ7).before args s = true) (hcd : (Cond.code yJ7_fill_53178 cJ7_fill_53178 4 none) ∈ WG)
    (hK : Kx D (tX k) s) (hP : va_P D vwCl (wX a k σ) H) (hD : va_D (AX a) (wX a k σ)) (hS : va_S (AX a) s.heap H locs)
    (e1 : (wX a k σ)[q]? = some (a q, .inl (k j, n, .inl (σ.2 j)))) (e2 : (tX k)[j]? = some (k j, .int)) (e3 : (wX a k σ).set q (a q, .inl (k j, n, .inl (fillF (σ.2 j) n v))) = wX a k (fillA σ j n v)) (hR1 : Nat.ble 1 R.frames = true) (hR2 : Nat.ble 23 R.locals = true) (hn : Nat.ble (n + 1) 2147483648 = true)
    (hsz : ls.size = nL) (hrm : 2 * (F0 m pc ls (.int v :: .ref (a q) :: rest)).monitorRoom + (rest.map fun v => v.category).sum ≤ 8) (hdg : decode cc pc = .ok (.invokestatic index, 3))
    (kk : ∀ (H1 : Heap) (locs1 : List Loc), va_P D vwCl (wX a k (fillA σ j n v)) H1 → va_S (AX a) s.heap H1 locs1 → W p l e R s m args below meth c H1 locs1 0 0 Q (F0 m (pc + 3) ls rest)) : W p l e R s m args below meth c H locs 0 0 Q (F0 m pc ls (.int v :: .ref (a q) :: rest)) := by
  have hPc : va_P D vwCl [(a q, .inl (k j, n, .inl (σ.2 j)))] H := by
    intro i w hw
    match i, hw with
    | 0, hw => cases hw; exact hP q _ e1
    | i + 1, hw => simp at hw
  have hDc : va_D (fun z => z = a q) [(a q, .inl (k j, n, .inl (σ.2 j)))] := by
    refine ⟨fun i i' w w' h1 h2 _ => ?_, fun i w hw => ?_⟩
    · have z1 := (List.getElem?_eq_some_iff.mp h1).1
      have z2 := (List.getElem?_eq_some_iff.mp h2).1
      simp at z1 z2
      omega
    · match i, hw with
      | 0, hw => cases hw; rfl
      | i + 1, hw => simp at hw
  have hKc : Kx D [(k j, .int)] s := by
    refine ⟨⟨hK.1.1, fun i w hw => ?_⟩, hK.2⟩
    match i, hw with
    | 0, hw => cases hw; exact hK.1.2 j _ e2
    | i + 1, hw => simp at hw
  have hAq : AX a (a q) := hD.2 q _ e1
  refine va_callv (va_runS (As := [.ref (a q), .int v]) (rest := rest) ⟨hx, hb, hml, hown, hts⟩ (mFill l D (k j) (a q) n (σ.2 j) v (Nat.le_of_ble_eq_true hn)) ⟨callB_of 2 hts (wg_c hcd) rfl rfl rfl hini hlk hdFill ⟨Nat.le_of_ble_eq_true hR1, Nat.le_of_ble_eq_true hR2⟩, hst⟩ (pw_S hKc hPc hDc) rfl rfl hsz rfl hrm hdg ⟨Nat.zero_le _, Nat.zero_le _⟩) hS (fun z _ h => by rw [h]; exact hAq) (fun z h => by rw [h]; exact hAq) (fun u t H1 locs1 ht _ _ hB _ hk hs => ?_)
  refine kk H1 locs1 ?_ hs
  rw [← e3]
  refine vaP_set2 hP hD e1 ?_ hk
  rw [ht] at hB
  exact hB 0 _ rfl
