set_option maxHeartbeats 4000000 in
set_option maxRecDepth 100000 in
theorem law_body {p : Program} {l : Launch} {e : Env} {s : State} {m : MethodId} {below : List Frame} {meth : Method} {c : Code} {bb L i : Nat} {xs : Nat → Int32} {D : va_G} {a b : Nat → Nat} {k k2 : Nat → ClassId} (hC : LC p s m meth c bb L xs D a b k k2) (hiL : i < 4000) (next : i + 7 ≤ L → ∀ (σ τ : ST) (H : Heap) (locs : List Loc) (ls : Array Slot), Rel σ τ → va_P D vwCl (wX a k σ) H → va_P D vwCl (wM b k2 τ) H → va_S (fun q => s.heap.size ≤ q) s.heap H locs → lv_has ls 4 [(0, .ref bb), (1, .ref (a 0)), (2, .ref (b 0)), (3, .int (nI (i + 7)))] → W p l e room_1 s m #[Value.ref bb] below meth c H locs 600000 7302250 (lw_Z below #[Value.ref bb] s) (F0 m 18 ls [])) : ∀ (σ τ : ST) (H : Heap) (locs : List Loc) (ls : Array Slot), Rel σ τ → va_P D vwCl (wX a k σ) H → va_P D vwCl (wM b k2 τ) H → va_S (fun q => s.heap.size ≤ q) s.heap H locs → lv_has ls 4 [(0, .ref bb), (1, .ref (a 0)), (2, .ref (b 0)), (3, .int (nI i))] → W p l e room_1 s m #[Value.ref bb] below meth c H locs 600000 7302250 (lw_Z below #[Value.ref bb] s) (F0 m 18 ls []) := by
  have hC' := hC
  obtain ⟨⟨hx, hb, hr, hml, hown, hts, hX, hbl, hlocks, hgv⟩, hL, hKX, hKM, hDX, hDM, hAX, hAM, hdis⟩ := hC
  have hbA : ¬ (fun q : Nat => s.heap.size ≤ q) bb := Nat.not_le.mpr hbl
  intro σ τ H locs ls hR hPX hPM hS hl
  refine lv_iload_n hx hb dL_law_18 rfl (lv_at hl 3 rfl) ?_
  refine lv_aload_n hx hb dL_law_19 rfl (lv_at hl 0 rfl) ?_
  refine va_slen hx hb hX hbl hbA hS dL_law_20 ?_
  refine lv_bipush (v := 7) hx hb dL_law_21 (by decide) ?_
  refine lv_isub hx hb dL_law_23 ?_
  have hcmp : (Int32.ofNat L - 7 < nI i) ↔ L < i + 7 := by
    rw [Int32.lt_iff_toInt_lt, show Int32.ofNat L - 7 = nI L - nI 7 from rfl, pk_sub_toInt (by omega) (by omega), nI_toInt (by omega)]
    omega
  refine lv_icmp_gt (tgt := 686) hx hb dL_law_24 (by decide) (fun c9 => ?_) (fun c9 => ?_)
  · refine lv_iconst (v := 1) hx hb dL_law_686 (by decide) ?_
    refine va_forget (fun q hq => hS.2.2 q hq) ?_
    exact lw_ret hx hb hr hlocks dL_law_687
  · have hi : i + 7 ≤ L := by
      apply Nat.le_of_not_lt
      intro z
      exact c9 (hcmp.mpr z)
    have hcont : ∀ (σ τ : ST) (H : Heap) (locs : List Loc) (ls : Array Slot), Rel σ τ → va_P D vwCl (wX a k σ) H → va_P D vwCl (wM b k2 τ) H → va_S (fun q => s.heap.size ≤ q) s.heap H locs → lv_has ls 4 [(0, .ref bb), (1, .ref (a 0)), (2, .ref (b 0)), (3, .int (nI i))] → W p l e room_1 s m #[Value.ref bb] below meth c H locs 600000 7302250 (lw_Z below #[Value.ref bb] s) (F0 m 680 ls []) := by
      intro σ τ H locs ls hR hPX hPM hS hl
      refine lv_iinc (v := nI (i + 7)) (lv' := [(3, .int (nI (i + 7))), (0, .ref bb), (1, .ref (a 0)), (2, .ref (b 0))]) hx hb dL_law_680 hl (k := 3) rfl (nI_add i 7) (by decide) rfl (fun ls hl => ?_)
      refine lv_goto (tgt := 18) hx hb dL_law_683 (by decide) ?_
      exact next hi σ τ H locs ls hR hPX hPM hS (lv_sub hl [1, 2, 3, 0] rfl)
    refine lv_aload_n hx hb dL_law_27 rfl (lv_at hl 0 rfl) ?_
    refine lv_iload_n hx hb dL_law_28 rfl (lv_at hl 3 rfl) ?_
    refine lawLd (j := i) hx hb hX hbl hbA hS (by omega) (by omega) rfl dL_law_29 ?_
    refine lv_bipush (v := 15) hx hb dL_law_30 (by decide) ?_
    refine lv_iand hx hb dL_law_32 ?_
    obtain ⟨j, hj, ej⟩ := pk_andE (xs i) (m := 15) 4 (by decide)
    rw [ej]
    have hj16 : j = 0 ∨ j = 1 ∨ j = 2 ∨ j = 3 ∨ j = 4 ∨ j = 5 ∨ j = 6 ∨ j = 7 ∨ j = 8 ∨ j = 9 ∨ j = 10 ∨ j = 11 ∨ j = 12 ∨ j = 13 ∨ j = 14 ∨ j = 15 := by omega
    rcases hj16 with rfl | rfl | rfl | rfl | rfl | rfl | rfl | rfl | rfl | rfl | rfl | rfl | rfl | rfl | rfl | rfl
    · exact lv_tableIn (tgt := 112) hx hb dL_law_33 (by decide) (by decide) rfl (by decide) (law_c0 hC' hi hcont σ τ H locs ls hR hPX hPM hS hl)
    · exact lv_tableIn (tgt := 171) hx hb dL_law_33 (by decide) (by decide) rfl (by decide) (law_c1 hC' hi hcont σ τ H locs ls hR hPX hPM hS hl)
    · exact lv_tableIn (tgt := 250) hx hb dL_law_33 (by decide) (by decide) rfl (by decide) (law_c2 hC' hi hcont σ τ H locs ls hR hPX hPM hS hl)
    · exact lv_tableIn (tgt := 341) hx hb dL_law_33 (by decide) (by decide) rfl (by decide) (law_c3 hC' hi hcont σ τ H locs ls hR hPX hPM hS hl)
    · exact lv_tableIn (tgt := 354) hx hb dL_law_33 (by decide) (by decide) rfl (by decide) (law_c4 hC' hi hcont σ τ H locs ls hR hPX hPM hS hl)
    · exact lv_tableIn (tgt := 387) hx hb dL_law_33 (by decide) (by decide) rfl (by decide) (law_c5 hC' hi hcont σ τ H locs ls hR hPX hPM hS hl)
    · exact lv_tableIn (tgt := 430) hx hb dL_law_33 (by decide) (by decide) rfl (by decide) (law_c6 hC' hi hcont σ τ H locs ls hR hPX hPM hS hl)
    · exact lv_tableIn (tgt := 453) hx hb dL_law_33 (by decide) (by decide) rfl (by decide) (law_c7 hC' hi hcont σ τ H locs ls hR hPX hPM hS hl)
    · exact lv_tableIn (tgt := 486) hx hb dL_law_33 (by decide) (by decide) rfl (by decide) (law_c8 hC' hi hcont σ τ H locs ls hR hPX hPM hS hl)
    · exact lv_tableIn (tgt := 509) hx hb dL_law_33 (by decide) (by decide) rfl (by decide) (law_c9 hC' hi hcont σ τ H locs ls hR hPX hPM hS hl)
    · exact lv_tableIn (tgt := 532) hx hb dL_law_33 (by decide) (by decide) rfl (by decide) (law_c10 hC' hi hcont σ τ H locs ls hR hPX hPM hS hl)
    · exact lv_tableIn (tgt := 565) hx hb dL_law_33 (by decide) (by decide) rfl (by decide) (law_c11 hC' hi hcont σ τ H locs ls hR hPX hPM hS hl)
    · exact lv_tableIn (tgt := 588) hx hb dL_law_33 (by decide) (by decide) rfl (by decide) (law_c12 hC' hi hcont σ τ H locs ls hR hPX hPM hS hl)
    · exact lv_tableIn (tgt := 611) hx hb dL_law_33 (by decide) (by decide) rfl (by decide) (law_c13 hC' hi hcont σ τ H locs ls hR hPX hPM hS hl)
    · exact lv_tableIn (tgt := 644) hx hb dL_law_33 (by decide) (by decide) rfl (by decide) (law_c14 hC' hi hcont σ τ H locs ls hR hPX hPM hS hl)
    · exact lv_tableIn (tgt := 667) hx hb dL_law_33 (by decide) (by decide) rfl (by decide) (law_c15 hC' hi hcont σ τ H locs ls hR hPX hPM hS hl)
theorem law_loop {p : Program} {l : Launch} {e : Env} {s : State} {m : MethodId} {below : List Frame} {meth : Method} {c : Code} {bb L : Nat} {xs : Nat → Int32} {D : va_G} {a b : Nat → Nat} {k k2 : Nat → ClassId} (hC : LC p s m meth c bb L xs D a b k k2) : ∀ (n i : Nat), L < i + 7 * n → i < 4000 → ∀ (σ τ : ST) (H : Heap) (locs : List Loc) (ls : Array Slot), Rel σ τ → va_P D vwCl (wX a k σ) H → va_P D vwCl (wM b k2 τ) H → va_S (fun q => s.heap.size ≤ q) s.heap H locs → lv_has ls 4 [(0, .ref bb), (1, .ref (a 0)), (2, .ref (b 0)), (3, .int (nI i))] → W p l e room_1 s m #[Value.ref bb] below meth c H locs 600000 7302250 (lw_Z below #[Value.ref bb] s) (F0 m 18 ls []) := by
  have hL := hC.2.1
  intro n
  induction n with
  | zero =>
    intro i h hi
    exact law_body hC hi (fun z => by omega)
  | succ n ih =>
    intro i h hi
    exact law_body hC hi (fun z => ih (i + 7) (by omega) (by omega))

