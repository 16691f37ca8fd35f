/-! ===== numbers: nodes, places, what a thing is ===== -/
def stN (v t : Nat) : Nat := v / 4 ^ t % 4
def wtN (v t s : Nat) : Nat := v - stN v t * 4 ^ t + s * 4 ^ t
theorem st_lt (v t : Nat) : stN v t < 4 := Nat.mod_lt _ (by omega)
theorem t_cases {t : Nat} (h : t < 5) : t = 0 ∨ t = 1 ∨ t = 2 ∨ t = 3 ∨ t = 4 := by omega
theorem st_mod {v t : Nat} (h : t < 5) : stN (v % 1024) t = stN v t := by
  rcases t_cases h with rfl | rfl | rfl | rfl | rfl <;> simp only [stN, Nat.reducePow] <;> omega
theorem st_le {v t : Nat} : stN v t * 4 ^ t ≤ v := by
  unfold stN
  have h1 := Nat.mod_le (v / 4 ^ t) 4
  have h2 := Nat.div_mul_le_self v (4 ^ t)
  exact Nat.le_trans (Nat.mul_le_mul_right _ h1) h2
theorem wt_mod {v t s : Nat} (h : t < 5) (hs : s < 4) : wtN v t s % 1024 = wtN (v % 1024) t s := by
  unfold wtN
  rw [st_mod h]
  rcases t_cases h with rfl | rfl | rfl | rfl | rfl <;> simp only [stN, Nat.reducePow] <;> omega
theorem wt_div {v t s : Nat} (h : t < 5) (hs : s < 4) : wtN v t s / 1024 = v / 1024 := by
  unfold wtN
  rcases t_cases h with rfl | rfl | rfl | rfl | rfl <;> simp only [stN, Nat.reducePow] <;> omega
theorem wt_lt {v t s : Nat} (h : t < 5) (hs : s < 4) (hv : v < 43008) : wtN v t s < 43008 := by
  have := wt_div (v := v) h hs
  omega
theorem i_sh10 : (((10 : Int32) &&& 31).toBitVec.smod 32).toNat = 10 := by decide
theorem i_sh2 {t : Nat} (h : t < 5) : ((((2 : Int32) * nI t) &&& 31).toBitVec.smod 32).toNat = 2 * t := by
  rcases t_cases h with rfl | rfl | rfl | rfl | rfl <;> decide
theorem i_place {v : Nat} (h : v < 2 ^ 31) : nI v >>> ((10 : Int32) &&& 31) = nI (v / 1024) := by
  rw [pk_shrN h _ 10 i_sh10]
theorem i_all {v : Nat} (h : v < 2 ^ 31) : nI v &&& 1023 = nI (v % 1024) := by
  rw [pk_andN (Nat.lt_trans h (by decide)) 10 (by decide)]
theorem i_st {v t : Nat} (h : v < 2 ^ 31) (ht : t < 5) : (nI v >>> (((2 : Int32) * nI t) &&& 31)) &&& 3 = nI (stN v t) := by
  rw [pk_shrN h _ _ (i_sh2 ht), pk_andN (Nat.lt_of_le_of_lt (Nat.div_le_self _ _) (Nat.lt_trans h (by decide))) 2 (by decide)]
  unfold stN
  rw [Nat.pow_mul]
theorem i_or (a b : Nat) : nI a ||| nI b = nI (a ||| b) := by
  apply Int32.toBitVec_inj.mp
  show BitVec.ofNat 32 a ||| BitVec.ofNat 32 b = BitVec.ofNat 32 (a ||| b)
  rw [BitVec.ofNat_or]
theorem i_node {p a : Nat} (hp : p < 1000) (ha : a < 1024) : (nI p <<< ((10 : Int32) &&& 31)) ||| nI a = nI (1024 * p + a) := by
  rw [pk_shlN _ 10 i_sh10 (by omega), i_or]
  have h := Nat.two_pow_add_eq_or_of_lt (i := 10) (b := a) ha p
  rw [Nat.mul_comm p, ← h]
theorem i_with0 : ∀ t : Fin 5, ∀ s : Fin 4, ∀ a : Fin 1024, (nI a.val &&& (((3 : Int32) <<< (((2 : Int32) * nI t.val) &&& 31)) ^^^ (-1))) ||| (nI s.val <<< (((2 : Int32) * nI t.val) &&& 31)) = nI (wtN a.val t.val s.val) := by decide +kernel
theorem i_with {a t s : Nat} (ha : a < 1024) (ht : t < 5) (hs : s < 4) : (nI a &&& (((3 : Int32) <<< (((2 : Int32) * nI t) &&& 31)) ^^^ (-1))) ||| (nI s <<< (((2 : Int32) * nI t) &&& 31)) = nI (wtN a t s) := i_with0 ⟨t, ht⟩ ⟨s, hs⟩ ⟨a, ha⟩
theorem i_1024 : (1024 : Int32) = nI 1024 := by decide
theorem i_div {v : Nat} (h : v < 2 ^ 31) : nI v / 1024 = nI (v / 1024) := by
  rw [i_1024, pk_div h (by omega) (by omega)]
theorem i_rem {v : Nat} (h : v < 2 ^ 31) : nI v - nI v / 1024 * 1024 = nI (v % 1024) := by
  rw [i_1024, pk_rem h (by omega) (by omega)]
theorem i_at {p v : Nat} (h : v < 2 ^ 31) : (1024 * nI p) + (nI v - nI v / 1024 * 1024) = nI (1024 * p + v % 1024) := by
  rw [i_rem h, i_1024, pk_mul, nI_add]
theorem i_sh {s t : Nat} (hs : s < 4) (ht : t < 5) : nI s <<< (((2 : Int32) * nI t) &&& 31) = nI (s * 4 ^ t) := by
  have e : (4 : Nat) ^ t = 2 ^ (2 * t) := by rw [Nat.pow_mul]
  have h4 : (4 : Nat) ^ t ≤ 4 ^ 4 := Nat.pow_le_pow_right (by omega) (by omega)
  rw [e]
  refine pk_shlN _ _ (i_sh2 ht) ?_
  rw [← e]
  have : s * 4 ^ t ≤ 3 * 4 ^ 4 := Nat.mul_le_mul (by omega) h4
  omega
theorem i_mwith {v t s : Nat} (ht : t < 5) (hs : s < 4) : (nI v - (nI (stN v t) <<< (((2 : Int32) * nI t) &&& 31))) + (nI s <<< (((2 : Int32) * nI t) &&& 31)) = nI (wtN v t s) := by
  rw [i_sh (st_lt v t) ht, i_sh hs ht, pk_sub st_le, nI_add]
  rfl
theorem nI_m1 {n : Nat} (h : n < 2 ^ 31) : ¬ nI n = -1 := by
  intro e
  have h1 := nI_toInt h
  rw [e] at h1
  have : ((-1 : Int32)).toInt = -1 := by decide
  omega
theorem nI_lit0 : (0 : Int32) = nI 0 := by decide
theorem nI_lit1 : (1 : Int32) = nI 1 := by decide
theorem i_in {x : Int32} {n : Nat} {i : Nat} (e : x = nI i) (h : i < n) (hn : n < 2 ^ 31) : vp_in x n := by rw [e]; exact vp_in_nI h hn
theorem ix_p {α : Type} {i : Int32} {n : Nat} {k : Option α} (h : vp_in i n) : ix i n k = k := by unfold ix; exact if_neg h
theorem ix_nI {α : Type} {i n : Nat} {k : Option α} (h : i < n) (hn : n < 2 ^ 31) : ix (nI i) n k = k := ix_p (vp_in_nI h hn)
theorem zb_0 {α : Type} {k : Option α} : zb 0 k = k := by unfold zb; exact if_pos (Or.inl rfl)
theorem zb_1 {α : Type} {k : Option α} : zb 1 k = k := by unfold zb; exact if_pos (Or.inr rfl)
theorem nm_e9 {α β : Type} (x : α) (k : α → β) : nm x k = k x := rfl
theorem bd_s {α β : Type} (x : α) (k : α → Option β) : (some x).bind k = k x := rfl
theorem nbeq {i j : Nat} (h : i ≠ j) : Nat.beq i j = false := by
  cases hb : Nat.beq i j with
  | false => rfl
  | true => exact absurd (Nat.eq_of_beq_eq_true hb) h
theorem setF_s (σ : ST) (j : Nat) (v : Int32) : (setF σ j v).1 j = v := by simp [setF]
theorem setF_n (σ : ST) {j i : Nat} (v : Int32) (h : i ≠ j) : (setF σ j v).1 i = σ.1 i := by
  simp [setF, nbeq h]
theorem setF_2 (σ : ST) (j : Nat) (v : Int32) : (setF σ j v).2 = σ.2 := rfl
theorem setA_1 (σ : ST) (j i : Nat) (v : Int32) : (setA σ j i v).1 = σ.1 := rfl
theorem setA_s (σ : ST) (j i : Nat) (v : Int32) : (setA σ j i v).2 j = upd (σ.2 j) i v := by simp [setA]
theorem setA_n (σ : ST) {j q : Nat} (i : Nat) (v : Int32) (h : q ≠ j) : (setA σ j i v).2 q = σ.2 q := by simp [setA, nbeq h]
theorem fillA_1 (σ : ST) (j n : Nat) (v : Int32) : (fillA σ j n v).1 = σ.1 := rfl
theorem fillA_s (σ : ST) (j n : Nat) (v : Int32) : (fillA σ j n v).2 j = fillF (σ.2 j) n v := by simp [fillA]
theorem fillA_n (σ : ST) {j q : Nat} (n : Nat) (v : Int32) (h : q ≠ j) : (fillA σ j n v).2 q = σ.2 q := by simp [fillA, nbeq h]
