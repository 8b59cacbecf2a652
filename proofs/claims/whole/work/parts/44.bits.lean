/-! PURE: sets of at most eight as numbers -/
def mkN (b : Nat → Bool) : Nat → Nat
  | 0 => 0
  | k + 1 => mkN b k + if b k then 2 ^ k else 0
theorem mkN_lt (b : Nat → Bool) : ∀ k, mkN b k < 2 ^ k := by
  intro k
  induction k with
  | zero => exact Nat.one_pos
  | succ k ih =>
    unfold mkN
    rw [Nat.pow_succ]
    split <;> omega
theorem mkN_bit (b : Nat → Bool) : ∀ n k, (mkN b n).testBit k = (decide (k < n) && b k) := by
  intro n
  induction n with
  | zero => intro k; simp [mkN]
  | succ n ih =>
    intro k
    have hlt := mkN_lt b n
    unfold mkN
    by_cases hk : k < n
    · rw [show decide (k < n + 1) = decide (k < n) by rw [decide_eq_decide]; omega, ← ih k]
      split
      · rw [Nat.add_comm, Nat.testBit_two_pow_add_gt hk]
      · rfl
    · by_cases e : k = n
      · subst e
        have hz : (mkN b k).testBit k = false := Nat.testBit_lt_two_pow hlt
        split
        · rename_i hb
          rw [Nat.add_comm, Nat.testBit_two_pow_add_eq, hz, hb]; simp
        · rename_i hb
          simp only [Bool.not_eq_true] at hb
          rw [Nat.add_zero, hz, hb]; simp
      · have hz : (mkN b n + if b n = true then 2 ^ n else 0) < 2 ^ k := by
          have h1 := mkN_lt b (n + 1)
          unfold mkN at h1
          exact Nat.lt_of_lt_of_le h1 (Nat.pow_le_pow_right (by omega) (by omega))
        rw [Nat.testBit_lt_two_pow hz]
        have : ¬ k < n + 1 := by omega
        simp [this]
set_option maxRecDepth 10000 in
theorem or_tab : ∀ k, k < 8 → ∀ x, x < 2 ^ k → nI x ||| (1 <<< (nI k &&& 31)) = nI (x + 2 ^ k) := by decide +kernel
set_option maxRecDepth 10000 in
theorem bit_tab : ∀ x, x < 256 → ∀ k, k < 8 → decide ((nI x >>> (nI k &&& 31)) &&& 1 = 1) = x.testBit k := by decide +kernel
theorem bit_tab0 : ∀ x, x < 256 → ∀ k, k < 8 → decide ((nI x >>> (nI k &&& 31)) &&& 1 = 0) = !x.testBit k := by decide +kernel
theorem mk_or {b : Nat → Bool} {k : Nat} (hk : k < 8) : nI (mkN b (k + 1)) = if b k then nI (mkN b k) ||| (1 <<< (nI k &&& 31)) else nI (mkN b k) := by
  show nI (mkN b k + if b k then 2 ^ k else 0) = _
  split
  · rw [or_tab k hk _ (mkN_lt b k)]
  · rw [Nat.add_zero]
theorem mk_lt8 {b : Nat → Bool} {n : Nat} (hn : n ≤ 8) : mkN b n < 256 := Nat.lt_of_lt_of_le (mkN_lt b n) (Nat.pow_le_pow_right (by omega) hn)
theorem mk_bit {b : Nat → Bool} {n k : Nat} (hn : n ≤ 8) (hk : k < n) : ((nI (mkN b n) >>> (nI k &&& 31)) &&& 1 = 1) = (b k = true) := by
  have h := bit_tab _ (mk_lt8 (b := b) hn) k (by omega)
  rw [mkN_bit, decide_eq_true hk, Bool.true_and] at h
  rw [← h, decide_eq_true_eq]
def bsf (g : Nat → Bool) : Nat → Nat
  | 0 => 0
  | k + 1 => bsf g k + if g k then 1 else 0
theorem bsf_le (g : Nat → Bool) : ∀ n, bsf g n ≤ n := by
  intro n
  induction n with
  | zero => exact Nat.le_refl 0
  | succ n ih => unfold bsf; split <;> omega
theorem bsf_congr {f g : Nat → Bool} : ∀ n, (∀ k, k < n → f k = g k) → bsf f n = bsf g n := by
  intro n
  induction n with
  | zero => intro _; rfl
  | succ n ih => intro h; unfold bsf; rw [ih (fun k hk => h k (by omega)), h n (by omega)]
theorem bsf_ext {g : Nat → Bool} {n : Nat} : ∀ j, (∀ k, n ≤ k → g k = false) → bsf g (n + j) = bsf g n := by
  intro j
  induction j with
  | zero => intro _; rfl
  | succ j ih =>
    intro h
    show bsf g (n + j) + (if g (n + j) then 1 else 0) = _
    rw [ih h, h (n + j) (by omega)]
    rfl
set_option maxRecDepth 10000 in
theorem xor_tab : ∀ x, x < 32 → ∀ y, y < 32 → nI x ^^^ nI y = nI (x ^^^ y) := by decide +kernel
set_option maxRecDepth 10000 in
theorem cnt_tab : ∀ x, x < 256 → J_bitCount 0 (nI x) = some (nI (bsf x.testBit 8)) := by decide +kernel
theorem cnt_ok (N : Nat) {x : Nat} (h : x < 256) : J_bitCount N (nI x) = some (nI (bsf x.testBit 8)) := cnt_tab x h
theorem cnt_mk (N : Nat) {b : Nat → Bool} {n : Nat} (hn : n ≤ 8) : J_bitCount N (nI (mkN b n)) = some (nI (bsf b n)) := by
  rw [cnt_ok N (mk_lt8 hn)]
  have h1 : bsf (mkN b n).testBit 8 = bsf (mkN b n).testBit n := by
    have := bsf_ext (g := (mkN b n).testBit) (n := n) (8 - n) (fun k hk => by rw [mkN_bit, decide_eq_false (by omega)]; rfl)
    rw [show n + (8 - n) = 8 by omega] at this
    exact this
  rw [h1, bsf_congr n (fun k hk => by rw [mkN_bit, decide_eq_true hk, Bool.true_and])]
theorem cnt_xor (N : Nat) {a b : Nat → Bool} {n : Nat} (hn : n ≤ 5) : J_bitCount N (nI (mkN a n) ^^^ nI (mkN b n)) = some (nI (bsf (fun k => a k != b k) n)) := by
  have l : ∀ c : Nat → Bool, mkN c n < 32 := fun c => Nat.lt_of_lt_of_le (mkN_lt c n) (Nat.pow_le_pow_right (n := 2) (by omega) hn)
  rw [xor_tab _ (l a) _ (l b), cnt_ok N (Nat.lt_of_lt_of_le (Nat.xor_lt_two_pow (n := 5) (l a) (l b)) (by decide))]
  have hb : ∀ k, (mkN a n ^^^ mkN b n).testBit k = (decide (k < n) && (a k != b k)) := fun k => by
    rw [Nat.testBit_xor, mkN_bit, mkN_bit]
    cases decide (k < n) <;> simp
  have h1 : bsf (mkN a n ^^^ mkN b n).testBit 8 = bsf (mkN a n ^^^ mkN b n).testBit n := by
    have := bsf_ext (g := (mkN a n ^^^ mkN b n).testBit) (n := n) (8 - n) (fun k hk => by rw [hb, decide_eq_false (by omega)]; rfl)
    rw [show n + (8 - n) = 8 by omega] at this
    exact this
  rw [h1, bsf_congr n (fun k hk => by rw [hb, decide_eq_true hk, Bool.true_and])]
