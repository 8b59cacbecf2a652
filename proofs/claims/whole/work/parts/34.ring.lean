/-! PURE: loops upwards; sums over sets; the ring -/
theorem for_up {P : Nat → Nat → Prop} {m : Nat} (h0 : ∀ n, P (n + 1) m) (hs : ∀ n k, k < m → P n (k + 1) → P (n + 1) k) : ∀ (n k : Nat), k ≤ m → m - k < n → P n k := by
  intro n
  induction n with
  | zero => intro k _ h; omega
  | succ n ih =>
    intro k hk h
    by_cases e : k = m
    · subst e; exact h0 n
    · exact hs n k (by omega) (ih (k + 1) (by omega) (by omega))
/-- is k in the set -/
def bt (set : Int32) (k : Nat) : Prop := (set >>> (nI k &&& 31)) &&& 1 = 1
def bsum (f : Nat → Int32) (set : Int32) : Nat → Int32
  | 0 => 0
  | k + 1 => if (set >>> (nI k &&& 31)) &&& 1 = 1 then bsum f set k + f k else bsum f set k
theorem bsum_bnd {f : Nat → Int32} {set : Int32} {hi : Int} {m : Nat} (hm : hi * m < 2147483648) (h0 : 0 ≤ hi) (h : ∀ k, k < m → 0 ≤ (f k).toInt ∧ (f k).toInt ≤ hi) : ∀ k, k ≤ m → 0 ≤ (bsum f set k).toInt ∧ (bsum f set k).toInt ≤ hi * k := by
  intro k
  induction k with
  | zero => intro _; exact ⟨(by decide : (0 : Int) ≤ (0 : Int32).toInt), by show (0 : Int32).toInt ≤ _; have : (0 : Int32).toInt = 0 := rfl; omega⟩
  | succ k ih =>
    intro hk
    have i := ih (by omega)
    have hf := h k (by omega)
    have e1 : hi * ((k + 1 : Nat) : Int) = hi * k + hi := by rw [Int.natCast_add, Int.mul_add]; omega
    have e2 : hi * ((k + 1 : Nat) : Int) ≤ hi * m := Int.mul_le_mul_of_nonneg_left (by omega) h0
    show 0 ≤ (if _ then _ else _ : Int32).toInt ∧ (if _ then _ else _ : Int32).toInt ≤ _
    split
    · rw [add_toInt (by omega) (by omega)]; omega
    · omega
theorem bsum_congr {f g : Nat → Int32} {set : Int32} : ∀ m, (∀ k, k < m → f k = g k) → bsum f set m = bsum g set m := by
  intro m
  induction m with
  | zero => intro _; rfl
  | succ m ih => intro h; unfold bsum; rw [ih (fun k hk => h k (by omega)), h m (by omega)]
theorem nI_stop (m : Nat) : nI m ≤ nI m := Int32.le_refl _
theorem nI_on {m k : Nat} (h : k < m) (hm : m < 2 ^ 31) : ¬ nI m ≤ nI k := nI_ge h hm
theorem C_shipsOf {N m : Nat} {c : St} (e : gI c 27 = nI m) (hm : m ≤ 5) (hl : (gA c 84).length = 5) (hN : 100 < N) (set : Int32) : Ring_shipsOf N c set = some (bsum (fun k => (gA c 84).getD k 0) set m) := by
  unfold Ring_shipsOf
  refine for_up (P := fun n k => Ring_shipsOf_p4 N c n set (bsum (fun k => (gA c 84).getD k 0) set k) (nI k) = some (bsum (fun k => (gA c 84).getD k 0) set m)) (m := m) ?_ ?_ N 0 (by omega) (by omega)
  · intro n
    show Ring_shipsOf_p4b _ _ _ _ _ _ = _
    unfold Ring_shipsOf_p4b
    rw [e, if_pos (nI_stop m)]
  · intro n k hk ih
    show Ring_shipsOf_p4b _ _ _ _ _ _ = _
    unfold Ring_shipsOf_p4b Ring_shipsOf_p29 Ring_isIn
    rw [e, if_neg (nI_on hk (by omega)), nI_1, ld_nI (by omega) (by omega)]
    simp only [bsum] at ih
    by_cases hb : (set >>> (nI k &&& 31)) &&& 1 = 1
    · rw [if_neg (fun q => q hb)]
      rw [if_pos hb] at ih
      exact ih
    · rw [if_pos hb]
      rw [if_neg hb] at ih
      exact ih
theorem R_shipsIn_ok {N m : Nat} {r : St} (e : gI r 21 = nI m) (hm : m ≤ 5) (hl : (gA r 25).length = 5) (hN : 100 < N) (set : Int32) : R_shipsIn N r set = some (bsum (fun k => (gA r 25).getD k 0) set m) := by
  unfold R_shipsIn
  refine for_up (P := fun n k => R_shipsIn_p4 N r n set (bsum (fun k => (gA r 25).getD k 0) set k) (nI k) = some (bsum (fun k => (gA r 25).getD k 0) set m)) (m := m) ?_ ?_ N 0 (by omega) (by omega)
  · intro n
    show R_shipsIn_p4b _ _ _ _ _ _ = _
    unfold R_shipsIn_p4b
    rw [e, if_pos (nI_stop m)]
  · intro n k hk ih
    show R_shipsIn_p4b _ _ _ _ _ _ = _
    unfold R_shipsIn_p4b R_shipsIn_p32
    rw [e, if_neg (nI_on hk (by omega)), nI_1, ld_nI (by omega) (by omega)]
    simp only [bsum] at ih
    by_cases hb : (set >>> (nI k &&& 31)) &&& 1 = 1
    · rw [if_neg (fun q => q hb)]
      rw [if_pos hb] at ih
      exact ih
    · rw [if_pos hb, Int32.add_zero]
      rw [if_neg hb] at ih
      exact ih
theorem toL_add {x y : Int32} (h : -2147483648 ≤ x.toInt + y.toInt) (h2 : x.toInt + y.toInt < 2147483648) : (x + y).toInt64 = x.toInt64 + y.toInt64 := by
  rw [← Int64.toInt_inj, Int64.toInt_add, Int32.toInt_toInt64, Int32.toInt_toInt64, Int32.toInt_toInt64, add_toInt h h2, Int.bmod_eq_of_le] <;> omega
theorem toL_sub {x y : Int32} (h : -2147483648 ≤ x.toInt - y.toInt) (h2 : x.toInt - y.toInt < 2147483648) : (x - y).toInt64 = x.toInt64 - y.toInt64 := by
  rw [← Int64.toInt_inj, Int64.toInt_sub, Int32.toInt_toInt64, Int32.toInt_toInt64, Int32.toInt_toInt64, sub_toInt h h2, Int.bmod_eq_of_le] <;> omega
theorem toL_mul {x y : Int32} (h : -2147483648 ≤ x.toInt * y.toInt) (h2 : x.toInt * y.toInt < 2147483648) : (x * y).toInt64 = x.toInt64 * y.toInt64 := by
  rw [← Int64.toInt_inj, Int64.toInt_mul, Int32.toInt_toInt64, Int32.toInt_toInt64, Int32.toInt_toInt64, mul_toInt h h2, Int.bmod_eq_of_le] <;> omega
theorem mul_bnd {a b x y : Int} (h0 : 0 ≤ a) (h1 : a ≤ x) (h2 : 0 ≤ b) (h3 : b ≤ y) : 0 ≤ a * b ∧ a * b ≤ x * y := ⟨Int.mul_nonneg h0 h2, Int.mul_le_mul h1 h3 h2 (by omega)⟩
section RG
variable {N : Nat} {c r : St}
theorem earned_same (h : Rel c r) (hN : 100 < N) (m l : Nat) (hm5 : m ≤ 5) (e : gI c 27 = nI m) (hl : l < m) (set : Int32) : ∃ v, Ring_earned N c (nI l) set = some v ∧ R_earnsOf N r (nI l) set = some v := by
  obtain ⟨n, q1, e1, e2, q4, q5, q6, q7, eq, b0, b1, b2, b3⟩ := h.rRing
  have hnm : n = m := (nI_eq (by omega) (by omega)).mp (e1.symm.trans e)
  subst hnm
  have l84 : (gA c 84).length = 5 := h.lenC.1 84
  have l85 : (gA c 85).length = 5 := h.lenC.1 85
  unfold Ring_earned R_earnsOf R_earnsOf_p33 Ring_isIn
  rw [C_shipsOf e1 q1 l84 hN, R_shipsIn_ok e2 q1 (by rw [← q4]; exact l84) hN, ← q4, ← q5, eq]
  have hb := bsum_bnd (f := fun k => (gA c 84).getD k 0) (set := set) (hi := 99) (m := n) (by omega) (by omega) (fun k hk => ⟨by have := (q6 k hk).1; omega, (q6 k hk).2⟩) n (by omega)
  have hc := q7 l hl
  have hm := mul_bnd b1.1 b1.2 hb.1 hb.2
  have e3 : ((gI r 22 + gI r 23 * bsum (fun k => (gA c 84).getD k 0) set n) - (gA c 85).getD l 0).toInt64 = ((gI r 22).toInt64 + (gI r 23).toInt64 * (bsum (fun k => (gA c 84).getD k 0) set n).toInt64) - ((gA c 85).getD l 0).toInt64 := by
    have m1 : (gI r 23 * bsum (fun k => (gA c 84).getD k 0) set n).toInt = (gI r 23).toInt * (bsum (fun k => (gA c 84).getD k 0) set n).toInt := mul_toInt (by omega) (by omega)
    have m2 : (gI r 22 + gI r 23 * bsum (fun k => (gA c 84).getD k 0) set n).toInt = (gI r 22).toInt + (gI r 23 * bsum (fun k => (gA c 84).getD k 0) set n).toInt := add_toInt (by omega) (by omega)
    rw [toL_sub (by omega) (by omega), toL_add (by omega) (by omega), toL_mul (by omega) (by omega)]
  simp only [ld_c0, ld_c1, ld_c2, ld_c3, Option.bind_some, ld_nI (show l < (gA c 84).length by omega) (by omega), ld_nI (show l < (gA c 85).length by omega) (by omega), e3]
  by_cases hb : (set >>> (nI l &&& 31)) &&& 1 = 1
  · simp only [hb, not_true, if_false, if_neg (show ¬ (1 : Int32) = 0 by decide), Option.bind_some]
    exact ⟨_, rfl, rfl⟩
  · simp only [hb, not_false_iff, if_true, Option.bind_some]
    refine ⟨_, rfl, congrArg some ?_⟩
    grind
theorem S_earns (h : Rel c r) (hN : 100 < N) (x1 x2 : Int32) : Sam (C_earns N c x1 x2) (R_earns N r x1 x2) := by
  obtain ⟨n, q1, e1, e2, q4⟩ := h.rRing
  unfold C_earns Ring_allSets R_earns
  simp only [C_within_eq, R_in_eq, Option.bind_some, if_bz, if_nbz, bind_id, e1, e2]
  refine Sam.ite (fun g1 => Sam.ite (fun g2 => ?_) (fun _ => Sam.ret)) (fun _ => Sam.ret)
  obtain ⟨l, rfl, hl⟩ := ix_in (by omega) g1
  obtain ⟨v, h1, h2⟩ := earned_same h hN n l q1 e1 hl x2
  exact Sam.of h1 h2
theorem holds_same (h : Rel c r) (hN : 100 < N) (set : Int32) : ∃ v, Ring_holds N c set = some v ∧ R_isStable N r set = some v := by
  obtain ⟨m, q1, e1, e2, q4⟩ := h.rRing
  unfold Ring_holds R_isStable
  refine for_up (P := fun n k => ∃ v, Ring_holds_p2 N c n set (nI k) = some v ∧ R_isStable_p2 N r n set (nI k) = some v) (m := m) ?_ ?_ N 0 (by omega) (by omega)
  · intro n
    refine ⟨1, ?_, ?_⟩
    · show Ring_holds_p2b _ _ _ _ _ = _
      unfold Ring_holds_p2b
      rw [e1, if_pos (nI_stop m)]
    · show R_isStable_p2b _ _ _ _ _ = _
      unfold R_isStable_p2b
      rw [e2, if_pos (nI_stop m)]
  · intro n k hk ih
    obtain ⟨v1, a1, a2⟩ := earned_same h hN m k q1 e1 hk (set ^^^ (1 <<< (nI k &&& 31)))
    obtain ⟨v2, b1, b2⟩ := earned_same h hN m k q1 e1 hk set
    show ∃ v, Ring_holds_p2b _ _ _ _ _ = _ ∧ R_isStable_p2b _ _ _ _ _ = _
    unfold Ring_holds_p2b R_isStable_p2b
    rw [e1, e2, if_neg (nI_on hk (by omega)), if_neg (nI_on hk (by omega)), nI_1, a1, a2, Option.bind_some, Option.bind_some, b1, b2, Option.bind_some, Option.bind_some]
    by_cases g : mLc v1 v2 ≤ 0
    · rw [if_pos g, if_pos g]; exact ih
    · rw [if_neg g, if_neg g]; exact ⟨0, rfl, rfl⟩
theorem pow_nI : ∀ n, n ≤ 8 → (1 : Int32) <<< (nI n &&& 31) = nI (2 ^ n) := by decide +kernel
theorem S_stable (h : Rel c r) (hN : 1000 < N) (x1 : Int32) : Sam (C_stable N c x1) (R_stable N r x1) := by
  obtain ⟨m, q1, e1, e2, q4, q5, q6, q7⟩ := h.rRing
  have l84 : (gA c 84).length = 5 := h.lenC.1 84
  have hp : (2 : Nat) ^ m ≤ 32 := (by decide : ∀ m, m ≤ 5 → (2 : Nat) ^ m ≤ 32) m q1
  have hS : ∀ set, Ring_shipsOf N c set = some (bsum (fun k => (gA c 84).getD k 0) set m) := C_shipsOf e1 q1 l84 (by omega)
  have hR : ∀ set, R_shipsIn N r set = some (bsum (fun k => (gA c 84).getD k 0) set m) := by
    have := R_shipsIn_ok (N := N) e2 q1 (by rw [← q4]; exact l84) (by omega)
    rw [← q4] at this
    exact this
  have hb : ∀ set, 0 ≤ (bsum (fun k => (gA c 84).getD k 0) set m).toInt := fun set => (bsum_bnd (f := fun k => (gA c 84).getD k 0) (set := set) (hi := 99) (m := m) (by omega) (by omega) (fun k hk => ⟨by have := (q6 k hk).1; omega, (q6 k hk).2⟩) m (by omega)).1
  unfold C_stable R_stable Ring_greatestThatHolds Ring_howManyHold
  simp only [C_within_eq, R_in_eq, Option.bind_some, if_bz, if_nbz, bind_id]
  refine Sam.ite (fun g1 => ?_) (fun _ => Sam.ret)
  by_cases hx : x1 = 0
  · rw [if_neg (fun q => q hx)]
    refine for_up (P := fun n k => ∀ many best, Sam (Ring_howManyHold_p4 N c n many (nI k)) (R_stable_p19 N r n x1 many best (nI k))) (m := 2 ^ m) ?_ ?_ N 0 (Nat.zero_le _) (by omega) 0 (-1)
    · intro n many best
      show Sam (Ring_howManyHold_p4b _ _ _ _ _) (R_stable_p19b _ _ _ _ _ _ _)
      unfold Ring_howManyHold_p4b R_stable_p19b Ring_allSets
      rw [e1, e2, pow_nI m (by omega), Option.bind_some, if_pos (nI_stop _), if_pos (nI_stop _), if_neg (fun q => q hx)]
      exact Sam.ret
    · intro n k hk ih many best
      obtain ⟨v, a1, a2⟩ := holds_same (N := N) h (by omega) (nI k)
      show Sam (Ring_howManyHold_p4b _ _ _ _ _) (R_stable_p19b _ _ _ _ _ _ _)
      unfold Ring_howManyHold_p4b R_stable_p19b Ring_allSets Ring_howManyHold_p23 R_stable_p68 R_stable_p61 R_stable_p67 R_stable_p68
      rw [e1, e2, pow_nI m (by omega), Option.bind_some, if_neg (nI_on hk (by omega)), if_neg (nI_on hk (by omega)), a1, a2, Option.bind_some, Option.bind_some, nI_1, hR, hR, Option.bind_some, Option.bind_some]
      refine Sam.ite (fun _ => ih _ _) (fun _ => ?_)
      split
      · exact ih _ _
      · split
        · exact ih _ _
        · exact ih _ _
  · rw [if_pos hx]
    refine for_up (P := fun n k => ∀ many best most, ((best = -1 ∧ most = -1) ∨ (best ≠ -1 ∧ most = bsum (fun k => (gA c 84).getD k 0) best m)) → Sam (Ring_greatestThatHolds_p6 N c n best most (nI k)) (R_stable_p19 N r n x1 many best (nI k))) (m := 2 ^ m) ?_ ?_ N 0 (Nat.zero_le _) (by omega) 0 (-1) (-1) (Or.inl ⟨rfl, rfl⟩)
    · intro n many best most _
      show Sam (Ring_greatestThatHolds_p6b _ _ _ _ _ _) (R_stable_p19b _ _ _ _ _ _ _)
      unfold Ring_greatestThatHolds_p6b R_stable_p19b Ring_allSets
      rw [e1, e2, pow_nI m (by omega), Option.bind_some, if_pos (nI_stop _), if_pos (nI_stop _), if_pos hx]
      exact Sam.ret
    · intro n k hk ih many best most hi
      obtain ⟨v, a1, a2⟩ := holds_same (N := N) h (by omega) (nI k)
      show Sam (Ring_greatestThatHolds_p6b _ _ _ _ _ _) (R_stable_p19b _ _ _ _ _ _ _)
      have hk1 : nI k ≠ -1 := fun q => by have := nI_pos' (n := k) (by omega); rw [q] at this; exact absurd this (by decide)
      unfold Ring_greatestThatHolds_p6b R_stable_p19b Ring_allSets Ring_greatestThatHolds_p39 R_stable_p68 R_stable_p61 R_stable_p67 R_stable_p68
      rw [e1, e2, pow_nI m (by omega), Option.bind_some, if_neg (nI_on hk (by omega)), if_neg (nI_on hk (by omega)), a1, a2, Option.bind_some, Option.bind_some, nI_1, hS, hR, hR, Option.bind_some, Option.bind_some, Option.bind_some, Option.bind_some]
      by_cases hv : v = 0
      · simp only [if_pos hv]
        split
        · exact ih _ _ _ hi
        · exact ih _ _ _ hi
      · simp only [if_neg hv]
        rcases hi with ⟨rfl, rfl⟩ | ⟨hb1, rfl⟩
        · rw [if_pos rfl, if_neg]
          · exact ih _ _ _ (Or.inr ⟨hk1, rfl⟩)
          · rw [Int32.le_iff_toInt_le]
            have := hb (nI k)
            have e4 : (-1 : Int32).toInt = -1 := rfl
            omega
        · rw [if_neg hb1]
          split
          · exact ih _ _ _ (Or.inr ⟨hb1, rfl⟩)
          · exact ih _ _ _ (Or.inr ⟨hk1, rfl⟩)
end RG
