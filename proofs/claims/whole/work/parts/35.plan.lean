/-! PURE: the plan -/
theorem C_costOf_ok {N m : Nat} {c : St} (e : gI c 28 = nI m) (hm : m ≤ 8) (hl : (gA c 94).length = 8) (hN : 100 < N) (set : Int32) : Choices_costOf N c set = some (bsum (fun k => (gA c 94).getD k 0) set m) := by
  unfold Choices_costOf
  refine for_up (P := fun n k => Choices_costOf_p4 N c n set (bsum (fun k => (gA c 94).getD k 0) set k) (nI k) = some (bsum (fun k => (gA c 94).getD k 0) set m)) (m := m) ?_ ?_ N 0 (by omega) (by omega)
  · intro n
    show Choices_costOf_p4b _ _ _ _ _ _ = _
    unfold Choices_costOf_p4b
    rw [e, if_pos (nI_stop m)]
  · intro n k hk ih
    show Choices_costOf_p4b _ _ _ _ _ _ = _
    unfold Choices_costOf_p4b Choices_costOf_p30
    rw [e, if_neg (nI_on hk (by omega)), nI_1, ld_nI (by omega) (by omega)]
    simp only [bsum] at ih
    by_cases hb : (set >>> (nI k &&& 31)) &&& 1 = 1
    · rw [if_neg (fun q => q hb)]
      rw [if_pos hb] at ih
      exact ih
    · rw [if_pos hb]
      rw [if_neg hb] at ih
      exact ih
theorem R_costOf_ok {N m : Nat} {r : St} (e : gI r 26 = nI m) (hm : m ≤ 8) (hl : (gA r 27).length = 8) (hN : 100 < N) (set : Int32) : R_costOf N r set = some (bsum (fun k => (gA r 27).getD k 0) set m) := by
  unfold R_costOf
  refine for_up (P := fun n k => R_costOf_p4 N r n set (bsum (fun k => (gA r 27).getD k 0) set k) (nI k) = some (bsum (fun k => (gA r 27).getD k 0) set m)) (m := m) ?_ ?_ N 0 (by omega) (by omega)
  · intro n
    show R_costOf_p4b _ _ _ _ _ _ = _
    unfold R_costOf_p4b
    rw [e, if_pos (nI_stop m)]
  · intro n k hk ih
    show R_costOf_p4b _ _ _ _ _ _ = _
    unfold R_costOf_p4b R_costOf_p32
    rw [e, if_neg (nI_on hk (by omega)), nI_1, ld_nI (by omega) (by omega)]
    simp only [bsum] at ih
    by_cases hb : (set >>> (nI k &&& 31)) &&& 1 = 1
    · rw [if_neg (fun q => q hb)]
      rw [if_pos hb] at ih
      exact ih
    · rw [if_pos hb, Int32.add_zero]
      rw [if_neg hb] at ih
      exact ih
theorem C_givenIn_ok {N m : Nat} {c : St} (e : gI c 28 = nI m) (hm : m ≤ 8) (hl : LenC c) (hN : 100 < N) (set : Int32) (y : Nat) (hy : y < 5) : Choices_givenIn N c set (nI y) = some (bsum (fun k => (gA c (86 + k)).getD y 0) set m) := by
  unfold Choices_givenIn
  refine for_up (P := fun n k => Choices_givenIn_p5 N c n set (nI y) (bsum (fun k => (gA c (86 + k)).getD y 0) set k) (nI k) = some (bsum (fun k => (gA c (86 + k)).getD y 0) set m)) (m := m) ?_ ?_ N 0 (by omega) (by omega)
  · intro n
    show Choices_givenIn_p5b _ _ _ _ _ _ _ = _
    unfold Choices_givenIn_p5b
    rw [e, if_pos (nI_stop m)]
  · intro n k hk ih
    show Choices_givenIn_p5b _ _ _ _ _ _ _ = _
    have h5 : (gA c (86 + k)).length = 5 := (hl.1 _).trans ((by decide : ∀ i, i < 8 → LAc (86 + i) = 5) k (by omega))
    unfold Choices_givenIn_p5b Choices_givenIn_p36
    rw [e, if_neg (nI_on hk (by omega)), nI_1, rwi_nI (by omega) (by omega), Option.bind_some, ld_nI (by omega) (by omega)]
    simp only [bsum] at ih
    by_cases hb : (set >>> (nI k &&& 31)) &&& 1 = 1
    · rw [if_neg (fun q => q hb)]
      rw [if_pos hb] at ih
      exact ih
    · rw [if_pos hb]
      rw [if_neg hb] at ih
      exact ih
def wv (g : Nat → Int32) : Nat → Int32
  | 0 => 0
  | k + 1 => if k = 0 then g 0 else if g k < wv g k then g k else wv g k
theorem C_worstOf_ok {N m : Nat} {c : St} (e : gI c 28 = nI m) (hm : m ≤ 8) (hl : LenC c) (hN : 100 < N) (set : Int32) (Y : Nat) (h1 : 1 ≤ Y) (hy : Y ≤ 5) : Choices_worstOf N c set (nI Y) = some (wv (fun y => bsum (fun k => (gA c (86 + k)).getD y 0) set m) Y) := by
  unfold Choices_worstOf
  have e0 := C_givenIn_ok (N := N) e hm hl hN set 0 (by omega)
  have e0 : Choices_givenIn N c set 0 = _ := e0
  rw [e0, Option.bind_some]
  refine for_up (P := fun n k => 1 ≤ k → Choices_worstOf_p10 N c n set (nI Y) (wv (fun y => bsum (fun k => (gA c (86 + k)).getD y 0) set m) k) (nI k) = some (wv (fun y => bsum (fun k => (gA c (86 + k)).getD y 0) set m) Y)) (m := Y) ?_ ?_ N 1 (by omega) (by omega) (by omega)
  · intro n _
    show Choices_worstOf_p10b _ _ _ _ _ _ _ = _
    unfold Choices_worstOf_p10b
    rw [if_pos (nI_stop _)]
  · intro n k hk ih h1
    have ih := ih (by omega)
    show Choices_worstOf_p10b _ _ _ _ _ _ _ = _
    unfold Choices_worstOf_p10b J_min
    rw [if_neg (nI_on hk (by omega)), nI_1, C_givenIn_ok e hm hl hN set k (by omega), Option.bind_some]
    have hk0 : ¬ k = 0 := by omega
    simp only [wv, if_neg hk0] at ih
    split
    · rename_i q
      rw [if_pos q] at ih
      exact ih
    · rename_i q
      rw [if_neg q] at ih
      exact ih
theorem R_worstOf_ok {N m : Nat} {r : St} (e : gI r 26 = nI m) (hm : m ≤ 8) (hl : (gA r 28).length = 40) (hN : 100 < N) (set : Int32) (Y : Nat) (h1 : 1 ≤ Y) (hy : Y ≤ 5) : R_worstOf N r set (nI Y) = some (wv (fun y => bsum (fun k => (gA r 28).getD (5 * k + y) 0) set m) Y) := by
  unfold R_worstOf
  refine for_up (P := fun n k => R_worstOf_p5 N r n set (nI Y) (wv (fun y => bsum (fun k => (gA r 28).getD (5 * k + y) 0) set m) k) (nI k) = some (wv (fun y => bsum (fun k => (gA r 28).getD (5 * k + y) 0) set m) Y)) (m := Y) ?_ ?_ N 0 (by omega) (by omega)
  · intro n
    show R_worstOf_p5b _ _ _ _ _ _ _ = _
    unfold R_worstOf_p5b
    rw [if_pos (nI_stop _)]
  · intro n y hk ih
    show R_worstOf_p5b _ _ _ _ _ _ _ = _
    unfold R_worstOf_p5b
    rw [if_neg (nI_on hk (by omega))]
    refine for_up (P := fun n2 k => R_worstOf_p17 N (R_worstOf_p5 N r n) r n2 set (nI Y) (wv (fun y => bsum (fun k => (gA r 28).getD (5 * k + y) 0) set m) y) (nI y) (bsum (fun k => (gA r 28).getD (5 * k + y) 0) set k) (nI k) = some (wv (fun y => bsum (fun k => (gA r 28).getD (5 * k + y) 0) set m) Y)) (m := m) ?_ ?_ N 0 (by omega) (by omega)
    · intro n2
      show R_worstOf_p17b _ _ _ _ _ _ _ _ _ _ = _
      unfold R_worstOf_p17b R_worstOf_p74 R_worstOf_p80
      rw [e, if_pos (nI_stop _), nI_1]
      by_cases y0 : y = 0
      · subst y0
        rw [if_pos nI_0]
        exact ih
      · rw [if_neg (nI_ne0 (by omega) (by omega))]
        simp only [wv, if_neg y0] at ih
        split
        · rename_i q
          rw [if_neg (Int32.not_lt.mpr q)] at ih
          exact ih
        · rename_i q
          rw [if_pos (Int32.not_le.mp q)] at ih
          exact ih
    · intro n2 k hk2 ih2
      show R_worstOf_p17b _ _ _ _ _ _ _ _ _ _ = _
      have ei : (5 : Int32) * nI k + nI y = nI (5 * k + y) := by rw [show (5 : Int32) = nI 5 from rfl, pk_mul, nI_add]
      unfold R_worstOf_p17b R_worstOf_p54
      rw [e, if_neg (nI_on hk2 (by omega)), nI_1, ei, ld_nI (by omega) (by omega)]
      simp only [bsum] at ih2
      by_cases hb : (set >>> (nI k &&& 31)) &&& 1 = 1
      · rw [if_neg (fun q => q hb)]
        rw [if_pos hb] at ih2
        exact ih2
      · rw [if_pos hb, Int32.add_zero]
        rw [if_neg hb] at ih2
        exact ih2
theorem wv_congr {f g : Nat → Int32} : ∀ Y, (∀ y, y < Y → f y = g y) → wv f Y = wv g Y := by
  intro Y
  induction Y with
  | zero => intro _; rfl
  | succ Y ih =>
    intro h
    unfold wv
    rw [ih (fun y hy => h y (by omega)), h Y (by omega)]
    split
    · rename_i q; exact h 0 (by omega)
    · rfl
theorem S_plan {N : Nat} {c r : St} (h : Rel c r) (hN : 1000 < N) (x1 x2 x3 : Int32) : Sam (C_plan N c x1 x2 x3) (R_plan N r x1 x2 x3) := by
  obtain ⟨m, q1, e1, e2, q4, q5, q6, q7⟩ := h.rCh
  have hp : (2 : Nat) ^ m ≤ 256 := (by decide : ∀ m, m ≤ 8 → (2 : Nat) ^ m ≤ 256) m q1
  have h1p : 1 ≤ (2 : Nat) ^ m := Nat.one_le_two_pow
  have l94 : (gA c 94).length = 8 := h.lenC.1 94
  have l28 : (gA r 28).length = 40 := h.lenR.1 28
  unfold C_plan C_plan_p29 R_plan R_plan_p29
  simp only [C_within_eq, R_in_eq, Option.bind_some, if_bz, if_nbz, bind_id]
  refine Sam.ite (fun g1 => Sam.ite (fun g2 => Sam.ite (fun g3 => ?_) (fun _ => Sam.ret)) (fun _ => Sam.ret)) (fun _ => Sam.ret)
  have hY := ib_of g2
  have e1' : (1 : Int32).toInt = 1 := rfl
  have e5' : (5 : Int32).toInt = 5 := rfl
  obtain ⟨qY, eY⟩ := nat_of (x := x2) (by omega)
  generalize x2.toNatClampNeg = Y at qY eY
  subst qY
  have hc : ∀ set, Choices_costOf N c set = some (bsum (fun k => (gA c 94).getD k 0) set m) := C_costOf_ok e1 q1 l94 (by omega)
  have hr : ∀ set, R_costOf N r set = some (bsum (fun k => (gA c 94).getD k 0) set m) := by
    have := R_costOf_ok (N := N) e2 q1 (by rw [← q4]; exact l94) (by omega)
    rw [← q4] at this
    exact this
  have hw : ∀ set, Choices_worstOf N c set (nI Y) = some (wv (fun y => bsum (fun k => (gA c (86 + k)).getD y 0) set m) Y) := fun set => C_worstOf_ok e1 q1 h.lenC (by omega) set Y (by omega) (by omega)
  have hx : ∀ set, R_worstOf N r set (nI Y) = some (wv (fun y => bsum (fun k => (gA c (86 + k)).getD y 0) set m) Y) := fun set => by
    rw [R_worstOf_ok e2 q1 l28 (by omega) set Y (by omega) (by omega)]
    exact congrArg some (wv_congr Y (fun y hy => bsum_congr m (fun k hk => q6 k y (by omega) (by omega))))
  unfold Choices_bestFor
  refine for_up (P := fun n k => ∀ best, Sam ((Choices_bestFor_p5 N c n x1 (nI Y) best (nI k)).bind fun p7 => if x3 = 0 then some p7 else if x3 = 1 then Choices_worstOf N c p7 (nI Y) else Choices_costOf N c p7) (R_plan_p39 N r n x1 (nI Y) x3 best (nI k))) (m := 2 ^ m) ?_ ?_ N 1 h1p (by omega) 0
  · intro n best
    show Sam (Option.bind (Choices_bestFor_p5b _ _ _ _ _ _ _) _) (R_plan_p39b _ _ _ _ _ _ _ _)
    unfold Choices_bestFor_p5b R_plan_p39b
    rw [e1, e2, pow_nI m q1, if_pos (nI_stop _), if_pos (nI_stop _), Option.bind_some, hw, hx, hc, hr, bind_id, bind_id]
    by_cases h0 : x3 = 0
    · rw [if_pos h0, if_neg (fun q => q h0)]; exact Sam.ret
    · rw [if_neg h0, if_pos h0]
      by_cases h1 : x3 = 1
      · rw [if_pos h1, if_neg (fun q => q h1)]; exact Sam.ret
      · rw [if_neg h1, if_pos h1]; exact Sam.ret
  · intro n k hk ih best
    show Sam (Option.bind (Choices_bestFor_p5b _ _ _ _ _ _ _) _) (R_plan_p39b _ _ _ _ _ _ _ _)
    unfold Choices_bestFor_p5b R_plan_p39b Choices_bestFor_p40 Choices_isBetter Choices_isBetter_p38 Choices_isBetter_p42 R_plan_p111 R_plan_p102 R_plan_p107 R_plan_p109 R_plan_p111
    rw [e1, e2, pow_nI m q1, if_neg (nI_on hk (by omega)), if_neg (nI_on hk (by omega)), nI_1, hw, hw, hx, hx, hc, hc, hr, hr]
    simp only [Option.bind_some]
    split
    · exact ih best
    · split
      · exact ih _
      · split
        · exact ih _
        · split
          · exact ih _
          · exact ih _
