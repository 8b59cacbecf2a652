/-! PURE: readings -/
def ab (x : Int) : Int := if 0 ≤ x then x else -x
theorem ab_sym (x y : Int) : ab (x - y) = ab (y - x) := by unfold ab; split <;> split <;> omega
theorem ab_bnd {x m : Int} (h1 : -m ≤ x) (h2 : x ≤ m) : 0 ≤ ab x ∧ ab x ≤ m := by unfold ab; split <;> omega
def abv (x : Int32) : Int32 := if 0 ≤ x then x else -x
theorem abv_toInt {x : Int32} (h : -2000000000 ≤ x.toInt) : (abv x).toInt = ab x.toInt := by
  have := toInt_rng x
  have e0 : (0 : Int32).toInt = 0 := rfl
  unfold abv ab
  by_cases q : 0 ≤ x
  · rw [if_pos q]
    rw [Int32.le_iff_toInt_le, e0] at q
    rw [if_pos q]
  · rw [if_neg q]
    rw [Int32.le_iff_toInt_le, e0] at q
    rw [if_neg q, Int32.toInt_neg, Int.bmod_eq_of_le] <;> omega
theorem J_abs_ok (N : Nat) (x : Int32) : J_abs N x = some (abv x) := by unfold J_abs abv; split <;> rfl
section RD
variable {N n : Nat} {c r : St}
/-- what the calls on readings rest on -/
def Rd (n : Nat) (c r : St) : Prop := n ≤ 24 ∧ gI c 15 = nI n ∧ gI r 10 = nI n ∧ gI c 16 = gI r 11 ∧ ib (gI c 16) 1 50 ∧ gA c 49 = gA r 13 ∧ gA c 50 = gA r 14 ∧ bnd (gA c 49) n 0 1200 ∧ bnd (gA c 50) n (-999) 600 ∧ (∀ k, k < n → (gA c 50).getD k 0 = -999 ∨ -300 ≤ ((gA c 50).getD k 0).toInt) ∧ (gA c 49).length = 24 ∧ (gA c 50).length = 24
theorem Rel.rd (h : Rel c r) : ∃ n, Rd n c r := by
  obtain ⟨n, q1, q2, q3, q4, q5, q6, q7, q8, q9, q10⟩ := h.rRead
  exact ⟨n, q1, q2, q3, q4, q5, q6, q7, q8, q9, q10, h.lenC.1 49, h.lenC.1 50⟩
def rs (c : St) (k : Nat) (x : Int32) : Int32 := gI c 16 * abv (x - (gA c 49).getD k 0)
theorem rs_toInt (hR : Rd n c r) {k : Nat} (hk : k < n) {x : Int32} (hx : ib x 0 1200) : (rs c k x).toInt = (gI c 16).toInt * ab (x.toInt - ((gA c 49).getD k 0).toInt) ∧ 0 ≤ (rs c k x).toInt ∧ (rs c k x).toInt ≤ 60000 := by
  obtain ⟨q1, q2, q3, q4, q5, q6, q7, q8, q9, q10, l1, l2⟩ := hR
  have hb := q8 k hk
  have e1 : (x - (gA c 49).getD k 0).toInt = x.toInt - ((gA c 49).getD k 0).toInt := sub_toInt (by omega) (by omega)
  have e2 := abv_toInt (x := x - (gA c 49).getD k 0) (by omega)
  rw [e1] at e2
  have b := ab_bnd (x := x.toInt - ((gA c 49).getD k 0).toInt) (m := 1200) (by omega) (by omega)
  have hm := mul_bnd (a := (gI c 16).toInt) (b := ab (x.toInt - ((gA c 49).getD k 0).toInt)) (by omega) q5.2 b.1 b.2
  have e3 : (rs c k x).toInt = (gI c 16).toInt * ab (x.toInt - ((gA c 49).getD k 0).toInt) := by
    unfold rs
    rw [mul_toInt (by rw [e2]; omega) (by rw [e2]; omega), e2]
  rw [e3]
  exact ⟨rfl, hm.1, by omega⟩
theorem reach_ok (hR : Rd n c r) {k : Nat} (hk : k < n) {x : Int32} (hx : ib x 0 1200) : R_reach N r (nI k) x = some (rs c k x) := by
  obtain ⟨q1, q2, q3, q4, q5, q6, q7, q8, q9, q10, l1, l2⟩ := hR
  have hb := q8 k hk
  unfold R_reach R_reach_p23
  rw [← q6, ← q4, ld_nI (by omega) (by omega), Option.bind_some]
  have e : (if 0 ≤ (gA c 49).getD k 0 - x then some (gI c 16 * ((gA c 49).getD k 0 - x)) else some (gI c 16 * -((gA c 49).getD k 0 - x))) = some (gI c 16 * abv ((gA c 49).getD k 0 - x)) := by
    unfold abv; split <;> rfl
  rw [e]
  unfold rs
  refine congrArg (fun z => some (gI c 16 * z)) (Int32.toInt_inj.mp ?_)
  have e1 : (x - (gA c 49).getD k 0).toInt = x.toInt - ((gA c 49).getD k 0).toInt := sub_toInt (by omega) (by omega)
  have e2 : ((gA c 49).getD k 0 - x).toInt = ((gA c 49).getD k 0).toInt - x.toInt := sub_toInt (by omega) (by omega)
  rw [abv_toInt (by omega), abv_toInt (by omega), e1, e2, ab_sym]
def lov (c : St) (x : Int32) : Nat → Int32
  | 0 => -300
  | k + 1 => if (gA c 50).getD k 0 = -999 then lov c x k else if lov c x k < (gA c 50).getD k 0 - rs c k x then (gA c 50).getD k 0 - rs c k x else lov c x k
def hiv (c : St) (x : Int32) : Nat → Int32
  | 0 => 600
  | k + 1 => if (gA c 50).getD k 0 = -999 then hiv c x k else if (gA c 50).getD k 0 + rs c k x < hiv c x k then (gA c 50).getD k 0 + rs c k x else hiv c x k
theorem lov_succ (c : St) (x : Int32) (k : Nat) : lov c x (k + 1) = if (gA c 50).getD k 0 = -999 then lov c x k else if lov c x k < (gA c 50).getD k 0 - rs c k x then (gA c 50).getD k 0 - rs c k x else lov c x k := rfl
theorem hiv_succ (c : St) (x : Int32) (k : Nat) : hiv c x (k + 1) = if (gA c 50).getD k 0 = -999 then hiv c x k else if (gA c 50).getD k 0 + rs c k x < hiv c x k then (gA c 50).getD k 0 + rs c k x else hiv c x k := rfl
theorem isRead_ok (hl : (gA c 50).length = 24) {k : Nat} (hk : k < 24) : Readings_isRead N c (nI k) = some (if (gA c 50).getD k 0 = -999 then 0 else 1) := by
  unfold Readings_isRead
  rw [ld_nI (by omega) (by omega), Option.bind_some]
  split <;> rfl
theorem least_ok (hN : 100 < N) (hR : Rd n c r) (x : Int32) : Readings_least N c x = some (lov c x n) := by
  obtain ⟨q1, q2, q3, q4, q5, q6, q7, q8, q9, q10, l1, l2⟩ := hR
  unfold Readings_least
  refine for_up (P := fun f k => Readings_least_p6 N c f x (lov c x k) (nI k) = some (lov c x n)) (m := n) ?_ ?_ N 0 (by omega) (by omega)
  · intro f
    show Readings_least_p6b _ _ _ _ _ _ = _
    unfold Readings_least_p6b
    rw [q2, if_pos (nI_stop n)]
  · intro f k hk ih
    show Readings_least_p6b _ _ _ _ _ _ = _
    unfold Readings_least_p6b Readings_least_p50 J_max
    rw [q2, if_neg (nI_on hk (by omega)), isRead_ok l2 (by omega), Option.bind_some, nI_1]
    rw [lov_succ] at ih
    by_cases g : (gA c 50).getD k 0 = -999
    · rw [if_pos g] at ih ⊢
      rw [if_pos rfl]
      exact ih
    · rw [if_neg g] at ih ⊢
      rw [if_neg (by decide), ld_nI (by omega) (by omega), Option.bind_some, ld_nI (by omega) (by omega), Option.bind_some, J_abs_ok, Option.bind_some]
      show Option.bind (if lov c x k < (gA c 50).getD k 0 - rs c k x then _ else _) _ = _
      split
      · rename_i z; rw [if_pos z] at ih; exact ih
      · rename_i z; rw [if_neg z] at ih; exact ih
theorem greatest_ok (hN : 100 < N) (hR : Rd n c r) (x : Int32) : Readings_greatest N c x = some (hiv c x n) := by
  obtain ⟨q1, q2, q3, q4, q5, q6, q7, q8, q9, q10, l1, l2⟩ := hR
  unfold Readings_greatest
  refine for_up (P := fun f k => Readings_greatest_p6 N c f x (hiv c x k) (nI k) = some (hiv c x n)) (m := n) ?_ ?_ N 0 (by omega) (by omega)
  · intro f
    show Readings_greatest_p6b _ _ _ _ _ _ = _
    unfold Readings_greatest_p6b
    rw [q2, if_pos (nI_stop n)]
  · intro f k hk ih
    show Readings_greatest_p6b _ _ _ _ _ _ = _
    unfold Readings_greatest_p6b Readings_greatest_p50 J_min
    rw [q2, if_neg (nI_on hk (by omega)), isRead_ok l2 (by omega), Option.bind_some, nI_1]
    rw [hiv_succ] at ih
    by_cases g : (gA c 50).getD k 0 = -999
    · rw [if_pos g] at ih ⊢
      rw [if_pos rfl]
      exact ih
    · rw [if_neg g] at ih ⊢
      rw [if_neg (by decide), ld_nI (by omega) (by omega), Option.bind_some, ld_nI (by omega) (by omega), Option.bind_some, J_abs_ok, Option.bind_some]
      show Option.bind (if (gA c 50).getD k 0 + rs c k x < hiv c x k then _ else _) _ = _
      split
      · rename_i z; rw [if_pos z] at ih; exact ih
      · rename_i z; rw [if_neg z] at ih; exact ih
theorem couldBe_ok (hN : 100 < N) (hR : Rd n c r) {x : Int32} (hx : ib x 0 1200) : R_couldBe N r x 0 = some (lov c x n) ∧ R_couldBe N r x 1 = some (hiv c x n) := by
  have hR0 := hR
  obtain ⟨q1, q2, q3, q4, q5, q6, q7, q8, q9, q10, l1, l2⟩ := hR
  unfold R_couldBe R_couldBe_p13
  constructor
  · rw [if_neg (fun q => q rfl)]
    refine for_up (P := fun f k => R_couldBe_p17 N r f x 0 (lov c x k) (nI k) = some (lov c x n)) (m := n) ?_ ?_ N 0 (by omega) (by omega)
    · intro f
      show R_couldBe_p17b _ _ _ _ _ _ _ = _
      unfold R_couldBe_p17b
      rw [q3, if_pos (nI_stop n)]
    · intro f k hk ih
      show R_couldBe_p17b _ _ _ _ _ _ _ = _
      unfold R_couldBe_p17b R_couldBe_p76 R_couldBe_p109 R_couldBe_p110
      rw [q3, if_neg (nI_on hk (by omega)), ← q7, ld_nI (by omega) (by omega), Option.bind_some, nI_1]
      rw [lov_succ] at ih
      by_cases g : (gA c 50).getD k 0 = -999
      · rw [if_pos g] at ih ⊢
        exact ih
      · rw [if_neg g] at ih ⊢
        rw [if_neg (fun q => q rfl), Option.bind_some, reach_ok hR0 hk hx, Option.bind_some, if_neg (fun q => q rfl)]
        by_cases z : lov c x k < (gA c 50).getD k 0 - rs c k x
        · rw [if_pos z] at ih; rw [if_neg (Int32.not_le.mpr z)]; exact ih
        · rw [if_neg z] at ih; rw [if_pos (Int32.not_lt.mp z)]; exact ih
  · rw [if_pos (by decide)]
    refine for_up (P := fun f k => R_couldBe_p17 N r f x 1 (hiv c x k) (nI k) = some (hiv c x n)) (m := n) ?_ ?_ N 0 (by omega) (by omega)
    · intro f
      show R_couldBe_p17b _ _ _ _ _ _ _ = _
      unfold R_couldBe_p17b
      rw [q3, if_pos (nI_stop n)]
    · intro f k hk ih
      show R_couldBe_p17b _ _ _ _ _ _ _ = _
      unfold R_couldBe_p17b R_couldBe_p76 R_couldBe_p109 R_couldBe_p110
      rw [q3, if_neg (nI_on hk (by omega)), ← q7, ld_nI (by omega) (by omega), Option.bind_some, nI_1]
      rw [hiv_succ] at ih
      by_cases g : (gA c 50).getD k 0 = -999
      · rw [if_pos g] at ih ⊢
        exact ih
      · rw [if_neg g] at ih ⊢
        rw [if_pos (by decide), Option.bind_some, reach_ok hR0 hk hx, Option.bind_some, if_pos (by decide)]
        by_cases z : (gA c 50).getD k 0 + rs c k x < hiv c x k
        · rw [if_pos z] at ih; rw [if_neg (Int32.not_le.mpr z)]; exact ih
        · rw [if_neg z] at ih; rw [if_pos (Int32.not_lt.mp z)]; exact ih
def hr (c : St) (k : Nat) : Int := ((gA c 49).getD k 0).toInt
def vr (c : St) (k : Nat) : Int := ((gA c 50).getD k 0).toInt
def rdd (c : St) (k : Nat) : Prop := ¬ (gA c 50).getD k 0 = -999
theorem lov_le (hR : Rd n c r) {x : Int32} (hx : ib x 0 1200) (w : Int) : ∀ k, k ≤ n → (-300 ≤ (lov c x k).toInt ∧ (lov c x k).toInt ≤ 600) ∧ ((lov c x k).toInt ≤ w ↔ (-300 ≤ w ∧ ∀ i, i < k → rdd c i → vr c i - (gI c 16).toInt * ab (x.toInt - hr c i) ≤ w)) := by
  intro k
  induction k with
  | zero =>
    intro _
    have e : (-300 : Int32).toInt = -300 := rfl
    unfold lov
    rw [e]
    exact ⟨by omega, fun h => ⟨h, fun i hi => absurd hi (Nat.not_lt_zero i)⟩, fun h => h.1⟩
  | succ k ih =>
    intro hk
    obtain ⟨b, e⟩ := ih (by omega)
    unfold lov
    by_cases g : (gA c 50).getD k 0 = -999
    · rw [if_pos g]
      refine ⟨b, e.trans ⟨fun h => ⟨h.1, fun i hi hr => ?_⟩, fun h => ⟨h.1, fun i hi hr => h.2 i (by omega) hr⟩⟩⟩
      by_cases q : i = k
      · subst q; exact absurd g hr
      · exact h.2 i (by omega) hr
    · rw [if_neg g]
      obtain ⟨r1, r2, r3⟩ := rs_toInt hR (k := k) (by omega) hx
      have hb := hR.2.2.2.2.2.2.2.2.1 k (by omega)
      have es : ((gA c 50).getD k 0 - rs c k x).toInt = vr c k - (rs c k x).toInt := by unfold vr; exact sub_toInt (by omega) (by omega)
      have hk2 : ∀ z : Int, (z ≤ w ∧ vr c k - (rs c k x).toInt ≤ w) ↔ (z ≤ w ∧ vr c k - (gI c 16).toInt * ab (x.toInt - hr c k) ≤ w) := fun z => by rw [r1]; exact Iff.rfl
      have hall : (∀ i, i < k + 1 → rdd c i → vr c i - (gI c 16).toInt * ab (x.toInt - hr c i) ≤ w) ↔ ((∀ i, i < k → rdd c i → vr c i - (gI c 16).toInt * ab (x.toInt - hr c i) ≤ w) ∧ vr c k - (gI c 16).toInt * ab (x.toInt - hr c k) ≤ w) := by
        constructor
        · exact fun h => ⟨fun i hi hr => h i (by omega) hr, h k (by omega) g⟩
        · intro h i hi hr
          by_cases q : i = k
          · subst q; exact h.2
          · exact h.1 i (by omega) hr
      have r1' : (gI c 16).toInt * ab (x.toInt - hr c k) = (rs c k x).toInt := r1.symm
      rw [hall, r1']
      have hv : vr c k = ((gA c 50).getD k 0).toInt := rfl
      by_cases z : lov c x k < (gA c 50).getD k 0 - rs c k x
      · rw [if_pos z]
        rw [Int32.lt_iff_toInt_lt] at z
        refine ⟨by omega, ?_⟩
        constructor
        · intro h
          have := e.mp (by omega)
          exact ⟨this.1, this.2, by omega⟩
        · intro h; omega
      · rw [if_neg z]
        rw [Int32.lt_iff_toInt_lt] at z
        refine ⟨b, ?_⟩
        constructor
        · intro h
          have := e.mp h
          exact ⟨this.1, this.2, by omega⟩
        · intro h; exact e.mpr ⟨h.1, h.2.1⟩
theorem hiv_ge (hR : Rd n c r) {x : Int32} (hx : ib x 0 1200) (w : Int) : ∀ k, k ≤ n → (-999 ≤ (hiv c x k).toInt ∧ (hiv c x k).toInt ≤ 600) ∧ (w ≤ (hiv c x k).toInt ↔ (w ≤ 600 ∧ ∀ i, i < k → rdd c i → w ≤ vr c i + (gI c 16).toInt * ab (x.toInt - hr c i))) := by
  intro k
  induction k with
  | zero =>
    intro _
    have e : (600 : Int32).toInt = 600 := rfl
    unfold hiv
    rw [e]
    exact ⟨by omega, fun h => ⟨h, fun i hi => absurd hi (Nat.not_lt_zero i)⟩, fun h => h.1⟩
  | succ k ih =>
    intro hk
    obtain ⟨b, e⟩ := ih (by omega)
    unfold hiv
    by_cases g : (gA c 50).getD k 0 = -999
    · rw [if_pos g]
      refine ⟨b, e.trans ⟨fun h => ⟨h.1, fun i hi hr => ?_⟩, fun h => ⟨h.1, fun i hi hr => h.2 i (by omega) hr⟩⟩⟩
      by_cases q : i = k
      · subst q; exact absurd g hr
      · exact h.2 i (by omega) hr
    · rw [if_neg g]
      obtain ⟨r1, r2, r3⟩ := rs_toInt hR (k := k) (by omega) hx
      have hb := hR.2.2.2.2.2.2.2.2.1 k (by omega)
      have es : ((gA c 50).getD k 0 + rs c k x).toInt = vr c k + (rs c k x).toInt := by unfold vr; exact add_toInt (by omega) (by omega)
      have hall : (∀ i, i < k + 1 → rdd c i → w ≤ vr c i + (gI c 16).toInt * ab (x.toInt - hr c i)) ↔ ((∀ i, i < k → rdd c i → w ≤ vr c i + (gI c 16).toInt * ab (x.toInt - hr c i)) ∧ w ≤ vr c k + (gI c 16).toInt * ab (x.toInt - hr c k)) := by
        constructor
        · exact fun h => ⟨fun i hi hr => h i (by omega) hr, h k (by omega) g⟩
        · intro h i hi hr
          by_cases q : i = k
          · subst q; exact h.2
          · exact h.1 i (by omega) hr
      have r1' : (gI c 16).toInt * ab (x.toInt - hr c k) = (rs c k x).toInt := r1.symm
      rw [hall, r1']
      have hv : vr c k = ((gA c 50).getD k 0).toInt := rfl
      by_cases z : (gA c 50).getD k 0 + rs c k x < hiv c x k
      · rw [if_pos z]
        rw [Int32.lt_iff_toInt_lt] at z
        refine ⟨by omega, ?_⟩
        constructor
        · intro h
          have := e.mp (by omega)
          exact ⟨this.1, this.2, by omega⟩
        · intro h; omega
      · rw [if_neg z]
        rw [Int32.lt_iff_toInt_lt] at z
        refine ⟨b, ?_⟩
        constructor
        · intro h
          have := e.mp h
          exact ⟨this.1, this.2, by omega⟩
        · intro h; exact e.mpr ⟨h.1, h.2.1⟩
/-- two readings agree -/
def cnd (c : St) (a b : Nat) : Prop := rdd c a → rdd c b → ab (vr c a - vr c b) ≤ (gI c 16).toInt * ab (hr c a - hr c b)
def AP (n : Nat) (c : St) : Prop := ∀ a b, b < a → a < n → cnd c a b
def Res (o : Option Int32) (P : Prop) : Prop := (o = some 1 ∧ P) ∨ (o = some 0 ∧ ¬ P)
theorem agree_ok (hN : 100 < N) (hR : Rd n c r) : Res (Readings_agree N c) (AP n c) := by
  have hR0 := hR
  obtain ⟨q1, q2, q3, q4, q5, q6, q7, q8, q9, q10, l1, l2⟩ := hR
  unfold Readings_agree
  refine for_up (P := fun f a => (∀ x y, y < x → x < a → cnd c x y) → Res (Readings_agree_p2 N c f (nI a)) (AP n c)) (m := n) ?_ ?_ N 0 (by omega) (by omega) (fun x y _ h => absurd h (Nat.not_lt_zero x))
  · intro f h
    show Res (Readings_agree_p2b _ _ _ _) _
    unfold Readings_agree_p2b
    rw [q2, if_pos (nI_stop n)]
    exact Or.inl ⟨rfl, h⟩
  · intro f a ha ih h
    show Res (Readings_agree_p2b _ _ _ _) _
    unfold Readings_agree_p2b
    rw [q2, if_neg (nI_on ha (by omega))]
    refine for_up (P := fun f2 b => (∀ y, y < b → cnd c a y) → Res (Readings_agree_p12 N (Readings_agree_p2 N c f) c f2 (nI a) (nI b)) (AP n c)) (m := a) ?_ ?_ N 0 (by omega) (by omega) (fun y hy => absurd hy (Nat.not_lt_zero y))
    · intro f2 h2
      show Res (Readings_agree_p12b _ _ _ _ _ _) _
      unfold Readings_agree_p12b
      rw [if_pos (nI_stop a), nI_1]
      refine ih (fun x y hyx hx => ?_)
      by_cases e : x = a
      · subst e; exact h2 y hyx
      · exact h x y hyx (by omega)
    · intro f2 b hb ih2 h2
      have ha1 := q9 a (by omega)
      have hb1 := q9 b (by omega)
      have ha2 := q8 a (by omega)
      have hb2 := q8 b (by omega)
      have es : ((gA c 50).getD a 0 - (gA c 50).getD b 0).toInt = vr c a - vr c b := by unfold vr; exact sub_toInt (by omega) (by omega)
      have ea : (abv ((gA c 50).getD a 0 - (gA c 50).getD b 0)).toInt = ab (vr c a - vr c b) := by
        rw [abv_toInt (by rw [es]; unfold vr; omega), es]
      have er := rs_toInt hR0 (k := b) (by omega) (x := (gA c 49).getD a 0) ha2
      have hskip : (¬ rdd c a ∨ ¬ rdd c b) → Res (Readings_agree_p12 N (Readings_agree_p2 N c f) c f2 (nI a) (nI (b + 1))) (AP n c) := fun hn => ih2 (fun y hy => by
        by_cases e : y = b
        · subst e; exact fun u v => absurd hn (by rintro (z | z); exact z u; exact z v)
        · exact h2 y (by omega))
      show Res (Readings_agree_p12b _ _ _ _ _ _) _
      unfold Readings_agree_p12b Readings_agree_p77
      rw [if_neg (nI_on hb (by omega)), ld_nI (by omega) (by omega), Option.bind_some, ld_nI (by omega) (by omega), Option.bind_some, J_abs_ok, Option.bind_some, isRead_ok l2 (by omega), Option.bind_some, isRead_ok l2 (by omega), nI_1]
      by_cases ra : (gA c 50).getD a 0 = -999
      · rw [if_pos ra, if_pos rfl]; exact hskip (Or.inl (fun q => q ra))
      · rw [if_neg ra, if_neg (by decide), Option.bind_some]
        by_cases rb : (gA c 50).getD b 0 = -999
        · rw [if_pos rb, if_pos rfl]; exact hskip (Or.inr (fun q => q rb))
        · rw [if_neg rb, if_neg (by decide), ld_nI (by omega) (by omega), Option.bind_some, ld_nI (by omega) (by omega), Option.bind_some, J_abs_ok, Option.bind_some]
          have key : (abv ((gA c 50).getD a 0 - (gA c 50).getD b 0) ≤ gI c 16 * abv ((gA c 49).getD a 0 - (gA c 49).getD b 0)) ↔ ab (vr c a - vr c b) ≤ (gI c 16).toInt * ab (hr c a - hr c b) := by
            rw [Int32.le_iff_toInt_le, ea]
            have : (gI c 16 * abv ((gA c 49).getD a 0 - (gA c 49).getD b 0)).toInt = (gI c 16).toInt * ab (hr c a - hr c b) := er.1
            rw [this]
          by_cases hc : abv ((gA c 50).getD a 0 - (gA c 50).getD b 0) ≤ gI c 16 * abv ((gA c 49).getD a 0 - (gA c 49).getD b 0)
          · rw [if_pos hc]
            refine ih2 (fun y hy => ?_)
            by_cases e : y = b
            · subst e; exact fun _ _ => key.mp hc
            · exact h2 y (by omega)
          · rw [if_neg hc]
            exact Or.inr ⟨rfl, fun hA => hc (key.mpr (hA a b hb ha ra rb))⟩
/-- one reading against all -/
def gnd (n : Nat) (c : St) (k : Nat) : Prop := rdd c k → (∀ i, i < n → rdd c i → vr c i - (gI c 16).toInt * ab (hr c k - hr c i) ≤ vr c k) ∧ ∀ i, i < n → rdd c i → vr c k ≤ vr c i + (gI c 16).toInt * ab (hr c k - hr c i)
theorem gnd_AP : (∀ k, k < n → gnd n c k) ↔ AP n c := by
  constructor
  · intro h a b hab ha ra rb
    have h1 := (h a ha ra).1 b (by omega) rb
    have h2 := (h a ha ra).2 b (by omega) rb
    unfold ab at h1 h2 ⊢
    split <;> omega
  · intro h k hk rk
    have key : ∀ i, i < n → rdd c i → ab (vr c k - vr c i) ≤ (gI c 16).toInt * ab (hr c k - hr c i) := by
      intro i hi ri
      by_cases e1 : i < k
      · exact h k i e1 hk rk ri
      · by_cases e2 : i = k
        · subst e2
          have z : ∀ t : Int, ab (t - t) = 0 := fun t => by rw [Int.sub_self]; rfl
          rw [z, z, Int.mul_zero]
          omega
        · have := h i k (by omega) hi ri rk
          rw [ab_sym (vr c k), ab_sym (hr c k)]
          exact this
    refine ⟨fun i hi ri => ?_, fun i hi ri => ?_⟩
    · have := key i hi ri
      unfold ab at this ⊢
      split at this <;> omega
    · have := key i hi ri
      unfold ab at this ⊢
      split at this <;> omega
theorem goTogether_ok (hN : 100 < N) (hR : Rd n c r) : Res (R_goTogether N r) (AP n c) := by
  have hR0 := hR
  obtain ⟨q1, q2, q3, q4, q5, q6, q7, q8, q9, q10, l1, l2⟩ := hR
  unfold R_goTogether
  refine for_up (P := fun f a => (∀ x, x < a → gnd n c x) → Res (R_goTogether_p2 N r f (nI a)) (AP n c)) (m := n) ?_ ?_ N 0 (by omega) (by omega) (fun x h => absurd h (Nat.not_lt_zero x))
  · intro f h
    show Res (R_goTogether_p2b _ _ _ _) _
    unfold R_goTogether_p2b
    rw [q3, if_pos (nI_stop n)]
    exact Or.inl ⟨rfl, gnd_AP.mp h⟩
  · intro f a ha ih h
    have hx := q8 a ha
    have hv := q9 a ha
    obtain ⟨k1, k2⟩ := couldBe_ok (N := N) hN hR0 (x := (gA c 49).getD a 0) hx
    show Res (R_goTogether_p2b _ _ _ _) _
    unfold R_goTogether_p2b R_goTogether_p64 R_goTogether_p62
    rw [q3, if_neg (nI_on ha (by omega)), ← q7, ← q6, ld_nI (by omega) (by omega), Option.bind_some, nI_1]
    by_cases ra : (gA c 50).getD a 0 = -999
    · rw [if_pos ra]
      refine ih (fun x hx2 => ?_)
      by_cases e : x = a
      · subst e; exact fun z => absurd ra z
      · exact h x (by omega)
    · rw [if_neg ra, ld_nI (by omega) (by omega), Option.bind_some, k1]
      simp only [Option.bind_some, k2]
      have m300 : -300 ≤ vr c a := by
        rcases q10 a ha with e | e
        · exact absurd e ra
        · exact e
      have L := (lov_le hR0 (x := (gA c 49).getD a 0) hx (vr c a) n (Nat.le_refl n)).2
      have H := (hiv_ge hR0 (x := (gA c 49).getD a 0) hx (vr c a) n (Nat.le_refl n)).2
      by_cases c1 : (gA c 50).getD a 0 < lov c ((gA c 49).getD a 0) n
      · rw [if_pos c1]
        refine Or.inr ⟨rfl, fun hA => ?_⟩
        have := (gnd_AP.mpr hA a ha ra).1
        have := L.mpr ⟨m300, this⟩
        rw [Int32.lt_iff_toInt_lt] at c1
        unfold vr at this
        omega
      · rw [if_neg c1]
        by_cases c2 : (gA c 50).getD a 0 ≤ hiv c ((gA c 49).getD a 0) n
        · rw [if_pos c2]
          refine ih (fun x hx2 => ?_)
          by_cases e : x = a
          · subst e
            intro _
            rw [Int32.lt_iff_toInt_lt] at c1
            rw [Int32.le_iff_toInt_le] at c2
            exact ⟨(L.mp (by unfold vr; omega)).2, (H.mp (by unfold vr; omega)).2⟩
          · exact h x (by omega)
        · rw [if_neg c2]
          refine Or.inr ⟨rfl, fun hA => ?_⟩
          have := (gnd_AP.mpr hA a ha ra).2
          have := H.mpr ⟨hv.2, this⟩
          rw [Int32.le_iff_toInt_le] at c2
          unfold vr at this
          omega
theorem together_same (hN : 100 < N) (hR : Rd n c r) : ∃ v, Readings_agree N c = some v ∧ R_goTogether N r = some v ∧ (v = 0 ∨ v = 1) := by
  rcases agree_ok (N := N) hN hR with ⟨a1, a2⟩ | ⟨a1, a2⟩
  · rcases goTogether_ok (N := N) hN hR with ⟨b1, b2⟩ | ⟨b1, b2⟩
    · exact ⟨1, a1, b1, Or.inr rfl⟩
    · exact absurd a2 b2
  · rcases goTogether_ok (N := N) hN hR with ⟨b1, b2⟩ | ⟨b1, b2⟩
    · exact absurd b2 a2
    · exact ⟨0, a1, b1, Or.inl rfl⟩
theorem S_could (h : Rel c r) (hN : 100 < N) (x1 x2 : Int32) : Sam (C_could N c x1 x2) (R_could N r x1 x2) := by
  obtain ⟨n, hR⟩ := h.rd
  obtain ⟨v, h1, h2, h3⟩ := together_same (N := N) hN hR
  unfold C_could C_could_p20 R_could R_could_p20
  simp only [C_within_eq, R_in_eq, Option.bind_some, if_bz, if_nbz, bind_id, h1, h2]
  refine Sam.ite (fun g1 => Sam.ite (fun g2 => ?_) (fun _ => Sam.ret)) (fun _ => Sam.ret)
  have e0 : (0 : Int32).toInt = 0 := rfl
  have e1 : (1 : Int32).toInt = 1 := rfl
  have e12 : (1200 : Int32).toInt = 1200 := rfl
  have hx := ib_of g1
  obtain ⟨k1, k2⟩ := couldBe_ok (N := N) hN hR (x := x1) (by rw [e0, e12] at hx; exact hx)
  by_cases hv : v = 0
  · rw [if_pos hv, if_neg (fun q => q hv)]; exact Sam.ret
  · rw [if_neg hv, if_pos hv]
    obtain ⟨m, rfl, hm⟩ := nat_in g2
    have : m = 0 ∨ m = 1 := by omega
    rcases this with rfl | rfl
    · rw [if_neg (fun q => q rfl)]
      exact Sam.of (least_ok hN hR x1) k1
    · rw [if_pos (by decide)]
      exact Sam.of (greatest_ok hN hR x1) k2
theorem S_was (h : Rel c r) (hN : 2000 < N) (x1 x2 x3 : Int32) : Sam (C_was N c x1 x2 x3) (R_was N r x1 x2 x3) := by
  obtain ⟨n, hR⟩ := h.rd
  obtain ⟨v, h1, h2, h3⟩ := together_same (N := N) (by omega) hR
  unfold C_was C_was_p23 C_isWarmth R_was R_was_p35
  simp only [C_within_eq, R_in_eq, Option.bind_some, if_bz, if_nbz, bind_id, h1, h2]
  have e0 : (0 : Int32).toInt = 0 := rfl
  have e12 : (1200 : Int32).toInt = 1200 := rfl
  by_cases g : 0 ≤ x1 ∧ x1 ≤ x2 ∧ x2 ≤ 1200
  · have g2 : x1 ≤ 1200 := Int32.le_trans g.2.1 g.2.2
    rw [if_neg (Int32.not_lt.mpr g.1), if_neg (Int32.not_lt.mpr g.2.1), if_neg (Int32.not_lt.mpr g.2.2), if_pos (show 0 ≤ x1 ∧ x1 ≤ 1200 from ⟨g.1, g2⟩), if_pos (show x1 ≤ x2 ∧ x2 ≤ 1200 from ⟨g.2.1, g.2.2⟩)]
    refine Sam.ite (fun g3 => ?_) (fun _ => Sam.ret)
    by_cases hv : v = 0
    · rw [if_pos hv, if_neg (fun q => q hv)]; exact Sam.ret
    · rw [if_neg hv, if_pos hv]
      obtain ⟨A, rfl, hA⟩ := nat_in ⟨g.1, g2⟩
      obtain ⟨B, rfl, hB⟩ := nat_in ⟨Int32.le_trans g.1 g.2.1, g.2.2⟩
      have hAB : A ≤ B := (nI_leI (by omega) (by omega)).mp g.2.1
      have two : ∀ (f k : Nat), k ≤ B + 1 → B + 1 - k < f → R_was_p53 N r f (nI B) x3 2 (nI k) = some 2 := by
        refine for_up (P := fun f k => R_was_p53 N r f (nI B) x3 2 (nI k) = some 2) ?_ ?_
        · intro f
          show R_was_p53b _ _ _ _ _ _ _ = _
          unfold R_was_p53b
          rw [if_pos (nI_lt (by omega) (by omega))]
        · intro f k hk ih
          obtain ⟨k1, k2⟩ := couldBe_ok (N := N) (by omega) hR (x := nI k) ⟨by rw [nI_toInt (by omega)]; omega, by rw [nI_toInt (by omega)]; omega⟩
          show R_was_p53b _ _ _ _ _ _ _ = _
          unfold R_was_p53b R_was_p90 R_was_p106
          rw [if_neg (nI_nlt (by omega) (by omega)), k1, k2, Option.bind_some, nI_1]
          split
          · rw [Option.bind_some]
            split
            · rw [if_pos (by decide)]; exact ih
            · rw [if_pos (by decide)]; exact ih
          · rw [if_pos (by decide)]; exact ih
      have main : ∀ (f k : Nat), k ≤ B + 1 → B + 1 - k < f → (B + 1 - k < f → ∀ t : Int32, (t = 0 ∨ t = 1) → Sam (Readings_above_p6 N c f (nI B) x3 t (nI k)) (R_was_p53 N r f (nI B) x3 t (nI k))) := by
        refine for_up (P := fun f k => B + 1 - k < f → ∀ t : Int32, (t = 0 ∨ t = 1) → Sam (Readings_above_p6 N c f (nI B) x3 t (nI k)) (R_was_p53 N r f (nI B) x3 t (nI k))) ?_ ?_
        · intro f _ t _
          show Sam (Readings_above_p6b _ _ _ _ _ _ _) (R_was_p53b _ _ _ _ _ _ _)
          unfold Readings_above_p6b R_was_p53b
          rw [if_pos (nI_lt (by omega) (by omega)), if_pos (nI_lt (by omega) (by omega))]
          exact Sam.ret
        · intro f k hk ih hf t ht
          obtain ⟨k1, k2⟩ := couldBe_ok (N := N) (by omega) hR (x := nI k) ⟨by rw [nI_toInt (by omega)]; omega, by rw [nI_toInt (by omega)]; omega⟩
          show Sam (Readings_above_p6b _ _ _ _ _ _ _) (R_was_p53b _ _ _ _ _ _ _)
          unfold Readings_above_p6b Readings_above_p37 R_was_p53b R_was_p90 R_was_p106
          rw [if_neg (nI_nlt (by omega) (by omega)), if_neg (nI_nlt (by omega) (by omega)), k1, k2, least_ok (by omega) hR, greatest_ok (by omega) hR, Option.bind_some, Option.bind_some, nI_1]
          refine Sam.ite (fun _ => ?_) (fun _ => ?_)
          · refine Sam.ite (fun _ => ?_) (fun _ => ?_)
            · rw [if_pos (by rcases ht with rfl | rfl <;> decide)]
              exact ih (by omega) t ht
            · rcases ht with rfl | rfl
              · rw [if_neg (by decide)]; exact ih (by omega) 1 (Or.inr rfl)
              · rw [if_pos (by decide)]; exact ih (by omega) 1 (Or.inr rfl)
          · rw [if_neg (by rcases ht with rfl | rfl <;> decide)]
            exact Sam.of rfl (two f (k + 1) (by omega) (by omega))
      unfold Readings_above
      exact main N A (by omega) (by omega) (by omega) 0 (Or.inl rfl)
  · have hR2 : (if x1 < 0 then some (-102 : Int32) else if x2 < x1 then some (-102) else if 1200 < x2 then some (-102) else if -300 ≤ x3 ∧ x3 ≤ 600 then if v = 0 then some (-1) else Readings_above N c x1 x2 x3 else some (-102)) = some (-102) := by
      by_cases a1 : x1 < 0
      · rw [if_pos a1]
      · rw [if_neg a1]
        by_cases a2 : x2 < x1
        · rw [if_pos a2]
        · rw [if_neg a2, if_pos]
          rw [← Int32.not_le]
          exact fun q => g ⟨Int32.not_lt.mp a1, Int32.not_lt.mp a2, q⟩
    rw [hR2]
    by_cases a1 : 0 ≤ x1 ∧ x1 ≤ 1200
    · rw [if_pos a1, if_neg (fun q => g ⟨a1.1, q.1, q.2⟩)]; exact Sam.ret
    · rw [if_neg a1]; exact Sam.ret
end RD
