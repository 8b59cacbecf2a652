/-! PURE: floors, spoiling, the pull of the cells beside -/
theorem toInt_rng (x : Int32) : -2147483648 ≤ x.toInt ∧ x.toInt < 2147483648 := ⟨Int32.le_toInt x, Int32.toInt_lt x⟩
def fl (x : Int32) : Int32 := Int32.ofInt (x.toInt / 100)
theorem fl_toInt (x : Int32) : (fl x).toInt = x.toInt / 100 := by
  have := toInt_rng x
  exact Int32.toInt_ofInt_of_le (by omega) (by omega)
theorem tdiv100 (a : Int) : a.tdiv 100 = if 0 ≤ a then a / 100 else -((-a) / 100) := by
  by_cases h : 0 ≤ a
  · rw [if_pos h, Int.tdiv_eq_ediv_of_nonneg h]
  · rw [if_neg h, ← Int.tdiv_eq_ediv_of_nonneg (a := -a) (by omega), Int.neg_tdiv, Int.neg_neg]
theorem div100 (x : Int32) : (x / 100).toInt = if 0 ≤ x.toInt then x.toInt / 100 else -((-x.toInt) / 100) := by
  have := toInt_rng x
  rw [Int32.toInt_div, show (100 : Int32).toInt = 100 from rfl, tdiv100, Int.bmod_eq_of_le] <;> split <;> omega
theorem xor_nonneg (x : Int32) : 0 ≤ (x ^^^ (100 : Int32)) ↔ 0 ≤ x.toInt := by
  have e : ∀ y : Int32, 0 ≤ y ↔ y.toBitVec.msb = false := fun y => by
    rw [Int32.le_iff_toInt_le, show (0 : Int32).toInt = 0 from rfl]
    show 0 ≤ y.toBitVec.toInt ↔ _
    rw [BitVec.msb_eq_toInt]
    simp
  have e2 : 0 ≤ x.toInt ↔ (0 : Int32) ≤ x := by rw [Int32.le_iff_toInt_le, show (0 : Int32).toInt = 0 from rfl]
  rw [e2, e, e, Int32.toBitVec_xor, BitVec.msb_xor, show (100 : Int32).toBitVec.msb = false from rfl, Bool.xor_false]
theorem floorDiv_ok (N : Nat) (x : Int32) : J_floorDiv N x 100 = some (fl x) := by
  have hr := toInt_rng x
  have e100 : (100 : Int32).toInt = 100 := rfl
  have ed := div100 x
  unfold J_floorDiv J_floorDiv_p21 dv
  rw [if_neg (by decide), Option.bind_some]
  by_cases h : 0 ≤ x.toInt
  · rw [if_pos ((xor_nonneg x).mpr h)]
    refine congrArg some (Int32.toInt_inj.mp ?_)
    rw [fl_toInt, ed, if_pos h]
  · rw [if_neg (fun q => h ((xor_nonneg x).mp q))]
    rw [if_neg h] at ed
    have em : (x / 100 * 100).toInt = (x / 100).toInt * 100 := by
      rw [mul_toInt (by rw [e100]; omega) (by rw [e100]; omega), e100]
    by_cases hx : x / 100 * 100 = x
    · rw [if_pos hx]
      refine congrArg some (Int32.toInt_inj.mp ?_)
      rw [fl_toInt]
      rw [hx] at em
      omega
    · rw [if_neg hx]
      refine congrArg some (Int32.toInt_inj.mp ?_)
      have e1 : (1 : Int32).toInt = 1 := rfl
      rw [fl_toInt, sub_toInt (by omega) (by omega), e1]
      have hne : (x / 100 * 100).toInt ≠ x.toInt := fun q => hx (Int32.toInt_inj.mp q)
      omega
theorem floorBy_ok (N : Nat) (x : Int32) (h1 : -1000000 ≤ x.toInt) (h2 : x.toInt ≤ 1000000) : R_floorBy N x 100 = some (fl x) := by
  unfold R_floorBy dv
  simp only [if_neg (show ¬ (100 : Int32) = 0 by decide), Option.bind_some]
  have e100 : (100 : Int32).toInt = 100 := rfl
  have e1 : (1 : Int32).toInt = 1 := rfl
  have e0 : (0 : Int32).toInt = 0 := rfl
  by_cases h : x < 0
  · rw [if_pos h]
    rw [Int32.lt_iff_toInt_lt, e0] at h
    refine congrArg some (Int32.toInt_inj.mp ?_)
    have e99 : (100 - 1 : Int32).toInt = 99 := rfl
    have es : (100 - 1 - x).toInt = 99 - x.toInt := by rw [sub_toInt (by omega) (by omega), e99]
    have ed := div100 (100 - 1 - x)
    rw [es, if_pos (by omega)] at ed
    rw [fl_toInt, Int32.toInt_neg, ed, Int.bmod_eq_of_le] <;> omega
  · rw [if_neg h]
    rw [Int32.lt_iff_toInt_lt, e0] at h
    refine congrArg some (Int32.toInt_inj.mp ?_)
    rw [fl_toInt, div100, if_pos (by omega)]
set_option maxRecDepth 10000 in
theorem carc_tab : ∀ k, k < 901 → Lots_carcassSpoils 0 (nI k - 300) = (if 0 ≤ nI k - 300 + 50 then dv (nI k - 300 + 50) 10 else some 0) := by decide +kernel
theorem as_nI {x : Int32} (h : ib x (-300) 600) : ∃ k, k < 901 ∧ x = nI k - 300 := by
  have e300 : (300 : Int32).toInt = 300 := rfl
  have hp : (x + 300).toInt = x.toInt + 300 := by rw [add_toInt (by omega) (by omega), e300]
  obtain ⟨q, e⟩ := nat_of (x := x + 300) (by omega)
  refine ⟨(x + 300).toNatClampNeg, by omega, ?_⟩
  exact (Int32.sub_eq_iff_eq_add.mpr q.symm).symm
theorem carc_ok {w : Int32} (h : ib w (-300) 600) (N : Nat) : Lots_carcassSpoils N w = (if 0 ≤ w + 50 then dv (w + 50) 10 else some 0) := by
  obtain ⟨k, hk, rfl⟩ := as_nI h
  exact carc_tab k hk
/-- what a lot of this kind spoils in an hour at this warmth -/
def spl (kd w : Int32) : Int32 := (R_spoils 0 kd w).getD 0
theorem R_spoils_ok (N : Nat) (kd w : Int32) : R_spoils N kd w = some (spl kd w) := by
  have : ∃ v, R_spoils 0 kd w = some v := by
    unfold R_spoils R_spoils_p18 dv
    simp only [if_neg (show ¬ (10 : Int32) = 0 by decide), Option.bind_some]
    repeat (first | exact ⟨_, rfl⟩ | split)
  obtain ⟨v, hv⟩ := this
  have e : R_spoils N kd w = R_spoils 0 kd w := rfl
  unfold spl
  rw [e, hv]
  rfl
theorem C_spoils_ok (N : Nat) (kd : Int32) {w : Int32} (h : ib w (-300) 600) : Lots_spoils N kd w = some (spl kd w) := by
  rw [← R_spoils_ok N kd w]
  unfold Lots_spoils R_spoils R_spoils_p18
  rw [carc_ok h N]
  by_cases h0 : 0 ≤ w + 50
  · simp only [if_pos h0, dv, if_neg (show ¬ (10 : Int32) = 0 by decide), Option.bind_some]
  · simp only [if_neg h0, Option.bind_some]
def pul1 (w : List Int32) (k : Nat) : Int32 := if k < 4 then 0 else 0 + (w.getD (k - 4) 0 - w.getD k 0)
def pul2 (w : List Int32) (k : Nat) : Int32 := if 8 ≤ k then pul1 w k else pul1 w k + (w.getD (k + 4) 0 - w.getD k 0)
def pul3 (w : List Int32) (k : Nat) : Int32 := if k % 4 ≤ 0 then pul2 w k else pul2 w k + (w.getD (k - 1) 0 - w.getD k 0)
def pul (w : List Int32) (k : Nat) : Int32 := if 3 ≤ k % 4 then pul3 w k else pul3 w k + (w.getD (k + 1) 0 - w.getD k 0)
theorem add_dif {s x y : Int32} {i : Int} (hi : 0 ≤ i ∧ i ≤ 3) (hs : -900 * i ≤ s.toInt) (hs2 : s.toInt ≤ i * (600 - y.toInt)) (hs3 : i * (600 - y.toInt) ≤ 2700) (hx : ib x (-300) 600) (hy : ib y (-300) 600) : -900 * (i + 1) ≤ (s + (x - y)).toInt ∧ (s + (x - y)).toInt ≤ i * (600 - y.toInt) + (600 - y.toInt) := by
  have e1 : (x - y).toInt = x.toInt - y.toInt := sub_toInt (by omega) (by omega)
  rw [add_toInt (by omega) (by omega), e1]
  omega
theorem pul_bnd {w : List Int32} (hb : bnd w 12 (-300) 600) {k : Nat} (hk : k < 12) : -3600 ≤ (pul w k).toInt ∧ (pul w k).toInt ≤ 4 * (600 - (w.getD k 0).toInt) := by
  have hy := hb k hk
  have z : (0 : Int32).toInt = 0 := rfl
  have b1 : -900 ≤ (pul1 w k).toInt ∧ (pul1 w k).toInt ≤ 600 - (w.getD k 0).toInt := by
    unfold pul1
    split
    · rw [z]; omega
    · have := add_dif (s := 0) (i := 0) (by omega) (by rw [z]; omega) (by rw [z]; omega) (by omega) (hb (k - 4) (by omega)) hy
      omega
  have b2 : -1800 ≤ (pul2 w k).toInt ∧ (pul2 w k).toInt ≤ 2 * (600 - (w.getD k 0).toInt) := by
    unfold pul2
    split
    · omega
    · have := add_dif (s := pul1 w k) (i := 1) (by omega) (by omega) (by omega) (by omega) (hb (k + 4) (by omega)) hy
      omega
  have b3 : -2700 ≤ (pul3 w k).toInt ∧ (pul3 w k).toInt ≤ 3 * (600 - (w.getD k 0).toInt) := by
    unfold pul3
    split
    · omega
    · have := add_dif (s := pul2 w k) (i := 2) (by omega) (by omega) (by omega) (by omega) (hb (k - 1) (by omega)) hy
      omega
  unfold pul
  split
  · omega
  · have := add_dif (s := pul3 w k) (i := 3) (by omega) (by omega) (by omega) (by omega) (hb (k + 1) (by omega)) hy
    omega
theorem mul_up {a A P Q : Int} (h0 : 0 ≤ a) (h1 : a ≤ A) (h2 : P ≤ Q) (h3 : 0 ≤ Q) : a * P ≤ A * Q := Int.le_trans (Int.mul_le_mul_of_nonneg_left h2 h0) (Int.mul_le_mul_of_nonneg_right h1 h3)
theorem mul_dn {a A P Q : Int} (h0 : 0 ≤ a) (h1 : a ≤ A) (h2 : -Q ≤ P) (h3 : 0 ≤ Q) : -(A * Q) ≤ a * P := by
  have := mul_up h0 h1 (show -P ≤ Q by omega) h3
  rw [Int.mul_neg] at this
  omega
/-- the flow into a cell -/
def flo (lk sea : Int32) (o w : List Int32) (k : Nat) : Int32 := lk * pul w k + o.getD k 0 * (sea - w.getD k 0)
theorem flo_bnd {lk sea : Int32} {o w : List Int32} (hl : ib lk 0 20) (hs : ib sea (-50) 400) (ho : bnd o 12 0 20) (hb : bnd w 12 (-300) 600) {k : Nat} (hk : k < 12) : -1000000 ≤ (flo lk sea o w k).toInt ∧ (flo lk sea o w k).toInt ≤ 100 * (600 - (w.getD k 0).toInt) := by
  have hp := pul_bnd hb hk
  have hy := hb k hk
  have hoo := ho k hk
  have u1 := mul_up hl.1 hl.2 hp.2 (by omega)
  have d1 := mul_dn (P := (pul w k).toInt) (Q := 3600) hl.1 hl.2 (by omega) (by omega)
  have es : (sea - w.getD k 0).toInt = sea.toInt - (w.getD k 0).toInt := sub_toInt (by omega) (by omega)
  have u2 := mul_up (P := (sea - w.getD k 0).toInt) (Q := 600 - (w.getD k 0).toInt) hoo.1 hoo.2 (by omega) (by omega)
  have d2 := mul_dn (P := (sea - w.getD k 0).toInt) (Q := 1000) hoo.1 hoo.2 (by omega) (by omega)
  unfold flo
  have m1 : (lk * pul w k).toInt = lk.toInt * (pul w k).toInt := mul_toInt (by omega) (by omega)
  have m2 : (o.getD k 0 * (sea - w.getD k 0)).toInt = (o.getD k 0).toInt * (sea - w.getD k 0).toInt := mul_toInt (by omega) (by omega)
  rw [add_toInt (by omega) (by omega), m1, m2]
  omega
/-- the warmth of a cell an hour later -/
def nxw (lk cd sea runs : Int32) (o p w : List Int32) (k : Nat) : Int32 :=
  if (if runs = 0 then w.getD k 0 + fl (flo lk sea o w k) else if p.getD k 0 = 0 then w.getD k 0 + fl (flo lk sea o w k) else w.getD k 0 + fl (flo lk sea o w k) - cd) < -300 then -300 else (if runs = 0 then w.getD k 0 + fl (flo lk sea o w k) else if p.getD k 0 = 0 then w.getD k 0 + fl (flo lk sea o w k) else w.getD k 0 + fl (flo lk sea o w k) - cd)
theorem nxw_bnd {lk cd sea runs : Int32} {o p w : List Int32} (hl : ib lk 0 20) (hc : ib cd 0 60) (hs : ib sea (-50) 400) (ho : bnd o 12 0 20) (hb : bnd w 12 (-300) 600) {k : Nat} (hk : k < 12) : ib (nxw lk cd sea runs o p w k) (-300) 600 := by
  have hf := flo_bnd hl hs ho hb hk
  have hy := hb k hk
  have ef := fl_toInt (flo lk sea o w k)
  have e1 : (w.getD k 0 + fl (flo lk sea o w k)).toInt = (w.getD k 0).toInt + (flo lk sea o w k).toInt / 100 := by rw [add_toInt (by omega) (by omega), ef]
  have e2 : (w.getD k 0 + fl (flo lk sea o w k) - cd).toInt = (w.getD k 0).toInt + (flo lk sea o w k).toInt / 100 - cd.toInt := by rw [sub_toInt (by omega) (by omega), e1]
  have e3 : (-300 : Int32).toInt = -300 := rfl
  have key : ∀ v : Int32, v.toInt ≤ 600 → ib (if v < -300 then -300 else v) (-300) 600 := by
    intro v hv
    by_cases h : v < -300
    · rw [if_pos h]; exact ⟨by rw [e3]; omega, by rw [e3]; omega⟩
    · rw [if_neg h]
      rw [Int32.lt_iff_toInt_lt, e3] at h
      exact ⟨by omega, hv⟩
  unfold nxw
  refine key _ ?_
  split
  · omega
  · split <;> omega
theorem list_ext {l1 l2 : List Int32} (h : l1.length = l2.length) (e : ∀ k, k < l1.length → l1.getD k 0 = l2.getD k 0) : l1 = l2 := by
  apply List.ext_getElem h
  intro k h1 h2
  have := e k h1
  rw [List.getD_eq_getElem?_getD, List.getD_eq_getElem?_getD, List.getElem?_eq_getElem h1, List.getElem?_eq_getElem h2] at this
  exact this
theorem cpy_all {f g : List Int32} {n : Nat} (hf : f.length = n) (hg : g.length = n) (hn : n < 2 ^ 31) : cpy f g 0 0 (nI n) = some f := by
  unfold cpy
  have e0 : (0 : Int32).toNatClampNeg = 0 := rfl
  rw [nI_clamp hn, e0, if_neg]
  · rw [List.take_zero, List.drop_zero, Nat.zero_add, List.nil_append, List.take_of_length_le (by omega), List.drop_of_length_le (by omega), List.append_nil]
  · rintro (((h | h) | h) | h | h)
    · exact absurd h (by decide)
    · exact absurd h (by decide)
    · exact nI_pos hn h
    · omega
    · omega
