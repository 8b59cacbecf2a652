/-! PURE: farms that fall -/
theorem or_nI (x y : Nat) : nI x ||| nI y = nI (x ||| y) := by
  rw [← Int32.toBitVec_inj, Int32.toBitVec_or]
  show BitVec.ofNat 32 x ||| BitVec.ofNat 32 y = BitVec.ofNat 32 (x ||| y)
  apply BitVec.eq_of_getLsbD_eq
  intro i hi
  rw [BitVec.getLsbD_or, BitVec.getLsbD_ofNat, BitVec.getLsbD_ofNat, BitVec.getLsbD_ofNat, Nat.testBit_or]
  cases decide (i < 32) <;> simp
theorem mkN_or (a b : Nat → Bool) (n : Nat) : mkN a n ||| mkN b n = mkN (fun j => a j || b j) n := by
  apply Nat.eq_of_testBit_eq
  intro i
  rw [Nat.testBit_or, mkN_bit, mkN_bit, mkN_bit]
  cases decide (i < n) <;> simp
theorem mkN_congr {a b : Nat → Bool} {n : Nat} (h : ∀ j, j < n → a j = b j) : mkN a n = mkN b n := by
  apply Nat.eq_of_testBit_eq
  intro i
  rw [mkN_bit, mkN_bit]
  by_cases q : i < n
  · rw [h i q]
  · rw [decide_eq_false q]; rfl
theorem mkN_inj {a b : Nat → Bool} {n : Nat} (h : mkN a n = mkN b n) : ∀ j, j < n → a j = b j := by
  intro j hj
  have := congrArg (fun x => Nat.testBit x j) h
  simp only [mkN_bit, decide_eq_true hj, Bool.true_and] at this
  exact this
theorem mkN_one (n k : Nat) (hk : k < n) : mkN (fun j => decide (j = k)) n = 2 ^ k := by
  apply Nat.eq_of_testBit_eq
  intro i
  rw [mkN_bit, Nat.testBit_two_pow]
  by_cases q : i = k
  · subst q; simp [hk]
  · have : ¬ k = i := fun e => q e.symm
    simp [q, this]
theorem one_tab : ∀ k, k < 8 → (1 : Int32) <<< (nI k &&& 31) = nI (2 ^ k) := by decide +kernel
theorem mk_or1 {b : Nat → Bool} {n k : Nat} (hn : n ≤ 8) (hk : k < n) : nI (mkN b n) ||| (1 <<< (nI k &&& 31)) = nI (mkN (fun j => b j || decide (j = k)) n) := by
  rw [one_tab k (by omega), ← mkN_one n k hk, or_nI, mkN_or]
theorem mk_bit0 {b : Nat → Bool} {n k : Nat} (hn : n ≤ 8) (hk : k < n) : ((nI (mkN b n) >>> (nI k &&& 31)) &&& 1 = 0) = (b k = false) := by
  have h := bit_tab0 _ (mk_lt8 (b := b) hn) k (by omega)
  rw [mkN_bit, decide_eq_true hk, Bool.true_and] at h
  rw [← Bool.not_eq_true', ← h, decide_eq_true_eq]
set_option maxRecDepth 10000 in
theorem and_tab : ∀ x, x < 256 → ∀ k, k < 8 → decide (nI x &&& (1 <<< (nI k &&& 31)) = 0) = !x.testBit k := by decide +kernel
set_option maxRecDepth 10000 in
theorem all_tab : ∀ x, x < 256 → (nI x &&& 255) = nI x := by decide +kernel
def fsum (f : Nat → Int) : Nat → Int
  | 0 => 0
  | k + 1 => fsum f k + f k
theorem fsum_succ (f : Nat → Int) (k : Nat) : fsum f (k + 1) = fsum f k + f k := rfl
theorem fsum_bnd {f : Nat → Int} {m : Nat} (h : ∀ k, k < m → 0 ≤ f k ∧ f k ≤ 999) : ∀ k, k ≤ m → 0 ≤ fsum f k ∧ fsum f k ≤ 999 * k := by
  intro k
  induction k with
  | zero => intro _; exact ⟨Int.le_refl 0, by show (0 : Int) ≤ _; omega⟩
  | succ k ih =>
    intro hk
    have := ih (by omega)
    have := h k (by omega)
    rw [fsum_succ]
    omega
theorem fsum_mono {f g : Nat → Int} : ∀ m, (∀ k, k < m → f k ≤ g k) → fsum f m ≤ fsum g m := by
  intro m
  induction m with
  | zero => intro _; exact Int.le_refl 0
  | succ m ih =>
    intro h
    have := ih (fun k hk => h k (by omega))
    have := h m (by omega)
    rw [fsum_succ, fsum_succ]
    omega
def at_ (l : List Int32) (k : Nat) : Int := (l.getD k 0).toInt
/-- what a farm has left, if those of b have fallen -/
def lft (G O W : List Int32) (n : Nat) (p : Int) (b : Nat → Bool) (f : Nat) : Int := at_ G f * p + at_ O f - fsum (fun o => at_ W (8 * f + o)) n + fsum (fun o => if b o then 0 else at_ W (8 * o + f)) n
def nxt (G O W : List Int32) (n : Nat) (p : Int) (b : Nat → Bool) (f : Nat) : Bool := b f || decide (lft G O W n p b f < 0)
/-- b is the least set that holds all that it makes fall -/
def Fall (G O W : List Int32) (n : Nat) (p : Int) (b : Nat → Bool) : Prop := (∀ f, f < n → lft G O W n p b f < 0 → b f = true) ∧ ∀ d : Nat → Bool, (∀ f, f < n → lft G O W n p d f < 0 → d f = true) → ∀ f, f < n → b f = true → d f = true
section FA
variable {N n : Nat} {c r : St}
/-- what the calls on farms rest on -/
def Fa (n : Nat) (G O W : List Int32) (c r : St) : Prop := n ≤ 8 ∧ gI c 25 = nI n ∧ gI r 20 = nI n ∧ gA c 81 = G ∧ gA r 22 = G ∧ gA c 82 = O ∧ gA r 23 = O ∧ gA r 24 = W ∧ bnd G n 0 9 ∧ bnd O n (-9999) 9999 ∧ flat W (fun i => gA c (73 + i)) 8 8 ∧ bnd W 64 0 999 ∧ LenC c ∧ LenR r
theorem Rel.fa (h : Rel c r) : ∃ n G O W, Fa n G O W c r := by
  obtain ⟨n, q1, q2, q3, q4, q5, q6, q7, q8, q9⟩ := h.rFarm
  exact ⟨n, _, _, _, q1, q2, q3, rfl, q4.symm, rfl, q5.symm, rfl, q6, q7, q8, q9, h.lenC, h.lenR⟩
theorem Fa.fr {G O W : List Int32} {c1 r1 : St} (h : Fa n G O W c r) (hc : Fm scI scA c c1) (hr : Fm srI srA r r1) : Fa n G O W c1 r1 := by
  obtain ⟨a1, a2, a3, a4, a5, a6, a7, a8, a9, a10, a11, a12, a13, a14⟩ := h
  exact ⟨a1, (hc.1 25 rfl).trans a2, (hr.1 20 rfl).trans a3, (hc.2.1 81 rfl).trans a4, (hr.2.1 22 rfl).trans a5, (hc.2.1 82 rfl).trans a6, (hr.2.1 23 rfl).trans a7, (hr.2.1 24 rfl).trans a8, a9, a10, flat_eq a11 (fun i hi => hc.2.1 _ (sc_73 i hi)), a12, LenC_fr a13 hc, LenR_fr a14 hr⟩
theorem left_ok {G O W : List Int32} (hF : Fa n G O W c r) (hN : 100 < N) {p : Nat} (hp : p ≤ 1000) (b : Nat → Bool) {f : Nat} (hf : f < n) : ∃ v, Farms_left N c (nI f) (nI p) (nI (mkN b n)) = some v ∧ v.toInt = lft G O W n p b f := by
  obtain ⟨a1, a2, a3, a4, a5, a6, a7, a8, a9, a10, a11, a12, a13, a14⟩ := hF
  have l81 : G.length = 8 := by rw [← a4]; exact a13.1 81
  have l82 : O.length = 8 := by rw [← a6]; exact a13.1 82
  have hg := a9 f hf
  have ho := a10 f hf
  have ep : (nI p).toInt = p := nI_toInt (by omega)
  have hm := mul_bnd (a := at_ G f) (b := (p : Int)) (x := 9) (y := 1000) hg.1 hg.2 (by omega) (by omega)
  have e1 : (G.getD f 0 * nI p).toInt = at_ G f * p := by rw [mul_toInt (by rw [ep]; unfold at_ at hm; omega) (by rw [ep]; unfold at_ at hm; omega), ep]; rfl
  have hO : at_ O f = (O.getD f 0).toInt := rfl
  have e2 : (G.getD f 0 * nI p + O.getD f 0).toInt = at_ G f * p + at_ O f := by rw [add_toInt (by omega) (by omega), e1]; rfl
  have hw : ∀ i j, i < 8 → j < 8 → 0 ≤ at_ W (8 * i + j) ∧ at_ W (8 * i + j) ≤ 999 := fun i j hi hj => a12 (8 * i + j) (by omega)
  have b1 := fsum_bnd (f := fun o => at_ W (8 * f + o)) (m := n) (fun k hk => hw f k (by omega) (by omega))
  have b2 := fsum_bnd (f := fun o => if b o then 0 else at_ W (8 * o + f)) (m := n) (fun k hk => by
    have := hw k f (by omega) (by omega)
    show 0 ≤ (if b k then (0 : Int) else at_ W (8 * k + f)) ∧ (if b k then (0 : Int) else at_ W (8 * k + f)) ≤ 999
    split <;> omega)
  unfold Farms_left
  rw [a4, a6, ld_nI (by omega) (by omega), ld_nI (by omega) (by omega), Option.bind_some, Option.bind_some]
  refine for_up (P := fun fu k => ∀ acc : Int32, acc.toInt = at_ G f * p + at_ O f - fsum (fun o => at_ W (8 * f + o)) k + fsum (fun o => if b o then 0 else at_ W (8 * o + f)) k → ∃ v, Farms_left_p20 N c fu (nI f) (nI (mkN b n)) acc (nI k) = some v ∧ v.toInt = lft G O W n p b f) (m := n) ?_ ?_ N 0 (by omega) (by omega) _ (by rw [e2]; show _ = _ - 0 + 0; omega)
  · intro fu acc h
    refine ⟨acc, ?_, h⟩
    show Farms_left_p20b _ _ _ _ _ _ _ = _
    unfold Farms_left_p20b
    rw [a2, if_pos (nI_stop n)]
  · intro fu k hk ih acc h
    have c1 := b1 k (by omega)
    have c2 := b2 k (by omega)
    have w1 := hw f k (by omega) (by omega)
    have w2 := hw k f (by omega) (by omega)
    have lf : (gA c (73 + f)).length = 8 := (a13.1 _).trans ((by decide : ∀ i, i < 8 → LAc (73 + i) = 8) f (by omega))
    have lk : (gA c (73 + k)).length = 8 := (a13.1 _).trans ((by decide : ∀ i, i < 8 → LAc (73 + i) = 8) k (by omega))
    have v1 : (gA c (73 + f)).getD k 0 = W.getD (8 * f + k) 0 := (a11 f k (by omega) (by omega)).symm
    have v2 : (gA c (73 + k)).getD f 0 = W.getD (8 * k + f) 0 := (a11 k f (by omega) (by omega)).symm
    have s1 : (acc - W.getD (8 * f + k) 0).toInt = acc.toInt - at_ W (8 * f + k) := by
      unfold at_; rw [sub_toInt] <;> (unfold at_ at w1; omega)
    show ∃ v, Farms_left_p20b _ _ _ _ _ _ _ = _ ∧ _
    unfold Farms_left_p20b Farms_left_p66
    rw [a2, if_neg (nI_on hk (by omega)), rwi_nI (k := f) (by omega) (by omega), rwi_nI (k := k) (by omega) (by omega)]
    simp only [Option.bind_some, ld_nI (show k < (gA c (73 + f)).length by omega) (by omega), ld_nI (show f < (gA c (73 + k)).length by omega) (by omega), v1, v2, nI_1, mk_bit0 (b := b) a1 hk]
    by_cases hb : b k = false
    · rw [if_neg (fun q => q hb)]
      refine ih _ ?_
      rw [fsum_succ, fsum_succ]
      have s2 : (acc - W.getD (8 * f + k) 0 + W.getD (8 * k + f) 0).toInt = acc.toInt - at_ W (8 * f + k) + at_ W (8 * k + f) := by
        rw [add_toInt (by rw [s1]; unfold at_ at *; omega) (by rw [s1]; unfold at_ at *; omega), s1]; rfl
      rw [s2, hb, h]
      simp only [Bool.false_eq_true, if_false]
      omega
    · rw [if_pos hb]
      refine ih _ ?_
      rw [fsum_succ, fsum_succ, s1, h]
      have hb : b k = true := by cases q : b k; exact absurd q hb; rfl
      rw [hb]
      simp only [if_true]
      omega
theorem after_ok {G O W : List Int32} (hF : Fa n G O W c r) (hN : 100 < N) {p : Nat} (hp : p ≤ 1000) (b : Nat → Bool) : Farms_fallenAfter N c (nI p) (nI (mkN b n)) = some (nI (mkN (nxt G O W n p b) n)) := by
  have hF0 := hF
  obtain ⟨a1, a2, a3, a4, a5, a6, a7, a8, a9, a10, a11, a12, a13, a14⟩ := hF
  unfold Farms_fallenAfter
  have h0 : nI (mkN b n) = nI (mkN (fun j => b j || (decide (j < 0) && decide (lft G O W n p b j < 0))) n) := congrArg nI (mkN_congr (fun j _ => by simp))
  have main : ∀ (fu k : Nat), k ≤ n → n - k < fu → Farms_fallenAfter_p5 N c fu (nI p) (nI (mkN b n)) (nI (mkN (fun j => b j || (decide (j < k) && decide (lft G O W n p b j < 0))) n)) (nI k) = some (nI (mkN (nxt G O W n p b) n)) := by
    refine for_up (P := fun fu k => Farms_fallenAfter_p5 N c fu (nI p) (nI (mkN b n)) (nI (mkN (fun j => b j || (decide (j < k) && decide (lft G O W n p b j < 0))) n)) (nI k) = some (nI (mkN (nxt G O W n p b) n))) ?_ ?_
    · intro fu
      show Farms_fallenAfter_p5b _ _ _ _ _ _ _ = _
      unfold Farms_fallenAfter_p5b
      rw [a2, if_pos (nI_stop n)]
      exact congrArg (fun x => some (nI x)) (mkN_congr (fun j hj => by unfold nxt; rw [decide_eq_true hj, Bool.true_and]))
    · intro fu k hk ih
      obtain ⟨v, hv1, hv2⟩ := left_ok (N := N) hF0 hN hp b hk
      show Farms_fallenAfter_p5b _ _ _ _ _ _ _ = _
      unfold Farms_fallenAfter_p5b Farms_fallenAfter_p32
      rw [a2, if_neg (nI_on hk (by omega)), hv1, Option.bind_some, nI_1, mk_or1 a1 hk]
      have e0 : (0 : Int32).toInt = 0 := rfl
      by_cases q : 0 ≤ v
      · rw [if_pos q]
        rw [Int32.le_iff_toInt_le, e0, hv2] at q
        have hm : mkN (fun j => b j || (decide (j < k) && decide (lft G O W n p b j < 0))) n = mkN (fun j => b j || (decide (j < k + 1) && decide (lft G O W n p b j < 0))) n := by
          refine mkN_congr (fun j hj => ?_)
          by_cases e : j = k
          · subst e; rw [decide_eq_false (show ¬ lft G O W n p b j < 0 by omega)]; simp
          · rw [show decide (j < k + 1) = decide (j < k) by rw [decide_eq_decide]; omega]
        rw [hm]
        exact ih
      · rw [if_neg q]
        rw [Int32.le_iff_toInt_le, e0, hv2] at q
        have hm : mkN (fun j => (b j || (decide (j < k) && decide (lft G O W n p b j < 0))) || decide (j = k)) n = mkN (fun j => b j || (decide (j < k + 1) && decide (lft G O W n p b j < 0))) n := by
          refine mkN_congr (fun j hj => ?_)
          by_cases e : j = k
          · subst e; rw [decide_eq_true (show lft G O W n p b j < 0 by omega)]; simp
          · rw [show decide (j < k + 1) = decide (j < k) by rw [decide_eq_decide]; omega, decide_eq_false e]; simp
        rw [hm]
        exact ih
  exact (congrArg (fun x => Farms_fallenAfter_p5 N c N (nI p) (nI (mkN b n)) x 0) h0).trans (main N 0 (by omega) (by omega))
/-- the reference's round -/
theorem round_ok {G O W : List Int32} (hF : Fa n G O W c r) (hN : 100 < N) {p : Nat} (hp : p ≤ 1000) (b : Nat → Bool) (kb9 : St → Int32 → Int32 → Int32 → Option (Int32 × St)) : R_fallenAt_p18 N kb9 N r (nI p) (nI (mkN b n)) 0 0 = kb9 (sI r 34 (gI r 34 + if mkN (fun j => !b j && decide (lft G O W n p b j < 0)) n = 0 then 0 else 1)) (nI p) (nI (mkN (nxt G O W n p b) n)) (nI (mkN (fun j => !b j && decide (lft G O W n p b j < 0)) n)) := by
  obtain ⟨a1, a2, a3, a4, a5, a6, a7, a8, a9, a10, a11, a12, a13, a14⟩ := hF
  have l22 : G.length = 8 := by rw [← a5]; exact a14.1 22
  have l23 : O.length = 8 := by rw [← a7]; exact a14.1 23
  have l24 : W.length = 64 := by rw [← a8]; exact a14.1 24
  have ep : (nI p).toInt = p := nI_toInt (by omega)
  have hw : ∀ i j, i < 8 → j < 8 → 0 ≤ at_ W (8 * i + j) ∧ at_ W (8 * i + j) ≤ 999 := fun i j hi hj => a12 (8 * i + j) (by omega)
  have main : ∀ (fu k : Nat), k ≤ n → n - k < fu → R_fallenAt_p18 N kb9 fu r (nI p) (nI (mkN b n)) (nI (mkN (fun j => !b j && decide (lft G O W n p b j < 0)) k)) (nI k) = kb9 (sI r 34 (gI r 34 + if mkN (fun j => !b j && decide (lft G O W n p b j < 0)) n = 0 then 0 else 1)) (nI p) (nI (mkN (nxt G O W n p b) n)) (nI (mkN (fun j => !b j && decide (lft G O W n p b j < 0)) n)) := by
    refine for_up (P := fun fu k => R_fallenAt_p18 N kb9 fu r (nI p) (nI (mkN b n)) (nI (mkN (fun j => !b j && decide (lft G O W n p b j < 0)) k)) (nI k) = kb9 (sI r 34 (gI r 34 + if mkN (fun j => !b j && decide (lft G O W n p b j < 0)) n = 0 then 0 else 1)) (nI p) (nI (mkN (nxt G O W n p b) n)) (nI (mkN (fun j => !b j && decide (lft G O W n p b j < 0)) n))) ?_ ?_
    · intro fu
      show R_fallenAt_p18b _ _ _ _ _ _ _ _ = _
      unfold R_fallenAt_p18b R_fallenAt_p167
      have hlt := mk_lt8 (b := fun j => !b j && decide (lft G O W n p b j < 0)) a1
      rw [a3, if_pos (nI_stop n), or_nI, mkN_or]
      have hx : mkN (fun j => b j || (!b j && decide (lft G O W n p b j < 0))) n = mkN (nxt G O W n p b) n := mkN_congr (fun j _ => by unfold nxt; cases b j <;> simp)
      rw [hx]
      by_cases q : mkN (fun j => !b j && decide (lft G O W n p b j < 0)) n = 0
      · rw [if_pos (by rw [q]; rfl), if_pos q]
      · rw [if_neg (nI_ne0 (by omega) (by omega)), if_neg q]
    · intro fu k hk ih
      have hg := a9 k hk
      have ho := a10 k hk
      have hm := mul_bnd (a := at_ G k) (b := (p : Int)) (x := 9) (y := 1000) hg.1 hg.2 (by omega) (by omega)
      have e1 : (G.getD k 0 * nI p).toInt = at_ G k * p := by rw [mul_toInt (by rw [ep]; unfold at_ at hm; omega) (by rw [ep]; unfold at_ at hm; omega), ep]; rfl
      have hO : at_ O k = (O.getD k 0).toInt := rfl
      have e2 : (G.getD k 0 * nI p + O.getD k 0).toInt = at_ G k * p + at_ O k := by rw [add_toInt (by omega) (by omega), e1]; rfl
      have b1 := fsum_bnd (f := fun o => at_ W (8 * k + o)) (m := n) (fun j hj => hw k j (by omega) (by omega))
      have b2 := fsum_bnd (f := fun o => if b o then 0 else at_ W (8 * o + k)) (m := n) (fun j hj => by
        have := hw j k (by omega) (by omega)
        show 0 ≤ (if b j then (0 : Int) else at_ W (8 * j + k)) ∧ (if b j then (0 : Int) else at_ W (8 * j + k)) ≤ 999
        split <;> omega)
      show R_fallenAt_p18b _ _ _ _ _ _ _ _ = _
      unfold R_fallenAt_p18b
      rw [a3, if_neg (nI_on hk (by omega)), a5, a7, ld_nI (by omega) (by omega), ld_nI (by omega) (by omega), Option.bind_some, Option.bind_some]
      refine for_up (P := fun f2 j => ∀ has due : Int32, has.toInt = at_ G k * p + at_ O k + fsum (fun o => if b o then 0 else at_ W (8 * o + k)) j → due.toInt = fsum (fun o => at_ W (8 * k + o)) j → R_fallenAt_p52 N kb9 (R_fallenAt_p18 N kb9 fu) f2 r (nI p) (nI (mkN b n)) (nI (mkN (fun j => !b j && decide (lft G O W n p b j < 0)) k)) (nI k) has due (nI j) = kb9 (sI r 34 (gI r 34 + if mkN (fun j => !b j && decide (lft G O W n p b j < 0)) n = 0 then 0 else 1)) (nI p) (nI (mkN (nxt G O W n p b) n)) (nI (mkN (fun j => !b j && decide (lft G O W n p b j < 0)) n))) (m := n) ?_ ?_ N 0 (by omega) (by omega) _ 0 (by rw [e2]; show _ = _ + (0 : Int); omega) rfl
      · intro f2 has due h1 h2
        show R_fallenAt_p52b _ _ _ _ _ _ _ _ _ _ _ _ = _
        unfold R_fallenAt_p52b R_fallenAt_p140 R_fallenAt_p141
        rw [mk_or (by omega)] at ih
        rw [a3, if_pos (nI_stop n), nI_1]
        simp only [mk_bit0 (b := b) a1 hk]
        have key : due ≤ has ↔ ¬ lft G O W n p b k < 0 := by
          rw [Int32.le_iff_toInt_le, h1, h2]
          unfold lft
          omega
        have oz : nI (mkN (fun j => !b j && decide (lft G O W n p b j < 0)) k) ||| 0 = nI (mkN (fun j => !b j && decide (lft G O W n p b j < 0)) k) := Int32.or_zero
        by_cases hb : b k = false
        · rw [if_neg (fun q => q hb)]
          by_cases q : due ≤ has
          · rw [if_pos q, oz]
            rw [if_neg (by rw [hb, decide_eq_false (key.mp q)]; decide)] at ih
            exact ih
          · rw [if_neg q]
            have hl : lft G O W n p b k < 0 := Decidable.byContradiction (fun z => q (key.mpr z))
            rw [if_pos (by rw [hb, decide_eq_true hl]; rfl)] at ih
            exact ih
        · rw [if_pos hb, oz]
          have hb : b k = true := by cases q : b k; exact absurd q hb; rfl
          rw [if_neg (by rw [hb]; simp)] at ih
          exact ih
      · intro f2 j hj ih2 has due h1 h2
        have c1 := b1 j (by omega)
        have c2 := b2 j (by omega)
        have w1 := hw k j (by omega) (by omega)
        have w2 := hw j k (by omega) (by omega)
        have ei1 : (8 : Int32) * nI k + nI j = nI (8 * k + j) := by rw [show (8 : Int32) = nI 8 from rfl, pk_mul, nI_add]
        have ei2 : (8 : Int32) * nI j + nI k = nI (8 * j + k) := by rw [show (8 : Int32) = nI 8 from rfl, pk_mul, nI_add]
        have s1 : (due + W.getD (8 * k + j) 0).toInt = due.toInt + at_ W (8 * k + j) := by
          unfold at_; rw [add_toInt] <;> (unfold at_ at w1; omega)
        have s2 : (has + W.getD (8 * j + k) 0).toInt = has.toInt + at_ W (8 * j + k) := by
          have w3 : 0 ≤ (W.getD (8 * j + k) 0).toInt ∧ (W.getD (8 * j + k) 0).toInt ≤ 999 := w2
          have w4 : at_ O k = (O.getD k 0).toInt := rfl
          rw [add_toInt (by omega) (by omega)]; rfl
        show R_fallenAt_p52b _ _ _ _ _ _ _ _ _ _ _ _ = _
        unfold R_fallenAt_p52b R_fallenAt_p89
        rw [a3, if_neg (nI_on hj (by omega)), ei1, ei2, a8, ld_nI (by omega) (by omega), ld_nI (by omega) (by omega), Option.bind_some, Option.bind_some, Option.bind_some, nI_1]
        simp only [mk_bit0 (b := b) a1 hj]
        by_cases hb : b j = false
        · rw [if_neg (fun q => q hb)]
          refine ih2 _ _ ?_ ?_
          · rw [s2, fsum_succ, h1, hb]; simp only [Bool.false_eq_true, if_false]; omega
          · rw [s1, fsum_succ, h2]
        · rw [if_pos hb]
          have hb : b j = true := by cases q : b j; exact absurd q hb; rfl
          refine ih2 _ _ ?_ ?_
          · rw [Int32.add_zero, fsum_succ, h1, hb]; simp only [if_true]; omega
          · rw [s1, fsum_succ, h2]
  exact main N 0 (by omega) (by omega)
theorem bsf_succ2 (g : Nat → Bool) (k : Nat) : bsf g (k + 1) = bsf g k + if g k then 1 else 0 := rfl
theorem bsf_mono {f g : Nat → Bool} : ∀ n, (∀ k, k < n → f k = true → g k = true) → bsf f n ≤ bsf g n ∧ ((∃ k, k < n ∧ f k = false ∧ g k = true) → bsf f n + 1 ≤ bsf g n) := by
  intro n
  induction n with
  | zero => intro _; exact ⟨Nat.le_refl _, fun ⟨k, hk, _⟩ => absurd hk (Nat.not_lt_zero k)⟩
  | succ n ih =>
    intro h
    obtain ⟨i1, i2⟩ := ih (fun k hk => h k (by omega))
    have hn := h n (by omega)
    rw [bsf_succ2, bsf_succ2]
    refine ⟨?_, ?_⟩
    · by_cases q : f n = true
      · rw [if_pos q, if_pos (hn q)]; omega
      · rw [if_neg q]; split <;> omega
    · rintro ⟨k, hk, k1, k2⟩
      by_cases e : k = n
      · subst e
        rw [k1, k2]
        simp only [Bool.false_eq_true, if_false, if_true]
        omega
      · have := i2 ⟨k, by omega, k1, k2⟩
        by_cases q : f n = true
        · rw [if_pos q, if_pos (hn q)]; omega
        · rw [if_neg q]; split <;> omega
theorem bsf_all {g : Nat → Bool} : ∀ n, n ≤ bsf g n → ∀ k, k < n → g k = true := by
  intro n
  induction n with
  | zero => intro _ k hk; omega
  | succ n ih =>
    intro h k hk
    rw [bsf_succ2] at h
    have := bsf_le g n
    by_cases q : g n = true
    · rw [if_pos q] at h
      by_cases e : k = n
      · rw [e]; exact q
      · exact ih (by omega) k (by omega)
    · rw [if_neg q] at h; omega
theorem lft_anti {G O W : List Int32} (hW : bnd W 64 0 999) (hn : n ≤ 8) {p : Int} {b d : Nat → Bool} (h : ∀ f, f < n → b f = true → d f = true) {f : Nat} (hf : f < n) : lft G O W n p d f ≤ lft G O W n p b f := by
  have : fsum (fun o => if d o then 0 else at_ W (8 * o + f)) n ≤ fsum (fun o => if b o then 0 else at_ W (8 * o + f)) n := by
    refine fsum_mono n (fun k hk => ?_)
    have hw : 0 ≤ at_ W (8 * k + f) := (hW (8 * k + f) (by omega)).1
    by_cases q : b k = true
    · rw [if_pos q, if_pos (h k hk q)]; exact Int.le_refl 0
    · rw [if_neg q]; split
      · exact hw
      · exact Int.le_refl _
  unfold lft
  omega
theorem fallen_same {G O W : List Int32} (hF : Fa n G O W c r) (hN : 1000 < N) {p : Nat} (hp : p ≤ 1000) : ∃ b c1 r1, Farms_fallenAt N c (nI p) = some (nI (mkN b n), c1) ∧ R_fallenAt N r (nI p) = some (nI (mkN b n), r1) ∧ gI c1 26 = gI r1 34 ∧ Fm scI scA c c1 ∧ Fm srI srA r r1 ∧ Fall G O W n p b := by
  have hn : n ≤ 8 := hF.1
  have hW : bnd W 64 0 999 := hF.2.2.2.2.2.2.2.2.2.2.2.1
  have nob : ∀ b : Nat → Bool, (mkN (fun j => !b j && decide (lft G O W n p b j < 0)) n = 0) ↔ (mkN (nxt G O W n p b) n = mkN b n) := by
    intro b
    constructor
    · intro h
      have hz : mkN (fun _ => false) n = 0 := by
        apply Nat.eq_of_testBit_eq; intro i; rw [mkN_bit]; simp
      have := mkN_inj (h.trans hz.symm)
      refine mkN_congr (fun j hj => ?_)
      have q := this j hj
      unfold nxt
      revert q
      cases b j <;> simp
    · intro h
      have := mkN_inj h
      have hz : mkN (fun _ => false) n = 0 := by
        apply Nat.eq_of_testBit_eq; intro i; rw [mkN_bit]; simp
      rw [← hz]
      refine mkN_congr (fun j hj => ?_)
      have q := this j hj
      unfold nxt at q
      revert q
      cases b j <;> simp
  have fin : ∀ b : Nat → Bool, (∀ d : Nat → Bool, (∀ f, f < n → lft G O W n p d f < 0 → d f = true) → ∀ f, f < n → b f = true → d f = true) → mkN (nxt G O W n p b) n = mkN b n → Fall G O W n p b := by
    intro b hl he
    refine ⟨fun f hf hlt => ?_, hl⟩
    have := mkN_inj he f hf
    unfold nxt at this
    rw [decide_eq_true hlt, Bool.or_true] at this
    exact this.symm
  have least : ∀ b : Nat → Bool, (∀ d : Nat → Bool, (∀ f, f < n → lft G O W n p d f < 0 → d f = true) → ∀ f, f < n → b f = true → d f = true) → (∀ d : Nat → Bool, (∀ f, f < n → lft G O W n p d f < 0 → d f = true) → ∀ f, f < n → nxt G O W n p b f = true → d f = true) := by
    intro b hl d hd f hf hx
    unfold nxt at hx
    rw [Bool.or_eq_true, decide_eq_true_eq] at hx
    rcases hx with q | q
    · exact hl d hd f hf q
    · exact hd f hf (by have := lft_anti (G := G) (O := O) (p := (p : Int)) hW hn (hl d hd) hf; omega)
  unfold Farms_fallenAt R_fallenAt
  have main : ∀ (fu k : Nat), k ≤ n → n - k < fu → (n + 1 - k < fu → ∀ (c2 r2 : St) (b : Nat → Bool) (x3 : Int32), ¬ x3 = 0 → Fm scI scA c c2 → Fm srI srA r r2 → gI c2 26 = gI r2 34 → k ≤ bsf b n → (∀ d : Nat → Bool, (∀ f, f < n → lft G O W n p d f < 0 → d f = true) → ∀ f, f < n → b f = true → d f = true) → ∃ b1 c1 r1, Farms_fallenAt_p9 N fu c2 (nI p) (nI (mkN b n)) (nI k) = some (nI (mkN b1 n), c1) ∧ R_fallenAt_p9 N fu r2 (nI p) (nI (mkN b n)) x3 = some (nI (mkN b1 n), r1) ∧ gI c1 26 = gI r1 34 ∧ Fm scI scA c c1 ∧ Fm srI srA r r1 ∧ Fall G O W n p b1) := by
    refine for_up (P := fun fu k => n + 1 - k < fu → ∀ (c2 r2 : St) (b : Nat → Bool) (x3 : Int32), ¬ x3 = 0 → Fm scI scA c c2 → Fm srI srA r r2 → gI c2 26 = gI r2 34 → k ≤ bsf b n → (∀ d : Nat → Bool, (∀ f, f < n → lft G O W n p d f < 0 → d f = true) → ∀ f, f < n → b f = true → d f = true) → ∃ b1 c1 r1, Farms_fallenAt_p9 N fu c2 (nI p) (nI (mkN b n)) (nI k) = some (nI (mkN b1 n), c1) ∧ R_fallenAt_p9 N fu r2 (nI p) (nI (mkN b n)) x3 = some (nI (mkN b1 n), r1) ∧ gI c1 26 = gI r1 34 ∧ Fm scI scA c c1 ∧ Fm srI srA r r1 ∧ Fall G O W n p b1) ?_ ?_
    · intro fu hfu c2 r2 b x3 hx fc fr he hk hl
      have hall := bsf_all n hk
      have hF2 := hF.fr fc fr
      have hsame : mkN (nxt G O W n p b) n = mkN b n := mkN_congr (fun j hj => by unfold nxt; rw [hall j hj]; rfl)
      have hz := (nob b).mpr hsame
      refine ⟨b, c2, sI r2 34 (gI r2 34 + 0), ?_, ?_, ?_, fc, fr.sI rfl, fin b hl hsame⟩
      · show Farms_fallenAt_p9b _ _ _ _ _ _ = _
        unfold Farms_fallenAt_p9b
        rw [hF2.2.1, if_pos (nI_stop n)]
      · show R_fallenAt_p9b _ _ _ _ _ _ = _
        unfold R_fallenAt_p9b
        rw [if_neg hx, round_ok (N := N) hF2 (by omega) hp b, hz, if_pos rfl, hsame]
        cases fu with
        | zero => omega
        | succ fu =>
          show R_fallenAt_p9b _ _ _ _ _ _ = _
          unfold R_fallenAt_p9b
          rw [if_pos nI_0]
      · rw [gI_sI_same, Int32.add_zero]; exact he
    · intro fu k hk ih hfu c2 r2 b x3 hx fc fr he hb hl
      have hF2 := hF.fr fc fr
      by_cases hsame : mkN (nxt G O W n p b) n = mkN b n
      · have hz := (nob b).mpr hsame
        refine ⟨b, c2, sI r2 34 (gI r2 34 + 0), ?_, ?_, ?_, fc, fr.sI rfl, fin b hl hsame⟩
        · show Farms_fallenAt_p9b _ _ _ _ _ _ = _
          unfold Farms_fallenAt_p9b
          rw [hF2.2.1, if_neg (nI_on hk (by omega)), after_ok hF2 (by omega) hp b, Option.bind_some, hsame, if_neg (fun q => q rfl)]
        · show R_fallenAt_p9b _ _ _ _ _ _ = _
          unfold R_fallenAt_p9b
          rw [if_neg hx, round_ok (N := N) hF2 (by omega) hp b, hz, if_pos rfl, hsame]
          cases fu with
          | zero => omega
          | succ fu =>
            show R_fallenAt_p9b _ _ _ _ _ _ = _
            unfold R_fallenAt_p9b
            rw [if_pos nI_0]
        · rw [gI_sI_same, Int32.add_zero]; exact he
      · have hnz : ¬ mkN (fun j => !b j && decide (lft G O W n p b j < 0)) n = 0 := fun q => hsame ((nob b).mp q)
        have hlt := mk_lt8 (b := fun j => !b j && decide (lft G O W n p b j < 0)) hn
        have hlt1 := mk_lt8 (b := nxt G O W n p b) hn
        have hlt2 := mk_lt8 (b := b) hn
        have hex : ∃ j, j < n ∧ b j = false ∧ nxt G O W n p b j = true := by
          refine Classical.byContradiction (fun hno => hsame (mkN_congr (fun j hj => ?_)))
          cases hbj : b j
          · cases hxj : nxt G O W n p b j
            · rfl
            · exact absurd ⟨j, hj, hbj, hxj⟩ hno
          · unfold nxt; rw [hbj]; rfl
        have hcnt := (bsf_mono (f := b) (g := nxt G O W n p b) n (fun j _ hj => by unfold nxt; rw [hj]; rfl)).2 hex
        obtain ⟨b1, c1, r1, y1, y2, y3⟩ := ih (by omega) (sI c2 26 (gI c2 26 + 1)) (sI r2 34 (gI r2 34 + 1)) (nxt G O W n p b) (nI (mkN (fun j => !b j && decide (lft G O W n p b j < 0)) n)) (nI_ne0 (by omega) (by omega)) (fc.sI rfl) (fr.sI rfl) (by rw [gI_sI_same, gI_sI_same, he]) (by omega) (least b hl)
        refine ⟨b1, c1, r1, ?_, ?_, y3⟩
        · show Farms_fallenAt_p9b _ _ _ _ _ _ = _
          unfold Farms_fallenAt_p9b
          rw [hF2.2.1, if_neg (nI_on hk (by omega)), after_ok hF2 (by omega) hp b, Option.bind_some, if_pos (fun q => hsame ((nI_eq (by omega) (by omega)).mp q)), nI_1]
          exact y1
        · show R_fallenAt_p9b _ _ _ _ _ _ = _
          unfold R_fallenAt_p9b
          rw [if_neg hx, round_ok (N := N) hF2 (by omega) hp b, if_neg hnz]
          exact y2
  have hz : mkN (fun _ => false) n = 0 := by
    apply Nat.eq_of_testBit_eq; intro i; rw [mkN_bit]; simp
  have := main N 0 (by omega) (by omega) (by omega) (sI c 26 0) (sI r 34 0) (fun _ => false) 1 (by decide) ((Fm.refl _ _ c).sI rfl) ((Fm.refl _ _ r).sI rfl) rfl (by omega) (fun d _ f _ hf => by cases hf)
  rw [hz] at this
  exact this
theorem S_falls (h : Rel c r) (hN : 1000 < N) (x1 x2 : Int32) : Sim (C_falls N c x1 x2) (R_falls N r x1 x2) := by
  obtain ⟨n, G, O, W, hF⟩ := h.fa
  unfold C_falls C_falls_p20 R_falls R_falls_p20
  simp only [C_within_eq, R_in_eq, Option.bind_some, if_bz, if_nbz]
  refine Sim.ite (fun g1 => Sim.ite (fun g2 => ?_) (fun _ => Sim.ret h)) (fun _ => Sim.ret h)
  obtain ⟨p, rfl, hp⟩ := nat_in g1
  have : (999 : Int32).toInt = 999 := rfl
  obtain ⟨b, c1, r1, y1, y2, y3, y4, y5, y6⟩ := fallen_same (N := N) hF hN (p := p) (by omega)
  rw [y1, y2, Option.bind_some, Option.bind_some]
  have hR : Rel c1 r1 := h.fr y4 y5
  refine Sim.ite (fun _ => ?_) (fun _ => Sim.ret hR)
  simp only [y3]
  exact Sim.ret hR
end FA
