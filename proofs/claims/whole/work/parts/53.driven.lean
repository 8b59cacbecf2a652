/-! PURE: driving -/
/-- loss, sheep, fat, takes, days -/
abbrev DX : Type := Nat × (Nat → Nat) × (Nat → Nat) × (Nat → Nat) × (Nat → Nat → Nat)
def xls (X : DX) : Nat := X.1
def xsh (X : DX) : Nat → Nat := X.2.1
def xfa (X : DX) : Nat → Nat := X.2.2.1
def xta (X : DX) : Nat → Nat := X.2.2.2.1
def xdy (X : DX) : Nat → Nat → Nat := X.2.2.2.2
def XB (n : Nat) (X : DX) : Prop := n ≤ 6 ∧ xls X ≤ 9 ∧ (∀ f, f < n → 1 ≤ xsh X f ∧ xsh X f ≤ 999) ∧ (∀ f, f < n → xfa X f ≤ 99) ∧ (∀ w, w < 4 → xta X w ≤ 9999) ∧ ∀ f w, f < n → w < 4 → xdy X f w ≤ 60
/-- what comes of a flock at a works -/
def xcm (X : DX) (f w : Nat) : Nat := if w < 4 then xsh X f * (xfa X f - xls X * xdy X f w) else 0
/-- where flock j goes in the plan of this number -/
def dg (n e j : Nat) : Nat := e / 5 ^ (n - 1 - j) % 5
def xcs (X : DX) (g : Nat → Nat) : Nat → Nat
  | 0 => 0
  | k + 1 => xcs X g k + xcm X k (g k)
def xtk (X : DX) (g : Nat → Nat) (w : Nat) : Nat → Nat
  | 0 => 0
  | k + 1 => xtk X g w k + if g k = w then xsh X k else 0
def xok (X : DX) (g : Nat → Nat) : Nat → Bool
  | 0 => true
  | k + 1 => xok X g k && (decide (g k = 4) || decide (xtk X g (g k) (k + 1) ≤ xta X (g k)))
theorem xcs_congr {X : DX} {g h : Nat → Nat} : ∀ k, (∀ j, j < k → g j = h j) → xcs X g k = xcs X h k := by
  intro k
  induction k with
  | zero => intro _; rfl
  | succ k ih => intro e; unfold xcs; rw [ih (fun j hj => e j (by omega)), e k (by omega)]
theorem xtk_congr {X : DX} {g h : Nat → Nat} (w : Nat) : ∀ k, (∀ j, j < k → g j = h j) → xtk X g w k = xtk X h w k := by
  intro k
  induction k with
  | zero => intro _; rfl
  | succ k ih => intro e; unfold xtk; rw [ih (fun j hj => e j (by omega)), e k (by omega)]
theorem xok_congr {X : DX} {g h : Nat → Nat} : ∀ k, (∀ j, j < k → g j = h j) → xok X g k = xok X h k := by
  intro k
  induction k with
  | zero => intro _; rfl
  | succ k ih => intro e; unfold xok; rw [ih (fun j hj => e j (by omega)), e k (by omega), xtk_congr (h k) (k + 1) e]
theorem xok_le {X : DX} {g : Nat → Nat} : ∀ k, xok X g k = true → ∀ j, j ≤ k → xok X g j = true := by
  intro k
  induction k with
  | zero => intro _ j hj; rw [show j = 0 by omega]; rfl
  | succ k ih =>
    intro h j hj
    by_cases e : j = k + 1
    · rw [e]; exact h
    · unfold xok at h
      rw [Bool.and_eq_true] at h
      exact ih h.1 j (by omega)
theorem xok_room {X : DX} {g : Nat → Nat} : ∀ k, xok X g k = true → ∀ w, w < 4 → xtk X g w k ≤ xta X w := by
  intro k
  induction k with
  | zero => intro _ w _; exact Nat.zero_le _
  | succ k ih =>
    intro h w hw
    have h0 := h
    unfold xok at h
    rw [Bool.and_eq_true, Bool.or_eq_true, decide_eq_true_eq, decide_eq_true_eq] at h
    by_cases e : g k = w
    · rcases h.2 with z | z
      · omega
      · rw [e] at z; exact z
    · unfold xtk
      rw [if_neg e]
      have := ih h.1 w hw
      omega
theorem xcm_le {n : Nat} {X : DX} (hX : XB n X) {f w : Nat} (hf : f < n) : xcm X f w ≤ 98901 := by
  obtain ⟨h1, h2, h3, h4, h5, h6⟩ := hX
  unfold xcm
  split
  · have := Nat.mul_le_mul (h3 f hf).2 (show xfa X f - xls X * xdy X f w ≤ 99 from Nat.le_trans (Nat.sub_le _ _) (h4 f hf))
    omega
  · omega
theorem xcs_le {n : Nat} {X : DX} (hX : XB n X) (g : Nat → Nat) : ∀ k, k ≤ n → xcs X g k ≤ 98901 * k := by
  intro k
  induction k with
  | zero => intro _; exact Nat.le_refl _
  | succ k ih =>
    intro hk
    have := ih (by omega)
    have := xcm_le hX (f := k) (w := g k) (by omega)
    unfold xcs
    omega
/-- the most that can come of a flock -/
def mxw (X : DX) (f : Nat) : Nat → Nat
  | 0 => 0
  | w + 1 => max (mxw X f w) (xcm X f w)
theorem mxw_ge {X : DX} {f : Nat} : ∀ m w, w < m → xcm X f w ≤ mxw X f m := by
  intro m
  induction m with
  | zero => intro w h; omega
  | succ m ih =>
    intro w h
    unfold mxw
    by_cases e : w = m
    · rw [e]; exact Nat.le_max_right _ _
    · exact Nat.le_trans (ih w (by omega)) (Nat.le_max_left _ _)
theorem mxw_le {n : Nat} {X : DX} (hX : XB n X) {f : Nat} (hf : f < n) : ∀ m, mxw X f m ≤ 98901 := by
  intro m
  induction m with
  | zero => exact Nat.zero_le _
  | succ m ih => unfold mxw; exact Nat.max_le.mpr ⟨ih, xcm_le hX hf⟩
/-- the most that can come of the last d flocks -/
def hpd (n : Nat) (X : DX) : Nat → Nat
  | 0 => 0
  | d + 1 => hpd n X d + mxw X (n - 1 - d) 4
theorem hpd_le {n : Nat} {X : DX} (hX : XB n X) : ∀ d, d ≤ n → hpd n X d ≤ 98901 * d := by
  intro d
  induction d with
  | zero => intro _; exact Nat.le_refl _
  | succ d ih =>
    intro hd
    have := ih (by omega)
    have := mxw_le hX (f := n - 1 - d) (by omega) 4
    unfold hpd
    omega
theorem dg_lt (n e j : Nat) : dg n e j < 5 := Nat.mod_lt _ (by decide)
theorem hpd_up {n : Nat} {X : DX} {g : Nat → Nat} (hg : ∀ j, g j < 5) : ∀ d, d ≤ n → xcs X g n ≤ xcs X g (n - d) + hpd n X d := by
  intro d
  induction d with
  | zero => intro _; exact Nat.le_refl _
  | succ d ih =>
    intro hd
    have h1 := ih (by omega)
    have e : n - d = n - (d + 1) + 1 := by omega
    have e2 : xcs X g (n - d) = xcs X g (n - (d + 1)) + xcm X (n - (d + 1)) (g (n - (d + 1))) := by rw [e]; rfl
    have h2 : xcm X (n - (d + 1)) (g (n - (d + 1))) ≤ mxw X (n - 1 - d) 4 := by
      rw [show n - 1 - d = n - (d + 1) by omega]
      by_cases q : g (n - (d + 1)) < 4
      · exact mxw_ge 4 _ q
      · unfold xcm
        rw [if_neg q]
        exact Nat.zero_le _
    have e3 : hpd n X (d + 1) = hpd n X d + mxw X (n - 1 - d) 4 := rfl
    omega
theorem dg_same {n f e0 e : Nat} (hf : f ≤ n) (hd : 5 ^ (n - f) ∣ e0) (h1 : e0 ≤ e) (h2 : e < e0 + 5 ^ (n - f)) {j : Nat} (hj : j < f) : dg n e j = dg n e0 j := by
  obtain ⟨q, rfl⟩ := hd
  have hp : 0 < 5 ^ (n - f) := Nat.pow_pos (by decide)
  have es : 5 ^ (n - 1 - j) = 5 ^ (n - f) * 5 ^ (f - 1 - j) := by rw [← Nat.pow_add]; congr 1; omega
  have ed : e / 5 ^ (n - f) = q := by
    have : e = 5 ^ (n - f) * q + (e - 5 ^ (n - f) * q) := by omega
    rw [this, Nat.mul_add_div hp, Nat.div_eq_of_lt (by omega), Nat.add_zero]
  unfold dg
  rw [es, ← Nat.div_div_eq_div_mul, ← Nat.div_div_eq_div_mul, ed, Nat.mul_div_cancel_left _ hp]
theorem pow_down {n f : Nat} (hf : f < n) : 5 ^ (n - f) = 5 * 5 ^ (n - (f + 1)) := by
  rw [show n - f = n - (f + 1) + 1 by omega, Nat.pow_succ, Nat.mul_comm]
theorem dg_kid {n f e0 w : Nat} (hf : f < n) (hd : 5 ^ (n - f) ∣ e0) (hw : w < 5) : dg n (e0 + w * 5 ^ (n - (f + 1))) f = w ∧ 5 ^ (n - (f + 1)) ∣ e0 + w * 5 ^ (n - (f + 1)) := by
  rw [pow_down hf] at hd
  obtain ⟨q, rfl⟩ := hd
  have hp : 0 < 5 ^ (n - (f + 1)) := Nat.pow_pos (by decide)
  have e : 5 * 5 ^ (n - (f + 1)) * q + w * 5 ^ (n - (f + 1)) = 5 ^ (n - (f + 1)) * (5 * q + w) := by
    rw [Nat.mul_add, Nat.mul_comm 5, Nat.mul_assoc, Nat.mul_comm w]
  refine ⟨?_, ?_⟩
  · unfold dg
    rw [e, show n - 1 - f = n - (f + 1) by omega, Nat.mul_div_cancel_left _ hp]
    omega
  · rw [e]; exact Nat.dvd_mul_right _ _
/-- the first of the best plans below k -/
def Lf (n : Nat) (X : DX) (k : Nat) (o : Option Nat) : Prop := (∀ e, o = some e → e < k ∧ xok X (dg n e) n = true ∧ ∀ d, d < e → xok X (dg n d) n = true → xcs X (dg n d) n < xcs X (dg n e) n) ∧ ∀ d, d < k → xok X (dg n d) n = true → ∃ e, o = some e ∧ xcs X (dg n d) n ≤ xcs X (dg n e) n
theorem Lf_uniq {n k : Nat} {X : DX} {o p : Option Nat} (h : Lf n X k o) (g : Lf n X k p) : o = p := by
  cases o with
  | none =>
    cases p with
    | none => rfl
    | some e =>
      obtain ⟨z1, z2, -⟩ := g.1 e rfl
      obtain ⟨e2, z3, -⟩ := h.2 e z1 z2
      cases z3
  | some a =>
    obtain ⟨a1, a2, a3⟩ := h.1 a rfl
    obtain ⟨b, rfl, b1⟩ := g.2 a a1 a2
    obtain ⟨c1, c2, c3⟩ := g.1 b rfl
    obtain ⟨a', ea, b2⟩ := h.2 b c1 c2
    cases ea
    by_cases q : a < b
    · have := c3 a q a2; omega
    · by_cases q2 : b < a
      · have := a3 b q2 c2; omega
      · rw [show a = b by omega]
theorem Lf_skip {n k k2 : Nat} {X : DX} {o : Option Nat} (h : Lf n X k o) (hk : k ≤ k2) (hs : ∀ d, k ≤ d → d < k2 → xok X (dg n d) n = true → ∃ e, o = some e ∧ xcs X (dg n d) n ≤ xcs X (dg n e) n) : Lf n X k2 o := by
  refine ⟨fun e he => ?_, fun d hd hok => ?_⟩
  · obtain ⟨z1, z2⟩ := h.1 e he
    exact ⟨by omega, z2⟩
  · by_cases q : d < k
    · exact h.2 d q hok
    · exact hs d (by omega) hd hok
theorem Lf_take {n k : Nat} {X : DX} {o : Option Nat} (h : Lf n X k o) (hok : xok X (dg n k) n = true) (hb : ∀ e, o = some e → xcs X (dg n e) n < xcs X (dg n k) n) : Lf n X (k + 1) (some k) := by
  have low : ∀ d, d < k → xok X (dg n d) n = true → xcs X (dg n d) n < xcs X (dg n k) n := by
    intro d hd hq
    obtain ⟨e, he, hle⟩ := h.2 d hd hq
    have := hb e he
    omega
  refine ⟨fun e he => ?_, fun d hd hq => ⟨k, rfl, ?_⟩⟩
  · cases he
    exact ⟨by omega, hok, low⟩
  · by_cases q : d = k
    · rw [q]; exact Nat.le_refl _
    · have := low d (by omega) hq
      omega
def xval (n : Nat) (X : DX) (o : Option Nat) : Int32 := match o with | none => -1 | some e => nI (xcs X (dg n e) n)
section DV
variable {N n : Nat} {X : DX} {c r : St}
/-- what driving rests on: the class -/
def DrC (n : Nat) (X : DX) (c : St) : Prop := LenC c ∧ gI c 21 = nI n ∧ gI c 22 = nI (xls X) ∧ (∀ f, f < n → (gA c 62).getD f 0 = nI (xsh X f)) ∧ (∀ f, f < n → (gA c 63).getD f 0 = nI (xfa X f)) ∧ (∀ w, w < 4 → (gA c 55).getD w 0 = nI (xta X w)) ∧ ∀ f w, f < n → w < 4 → (gA c (56 + f)).getD w 0 = nI (xdy X f w)
def DrR (n : Nat) (X : DX) (r : St) : Prop := LenR r ∧ gI r 13 = nI n ∧ gI r 14 = nI (xls X) ∧ (∀ f, f < n → (gA r 16).getD f 0 = nI (xsh X f)) ∧ (∀ f, f < n → (gA r 17).getD f 0 = nI (xfa X f)) ∧ (∀ w, w < 4 → (gA r 19).getD w 0 = nI (xta X w)) ∧ ∀ f w, f < n → w < 4 → (gA r 18).getD (4 * f + w) 0 = nI (xdy X f w)
theorem Rel.dr (h : Rel c r) : ∃ n X, XB n X ∧ DrC n X c ∧ DrR n X r := by
  obtain ⟨n, q1, q2, q3, q4, q5, q6, q7, q8, q9, q10, q11, q12, q13⟩ := h.rDrv
  have s1 : ∀ f, f < n → (gA c 62).getD f 0 = nI ((gA c 62).getD f 0).toNatClampNeg ∧ 1 ≤ ((gA c 62).getD f 0).toNatClampNeg ∧ ((gA c 62).getD f 0).toNatClampNeg ≤ 999 := fun f hf => by
    have := q6 f hf
    obtain ⟨z1, z2⟩ := nat_of (x := (gA c 62).getD f 0) (by omega)
    exact ⟨z1, by omega, by omega⟩
  have s2 : ∀ f, f < n → (gA c 63).getD f 0 = nI ((gA c 63).getD f 0).toNatClampNeg ∧ ((gA c 63).getD f 0).toNatClampNeg ≤ 99 := fun f hf => by
    have := q7 f hf
    obtain ⟨z1, z2⟩ := nat_of (x := (gA c 63).getD f 0) (by omega)
    exact ⟨z1, by omega⟩
  have s3 : ∀ w, w < 4 → (gA c 55).getD w 0 = nI ((gA c 55).getD w 0).toNatClampNeg ∧ ((gA c 55).getD w 0).toNatClampNeg ≤ 9999 := fun w hw => by
    have := q11 w hw
    obtain ⟨z1, z2⟩ := nat_of (x := (gA c 55).getD w 0) (by omega)
    exact ⟨z1, by omega⟩
  have s4 : ∀ f w, f < n → w < 4 → (gA r 18).getD (4 * f + w) 0 = nI ((gA r 18).getD (4 * f + w) 0).toNatClampNeg ∧ ((gA r 18).getD (4 * f + w) 0).toNatClampNeg ≤ 60 := fun f w hf hw => by
    have := q9 (4 * f + w) (by omega)
    obtain ⟨z1, z2⟩ := nat_of (x := (gA r 18).getD (4 * f + w) 0) (by omega)
    exact ⟨z1, by omega⟩
  obtain ⟨z1, z2⟩ := nat_of (x := gI c 22) q13.1
  have z3 : (gI c 22).toNatClampNeg ≤ 9 := by have := q13.2; omega
  exact ⟨n, ((gI c 22).toNatClampNeg, fun f => ((gA c 62).getD f 0).toNatClampNeg, fun f => ((gA c 63).getD f 0).toNatClampNeg, fun w => ((gA c 55).getD w 0).toNatClampNeg, fun f w => ((gA r 18).getD (4 * f + w) 0).toNatClampNeg), ⟨q1, z3, fun f hf => (s1 f hf).2, fun f hf => (s2 f hf).2, fun w hw => (s3 w hw).2, fun f w hf hw => (s4 f w hf hw).2⟩, ⟨h.lenC, q2, z1, fun f hf => (s1 f hf).1, fun f hf => (s2 f hf).1, fun w hw => (s3 w hw).1, fun f w hf hw => (q8 f w (by omega) hw).symm.trans (s4 f w hf hw).1⟩, ⟨h.lenR, q3, q12.symm.trans z1, fun f hf => by rw [← q4]; exact (s1 f hf).1, fun f hf => by rw [← q5]; exact (s2 f hf).1, fun w hw => by rw [← q10]; exact (s3 w hw).1, fun f w hf hw => (s4 f w hf hw).1⟩⟩
theorem DrC.fr {c1 : St} (h : DrC n X c) (hn : n ≤ 6) (hc : Fm (mks [23]) (mks [64, 65, 66, 67]) c c1) : DrC n X c1 := by
  obtain ⟨a1, a2, a3, a4, a5, a6, a7⟩ := h
  refine ⟨LenC_fr a1 hc, (hc.1 21 rfl).trans a2, (hc.1 22 rfl).trans a3, ?_, ?_, ?_, fun f w hf hw => ?_⟩
  · rw [hc.2.1 62 rfl]; exact a4
  · rw [hc.2.1 63 rfl]; exact a5
  · rw [hc.2.1 55 rfl]; exact a6
  · rw [hc.2.1 (56 + f) ((by decide : ∀ i, i < 6 → mks [64, 65, 66, 67] (56 + i) = false) f (by omega))]; exact a7 f w hf hw
theorem DrR.fr {r1 : St} (h : DrR n X r) (hr : Fm (mks []) (mks [36, 37]) r r1) : DrR n X r1 := by
  obtain ⟨a1, a2, a3, a4, a5, a6, a7⟩ := h
  refine ⟨LenR_fr a1 hr, (hr.1 13 rfl).trans a2, (hr.1 14 rfl).trans a3, ?_, ?_, ?_, ?_⟩
  · rw [hr.2.1 16 rfl]; exact a4
  · rw [hr.2.1 17 rfl]; exact a5
  · rw [hr.2.1 19 rfl]; exact a6
  · rw [hr.2.1 18 rfl]; exact a7
theorem max0_ok {a b : Nat} (ha : a < 2 ^ 30) (hb : b < 2 ^ 30) : J_max N 0 (nI a - nI b) = some (nI (a - b)) := by
  unfold J_max
  by_cases h : b < a
  · rw [pk_sub (by omega), if_pos (show (0 : Int32) < nI (a - b) from (nI_ltI (a := 0) (by omega) (by omega)).mpr (by omega))]
  · rw [if_neg, show a - b = 0 by omega]
    · rfl
    · rw [Int32.lt_iff_toInt_lt, pk_sub_toInt ha hb, show (0 : Int32).toInt = 0 from rfl]
      omega
theorem maxn_ok {a b : Nat} (ha : a < 2 ^ 30) (hb : b < 2 ^ 30) : J_max N (nI a) (nI b) = some (nI (max a b)) := by
  unfold J_max
  by_cases h : a < b
  · rw [if_pos ((nI_ltI (by omega) (by omega)).mpr h), Nat.max_eq_right (by omega)]
  · rw [if_neg (fun q => h ((nI_ltI (by omega) (by omega)).mp q)), Nat.max_eq_left (by omega)]
theorem comesC_ok (hX : XB n X) (hD : DrC n X c) {f w : Nat} (hf : f < n) (hw : w < 4) : Drive_comesOf N c (nI f) (nI w) = some (nI (xcm X f w)) := by
  obtain ⟨a1, a2, a3, a4, a5, a6, a7⟩ := hD
  obtain ⟨h1, h2, h3, h4, h5, h6⟩ := hX
  have l62 : (gA c 62).length = 6 := a1.1 62
  have l63 : (gA c 63).length = 6 := a1.1 63
  have lw : (gA c (56 + f)).length = 4 := (a1.1 _).trans ((by decide : ∀ i, i < 6 → LAc (56 + i) = 4) f (by omega))
  have hm : xls X * xdy X f w ≤ 9 * 60 := Nat.mul_le_mul h2 (h6 f w hf hw)
  have := h4 f hf
  unfold Drive_comesOf
  rw [ld_nI (by omega) (by omega), ld_nI (by omega) (by omega), Option.bind_some, Option.bind_some, rwi_nI (show f < 6 by omega) (by omega), Option.bind_some, ld_nI (by omega) (by omega), Option.bind_some, a4 f hf, a5 f hf, a7 f w hf hw, a3, pk_mul, max0_ok (by omega) (by omega), Option.bind_some, pk_mul]
  unfold xcm
  rw [if_pos hw]
theorem comesR_ok (hX : XB n X) (hD : DrR n X r) {f w : Nat} (hf : f < n) (hw : w < 5) : R_comesOf N r (nI f) (nI w) = some (nI (xcm X f w)) := by
  obtain ⟨a1, a2, a3, a4, a5, a6, a7⟩ := hD
  obtain ⟨h1, h2, h3, h4, h5, h6⟩ := hX
  have l16 : (gA r 16).length = 6 := a1.1 16
  have l17 : (gA r 17).length = 6 := a1.1 17
  have l18 : (gA r 18).length = 24 := a1.1 18
  unfold R_comesOf R_comesOf_p31
  by_cases q : w = 4
  · subst q
    rw [if_neg (fun z => z rfl), if_pos (by decide), ld_nI (by omega) (by omega), Option.bind_some, Int32.mul_zero]
    rfl
  · have hw4 : w < 4 := by omega
    have hm : xls X * xdy X f w ≤ 9 * 60 := Nat.mul_le_mul h2 (h6 f w hf hw4)
    have := h4 f hf
    have e4 : (4 : Int32) * nI f + nI w = nI (4 * f + w) := by rw [show (4 : Int32) = nI 4 from rfl, pk_mul, nI_add]
    rw [if_pos (show ¬ nI w = 4 from fun z => q ((nI_eq (b := 4) (by omega) (by omega)).mp z)), ld_nI (by omega) (by omega), ld_nI (by omega) (by omega), Option.bind_some, e4, ld_nI (by omega) (by omega), Option.bind_some, Option.bind_some, a4 f hf, a5 f hf, a7 f w hf hw4, a3, pk_mul]
    simp only [sub_le0 (show xfa X f < 2 ^ 30 by omega) (show xls X * xdy X f w < 2 ^ 30 by omega)]
    unfold xcm
    rw [if_pos hw4]
    by_cases z : xls X * xdy X f w ≤ xfa X f
    · rw [if_pos z, pk_sub z, pk_mul]
    · rw [if_neg z, show xfa X f - xls X * xdy X f w = 0 by omega, Nat.mul_zero]
      rfl
theorem mostOf_ok (hX : XB n X) (hD : DrC n X c) (hN : 100 < N) {f : Nat} (hf : f < n) : Drive_mostOf N c (nI f) = some (nI (mxw X f 4)) := by
  unfold Drive_mostOf
  refine for_up (P := fun fu w => Drive_mostOf_p4 N c fu (nI f) (nI (mxw X f w)) (nI w) = some (nI (mxw X f 4))) (m := 4) ?_ ?_ N 0 (by omega) (by omega)
  · intro fu
    show Drive_mostOf_p4b _ _ _ _ _ _ = _
    unfold Drive_mostOf_p4b
    rw [if_pos (show (4 : Int32) ≤ nI 4 from nI_stop 4)]
  · intro fu w hw ih
    have := mxw_le hX hf w
    have := xcm_le hX hf (w := w)
    show Drive_mostOf_p4b _ _ _ _ _ _ = _
    unfold Drive_mostOf_p4b
    rw [if_neg (show ¬ (4 : Int32) ≤ nI w from nI_on (m := 4) hw (by omega)), comesC_ok hX hD hf hw, Option.bind_some, maxn_ok (by omega) (by omega), Option.bind_some, nI_1]
    exact ih
/-- the class on its way, flock f, the plans from e0 on, the best so far o -/
def Ds (n : Nat) (X : DX) (f e0 : Nat) (o : Option Nat) (c : St) : Prop := DrC n X c ∧ (∀ j, j ≤ n → (gA c 67).getD j 0 = nI (hpd n X (n - j))) ∧ (∀ w, w < 4 → (gA c 64).getD w 0 = nI (xta X w - xtk X (dg n e0) w f)) ∧ (∀ j, j < f → (gA c 65).getD j 0 = nI (dg n e0 j)) ∧ gI c 23 = xval n X o ∧ ∀ e, o = some e → ∀ j, j < n → (gA c 66).getD j 0 = nI (dg n e j)
theorem xval_lt (hX : XB n X) {o : Option Nat} {a : Nat} (ha : a < 2 ^ 30) : (xval n X o < nI a) = (∀ e, o = some e → xcs X (dg n e) n < a) := by
  have h1 := hX.1
  refine propext ?_
  cases o with
  | none =>
    refine ⟨fun _ e he => (by cases he), fun _ => ?_⟩
    show (-1 : Int32) < nI a
    rw [Int32.lt_iff_toInt_lt, nI_toInt (by omega), show (-1 : Int32).toInt = -1 from rfl]
    omega
  | some e =>
    have := xcs_le hX (dg n e) n (Nat.le_refl n)
    show nI (xcs X (dg n e) n) < nI a ↔ _
    rw [nI_ltI (by omega) (by omega)]
    exact ⟨fun z e2 he => by cases he; exact z, fun z => z e rfl⟩
/-- what send is to do -/
def SendOk (N n : Nat) (X : DX) (D f : Nat) : Prop := ∀ (c : St) (e0 : Nat) (o : Option Nat), Ds n X f e0 o c → xok X (dg n e0) f = true → 5 ^ (n - f) ∣ e0 → Lf n X e0 o → ∃ c1 o1, Drive_send N D c (nI f) (nI (xcs X (dg n e0) f)) = some c1 ∧ Fm (mks [23]) (mks [64, 65, 66]) c c1 ∧ Lf n X (e0 + 5 ^ (n - f)) o1 ∧ Ds n X f e0 o1 c1
theorem send_cut (hX : XB n X) {f e0 : Nat} {o : Option Nat} (hf : f ≤ n) (hd : 5 ^ (n - f) ∣ e0) (hL : Lf n X e0 o) (hcut : ¬ ∀ e, o = some e → xcs X (dg n e) n < xcs X (dg n e0) f + hpd n X (n - f)) : Lf n X (e0 + 5 ^ (n - f)) o := by
  refine Lf_skip hL (by omega) (fun d h1 h2 _ => ?_)
  cases o with
  | none => exact absurd (fun e he => by cases he) hcut
  | some e =>
    refine ⟨e, rfl, ?_⟩
    have h3 : ¬ xcs X (dg n e) n < xcs X (dg n e0) f + hpd n X (n - f) := fun z => hcut (fun e2 he => by cases he; exact z)
    have h4 := hpd_up (n := n) (X := X) (g := dg n d) (fun j => dg_lt n d j) (n - f) (by omega)
    rw [show n - (n - f) = f by omega, xcs_congr (g := dg n d) (h := dg n e0) f (fun j hj => dg_same hf hd h1 h2 hj)] at h4
    omega
theorem send_leaf (hX : XB n X) (D : Nat) : SendOk N n X (D + 1) n := by
  intro c e0 o hS hok hd hL
  have hS0 := hS
  obtain ⟨a1, a2, a3, a4, a5, a6⟩ := hS
  have l67 : (gA c 67).length = 7 := a1.1.1 67
  have l65 : (gA c 65).length = 6 := a1.1.1 65
  have l66 : (gA c 66).length = 6 := a1.1.1 66
  have h6 := hX.1
  have hle := xcs_le hX (dg n e0) n (Nat.le_refl n)
  have hp : 5 ^ (n - n) = 1 := by rw [Nat.sub_self, Nat.pow_zero]
  have hz : hpd n X (n - n) = 0 := by rw [Nat.sub_self]; rfl
  have ev : (xval n X o < nI (xcs X (dg n e0) n) + nI (hpd n X (n - n))) = (∀ e, o = some e → xcs X (dg n e) n < xcs X (dg n e0) n) := by
    rw [hz, nI_add, Nat.add_zero]
    exact xval_lt hX (by omega)
  have un : Drive_send N (D + 1) c (nI n) (nI (xcs X (dg n e0) n)) = if (∀ e, o = some e → xcs X (dg n e) n < xcs X (dg n e0) n) then some (sA (sI c 23 (nI (xcs X (dg n e0) n))) 66 ((gA c 65).take n ++ (gA c 66).drop n)) else some c := by
    show Drive_send_p0 _ _ _ _ _ = _
    unfold Drive_send_p0
    rw [ld_nI (by omega) (by omega), Option.bind_some, a2 n (Nat.le_refl n), a5]
    simp only [ev]
    have ec : cpy (gA (sI c 23 (nI (xcs X (dg n e0) n))) 65) (gA (sI c 23 (nI (xcs X (dg n e0) n))) 66) 0 0 (gI (sI c 23 (nI (xcs X (dg n e0) n))) 21) = some ((gA c 65).take n ++ (gA c 66).drop n) := by
      rw [gA_sI, gA_sI, gI_sI_ne _ _ (by decide), a1.2.1]
      exact cpy_n (by omega) (by omega) (by omega)
    rw [ec, a1.2.1, if_neg (show ¬ nI n < nI n from Int32.lt_irrefl), Option.bind_some]
  rw [un]
  by_cases hb : ∀ e, o = some e → xcs X (dg n e) n < xcs X (dg n e0) n
  · rw [if_pos hb]
    refine ⟨_, some e0, rfl, ((Fm.refl _ _ c).sI rfl).sA rfl ?_, ?_, ?_⟩
    · exact cpy_len (f := gA c 65) (g := gA c 66) (by omega) (by omega)
    · rw [hp]; exact Lf_take hL hok hb
    · refine ⟨a1.fr h6 (((Fm.refl _ _ c).sI rfl).sA rfl (cpy_len (f := gA c 65) (g := gA c 66) (by omega) (by omega))), ?_, ?_, ?_, rfl, ?_⟩
      · rw [gA_sA_ne _ _ (by decide)]; exact a2
      · rw [gA_sA_ne _ _ (by decide)]; exact a3
      · rw [gA_sA_ne _ _ (by decide)]; exact a4
      · intro e he j hj
        cases he
        rw [gA_sA_same, cpy_get (by omega), if_pos hj]
        exact a4 j hj
  · rw [if_neg hb]
    refine ⟨c, o, rfl, Fm.refl _ _ c, ?_, hS0⟩
    exact send_cut hX (Nat.le_refl n) hd hL (by rw [hz, Nat.add_zero]; exact hb)
theorem send_node (hX : XB n X) (hN : 100 < N) {D f : Nat} (hf : f < n) (hR : SendOk N n X D (f + 1)) : SendOk N n X (D + 1) f := by
  intro c e0 o hS hok hd hL
  have h6 := hX.1
  have hM := pow_down hf
  generalize hMd : 5 ^ (n - (f + 1)) = M at hM
  have kid : ∀ w, w < 5 → (∀ j, j < f → dg n (e0 + w * M) j = dg n e0 j) ∧ dg n (e0 + w * M) f = w ∧ M ∣ e0 + w * M := by
    intro w hw
    have hp : 0 < M := by rw [← hMd]; exact Nat.pow_pos (by decide)
    have k1 := dg_kid hf hd hw
    rw [hMd] at k1
    refine ⟨fun j hj => dg_same (f := f) (by omega) hd (by omega) ?_ hj, k1⟩
    rw [hM]
    have : w * M ≤ 4 * M := Nat.mul_le_mul_right M (by omega)
    omega
  have kidx : ∀ w, w < 5 → xcs X (dg n (e0 + w * M)) (f + 1) = xcs X (dg n e0) f + xcm X f w := by
    intro w hw
    obtain ⟨k1, k2, -⟩ := kid w hw
    show xcs X (dg n (e0 + w * M)) f + xcm X f (dg n (e0 + w * M) f) = _
    rw [xcs_congr f k1, k2]
  have kidt : ∀ w v, w < 5 → xtk X (dg n (e0 + w * M)) v (f + 1) = xtk X (dg n e0) v f + if w = v then xsh X f else 0 := by
    intro w v hw
    obtain ⟨k1, k2, -⟩ := kid w hw
    show xtk X (dg n (e0 + w * M)) v f + (if dg n (e0 + w * M) f = v then xsh X f else 0) = _
    rw [xtk_congr v f k1, k2]
  have kido : ∀ w, w < 5 → xok X (dg n (e0 + w * M)) (f + 1) = (decide (w = 4) || decide (xtk X (dg n e0) w f + xsh X f ≤ xta X w)) := by
    intro w hw
    obtain ⟨k1, k2, -⟩ := kid w hw
    have kt := kidt w w hw
    rw [if_pos rfl] at kt
    show (xok X (dg n (e0 + w * M)) f && (decide (dg n (e0 + w * M) f = 4) || decide (xtk X (dg n (e0 + w * M)) (dg n (e0 + w * M) f) (f + 1) ≤ xta X (dg n (e0 + w * M) f)))) = _
    rw [xok_congr f k1, hok, Bool.true_and, k2, kt]
  have hle0 := xcs_le hX (dg n e0) f (by omega)
  have hsh := hX.2.2.1 f hf
  obtain ⟨a1, a2, a3, a4, a5, a6⟩ := hS
  have l67 : (gA c 67).length = 7 := a1.1.1 67
  have hhp := hpd_le hX (n - f) (by omega)
  have ev : (xval n X o < nI (xcs X (dg n e0) f) + nI (hpd n X (n - f))) = (∀ e, o = some e → xcs X (dg n e) n < xcs X (dg n e0) f + hpd n X (n - f)) := by
    rw [nI_add]
    exact xval_lt hX (by omega)
  have un : Drive_send N (D + 1) c (nI f) (nI (xcs X (dg n e0) f)) = if (∀ e, o = some e → xcs X (dg n e) n < xcs X (dg n e0) f + hpd n X (n - f)) then Drive_send_p49 N (Drive_send N D) N c (nI f) (nI (xcs X (dg n e0) f)) 0 else some c := by
    show Drive_send_p0 _ _ _ _ _ = _
    unfold Drive_send_p0
    rw [ld_nI (by omega) (by omega), Option.bind_some, a2 f (by omega), a5]
    simp only [ev]
    rw [a1.2.1, if_pos ((nI_ltI (by omega) (by omega)).mpr hf)]
  rw [un]
  by_cases hb : ∀ e, o = some e → xcs X (dg n e) n < xcs X (dg n e0) f + hpd n X (n - f)
  · rw [if_pos hb]
    have loop : ∀ fu w, w ≤ 4 → 4 - w < fu → ∀ (c2 : St) (o2 : Option Nat), Fm (mks [23]) (mks [64, 65, 66]) c c2 → Ds n X f e0 o2 c2 → Lf n X (e0 + w * M) o2 → ∃ c1 o1, Drive_send_p49 N (Drive_send N D) fu c2 (nI f) (nI (xcs X (dg n e0) f)) (nI w) = some c1 ∧ Fm (mks [23]) (mks [64, 65, 66]) c c1 ∧ Lf n X (e0 + 5 ^ (n - f)) o1 ∧ Ds n X f e0 o1 c1 := by
      refine for_up (P := fun fu w => ∀ (c2 : St) (o2 : Option Nat), Fm (mks [23]) (mks [64, 65, 66]) c c2 → Ds n X f e0 o2 c2 → Lf n X (e0 + w * M) o2 → ∃ c1 o1, Drive_send_p49 N (Drive_send N D) fu c2 (nI f) (nI (xcs X (dg n e0) f)) (nI w) = some c1 ∧ Fm (mks [23]) (mks [64, 65, 66]) c c1 ∧ Lf n X (e0 + 5 ^ (n - f)) o1 ∧ Ds n X f e0 o1 c1) ?_ ?_
      · intro fu c2 o2 fc hS2 hL2
        obtain ⟨b1, b2, b3, b4, b5, b6⟩ := hS2
        have l65 : (gA c2 65).length = 6 := b1.1.1 65
        obtain ⟨k1, k2, k3⟩ := kid 4 (by decide)
        have fc2 : Fm (mks [23]) (mks [64, 65, 66]) c2 (sA c2 65 ((gA c2 65).set f 4)) := (Fm.refl _ _ c2).sA rfl List.length_set
        have hS3 : Ds n X (f + 1) (e0 + 4 * M) o2 (sA c2 65 ((gA c2 65).set f 4)) := by
          refine ⟨b1.fr h6 (fc2.mono (mks_le (by decide)) (mks_le (by decide))), ?_, ?_, ?_, b5, ?_⟩
          · rw [gA_sA_ne _ _ (by decide)]; exact b2
          · intro v hv
            rw [gA_sA_ne _ _ (by decide), kidt 4 v (by decide), if_neg (by omega), Nat.add_zero]
            exact b3 v hv
          · intro j hj
            rw [gA_sA_same, getD_set (by omega)]
            by_cases q : j = f
            · rw [if_pos q, q, k2]; rfl
            · rw [if_neg q, k1 j (by omega)]; exact b4 j (by omega)
          · rw [gA_sA_ne _ _ (by decide)]; exact b6
        obtain ⟨c1, o1, y1, y2, y3, y4⟩ := hR _ (e0 + 4 * M) o2 hS3 (by rw [kido 4 (by decide)]; rfl) (by rw [hMd]; exact k3) hL2
        rw [hMd, show e0 + 4 * M + M = e0 + 5 * M by omega] at y3
        rw [kidx 4 (by decide), show xcm X f 4 = 0 from rfl, Nat.add_zero (xcs X (dg n e0) f)] at y1
        have e4 : (gA c2 65).set f 4 = (gA c2 65).set f (nI 4) := rfl
        refine ⟨c1, o1, ?_, fc.trans (fc2.trans y2), by rw [hM]; exact y3, ?_⟩
        · show Drive_send_p49b _ _ _ _ _ _ _ = _
          unfold Drive_send_p49b
          rw [if_pos (show (4 : Int32) ≤ nI 4 from nI_stop 4), sto_nI (by omega) (by omega), Option.bind_some, nI_1, y1]
          rfl
        · obtain ⟨d1, d2, d3, d4, d5, d6⟩ := y4
          refine ⟨d1, d2, fun v hv => ?_, fun j hj => ?_, d5, d6⟩
          · rw [d3 v hv, kidt 4 v (by decide), if_neg (by omega), Nat.add_zero]
          · rw [d4 j (by omega), k1 j hj]
      · intro fu w hw ih c2 o2 fc hS2 hL2
        have hS20 := hS2
        obtain ⟨b1, b2, b3, b4, b5, b6⟩ := hS2
        have l64 : (gA c2 64).length = 4 := b1.1.1 64
        have l65 : (gA c2 65).length = 6 := b1.1.1 65
        have l62 : (gA c2 62).length = 6 := b1.1.1 62
        obtain ⟨k1, k2, k3⟩ := kid w (by omega)
        have hroom := xok_room f hok w hw
        have hta := hX.2.2.2.2.1 w hw
        have d62 : ld (gA c2 62) (nI f) = some (nI (xsh X f)) := by rw [ld_nI (by omega) (by omega), b1.2.2.2.1 f hf]
        have d64 : ld (gA c2 64) (nI w) = some (nI (xta X w - xtk X (dg n e0) w f)) := by rw [ld_nI (by omega) (by omega), b3 w hw]
        have nxt : e0 + w * M + M = e0 + (w + 1) * M := by rw [Nat.add_mul, Nat.one_mul]; omega
        by_cases hr : xta X w - xtk X (dg n e0) w f < xsh X f
        · have hsk : Lf n X (e0 + (w + 1) * M) o2 := by
            refine Lf_skip hL2 (by omega) (fun d h1 h2 h3 => ?_)
            exfalso
            have hdd : dg n d f = w ∧ ∀ j, j < f → dg n d j = dg n e0 j := by
              have sm : ∀ j, j < f + 1 → dg n d j = dg n (e0 + w * M) j := fun j hj => dg_same (f := f + 1) (by omega) (by rw [hMd]; exact k3) h1 (by rw [hMd]; omega) hj
              exact ⟨(sm f (by omega)).trans k2, fun j hj => (sm j (by omega)).trans (k1 j hj)⟩
            have h4 := xok_le n h3 (f + 1) (by omega)
            have h5 : xok X (dg n d) (f + 1) = xok X (dg n (e0 + w * M)) (f + 1) := xok_congr (f + 1) (fun j hj => by
              by_cases q : j = f
              · rw [q, hdd.1, k2]
              · rw [hdd.2 j (by omega), k1 j (by omega)])
            rw [h5, kido w (by omega), Bool.or_eq_true, decide_eq_true_eq, decide_eq_true_eq] at h4
            omega
          obtain ⟨c1, o1, y⟩ := ih c2 o2 fc hS20 hsk
          refine ⟨c1, o1, ?_, y.2⟩
          rw [← y.1]
          show Drive_send_p49b _ _ _ _ _ _ _ = _
          unfold Drive_send_p49b Drive_send_p121
          rw [if_neg (show ¬ (4 : Int32) ≤ nI w from nI_on (m := 4) hw (by omega)), d62, Option.bind_some, d64, Option.bind_some, if_pos ((nI_ltI (by omega) (by omega)).mpr hr), nI_1]
        · have fc2 : Fm (mks [23]) (mks [64, 65, 66]) c2 (sA (sA c2 64 ((gA c2 64).set w (nI (xta X w - xtk X (dg n e0) w f - xsh X f)))) 65 ((gA c2 65).set f (nI w))) := ((Fm.refl _ _ c2).sA rfl List.length_set).sA rfl (by rw [List.length_set, gA_sA_ne _ _ (by decide)])
          generalize hc3 : sA (sA c2 64 ((gA c2 64).set w (nI (xta X w - xtk X (dg n e0) w f - xsh X f)))) 65 ((gA c2 65).set f (nI w)) = c3 at fc2
          have b1' : DrC n X c3 := b1.fr h6 (fc2.mono (mks_le (by decide)) (mks_le (by decide)))
          have hS3 : Ds n X (f + 1) (e0 + w * M) o2 c3 := by
            refine ⟨b1', ?_, ?_, ?_, by rw [← hc3]; exact b5, ?_⟩
            · rw [fc2.2.1 67 rfl]; exact b2
            · intro v hv
              rw [← hc3, gA_sA_ne _ _ (by decide), gA_sA_same, getD_set (by omega), kidt w v (by omega)]
              by_cases q : v = w
              · rw [if_pos q, if_pos q.symm, q]; congr 1; omega
              · rw [if_neg q, if_neg (fun z => q z.symm), Nat.add_zero]; exact b3 v hv
            · intro j hj
              rw [← hc3, gA_sA_same, getD_set (by omega)]
              by_cases q : j = f
              · rw [if_pos q, q, k2]
              · rw [if_neg q, k1 j (by omega)]; exact b4 j (by omega)
            · rw [← hc3, gA_sA_ne _ _ (by decide), gA_sA_ne _ _ (by decide)]; exact b6
          obtain ⟨c4, o4, y1, y2, y3, y4⟩ := hR c3 (e0 + w * M) o2 hS3 (by rw [kido w (by omega), Bool.or_eq_true, decide_eq_true_eq, decide_eq_true_eq]; omega) (by rw [hMd]; exact k3) hL2
          rw [hMd, nxt] at y3
          rw [kidx w (by omega)] at y1
          obtain ⟨e1, e2, e3, e4, e5, e6⟩ := y4
          have l64' : (gA c4 64).length = 4 := e1.1.1 64
          have l62' : (gA c4 62).length = 6 := e1.1.1 62
          have g62 : ld (gA c4 62) (nI f) = some (nI (xsh X f)) := by rw [ld_nI (by omega) (by omega), e1.2.2.2.1 f hf]
          have g64 : ld (gA c4 64) (nI w) = some (nI (xta X w - (xtk X (dg n e0) w f + xsh X f))) := by
            rw [ld_nI (by omega) (by omega), e3 w hw, kidt w w (by omega), if_pos rfl]
          have fc5 : Fm (mks [23]) (mks [64, 65, 66]) c4 (sA c4 64 ((gA c4 64).set w (nI (xta X w - xtk X (dg n e0) w f)))) := (Fm.refl _ _ c4).sA rfl List.length_set
          have hS5 : Ds n X f e0 o4 (sA c4 64 ((gA c4 64).set w (nI (xta X w - xtk X (dg n e0) w f)))) := by
            refine ⟨e1.fr h6 (fc5.mono (mks_le (by decide)) (mks_le (by decide))), ?_, ?_, ?_, e5, ?_⟩
            · rw [gA_sA_ne _ _ (by decide)]; exact e2
            · intro v hv
              rw [gA_sA_same, getD_set (by omega)]
              by_cases q : v = w
              · rw [if_pos q, q]
              · rw [if_neg q, e3 v hv, kidt w v (by omega), if_neg (fun z => q z.symm), Nat.add_zero]
            · intro j hj
              rw [gA_sA_ne _ _ (by decide), e4 j (by omega), k1 j hj]
            · rw [gA_sA_ne _ _ (by decide)]; exact e6
          obtain ⟨c1, o1, z1, z2⟩ := ih _ o4 (fc.trans (fc2.trans (y2.trans fc5))) hS5 y3
          refine ⟨c1, o1, ?_, z2⟩
          rw [← z1]
          show Drive_send_p49b _ _ _ _ _ _ _ = _
          unfold Drive_send_p49b Drive_send_p121
          have es : nI (xta X w - xtk X (dg n e0) w f) - nI (xsh X f) = nI (xta X w - xtk X (dg n e0) w f - xsh X f) := pk_sub (by omega)
          have ea : nI (xta X w - (xtk X (dg n e0) w f + xsh X f)) + nI (xsh X f) = nI (xta X w - xtk X (dg n e0) w f) := by rw [nI_add]; congr 1; omega
          have g65 : gA (sA c2 64 ((gA c2 64).set w (nI (xta X w - xtk X (dg n e0) w f - xsh X f)))) 65 = gA c2 65 := gA_sA_ne _ _ (by decide)
          rw [if_neg (show ¬ (4 : Int32) ≤ nI w from nI_on (m := 4) hw (by omega)), d62, Option.bind_some, d64, Option.bind_some, if_neg (fun z => hr ((nI_ltI (by omega) (by omega)).mp z)), Option.bind_some, Option.bind_some, es, sto_nI (by omega) (by omega), Option.bind_some, g65, sto_nI (by omega) (by omega), Option.bind_some, hc3, comesC_ok hX b1' hf hw, Option.bind_some, nI_1, nI_add, y1, Option.bind_some, g64, Option.bind_some, g62, Option.bind_some, ea, sto_nI (by omega) (by omega), Option.bind_some, nI_1]
    have := loop N 0 (by omega) (by omega) c o (Fm.refl _ _ c) ⟨a1, a2, a3, a4, a5, a6⟩ (by rw [Nat.zero_mul, Nat.add_zero]; exact hL)
    exact this
  · rw [if_neg hb]
    exact ⟨c, o, rfl, Fm.refl _ _ c, send_cut hX (by omega) hd hL hb, ⟨a1, a2, a3, a4, a5, a6⟩⟩
theorem send_all (hX : XB n X) (hN : 100 < N) : ∀ d D f, n - f = d → f ≤ n → d < D → SendOk N n X D f := by
  intro d
  induction d with
  | zero =>
    intro D f h1 h2 h3
    obtain ⟨D, rfl⟩ : ∃ E, D = E + 1 := ⟨D - 1, by omega⟩
    have : f = n := by omega
    subst this
    exact send_leaf hX D
  | succ d ih =>
    intro D f h1 h2 h3
    obtain ⟨D, rfl⟩ : ∃ E, D = E + 1 := ⟨D - 1, by omega⟩
    exact send_node hX hN (by omega) (ih D (f + 1) (by omega) (by omega) (by omega))
theorem best_ok (hX : XB n X) (hD : DrC n X c) (hN : 100 < N) : ∃ c1 o, Drive_driveBest N c = some c1 ∧ Fm (mks [23]) (mks [64, 65, 66, 67]) c c1 ∧ Lf n X (5 ^ n) o ∧ gI c1 23 = xval n X o ∧ ∀ e, o = some e → ∀ j, j < n → (gA c1 66).getD j 0 = nI (dg n e j) := by
  have h6 := hX.1
  have l55 : (gA c 55).length = 4 := hD.1.1 55
  have l64 : (gA c 64).length = 4 := hD.1.1 64
  have l67 : (gA c 67).length = 7 := hD.1.1 67
  have ec : cpy (gA c 55) (gA c 64) 0 0 4 = some (gA c 55) := cpy_all (n := 4) l55 l64 (by decide)
  have e1 : gI (sA c 64 (gA c 55)) 21 = nI n := hD.2.1
  have e2 : gA (sA c 64 (gA c 55)) 67 = gA c 67 := gA_sA_ne _ _ (by decide)
  unfold Drive_driveBest
  rw [ec, Option.bind_some, e1, e2, sto_nI (by omega) (by omega), Option.bind_some]
  have f0 : Fm (mks [23]) (mks [64, 65, 66, 67]) c (sA (sA c 64 (gA c 55)) 67 ((gA c 67).set n 0)) := ((Fm.refl _ _ c).sA rfl (by rw [l55, l64])).sA rfl (by rw [List.length_set, e2])
  have main : ∀ (k fu : Nat), k ≤ n → k < fu → ∀ c2, Fm (mks [23]) (mks [64, 65, 66, 67]) c c2 → gA c2 64 = gA c 55 → (∀ j, k ≤ j → j ≤ n → (gA c2 67).getD j 0 = nI (hpd n X (n - j))) → ∃ c1 o, Drive_driveBest_p31 N fu c2 (nI k - 1) = some c1 ∧ Fm (mks [23]) (mks [64, 65, 66, 67]) c c1 ∧ Lf n X (5 ^ n) o ∧ gI c1 23 = xval n X o ∧ ∀ e, o = some e → ∀ j, j < n → (gA c1 66).getD j 0 = nI (dg n e j) := by
    intro k
    induction k with
    | zero =>
      intro fu _ hfu c2 fc h64 h67
      obtain ⟨fu, rfl⟩ : ∃ g, fu = g + 1 := ⟨fu - 1, by omega⟩
      have hD2 := hD.fr h6 fc
      have fc' : Fm (mks [23]) (mks [64, 65, 66, 67]) c2 (sI c2 23 (-1)) := (Fm.refl _ _ c2).sI rfl
      have hS : Ds n X 0 0 none (sI c2 23 (-1)) := by
        refine ⟨hD2.fr h6 fc', fun j hj => h67 j (Nat.zero_le j) hj, fun w hw => ?_, fun j hj => absurd hj (Nat.not_lt_zero j), rfl, fun e he => by cases he⟩
        rw [gA_sI, h64, hD.2.2.2.2.2.1 w hw]
        rfl
      obtain ⟨c1, o1, y1, y2, y3, y4⟩ := send_all (N := N) hX hN n 10 0 (by omega) (by omega) (by omega) (sI c2 23 (-1)) 0 none hS rfl (Nat.dvd_zero _) ⟨fun e he => (by cases he), fun d hd => absurd hd (Nat.not_lt_zero d)⟩
      rw [Nat.sub_zero, Nat.zero_add] at y3
      refine ⟨c1, o1, ?_, fc.trans (fc'.trans (y2.mono (mks_le (by decide)) (mks_le (by decide)))), y3, y4.2.2.2.2.1, y4.2.2.2.2.2⟩
      show Drive_driveBest_p31b _ _ _ _ = _
      unfold Drive_driveBest_p31b
      rw [if_pos (show nI 0 - 1 < 0 by decide)]
      have y1' : Drive_send N 10 (sI c2 23 (-1)) 0 0 = some c1 := y1
      rw [y1', Option.bind_some]
    | succ k ih =>
      intro fu hk hfu c2 fc h64 h67
      obtain ⟨fu, rfl⟩ : ∃ g, fu = g + 1 := ⟨fu - 1, by omega⟩
      have hD2 := hD.fr h6 fc
      have l67' : (gA c2 67).length = 7 := (fc.len 67).trans l67
      have hh := h67 (k + 1) (Nat.le_refl _) hk
      have ex : hpd n X (n - k) = hpd n X (n - (k + 1)) + mxw X k 4 := by
        rw [show n - k = n - (k + 1) + 1 by omega]
        show hpd n X (n - (k + 1)) + mxw X (n - 1 - (n - (k + 1))) 4 = _
        rw [show n - 1 - (n - (k + 1)) = k by omega]
      obtain ⟨c1, o, y1, y2⟩ := ih fu (by omega) (by omega) (sA c2 67 ((gA c2 67).set k (nI (hpd n X (n - k))))) (fc.sA rfl List.length_set) (by rw [gA_sA_ne _ _ (by decide)]; exact h64) (fun j h1 h2 => by
        rw [gA_sA_same, getD_set (by omega)]
        by_cases q : j = k
        · rw [if_pos q, q]
        · rw [if_neg q]; exact h67 j (by omega) h2)
      refine ⟨c1, o, ?_, y2⟩
      rw [← y1]
      show Drive_driveBest_p31b _ _ _ _ = _
      unfold Drive_driveBest_p31b
      rw [nI_pred, if_neg (nI_pos (by omega)), nI_1, ld_nI (by omega) (by omega), Option.bind_some, mostOf_ok hX hD2 hN (by omega), Option.bind_some, hh, nI_add, ← ex, sto_nI (by omega) (by omega), Option.bind_some, ← Int32.sub_eq_add_neg]
  have e3 : gI (sA (sA c 64 (gA c 55)) 67 ((gA c 67).set n 0)) 21 = nI n := hD.2.1
  rw [e3]
  refine main n N (Nat.le_refl n) (by omega) _ f0 ?_ ?_
  · rw [gA_sA_ne _ _ (by decide), gA_sA_same]
  · intro j h1 h2
    rw [gA_sA_same, getD_set (by omega), show j = n by omega, if_pos rfl, Nat.sub_self]
    rfl
theorem dv_ok {a b : Nat} (ha : a < 2 ^ 31) (h0 : 0 < b) (hb : b < 2 ^ 31) : dv (nI a) (nI b) = some (nI (a / b)) := by
  unfold dv
  rw [if_neg (nI_ne0 h0 hb), pk_div ha h0 hb]
theorem rm_ok {a b : Nat} (ha : a < 2 ^ 31) (h0 : 0 < b) (hb : b < 2 ^ 31) : rm (nI a) (nI b) = some (nI (a % b)) := by
  unfold rm
  rw [if_neg (nI_ne0 h0 hb), pk_rem ha h0 hb]
theorem dig_ok {e f : Nat} (h6 : n ≤ 6) (hf : f < n) (he : e < 5 ^ n) : dv (nI (5 ^ (n - f))) 5 = some (nI (5 ^ (n - (f + 1)))) ∧ dv (nI e) (nI (5 ^ (n - (f + 1)))) = some (nI (e / 5 ^ (n - (f + 1)))) ∧ rm (nI (e / 5 ^ (n - (f + 1)))) 5 = some (nI (dg n e f)) := by
  have p1 : 5 ^ (n - f) ≤ 5 ^ 6 := Nat.pow_le_pow_right (by decide) (by omega)
  have p2 : 5 ^ (n - (f + 1)) ≤ 5 ^ 6 := Nat.pow_le_pow_right (by decide) (by omega)
  have p3 : 5 ^ n ≤ 5 ^ 6 := Nat.pow_le_pow_right (by decide) h6
  have p0 : 0 < 5 ^ (n - (f + 1)) := Nat.pow_pos (by decide)
  have p6 : 5 ^ 6 = 15625 := rfl
  have hle := Nat.div_le_self e (5 ^ (n - (f + 1)))
  refine ⟨?_, dv_ok (by omega) p0 (by omega), ?_⟩
  · have := dv_ok (a := 5 ^ (n - f)) (b := 5) (by omega) (by decide) (by decide)
    rw [pow_down hf, Nat.mul_div_cancel_left _ (by decide)] at this
    rw [pow_down hf]
    exact this
  · have := rm_ok (a := e / 5 ^ (n - (f + 1))) (b := 5) (by omega) (by decide) (by decide)
    unfold dg
    rw [show n - 1 - f = n - (f + 1) by omega]
    exact this
/-- the reference's look at one plan -/
theorem code_look (hX : XB n X) (hD : DrR n X r) (hN : 100 < N) {e : Nat} (he : e < 5 ^ n) (b : Int32) (kb26 : St → Int32 → Int32 → Int32 → Option (Int32 × St)) : ∃ r2, Fm (mks []) (mks [37]) r r2 ∧ R_seekDriven_p43 N kb26 N r (nI (5 ^ n)) b (nI e) (nI (5 ^ n)) 0 1 0 = if xok X (dg n e) n = false then kb26 r2 (nI (5 ^ n)) b (nI (e + 1)) else if nI (xcs X (dg n e) n) ≤ b then kb26 r2 (nI (5 ^ n)) b (nI (e + 1)) else R_seekDriven_p180 N kb26 N r2 (nI (5 ^ n)) (nI (xcs X (dg n e) n)) (nI e) (nI (5 ^ n)) 0 := by
  have h6 := hX.1
  have l37 : (gA r 37).length = 5 := hD.1.1 37
  have zero : ∃ r2, Fm (mks []) (mks [37]) r r2 ∧ (∀ w, w < 5 → (gA r2 37).getD w 0 = nI (xtk X (dg n e) w 0)) ∧ R_seekDriven_p43 N kb26 N r (nI (5 ^ n)) b (nI e) (nI (5 ^ n)) 0 1 0 = R_seekDriven_p66 N kb26 N r2 (nI (5 ^ n)) b (nI e) (nI (5 ^ n)) 0 1 0 := by
    refine for_up (P := fun fu w => ∀ r3, Fm (mks []) (mks [37]) r r3 → (∀ v, v < w → (gA r3 37).getD v 0 = 0) → ∃ r2, Fm (mks []) (mks [37]) r r2 ∧ (∀ w, w < 5 → (gA r2 37).getD w 0 = nI (xtk X (dg n e) w 0)) ∧ R_seekDriven_p43 N kb26 fu r3 (nI (5 ^ n)) b (nI e) (nI (5 ^ n)) 0 1 (nI w) = R_seekDriven_p66 N kb26 N r2 (nI (5 ^ n)) b (nI e) (nI (5 ^ n)) 0 1 0) (m := 5) ?_ ?_ N 0 (by omega) (by omega) r (Fm.refl _ _ r) (fun v hv => absurd hv (Nat.not_lt_zero v))
    · intro fu r3 fr h0
      refine ⟨r3, fr, fun w hw => h0 w hw, ?_⟩
      show R_seekDriven_p43b _ _ _ _ _ _ _ _ _ _ _ = _
      unfold R_seekDriven_p43b
      rw [if_pos (show (5 : Int32) ≤ nI 5 from nI_stop 5)]
    · intro fu w hw ih r3 fr h0
      have l3 : (gA r3 37).length = 5 := (fr.len 37).trans l37
      obtain ⟨r2, y1, y2, y3⟩ := ih (sA r3 37 ((gA r3 37).set w 0)) (fr.sA rfl List.length_set) (fun v hv => by
        rw [gA_sA_same, getD_set (by omega)]
        by_cases q : v = w
        · rw [if_pos q]
        · rw [if_neg q]; exact h0 v (by omega))
      refine ⟨r2, y1, y2, ?_⟩
      rw [← y3]
      show R_seekDriven_p43b _ _ _ _ _ _ _ _ _ _ _ = _
      unfold R_seekDriven_p43b
      rw [if_neg (show ¬ (5 : Int32) ≤ nI w from nI_on (m := 5) hw (by omega)), sto_nI (by omega) (by omega), Option.bind_some, nI_1]
  obtain ⟨r1, f1, t1, e1⟩ := zero
  rw [e1]
  refine for_up (P := fun fu f => ∀ r3, Fm (mks []) (mks [37]) r r3 → (∀ w, w < 5 → (gA r3 37).getD w 0 = nI (xtk X (dg n e) w f)) → ∃ r2, Fm (mks []) (mks [37]) r r2 ∧ R_seekDriven_p66 N kb26 fu r3 (nI (5 ^ n)) b (nI e) (nI (5 ^ (n - f))) (nI (xcs X (dg n e) f)) (if xok X (dg n e) f = true then 1 else 0) (nI f) = if xok X (dg n e) n = false then kb26 r2 (nI (5 ^ n)) b (nI (e + 1)) else if nI (xcs X (dg n e) n) ≤ b then kb26 r2 (nI (5 ^ n)) b (nI (e + 1)) else R_seekDriven_p180 N kb26 N r2 (nI (5 ^ n)) (nI (xcs X (dg n e) n)) (nI e) (nI (5 ^ n)) 0) (m := n) ?_ ?_ N 0 (by omega) (by omega) r1 f1 t1
  · intro fu r3 fr h0
    refine ⟨r3, fr, ?_⟩
    show R_seekDriven_p66b _ _ _ _ _ _ _ _ _ _ _ = _
    unfold R_seekDriven_p66b R_seekDriven_p214
    rw [(hD.fr (fr.mono (mks_le (by decide)) (mks_le (by decide)))).2.1, if_pos (nI_stop n), nI_1]
    cases xok X (dg n e) n with
    | false => rw [if_pos (show (if false = true then (1 : Int32) else 0) = 0 from rfl), if_pos rfl]
    | true => rw [if_neg (show ¬ (if true = true then (1 : Int32) else 0) = 0 by decide), if_neg (show ¬ true = false by decide)]
  · intro fu f hf ih r3 fr h0
    have hD3 := hD.fr (fr.mono (mks_le (by decide)) (mks_le (by decide)) : Fm (mks []) (mks [36, 37]) r r3)
    have l3 : (gA r3 37).length = 5 := (fr.len 37).trans l37
    have l16 : (gA r3 16).length = 6 := hD3.1.1 16
    have l19 : (gA r3 19).length = 4 := hD3.1.1 19
    obtain ⟨g1, g2, g3⟩ := dig_ok (n := n) (e := e) h6 hf he
    have hd5 := dg_lt n e f
    have d37 : ld (gA r3 37) (nI (dg n e f)) = some (nI (xtk X (dg n e) (dg n e f) f)) := by rw [ld_nI (by omega) (by omega), h0 _ hd5]
    have d16 : ld (gA r3 16) (nI f) = some (nI (xsh X f)) := by rw [ld_nI (by omega) (by omega), hD3.2.2.2.1 f hf]
    have ht : xtk X (dg n e) (dg n e f) (f + 1) = xtk X (dg n e) (dg n e f) f + xsh X f := by
      show _ + (if dg n e f = dg n e f then _ else 0) = _
      rw [if_pos rfl]
    have htb : ∀ w k, k ≤ n → xtk X (dg n e) w k ≤ 999 * k := by
      intro w k
      induction k with
      | zero => intro _; exact Nat.le_refl _
      | succ k ih =>
        intro hk
        have h1 := ih (by omega)
        have h2 := (hX.2.2.1 k (by omega)).2
        show xtk X (dg n e) w k + (if dg n e k = w then xsh X k else 0) ≤ _
        split <;> omega
    have hfr4 : Fm (mks []) (mks [37]) r3 (sA r3 37 ((gA r3 37).set (dg n e f) (nI (xtk X (dg n e) (dg n e f) (f + 1))))) := (Fm.refl _ _ r3).sA rfl List.length_set
    generalize hr4 : sA r3 37 ((gA r3 37).set (dg n e f) (nI (xtk X (dg n e) (dg n e f) (f + 1)))) = r4 at hfr4
    have hD4 : DrR n X r4 := hD3.fr (hfr4.mono (mks_le (by decide)) (mks_le (by decide)))
    have h37 : ∀ w, w < 5 → (gA r4 37).getD w 0 = nI (xtk X (dg n e) w (f + 1)) := by
      intro w hw
      rw [← hr4, gA_sA_same, getD_set (by omega)]
      by_cases q : w = dg n e f
      · rw [if_pos q, q]
      · rw [if_neg q, h0 w hw]
        show _ = nI (xtk X (dg n e) w f + if dg n e f = w then xsh X f else 0)
        rw [if_neg (fun z => q z.symm), Nat.add_zero]
    obtain ⟨r2, y1, y2⟩ := ih r4 (fr.trans hfr4) h37
    refine ⟨r2, y1, ?_⟩
    rw [← y2]
    show R_seekDriven_p66b _ _ _ _ _ _ _ _ _ _ _ = _
    unfold R_seekDriven_p66b R_seekDriven_p138 R_seekDriven_p134 R_seekDriven_p139
    have hcm : xcs X (dg n e) (f + 1) = xcs X (dg n e) f + xcm X f (dg n e f) := rfl
    rw [hD3.2.1, if_neg (nI_on hf (by omega)), g1, Option.bind_some, g2, Option.bind_some, g3, Option.bind_some, d37, Option.bind_some, d16, Option.bind_some, nI_add, ← ht, sto_nI (by omega) (by omega), Option.bind_some, hr4, comesR_ok hX hD4 hf hd5, Option.bind_some, Option.bind_some, nI_add, ← hcm, nI_1]
    have z4 : (nI (dg n e f) = (4 : Int32)) = (dg n e f = 4) := propext (nI_eq (b := 4) (by omega) (by omega))
    have hok : xok X (dg n e) (f + 1) = (xok X (dg n e) f && (decide (dg n e f = 4) || decide (xtk X (dg n e) (dg n e f) (f + 1) ≤ xta X (dg n e f)))) := rfl
    simp only [z4]
    cases hq : xok X (dg n e) f with
    | false =>
      rw [hq, Bool.false_and] at hok
      rw [if_pos (show (if false = true then (1 : Int32) else 0) = 0 from rfl), hok]
      rfl
    | true =>
      rw [hq, Bool.true_and] at hok
      rw [if_neg (show ¬ (if true = true then (1 : Int32) else 0) = 0 by decide)]
      by_cases h4 : dg n e f = 4
      · rw [if_pos h4, hok, decide_eq_true h4, Bool.true_or]
        rfl
      · rw [if_neg h4, ld_nI (by rw [(hfr4.len 37).trans l3]; omega) (by omega), Option.bind_some, h37 _ hd5]
        have l19' : (gA r4 19).length = 4 := hD4.1.1 19
        rw [ld_nI (by omega) (by omega), Option.bind_some, hD4.2.2.2.2.2.1 _ (by omega)]
        have b1 := htb (dg n e f) (f + 1) (by omega)
        have b2 := hX.2.2.2.2.1 (dg n e f) (by omega)
        have z5 : (nI (xta X (dg n e f)) < nI (xtk X (dg n e) (dg n e f) (f + 1))) = (xta X (dg n e f) < xtk X (dg n e) (dg n e f) (f + 1)) := propext (nI_ltI (by omega) (by omega))
        simp only [z5]
        by_cases h5 : xta X (dg n e f) < xtk X (dg n e) (dg n e f) (f + 1)
        · rw [if_pos h5, hok, decide_eq_false h4, decide_eq_false (by omega)]
          rfl
        · rw [if_neg h5, hok, decide_eq_false h4, decide_eq_true (by omega)]
          rfl
theorem xval_le (hX : XB n X) {o : Option Nat} {a : Nat} (ha : a < 2 ^ 30) : (nI a ≤ xval n X o) = ¬ ∀ e, o = some e → xcs X (dg n e) n < a := by
  rw [← xval_lt hX ha]
  exact propext Int32.not_lt.symm
theorem seek_ok (hX : XB n X) (hD : DrR n X r) (hN : 20000 < N) : ∃ r1 o, R_seekDriven N r = some (xval n X o, r1) ∧ Fm (mks []) (mks [36, 37]) r r1 ∧ Lf n X (5 ^ n) o ∧ ∀ e, o = some e → ∀ j, j < n → (gA r1 36).getD j 0 = nI (dg n e j) := by
  have h6 := hX.1
  have p3 : 5 ^ n ≤ 5 ^ 6 := Nat.pow_le_pow_right (by decide) h6
  have p6 : 5 ^ 6 = 15625 := rfl
  have l36 : (gA r 36).length = 6 := hD.1.1 36
  unfold R_seekDriven
  have ways : ∀ fu k, k ≤ n → n - k < fu → R_seekDriven_p4 N fu r (nI (5 ^ k)) (nI k) = R_seekDriven_p26 N N r (nI (5 ^ n)) (-1) 0 := by
    refine for_up (P := fun fu k => R_seekDriven_p4 N fu r (nI (5 ^ k)) (nI k) = R_seekDriven_p26 N N r (nI (5 ^ n)) (-1) 0) ?_ ?_
    · intro fu
      show R_seekDriven_p4b _ _ _ _ _ = _
      unfold R_seekDriven_p4b
      rw [hD.2.1, if_pos (nI_stop n)]
    · intro fu k hk ih
      show R_seekDriven_p4b _ _ _ _ _ = _
      unfold R_seekDriven_p4b
      have e5 : nI (5 ^ k) * 5 = nI (5 ^ (k + 1)) := by rw [show (5 : Int32) = nI 5 from rfl, pk_mul, Nat.pow_succ]
      rw [hD.2.1, if_neg (nI_on hk (by omega)), e5, nI_1]
      exact ih
  have w0 := ways N 0 (by omega) (by omega)
  have w0' : R_seekDriven_p4 N N r 1 0 = R_seekDriven_p26 N N r (nI (5 ^ n)) (-1) 0 := w0
  rw [w0']
  have main : ∀ fu k, k ≤ 5 ^ n → 5 ^ n - k < fu → ∀ (r2 : St) (o : Option Nat), Fm (mks []) (mks [36, 37]) r r2 → Lf n X k o → (∀ e, o = some e → ∀ j, j < n → (gA r2 36).getD j 0 = nI (dg n e j)) → ∃ r1 o1, R_seekDriven_p26 N fu r2 (nI (5 ^ n)) (xval n X o) (nI k) = some (xval n X o1, r1) ∧ Fm (mks []) (mks [36, 37]) r r1 ∧ Lf n X (5 ^ n) o1 ∧ ∀ e, o1 = some e → ∀ j, j < n → (gA r1 36).getD j 0 = nI (dg n e j) := by
    refine for_up (P := fun fu k => ∀ (r2 : St) (o : Option Nat), Fm (mks []) (mks [36, 37]) r r2 → Lf n X k o → (∀ e, o = some e → ∀ j, j < n → (gA r2 36).getD j 0 = nI (dg n e j)) → ∃ r1 o1, R_seekDriven_p26 N fu r2 (nI (5 ^ n)) (xval n X o) (nI k) = some (xval n X o1, r1) ∧ Fm (mks []) (mks [36, 37]) r r1 ∧ Lf n X (5 ^ n) o1 ∧ ∀ e, o1 = some e → ∀ j, j < n → (gA r1 36).getD j 0 = nI (dg n e j)) ?_ ?_
    · intro fu r2 o fr hL h36
      refine ⟨r2, o, ?_, fr, hL, h36⟩
      show R_seekDriven_p26b _ _ _ _ _ _ = _
      unfold R_seekDriven_p26b
      rw [if_pos (nI_stop _)]
    · intro fu k hk ih r2 o fr hL h36
      have hD2 := hD.fr fr
      obtain ⟨r3, f3, e3⟩ := code_look (N := N) hX hD2 (by omega) hk (xval n X o) (R_seekDriven_p26 N fu)
      have fr3 : Fm (mks []) (mks [36, 37]) r r3 := fr.trans (f3.mono (mks_le (by decide)) (mks_le (by decide)))
      have g36 : gA r3 36 = gA r2 36 := f3.2.1 36 rfl
      have un : R_seekDriven_p26 N (fu + 1) r2 (nI (5 ^ n)) (xval n X o) (nI k) = R_seekDriven_p43 N (R_seekDriven_p26 N fu) N r2 (nI (5 ^ n)) (xval n X o) (nI k) (nI (5 ^ n)) 0 1 0 := by
        show R_seekDriven_p26b _ _ _ _ _ _ = _
        unfold R_seekDriven_p26b
        rw [if_neg (nI_on hk (by omega))]
      rw [un, e3]
      have hle := xcs_le hX (dg n k) n (Nat.le_refl n)
      cases hok : xok X (dg n k) n with
      | false =>
        rw [if_pos rfl]
        exact ih r3 o fr3 (Lf_skip hL (by omega) (fun d h1 h2 h3 => by rw [show d = k by omega, hok] at h3; cases h3)) (by rw [g36]; exact h36)
      | true =>
        rw [if_neg (by decide)]
        simp only [xval_le hX (o := o) (show xcs X (dg n k) n < 2 ^ 30 by omega)]
        by_cases hb : ∀ e, o = some e → xcs X (dg n e) n < xcs X (dg n k) n
        · rw [if_neg (fun z => z hb)]
          have l36' : (gA r3 36).length = 6 := (fr3.len 36).trans l36
          have wr : ∀ fu2 j, j ≤ n → n - j < fu2 → ∀ r4, Fm (mks []) (mks [36, 37]) r r4 → (∀ i, i < j → (gA r4 36).getD i 0 = nI (dg n k i)) → ∃ r5, R_seekDriven_p180 N (R_seekDriven_p26 N fu) fu2 r4 (nI (5 ^ n)) (nI (xcs X (dg n k) n)) (nI k) (nI (5 ^ (n - j))) (nI j) = R_seekDriven_p26 N fu r5 (nI (5 ^ n)) (nI (xcs X (dg n k) n)) (nI (k + 1)) ∧ Fm (mks []) (mks [36, 37]) r r5 ∧ ∀ i, i < n → (gA r5 36).getD i 0 = nI (dg n k i) := by
            refine for_up (P := fun fu2 j => ∀ r4, Fm (mks []) (mks [36, 37]) r r4 → (∀ i, i < j → (gA r4 36).getD i 0 = nI (dg n k i)) → ∃ r5, R_seekDriven_p180 N (R_seekDriven_p26 N fu) fu2 r4 (nI (5 ^ n)) (nI (xcs X (dg n k) n)) (nI k) (nI (5 ^ (n - j))) (nI j) = R_seekDriven_p26 N fu r5 (nI (5 ^ n)) (nI (xcs X (dg n k) n)) (nI (k + 1)) ∧ Fm (mks []) (mks [36, 37]) r r5 ∧ ∀ i, i < n → (gA r5 36).getD i 0 = nI (dg n k i)) ?_ ?_
            · intro fu2 r4 f4 h4
              refine ⟨r4, ?_, f4, h4⟩
              show R_seekDriven_p180b _ _ _ _ _ _ _ _ _ = _
              unfold R_seekDriven_p180b R_seekDriven_p214
              rw [(hD.fr f4).2.1, if_pos (nI_stop n), nI_1]
            · intro fu2 j hj ih2 r4 f4 h4
              have l4 : (gA r4 36).length = 6 := (f4.len 36).trans l36
              obtain ⟨g1, g2, g3⟩ := dig_ok (n := n) (e := k) h6 hj hk
              obtain ⟨r5, z1, z2⟩ := ih2 (sA r4 36 ((gA r4 36).set j (nI (dg n k j)))) (f4.sA rfl List.length_set) (fun i hi => by
                rw [gA_sA_same, getD_set (by omega)]
                by_cases q : i = j
                · rw [if_pos q, q]
                · rw [if_neg q]; exact h4 i (by omega))
              refine ⟨r5, ?_, z2⟩
              rw [← z1]
              show R_seekDriven_p180b _ _ _ _ _ _ _ _ _ = _
              unfold R_seekDriven_p180b
              rw [(hD.fr f4).2.1, if_neg (nI_on hj (by omega)), g1, Option.bind_some, g2, Option.bind_some, g3, Option.bind_some, sto_nI (by omega) (by omega), Option.bind_some, nI_1]
          obtain ⟨r5, z1, z2, z3⟩ := wr N 0 (by omega) (by omega) r3 fr3 (fun i hi => absurd hi (Nat.not_lt_zero i))
          obtain ⟨r1, o1, y1, y2⟩ := ih r5 (some k) z2 (Lf_take hL hok hb) (fun e he j hj => by cases he; exact z3 j hj)
          exact ⟨r1, o1, z1.trans y1, y2⟩
        · rw [if_pos hb]
          refine ih r3 o fr3 (Lf_skip hL (by omega) (fun d h1 h2 h3 => ?_)) (by rw [g36]; exact h36)
          rw [show d = k by omega]
          cases o with
          | none => exact absurd (fun e he => by cases he) hb
          | some e => exact ⟨e, rfl, Nat.not_lt.mp (fun z => hb (fun e2 he => by cases he; exact z))⟩
  exact main N 0 (Nat.zero_le _) (by omega) r none (Fm.refl _ _ r) ⟨fun e he => (by cases he), fun d hd => absurd hd (Nat.not_lt_zero d)⟩ (fun e he => by cases he)
theorem S_driven (h : Rel c r) (hN : 20000 < N) (x1 : Int32) : Sim (C_driven N c x1) (R_driven N r x1) := by
  obtain ⟨n, X, hX, hC, hR⟩ := h.dr
  have h6 := hX.1
  obtain ⟨c1, o, a1, a2, a3, a4, a5⟩ := best_ok (N := N) hX hC (by omega)
  obtain ⟨r1, o2, b1, b2, b3, b4⟩ := seek_ok (N := N) hX hR hN
  have eo := Lf_uniq a3 b3
  subst eo
  have h1 : Rel c1 r1 := h.fr (a2.mono (mks_le (by decide)) (mks_le (by decide))) (b2.mono (mks_le (by decide)) (mks_le (by decide)))
  have hC1 := hC.fr h6 a2
  have hR1 := hR.fr b2
  have l66 : (gA c1 66).length = 6 := hC1.1.1 66
  have l36 : (gA r1 36).length = 6 := hR1.1.1 36
  -- a plan that sends none anywhere always may be, so there is a best
  have hsome : ∃ e, o = some e := by
    have h5 : 0 < 5 ^ n := Nat.pow_pos (by decide)
    have h4 : ∀ k, k ≤ n → xok X (dg n (5 ^ n - 1)) k = true := by
      have d4 : ∀ j, j < n → dg n (5 ^ n - 1) j = 4 := by
        intro j hj
        have hp : 0 < 5 ^ (n - 1 - j) := Nat.pow_pos (by decide)
        have e1 : 5 ^ n = 5 ^ (n - 1 - j) * (5 ^ j * 5) := by rw [← Nat.pow_succ, ← Nat.pow_add]; congr 1; omega
        have hq : 0 < 5 ^ j := Nat.pow_pos (by decide)
        have e2 : 5 ^ n - 1 = 5 ^ (n - 1 - j) * (5 ^ j * 5 - 1) + (5 ^ (n - 1 - j) - 1) := by
          have : 5 ^ (n - 1 - j) * (5 ^ j * 5) = 5 ^ (n - 1 - j) * (5 ^ j * 5 - 1) + 5 ^ (n - 1 - j) := by
            rw [← Nat.mul_succ]; congr 1; omega
          omega
        unfold dg
        rw [e2, Nat.mul_add_div hp, Nat.div_eq_of_lt (by omega), Nat.add_zero]
        omega
      intro k
      induction k with
      | zero => intro _; rfl
      | succ k ih =>
        intro hk
        unfold xok
        rw [ih (by omega), d4 k (by omega)]
        rfl
    obtain ⟨e, he, -⟩ := a3.2 (5 ^ n - 1) (by omega) (h4 n (Nat.le_refl n))
    exact ⟨e, he⟩
  obtain ⟨e, rfl⟩ := hsome
  have go : x1 = 0 ∨ (10 ≤ x1 ∧ x1 ≤ 15) → Sim (C_driven_p18 N c x1) (R_driven_p18 N r x1) := by
    intro hx
    unfold C_driven_p18 R_driven_p18
    rw [a1, b1, Option.bind_some, Option.bind_some]
    refine Sim.ite (fun g => ?_) (fun _ => ?_)
    · have g2 := hx.resolve_left g
      have g3 := ib_of g2
      have e10 : (10 : Int32).toInt = 10 := rfl
      have e15 : (15 : Int32).toInt = 15 := rfl
      have es : (x1 - 10).toInt = x1.toInt - 10 := by rw [sub_toInt (by omega) (by omega), e10]
      obtain ⟨z1, z2⟩ := nat_of (x := x1 - 10) (by omega)
      generalize (x1 - 10).toNatClampNeg = i at z1 z2
      unfold Drive_goesOf
      dsimp only
      rw [z1, hC1.2.1, hR1.2.1]
      by_cases q : n ≤ i
      · rw [if_pos ((nI_leI (by omega) (by omega)).mpr q), if_pos ((nI_leI (by omega) (by omega)).mpr q)]
        exact Sim.ret h1
      · rw [if_neg (fun z => q ((nI_leI (by omega) (by omega)).mp z)), if_neg (fun z => q ((nI_leI (by omega) (by omega)).mp z)), ld_nI (by omega) (by omega), ld_nI (by omega) (by omega), a5 e rfl i (by omega), b4 e rfl i (by omega)]
        exact Sim.ret h1
    · rw [a4]
      exact Sim.ret h1
  unfold C_driven R_driven
  simp only [C_within_eq, R_in_eq, Option.bind_some, if_nbz]
  refine Sim.ite (fun g => go (Or.inl g)) (fun _ => Sim.ite (fun g => go (Or.inr g)) (fun _ => Sim.ret h))
end DV
