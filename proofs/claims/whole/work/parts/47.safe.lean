/-! PURE: the least price at which farms stand -/
section SF
variable {N n : Nat} {c r : St}
theorem fall_uniq {G O W : List Int32} {p : Int} {a b : Nat → Bool} (ha : Fall G O W n p a) (hb : Fall G O W n p b) : ∀ f, f < n → a f = b f := by
  intro f hf
  have h1 := ha.2 b hb.1 f hf
  have h2 := hb.2 a ha.1 f hf
  cases h : a f
  · cases g : b f
    · rfl
    · exact absurd (h2 g) (by rw [h]; decide)
  · exact (h1 h).symm
/-- none of S falls at this price -/
def OKp (G O W : List Int32) (n : Nat) (S : Nat → Bool) (p : Nat) : Prop := ∀ b, Fall G O W n p b → ∀ f, f < n → S f = true → b f = false
theorem ok_mono {G O W : List Int32} (hG : bnd G n 0 9) {S : Nat → Bool} {p q : Nat} (hpq : p ≤ q) (hex : ∃ b, Fall G O W n p b) (h : OKp G O W n S p) : OKp G O W n S q := by
  obtain ⟨b, hb⟩ := hex
  intro b2 hb2 f hf hS
  have hbf := h b hb f hf hS
  have hcl : ∀ f, f < n → lft G O W n q b f < 0 → b f = true := by
    intro g hg hl
    refine hb.1 g hg ?_
    have hgp : 0 ≤ at_ G g := (hG g hg).1
    have : at_ G g * (p : Int) ≤ at_ G g * (q : Int) := Int.mul_le_mul_of_nonneg_left (by omega) hgp
    unfold lft at hl ⊢
    omega
  cases hx : b2 f
  · rfl
  · have := hb2.2 b hcl f hf hx
    rw [hbf] at this
    cases this
/-- the number answered, of the first price at which all is well (1000: none) -/
def spv (h : Nat) : Int32 := if h ≤ 999 then nI h else -2
def First (G O W : List Int32) (n : Nat) (S : Nat → Bool) (h : Nat) : Prop := h ≤ 1000 ∧ (∀ p, p < h → ¬ OKp G O W n S p) ∧ (h = 1000 ∨ OKp G O W n S h)
theorem first_uniq {G O W : List Int32} {S : Nat → Bool} {h1 h2 : Nat} (a : First G O W n S h1) (b : First G O W n S h2) : h1 = h2 := by
  obtain ⟨a1, a2, a3⟩ := a
  obtain ⟨b1, b2, b3⟩ := b
  refine Classical.byContradiction (fun hne => ?_)
  by_cases q : h1 < h2
  · rcases a3 with e | e
    · omega
    · exact b2 h1 q e
  · rcases b3 with e | e
    · omega
    · exact a2 h2 (by omega) e
theorem C_least_ok {G O W : List Int32} (hF : Fa n G O W c r) (hN : 1000 < N) (S : Nat → Bool) (x1 : Int32) (hx : ∀ b : Nat → Bool, (nI (mkN b n) &&& x1 = 0) ↔ ∀ f, f < n → S f = true → b f = false) : ∃ h c1, Farms_leastPrice N c x1 = some (spv h, c1) ∧ Fm scI scA c c1 ∧ First G O W n S h := by
  have hG : bnd G n 0 9 := hF.2.2.2.2.2.2.2.2.1
  have hex : ∀ p : Nat, p ≤ 1000 → ∃ b, Fall G O W n p b := fun p hp => by
    obtain ⟨b, _, _, _, _, _, _, _, hb⟩ := fallen_same (N := N) hF hN hp
    exact ⟨b, hb⟩
  have fin : ∀ (c2 : St) (lo hi : Nat), Fm scI scA c c2 → lo = hi → hi ≤ 1000 → (∀ p, p < lo → ¬ OKp G O W n S p) → (hi = 1000 ∨ OKp G O W n S hi) → ∃ h c1, Farms_leastPrice_p56 N c2 (nI hi) = some (spv h, c1) ∧ Fm scI scA c c1 ∧ First G O W n S h := by
    intro c2 lo hi fc he hh hlo hhi
    refine ⟨hi, c2, ?_, fc, hh, fun p hp => hlo p (by omega), hhi⟩
    unfold Farms_leastPrice_p56 spv
    have e9 : (nI hi ≤ (999 : Int32)) = (hi ≤ 999) := le_nI (m := 999) (by omega) (by omega)
    simp only [e9]
    split <;> rfl
  unfold Farms_leastPrice
  refine for_up (P := fun fu i => ∀ (c2 : St) (lo hi : Nat), Fm scI scA c c2 → lo ≤ hi → hi ≤ 1000 → (hi - lo) * 2 ^ i ≤ 1000 → (∀ p, p < lo → ¬ OKp G O W n S p) → (hi = 1000 ∨ OKp G O W n S hi) → ∃ h c1, Farms_leastPrice_p9 N fu c2 x1 (nI lo) (nI hi) (nI i) = some (spv h, c1) ∧ Fm scI scA c c1 ∧ First G O W n S h) (m := 11) ?_ ?_ N 0 (by omega) (by omega) c 0 1000 (Fm.refl _ _ c) (by omega) (by omega) (by omega) (fun p hp => absurd hp (Nat.not_lt_zero p)) (Or.inl rfl)
  · intro fu c2 lo hi fc h1 h2 h3 h4 h5
    obtain ⟨h, c1, y1, y2⟩ := fin c2 lo hi fc (by omega) h2 h4 h5
    refine ⟨h, c1, ?_, y2⟩
    show Farms_leastPrice_p9b _ _ _ _ _ _ _ = _
    unfold Farms_leastPrice_p9b
    rw [if_pos (show (11 : Int32) ≤ nI 11 by decide)]
    exact y1
  · intro fu i hi11 ih c2 lo hi fc h1 h2 h3 h4 h5
    show ∃ h c1, Farms_leastPrice_p9b _ _ _ _ _ _ _ = _ ∧ _
    unfold Farms_leastPrice_p9b Farms_leastPrice_p50
    rw [if_neg (show ¬ (11 : Int32) ≤ nI i from nI_on (m := 11) hi11 (by decide))]
    by_cases q : hi ≤ lo
    · rw [if_pos (nI_le q (by omega))]
      exact fin c2 lo hi fc (by omega) h2 h4 h5
    · rw [if_neg (nI_ge (by omega) (by omega))]
      have hd : dv (nI lo + nI hi) 2 = some (nI ((lo + hi) / 2)) := by
        unfold dv
        rw [if_neg (by decide), nI_add]
        exact congrArg some (pk_div (d := 2) (by omega) (by decide) (by decide))
      obtain ⟨b, c3, _, y1, _, _, y4, _, y6⟩ := fallen_same (N := N) (hF.fr fc (Fm.refl _ _ r)) hN (p := (lo + hi) / 2) (by omega)
      rw [hd, Option.bind_some, y1, Option.bind_some, nI_1, nI_1]
      have hp2 : ∀ s t : Nat, s * 2 ≤ t → t * 2 ^ i ≤ 1000 → s * 2 ^ (i + 1) ≤ 1000 := by
        intro s t hs ht
        have : s * 2 ^ (i + 1) = s * 2 * 2 ^ i := by rw [Nat.pow_succ, Nat.mul_assoc, Nat.mul_comm (2 ^ i) 2]
        rw [this]
        exact Nat.le_trans (Nat.mul_le_mul_right _ hs) ht
      have hokiff : (nI (mkN b n) &&& x1 = 0) ↔ OKp G O W n S ((lo + hi) / 2) := by
        rw [hx b]
        constructor
        · intro h b2 hb2 f hf hS
          rw [fall_uniq hb2 y6 f hf]
          exact h f hf hS
        · intro h; exact h b y6
      by_cases z : nI (mkN b n) &&& x1 = 0
      · rw [if_neg (fun w => w z)]
        exact ih c3 lo ((lo + hi) / 2) (fc.trans y4) (by omega) (by omega) (hp2 _ _ (by omega) h3) h4 (Or.inr (hokiff.mp z))
      · rw [if_pos z]
        refine ih c3 ((lo + hi) / 2 + 1) hi (fc.trans y4) (by omega) h2 (hp2 _ _ (by omega) h3) (fun p hp hok => ?_) h5
        exact z (hokiff.mpr (ok_mono hG (by omega) (hex p (by omega)) hok))
theorem R_least_ok {G O W : List Int32} (hF : Fa n G O W c r) (hN : 2000 < N) (S : Nat → Bool) (x1 : Int32) (hx : ∀ (b : Nat → Bool) (A B : Option (Int32 × St)), (if ¬ x1 = -1 then (if ¬ ((nI (mkN b n) >>> (x1 &&& 31)) &&& 1) = 0 then A else B) else (if ¬ nI (mkN b n) = 0 then A else B)) = A ∧ ¬ (∀ f, f < n → S f = true → b f = false) ∨ (if ¬ x1 = -1 then (if ¬ ((nI (mkN b n) >>> (x1 &&& 31)) &&& 1) = 0 then A else B) else (if ¬ nI (mkN b n) = 0 then A else B)) = B ∧ ∀ f, f < n → S f = true → b f = false) : ∃ h r1, R_safe_p19 N N r x1 0 = some (spv h, r1) ∧ Fm srI srA r r1 ∧ First G O W n S h := by
  refine for_up (P := fun fu p => ∀ r2 : St, Fm srI srA r r2 → (∀ q, q < p → ¬ OKp G O W n S q) → ∃ h r1, R_safe_p19 N fu r2 x1 (nI p) = some (spv h, r1) ∧ Fm srI srA r r1 ∧ First G O W n S h) (m := 1000) ?_ ?_ N 0 (by omega) (by omega) r (Fm.refl _ _ r) (fun q hq => absurd hq (Nat.not_lt_zero q))
  · intro fu r2 fr h
    refine ⟨1000, r2, ?_, fr, Nat.le_refl _, h, Or.inl rfl⟩
    show R_safe_p19b _ _ _ _ _ = _
    unfold R_safe_p19b
    rw [if_pos (show (1000 : Int32) ≤ nI 1000 by decide)]
    rfl
  · intro fu p hp ih r2 fr h
    obtain ⟨b, _, r3, _, y2, _, _, y5, y6⟩ := fallen_same (N := N) (hF.fr (Fm.refl _ _ c) fr) (by omega) (p := p) (by omega)
    show ∃ h r1, R_safe_p19b _ _ _ _ _ = _ ∧ _
    unfold R_safe_p19b R_safe_p54 R_safe_p52
    rw [if_neg (show ¬ (1000 : Int32) ≤ nI p from nI_on (m := 1000) hp (by decide)), y2, Option.bind_some, nI_1]
    rcases hx b (R_safe_p19 N fu r3 x1 (nI (p + 1))) (some (nI p, r3)) with ⟨e1, e2⟩ | ⟨e1, e2⟩
    · have := ih r3 (fr.trans y5) (fun q hq hok => by
        by_cases e : q = p
        · subst e; exact e2 (hok b y6)
        · exact h q (by omega) hok)
      obtain ⟨h1, r1, z1, z2⟩ := this
      exact ⟨h1, r1, e1.trans z1, z2⟩
    · refine ⟨p, r3, e1.trans ?_, fr.trans y5, by omega, h, Or.inr (fun b2 hb2 f hf hS => ?_)⟩
      · unfold spv; rw [if_pos (by omega)]
      · rw [fall_uniq hb2 y6 f hf]; exact e2 f hf hS
theorem S_safe (h : Rel c r) (hN : 2000 < N) (x1 : Int32) : Sim (C_safe N c x1) (R_safe N r x1) := by
  obtain ⟨n, G, O, W, hF⟩ := h.fa
  have hn := hF.1
  have both : ∀ (S : Nat → Bool) (y : Int32), (∀ b : Nat → Bool, (nI (mkN b n) &&& y = 0) ↔ ∀ f, f < n → S f = true → b f = false) → (∀ (b : Nat → Bool) (A B : Option (Int32 × St)), (if ¬ x1 = -1 then (if ¬ ((nI (mkN b n) >>> (x1 &&& 31)) &&& 1) = 0 then A else B) else (if ¬ nI (mkN b n) = 0 then A else B)) = A ∧ ¬ (∀ f, f < n → S f = true → b f = false) ∨ (if ¬ x1 = -1 then (if ¬ ((nI (mkN b n) >>> (x1 &&& 31)) &&& 1) = 0 then A else B) else (if ¬ nI (mkN b n) = 0 then A else B)) = B ∧ ∀ f, f < n → S f = true → b f = false) → Sim (Farms_leastPrice N c y) (R_safe_p19 N N r x1 0) := by
    intro S y h1 h2
    obtain ⟨a, c1, y1, y2, y3⟩ := C_least_ok (N := N) hF (by omega) S y h1
    obtain ⟨b, r1, z1, z2, z3⟩ := R_least_ok (N := N) hF hN S x1 h2
    have := first_uniq y3 z3
    subst this
    exact ⟨_, _, _, y1, z1, h.fr y2 z2⟩
  unfold C_safe Farms_isOne R_safe
  simp only [C_within_eq, R_in_eq, Option.bind_some, if_bz, if_nbz, bind_id, bind_eta, hF.2.1, hF.2.2.1]
  by_cases hm : x1 = -1
  · subst hm
    rw [if_neg (show ¬ ¬ (-1 : Int32) = -1 from fun q => q rfl)]
    have hin : (-1 : Int32) ≤ -1 ∧ (-1 : Int32) ≤ nI n - 1 := by
      refine ⟨by decide, ?_⟩
      cases n with
      | zero => decide
      | succ n =>
        rw [nI_pred, Int32.le_iff_toInt_le, nI_toInt (by omega)]
        have e4 : (-1 : Int32).toInt = -1 := rfl
        omega
    rw [if_pos hin]
    have hz : mkN (fun _ => false) n = 0 := by
      apply Nat.eq_of_testBit_eq; intro i; rw [mkN_bit]; simp
    have hall : ∀ b : Nat → Bool, (nI (mkN b n) = 0) ↔ ∀ f, f < n → (true = true) → b f = false := by
      intro b
      have hlt := mk_lt8 (b := b) hn
      constructor
      · intro q f hf _
        have : mkN b n = mkN (fun _ => false) n := by rw [hz]; exact (nI_eq (b := 0) (by omega) (by omega)).mp q
        exact mkN_inj this f hf
      · intro q
        rw [mkN_congr (b := fun _ => false) (fun j hj => q j hj rfl), hz]; rfl
    refine both (fun _ => true) 255 (fun b => ?_) (fun b A B => ?_)
    · rw [all_tab _ (mk_lt8 (b := b) hn)]; exact hall b
    · rw [if_neg (show ¬ ¬ (-1 : Int32) = -1 from fun q => q rfl)]
      by_cases q : nI (mkN b n) = 0
      · rw [if_neg (fun w => w q)]; exact Or.inr ⟨rfl, (hall b).mp q⟩
      · rw [if_pos q]; exact Or.inl ⟨rfl, fun w => q ((hall b).mpr w)⟩
  · rw [if_pos hm]
    by_cases g : 0 ≤ x1 ∧ x1 ≤ nI n - 1
    · have hg1 : (-1 : Int32) ≤ x1 := Int32.le_trans (by decide) g.1
      rw [if_pos g, if_pos ⟨hg1, g.2⟩]
      obtain ⟨k, rfl, hk⟩ := ix_in (by omega) g
      have key : ∀ b : Nat → Bool, b k = false ↔ ∀ f, f < n → decide (f = k) = true → b f = false := by
        intro b
        constructor
        · intro q f hf hfk
          rw [decide_eq_true_eq] at hfk
          rw [hfk]; exact q
        · intro q; exact q k hk (by simp)
      refine both (fun f => decide (f = k)) _ (fun b => ?_) (fun b A B => ?_)
      · rw [← key b]
        have h1 := and_tab _ (mk_lt8 (b := b) hn) k (by omega)
        rw [mkN_bit, decide_eq_true hk, Bool.true_and] at h1
        rw [← Bool.not_eq_true', ← h1, decide_eq_true_eq]
      · rw [if_pos hm]
        have h0 := mk_bit0 (b := b) hn hk
        by_cases q : b k = false
        · rw [if_neg (fun w => w (h0 ▸ q))]; exact Or.inr ⟨rfl, (key b).mp q⟩
        · rw [if_pos (fun w => q (h0 ▸ w))]; exact Or.inl ⟨rfl, fun w => q ((key b).mpr w)⟩
    · rw [if_neg g, if_neg]
      · exact Sim.ret h
      · rintro ⟨q1, q2⟩
        refine g ⟨?_, q2⟩
        have hne : x1.toInt ≠ -1 := fun q => hm (Int32.toInt_inj.mp q)
        rw [Int32.le_iff_toInt_le] at q1 ⊢
        have e1 : (0 : Int32).toInt = 0 := rfl
        have e4 : (-1 : Int32).toInt = -1 := rfl
        omega
end SF
