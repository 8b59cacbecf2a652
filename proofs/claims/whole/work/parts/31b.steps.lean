/-! PURE: the law's loop answers 1, if all that it calls answers alike (written by gen80.py) -/
def Steps (N : Nat) (c r : St) : Prop := (∀ x1 x2, Sim (C_leg N c x1 x2) (R_leg N r x1 x2)) ∧ (∀ x1 x2, Sim (C_warm N c x1 x2) (R_warm N r x1 x2)) ∧ (∀ x1, Sam (C_warmth N c x1) (R_warmth N r x1)) ∧ (∀ x1 x2, Sim (C_outer N c x1 x2) (R_outer N r x1 x2)) ∧ (∀ x1 x2, x2 = 0 ∨ x2 = 1 → Sim (C_pipe N c x1 x2) (R_pipe N r x1 x2)) ∧ (∀ x1 x2, Sim (C_engine N c x1 x2) (R_engine N r x1 x2)) ∧ (∀ x1, Sim (C_breaks N c x1) (R_breaks N r x1)) ∧ (∀ x1, Sam (C_sea N c x1) (R_sea N r x1)) ∧ (∀ x1, Sim (C_hours N c x1) (R_hours N r x1)) ∧ (∀ x1 x2, Sim (C_first N c x1 x2) (R_first N r x1 x2)) ∧ (∀ x1 x2, Sim (C_lot N c x1 x2) (R_lot N r x1 x2)) ∧ (∀ x1 x2, Sim (C_lay N c x1 x2) (R_lay N r x1 x2)) ∧ (∀ x1 x2, Sam (C_about N c x1 x2) (R_about N r x1 x2)) ∧ (∀ x1 x2, Sam (C_as N c x1 x2) (R_as N r x1 x2)) ∧ (∀ x1, Sim (C_letters N c x1) (R_letters N r x1)) ∧ (Sim (C_blank N c) (R_blank N r)) ∧ (Sim (C_fault N c) (R_fault N r)) ∧ (Sim (C_text N c) (R_text N r)) ∧ (∀ x1 x2, Sim (C_says N c x1 x2) (R_says N r x1 x2)) ∧ (∀ x1 x2 x3, Sim (C_sum N c x1 x2 x3) (R_sum N r x1 x2 x3)) ∧ (∀ x1 x2, Sim (C_lost N c x1 x2) (R_lost N r x1 x2)) ∧ (∀ x1, Sim (C_way N c x1) (R_way N r x1)) ∧ (∀ x1 x2, Sim (C_reading N c x1 x2) (R_reading N r x1 x2)) ∧ (∀ x1, Sim (C_rate N c x1) (R_rate N r x1)) ∧ (∀ x1 x2, Sam (C_could N c x1 x2) (R_could N r x1 x2)) ∧ (∀ x1 x2 x3, Sam (C_was N c x1 x2 x3) (R_was N r x1 x2 x3)) ∧ (∀ x1, Sim (C_arrive N c x1) (R_arrive N r x1)) ∧ (∀ x1 x2 x3, Sim (C_laid N c x1 x2 x3) (R_laid N r x1 x2 x3)) ∧ (∀ x1 x2, Sim (C_flock N c x1 x2) (R_flock N r x1 x2)) ∧ (∀ x1 x2, Sim (C_works N c x1 x2) (R_works N r x1 x2)) ∧ (∀ x1 x2 x3, Sim (C_days N c x1 x2 x3) (R_days N r x1 x2 x3)) ∧ (∀ x1, Sim (C_loss N c x1) (R_loss N r x1)) ∧ (∀ x1, Sim (C_driven N c x1) (R_driven N r x1)) ∧ (∀ x1 x2, Sim (C_market N c x1 x2) (R_market N r x1 x2)) ∧ (∀ x1 x2, Sim (C_seller N c x1 x2) (R_seller N r x1 x2)) ∧ (∀ x1 x2, Sim (C_week N c x1 x2) (R_week N r x1 x2)) ∧ (∀ x1, Sim (C_turns N c x1) (R_turns N r x1)) ∧ (∀ x1 x2, Sim (C_farm N c x1 x2) (R_farm N r x1 x2)) ∧ (∀ x1 x2 x3, Sim (C_owe N c x1 x2 x3) (R_owe N r x1 x2 x3)) ∧ (∀ x1 x2, Sim (C_falls N c x1 x2) (R_falls N r x1 x2)) ∧ (∀ x1, Sim (C_safe N c x1) (R_safe N r x1)) ∧ (∀ x1 x2, Sim (C_line N c x1 x2) (R_line N r x1 x2)) ∧ (∀ x1 x2, Sim (C_ring N c x1 x2) (R_ring N r x1 x2)) ∧ (∀ x1 x2, Sam (C_earns N c x1 x2) (R_earns N r x1 x2)) ∧ (∀ x1, Sam (C_stable N c x1) (R_stable N r x1)) ∧ (∀ x1, Sim (C_choice N c x1) (R_choice N r x1)) ∧ (∀ x1 x2 x3, Sim (C_gives N c x1 x2 x3) (R_gives N r x1 x2 x3)) ∧ (∀ x1 x2 x3, Sam (C_plan N c x1 x2 x3) (R_plan N r x1 x2 x3)) ∧ (∀ x1, Sam (C_count N c x1) (R_count N r x1)) ∧ (Sim (C_digest N c) (R_digest N r))
theorem Steps.leg_ {N : Nat} {c r : St} (h : Steps N c r) : (∀ x1 x2, Sim (C_leg N c x1 x2) (R_leg N r x1 x2)) := h.1
theorem Steps.warm_ {N : Nat} {c r : St} (h : Steps N c r) : (∀ x1 x2, Sim (C_warm N c x1 x2) (R_warm N r x1 x2)) := h.2.1
theorem Steps.warmth_ {N : Nat} {c r : St} (h : Steps N c r) : (∀ x1, Sam (C_warmth N c x1) (R_warmth N r x1)) := h.2.2.1
theorem Steps.outer_ {N : Nat} {c r : St} (h : Steps N c r) : (∀ x1 x2, Sim (C_outer N c x1 x2) (R_outer N r x1 x2)) := h.2.2.2.1
theorem Steps.pipe_ {N : Nat} {c r : St} (h : Steps N c r) : (∀ x1 x2, x2 = 0 ∨ x2 = 1 → Sim (C_pipe N c x1 x2) (R_pipe N r x1 x2)) := h.2.2.2.2.1
theorem Steps.engine_ {N : Nat} {c r : St} (h : Steps N c r) : (∀ x1 x2, Sim (C_engine N c x1 x2) (R_engine N r x1 x2)) := h.2.2.2.2.2.1
theorem Steps.breaks_ {N : Nat} {c r : St} (h : Steps N c r) : (∀ x1, Sim (C_breaks N c x1) (R_breaks N r x1)) := h.2.2.2.2.2.2.1
theorem Steps.sea_ {N : Nat} {c r : St} (h : Steps N c r) : (∀ x1, Sam (C_sea N c x1) (R_sea N r x1)) := h.2.2.2.2.2.2.2.1
theorem Steps.hours_ {N : Nat} {c r : St} (h : Steps N c r) : (∀ x1, Sim (C_hours N c x1) (R_hours N r x1)) := h.2.2.2.2.2.2.2.2.1
theorem Steps.first_ {N : Nat} {c r : St} (h : Steps N c r) : (∀ x1 x2, Sim (C_first N c x1 x2) (R_first N r x1 x2)) := h.2.2.2.2.2.2.2.2.2.1
theorem Steps.lot_ {N : Nat} {c r : St} (h : Steps N c r) : (∀ x1 x2, Sim (C_lot N c x1 x2) (R_lot N r x1 x2)) := h.2.2.2.2.2.2.2.2.2.2.1
theorem Steps.lay_ {N : Nat} {c r : St} (h : Steps N c r) : (∀ x1 x2, Sim (C_lay N c x1 x2) (R_lay N r x1 x2)) := h.2.2.2.2.2.2.2.2.2.2.2.1
theorem Steps.about_ {N : Nat} {c r : St} (h : Steps N c r) : (∀ x1 x2, Sam (C_about N c x1 x2) (R_about N r x1 x2)) := h.2.2.2.2.2.2.2.2.2.2.2.2.1
theorem Steps.as_ {N : Nat} {c r : St} (h : Steps N c r) : (∀ x1 x2, Sam (C_as N c x1 x2) (R_as N r x1 x2)) := h.2.2.2.2.2.2.2.2.2.2.2.2.2.1
theorem Steps.letters_ {N : Nat} {c r : St} (h : Steps N c r) : (∀ x1, Sim (C_letters N c x1) (R_letters N r x1)) := h.2.2.2.2.2.2.2.2.2.2.2.2.2.2.1
theorem Steps.blank_ {N : Nat} {c r : St} (h : Steps N c r) : (Sim (C_blank N c) (R_blank N r)) := h.2.2.2.2.2.2.2.2.2.2.2.2.2.2.2.1
theorem Steps.fault_ {N : Nat} {c r : St} (h : Steps N c r) : (Sim (C_fault N c) (R_fault N r)) := h.2.2.2.2.2.2.2.2.2.2.2.2.2.2.2.2.1
theorem Steps.text_ {N : Nat} {c r : St} (h : Steps N c r) : (Sim (C_text N c) (R_text N r)) := h.2.2.2.2.2.2.2.2.2.2.2.2.2.2.2.2.2.1
theorem Steps.says_ {N : Nat} {c r : St} (h : Steps N c r) : (∀ x1 x2, Sim (C_says N c x1 x2) (R_says N r x1 x2)) := h.2.2.2.2.2.2.2.2.2.2.2.2.2.2.2.2.2.2.1
theorem Steps.sum_ {N : Nat} {c r : St} (h : Steps N c r) : (∀ x1 x2 x3, Sim (C_sum N c x1 x2 x3) (R_sum N r x1 x2 x3)) := h.2.2.2.2.2.2.2.2.2.2.2.2.2.2.2.2.2.2.2.1
theorem Steps.lost_ {N : Nat} {c r : St} (h : Steps N c r) : (∀ x1 x2, Sim (C_lost N c x1 x2) (R_lost N r x1 x2)) := h.2.2.2.2.2.2.2.2.2.2.2.2.2.2.2.2.2.2.2.2.1
theorem Steps.way_ {N : Nat} {c r : St} (h : Steps N c r) : (∀ x1, Sim (C_way N c x1) (R_way N r x1)) := h.2.2.2.2.2.2.2.2.2.2.2.2.2.2.2.2.2.2.2.2.2.1
theorem Steps.reading_ {N : Nat} {c r : St} (h : Steps N c r) : (∀ x1 x2, Sim (C_reading N c x1 x2) (R_reading N r x1 x2)) := h.2.2.2.2.2.2.2.2.2.2.2.2.2.2.2.2.2.2.2.2.2.2.1
theorem Steps.rate_ {N : Nat} {c r : St} (h : Steps N c r) : (∀ x1, Sim (C_rate N c x1) (R_rate N r x1)) := h.2.2.2.2.2.2.2.2.2.2.2.2.2.2.2.2.2.2.2.2.2.2.2.1
theorem Steps.could_ {N : Nat} {c r : St} (h : Steps N c r) : (∀ x1 x2, Sam (C_could N c x1 x2) (R_could N r x1 x2)) := h.2.2.2.2.2.2.2.2.2.2.2.2.2.2.2.2.2.2.2.2.2.2.2.2.1
theorem Steps.was_ {N : Nat} {c r : St} (h : Steps N c r) : (∀ x1 x2 x3, Sam (C_was N c x1 x2 x3) (R_was N r x1 x2 x3)) := h.2.2.2.2.2.2.2.2.2.2.2.2.2.2.2.2.2.2.2.2.2.2.2.2.2.1
theorem Steps.arrive_ {N : Nat} {c r : St} (h : Steps N c r) : (∀ x1, Sim (C_arrive N c x1) (R_arrive N r x1)) := h.2.2.2.2.2.2.2.2.2.2.2.2.2.2.2.2.2.2.2.2.2.2.2.2.2.2.1
theorem Steps.laid_ {N : Nat} {c r : St} (h : Steps N c r) : (∀ x1 x2 x3, Sim (C_laid N c x1 x2 x3) (R_laid N r x1 x2 x3)) := h.2.2.2.2.2.2.2.2.2.2.2.2.2.2.2.2.2.2.2.2.2.2.2.2.2.2.2.1
theorem Steps.flock_ {N : Nat} {c r : St} (h : Steps N c r) : (∀ x1 x2, Sim (C_flock N c x1 x2) (R_flock N r x1 x2)) := h.2.2.2.2.2.2.2.2.2.2.2.2.2.2.2.2.2.2.2.2.2.2.2.2.2.2.2.2.1
theorem Steps.works_ {N : Nat} {c r : St} (h : Steps N c r) : (∀ x1 x2, Sim (C_works N c x1 x2) (R_works N r x1 x2)) := h.2.2.2.2.2.2.2.2.2.2.2.2.2.2.2.2.2.2.2.2.2.2.2.2.2.2.2.2.2.1
theorem Steps.days_ {N : Nat} {c r : St} (h : Steps N c r) : (∀ x1 x2 x3, Sim (C_days N c x1 x2 x3) (R_days N r x1 x2 x3)) := h.2.2.2.2.2.2.2.2.2.2.2.2.2.2.2.2.2.2.2.2.2.2.2.2.2.2.2.2.2.2.1
theorem Steps.loss_ {N : Nat} {c r : St} (h : Steps N c r) : (∀ x1, Sim (C_loss N c x1) (R_loss N r x1)) := h.2.2.2.2.2.2.2.2.2.2.2.2.2.2.2.2.2.2.2.2.2.2.2.2.2.2.2.2.2.2.2.1
theorem Steps.driven_ {N : Nat} {c r : St} (h : Steps N c r) : (∀ x1, Sim (C_driven N c x1) (R_driven N r x1)) := h.2.2.2.2.2.2.2.2.2.2.2.2.2.2.2.2.2.2.2.2.2.2.2.2.2.2.2.2.2.2.2.2.1
theorem Steps.market_ {N : Nat} {c r : St} (h : Steps N c r) : (∀ x1 x2, Sim (C_market N c x1 x2) (R_market N r x1 x2)) := h.2.2.2.2.2.2.2.2.2.2.2.2.2.2.2.2.2.2.2.2.2.2.2.2.2.2.2.2.2.2.2.2.2.1
theorem Steps.seller_ {N : Nat} {c r : St} (h : Steps N c r) : (∀ x1 x2, Sim (C_seller N c x1 x2) (R_seller N r x1 x2)) := h.2.2.2.2.2.2.2.2.2.2.2.2.2.2.2.2.2.2.2.2.2.2.2.2.2.2.2.2.2.2.2.2.2.2.1
theorem Steps.week_ {N : Nat} {c r : St} (h : Steps N c r) : (∀ x1 x2, Sim (C_week N c x1 x2) (R_week N r x1 x2)) := h.2.2.2.2.2.2.2.2.2.2.2.2.2.2.2.2.2.2.2.2.2.2.2.2.2.2.2.2.2.2.2.2.2.2.2.1
theorem Steps.turns_ {N : Nat} {c r : St} (h : Steps N c r) : (∀ x1, Sim (C_turns N c x1) (R_turns N r x1)) := h.2.2.2.2.2.2.2.2.2.2.2.2.2.2.2.2.2.2.2.2.2.2.2.2.2.2.2.2.2.2.2.2.2.2.2.2.1
theorem Steps.farm_ {N : Nat} {c r : St} (h : Steps N c r) : (∀ x1 x2, Sim (C_farm N c x1 x2) (R_farm N r x1 x2)) := h.2.2.2.2.2.2.2.2.2.2.2.2.2.2.2.2.2.2.2.2.2.2.2.2.2.2.2.2.2.2.2.2.2.2.2.2.2.1
theorem Steps.owe_ {N : Nat} {c r : St} (h : Steps N c r) : (∀ x1 x2 x3, Sim (C_owe N c x1 x2 x3) (R_owe N r x1 x2 x3)) := h.2.2.2.2.2.2.2.2.2.2.2.2.2.2.2.2.2.2.2.2.2.2.2.2.2.2.2.2.2.2.2.2.2.2.2.2.2.2.1
theorem Steps.falls_ {N : Nat} {c r : St} (h : Steps N c r) : (∀ x1 x2, Sim (C_falls N c x1 x2) (R_falls N r x1 x2)) := h.2.2.2.2.2.2.2.2.2.2.2.2.2.2.2.2.2.2.2.2.2.2.2.2.2.2.2.2.2.2.2.2.2.2.2.2.2.2.2.1
theorem Steps.safe_ {N : Nat} {c r : St} (h : Steps N c r) : (∀ x1, Sim (C_safe N c x1) (R_safe N r x1)) := h.2.2.2.2.2.2.2.2.2.2.2.2.2.2.2.2.2.2.2.2.2.2.2.2.2.2.2.2.2.2.2.2.2.2.2.2.2.2.2.2.1
theorem Steps.line_ {N : Nat} {c r : St} (h : Steps N c r) : (∀ x1 x2, Sim (C_line N c x1 x2) (R_line N r x1 x2)) := h.2.2.2.2.2.2.2.2.2.2.2.2.2.2.2.2.2.2.2.2.2.2.2.2.2.2.2.2.2.2.2.2.2.2.2.2.2.2.2.2.2.1
theorem Steps.ring_ {N : Nat} {c r : St} (h : Steps N c r) : (∀ x1 x2, Sim (C_ring N c x1 x2) (R_ring N r x1 x2)) := h.2.2.2.2.2.2.2.2.2.2.2.2.2.2.2.2.2.2.2.2.2.2.2.2.2.2.2.2.2.2.2.2.2.2.2.2.2.2.2.2.2.2.1
theorem Steps.earns_ {N : Nat} {c r : St} (h : Steps N c r) : (∀ x1 x2, Sam (C_earns N c x1 x2) (R_earns N r x1 x2)) := h.2.2.2.2.2.2.2.2.2.2.2.2.2.2.2.2.2.2.2.2.2.2.2.2.2.2.2.2.2.2.2.2.2.2.2.2.2.2.2.2.2.2.2.1
theorem Steps.stable_ {N : Nat} {c r : St} (h : Steps N c r) : (∀ x1, Sam (C_stable N c x1) (R_stable N r x1)) := h.2.2.2.2.2.2.2.2.2.2.2.2.2.2.2.2.2.2.2.2.2.2.2.2.2.2.2.2.2.2.2.2.2.2.2.2.2.2.2.2.2.2.2.2.1
theorem Steps.choice_ {N : Nat} {c r : St} (h : Steps N c r) : (∀ x1, Sim (C_choice N c x1) (R_choice N r x1)) := h.2.2.2.2.2.2.2.2.2.2.2.2.2.2.2.2.2.2.2.2.2.2.2.2.2.2.2.2.2.2.2.2.2.2.2.2.2.2.2.2.2.2.2.2.2.1
theorem Steps.gives_ {N : Nat} {c r : St} (h : Steps N c r) : (∀ x1 x2 x3, Sim (C_gives N c x1 x2 x3) (R_gives N r x1 x2 x3)) := h.2.2.2.2.2.2.2.2.2.2.2.2.2.2.2.2.2.2.2.2.2.2.2.2.2.2.2.2.2.2.2.2.2.2.2.2.2.2.2.2.2.2.2.2.2.2.1
theorem Steps.plan_ {N : Nat} {c r : St} (h : Steps N c r) : (∀ x1 x2 x3, Sam (C_plan N c x1 x2 x3) (R_plan N r x1 x2 x3)) := h.2.2.2.2.2.2.2.2.2.2.2.2.2.2.2.2.2.2.2.2.2.2.2.2.2.2.2.2.2.2.2.2.2.2.2.2.2.2.2.2.2.2.2.2.2.2.2.1
theorem Steps.count_ {N : Nat} {c r : St} (h : Steps N c r) : (∀ x1, Sam (C_count N c x1) (R_count N r x1)) := h.2.2.2.2.2.2.2.2.2.2.2.2.2.2.2.2.2.2.2.2.2.2.2.2.2.2.2.2.2.2.2.2.2.2.2.2.2.2.2.2.2.2.2.2.2.2.2.2.1
theorem Steps.digest_ {N : Nat} {c r : St} (h : Steps N c r) : (Sim (C_digest N c) (R_digest N r)) := h.2.2.2.2.2.2.2.2.2.2.2.2.2.2.2.2.2.2.2.2.2.2.2.2.2.2.2.2.2.2.2.2.2.2.2.2.2.2.2.2.2.2.2.2.2.2.2.2.2
theorem mLc_self (v : Int64) : mLc v v = 0 := by unfold mLc; rw [if_neg (Int64.lt_irrefl), if_pos rfl]
def Good1 (o : Option (Int32 × St × St)) : Prop := ∃ p, o = some p ∧ p.1 = 1
theorem gd_if {q : Prop} [Decidable q] {A B : Option (Int32 × St × St)} (ht : q → Good1 A) (hf : ¬ q → Good1 B) : Good1 (if q then A else B) := by
  by_cases h : q
  · rw [if_pos h]; exact ht h
  · rw [if_neg h]; exact hf h
section LW
variable {N : Nat} {xs : List Int32} {kb : St → St → Int32 → Option (Int32 × St × St)} {c r : St} {x3 : Int32}
theorem K_leg (hS : Steps N c r) (hR : Rel c r) (K : ∀ c1 r1, Rel c1 r1 → Good1 (kb c1 r1 (x3 + 4))) {y1 y2 y3 : Int32} (h1 : ld xs (x3 + 1) = some y1) (h2 : ld xs (x3 + 2) = some y2) (h3 : ld xs (x3 + 3) = some y3) : Good1 (Law_p248 N xs kb c r x3) := by
  unfold Law_p248 Law_p1787
  simp only [h1, h2, h3, Option.bind_some]
  obtain ⟨v, c1, r1, e1, e2, hR1⟩ := hS.leg_ y1 y2
  simp only [e1, e2, Option.bind_some, if_true]
  exact K c1 r1 hR1
theorem K_warm (hS : Steps N c r) (hR : Rel c r) (K : ∀ c1 r1, Rel c1 r1 → Good1 (kb c1 r1 (x3 + 4))) {y1 y2 y3 : Int32} (h1 : ld xs (x3 + 1) = some y1) (h2 : ld xs (x3 + 2) = some y2) (h3 : ld xs (x3 + 3) = some y3) : Good1 (Law_p281 N xs kb c r x3) := by
  unfold Law_p281 Law_p1787
  simp only [h1, h2, h3, Option.bind_some]
  obtain ⟨v, c1, r1, e1, e2, hR1⟩ := hS.warm_ y1 y2
  simp only [e1, e2, Option.bind_some, if_true]
  exact K c1 r1 hR1
theorem K_warmth (hS : Steps N c r) (hR : Rel c r) (K : ∀ c1 r1, Rel c1 r1 → Good1 (kb c1 r1 (x3 + 4))) {y1 y2 y3 : Int32} (h1 : ld xs (x3 + 1) = some y1) (h2 : ld xs (x3 + 2) = some y2) (h3 : ld xs (x3 + 3) = some y3) : Good1 (Law_p314 N xs kb c r x3) := by
  unfold Law_p314 Law_p1787
  simp only [h1, h2, h3, Option.bind_some]
  obtain ⟨v, e1, e2⟩ := hS.warmth_ y1
  simp only [e1, e2, Option.bind_some, if_true]
  exact K c r hR
theorem K_outer (hS : Steps N c r) (hR : Rel c r) (K : ∀ c1 r1, Rel c1 r1 → Good1 (kb c1 r1 (x3 + 4))) {y1 y2 y3 : Int32} (h1 : ld xs (x3 + 1) = some y1) (h2 : ld xs (x3 + 2) = some y2) (h3 : ld xs (x3 + 3) = some y3) : Good1 (Law_p337 N xs kb c r x3) := by
  unfold Law_p337 Law_p1787
  simp only [h1, h2, h3, Option.bind_some]
  obtain ⟨v, c1, r1, e1, e2, hR1⟩ := hS.outer_ y1 y2
  simp only [e1, e2, Option.bind_some, if_true]
  exact K c1 r1 hR1
theorem K_pipe (hS : Steps N c r) (hR : Rel c r) (K : ∀ c1 r1, Rel c1 r1 → Good1 (kb c1 r1 (x3 + 4))) {y1 y2 y3 : Int32} (h1 : ld xs (x3 + 1) = some y1) (h2 : ld xs (x3 + 2) = some y2) (h3 : ld xs (x3 + 3) = some y3) : Good1 (Law_p370 N xs kb c r x3) := by
  unfold Law_p370 Law_p389 Law_p411 Law_p1787
  simp only [h1, h2, Option.bind_some]
  by_cases hy : y2 = 0
  · obtain ⟨v, c1, r1, e1, e2, hR1⟩ := hS.pipe_ y1 0 (by decide)
    simp only [if_pos hy, e1, e2, Option.bind_some, if_true]
    exact K c1 r1 hR1
  · obtain ⟨v, c1, r1, e1, e2, hR1⟩ := hS.pipe_ y1 1 (by decide)
    simp only [if_neg hy, e1, e2, Option.bind_some, if_true]
    exact K c1 r1 hR1
theorem K_engine (hS : Steps N c r) (hR : Rel c r) (K : ∀ c1 r1, Rel c1 r1 → Good1 (kb c1 r1 (x3 + 4))) {y1 y2 y3 : Int32} (h1 : ld xs (x3 + 1) = some y1) (h2 : ld xs (x3 + 2) = some y2) (h3 : ld xs (x3 + 3) = some y3) : Good1 (Law_p419 N xs kb c r x3) := by
  unfold Law_p419 Law_p1787
  simp only [h1, h2, h3, Option.bind_some]
  obtain ⟨v, c1, r1, e1, e2, hR1⟩ := hS.engine_ y1 y2
  simp only [e1, e2, Option.bind_some, if_true]
  exact K c1 r1 hR1
theorem K_breaks (hS : Steps N c r) (hR : Rel c r) (K : ∀ c1 r1, Rel c1 r1 → Good1 (kb c1 r1 (x3 + 4))) {y1 y2 y3 : Int32} (h1 : ld xs (x3 + 1) = some y1) (h2 : ld xs (x3 + 2) = some y2) (h3 : ld xs (x3 + 3) = some y3) : Good1 (Law_p452 N xs kb c r x3) := by
  unfold Law_p452 Law_p1787
  simp only [h1, h2, h3, Option.bind_some]
  obtain ⟨v, c1, r1, e1, e2, hR1⟩ := hS.breaks_ y1
  simp only [e1, e2, Option.bind_some, if_true]
  exact K c1 r1 hR1
theorem K_sea (hS : Steps N c r) (hR : Rel c r) (K : ∀ c1 r1, Rel c1 r1 → Good1 (kb c1 r1 (x3 + 4))) {y1 y2 y3 : Int32} (h1 : ld xs (x3 + 1) = some y1) (h2 : ld xs (x3 + 2) = some y2) (h3 : ld xs (x3 + 3) = some y3) : Good1 (Law_p475 N xs kb c r x3) := by
  unfold Law_p475 Law_p1787
  simp only [h1, h2, h3, Option.bind_some]
  obtain ⟨v, e1, e2⟩ := hS.sea_ y1
  simp only [e1, e2, Option.bind_some, if_true]
  exact K c r hR
theorem K_hours (hS : Steps N c r) (hR : Rel c r) (K : ∀ c1 r1, Rel c1 r1 → Good1 (kb c1 r1 (x3 + 4))) {y1 y2 y3 : Int32} (h1 : ld xs (x3 + 1) = some y1) (h2 : ld xs (x3 + 2) = some y2) (h3 : ld xs (x3 + 3) = some y3) : Good1 (Law_p498 N xs kb c r x3) := by
  unfold Law_p498 Law_p1787
  simp only [h1, h2, h3, Option.bind_some]
  obtain ⟨v, c1, r1, e1, e2, hR1⟩ := hS.hours_ y1
  simp only [e1, e2, Option.bind_some, if_true]
  exact K c1 r1 hR1
theorem K_first (hS : Steps N c r) (hR : Rel c r) (K : ∀ c1 r1, Rel c1 r1 → Good1 (kb c1 r1 (x3 + 4))) {y1 y2 y3 : Int32} (h1 : ld xs (x3 + 1) = some y1) (h2 : ld xs (x3 + 2) = some y2) (h3 : ld xs (x3 + 3) = some y3) : Good1 (Law_p521 N xs kb c r x3) := by
  unfold Law_p521 Law_p1787
  simp only [h1, h2, h3, Option.bind_some]
  obtain ⟨v, c1, r1, e1, e2, hR1⟩ := hS.first_ y1 y2
  simp only [e1, e2, Option.bind_some, if_true]
  exact K c1 r1 hR1
theorem K_lot (hS : Steps N c r) (hR : Rel c r) (K : ∀ c1 r1, Rel c1 r1 → Good1 (kb c1 r1 (x3 + 4))) {y1 y2 y3 : Int32} (h1 : ld xs (x3 + 1) = some y1) (h2 : ld xs (x3 + 2) = some y2) (h3 : ld xs (x3 + 3) = some y3) : Good1 (Law_p554 N xs kb c r x3) := by
  unfold Law_p554 Law_p1787
  simp only [h1, h2, h3, Option.bind_some]
  obtain ⟨v, c1, r1, e1, e2, hR1⟩ := hS.lot_ y1 y2
  simp only [e1, e2, Option.bind_some, if_true]
  exact K c1 r1 hR1
theorem K_lay (hS : Steps N c r) (hR : Rel c r) (K : ∀ c1 r1, Rel c1 r1 → Good1 (kb c1 r1 (x3 + 4))) {y1 y2 y3 : Int32} (h1 : ld xs (x3 + 1) = some y1) (h2 : ld xs (x3 + 2) = some y2) (h3 : ld xs (x3 + 3) = some y3) : Good1 (Law_p587 N xs kb c r x3) := by
  unfold Law_p587 Law_p1787
  simp only [h1, h2, h3, Option.bind_some]
  obtain ⟨v, c1, r1, e1, e2, hR1⟩ := hS.lay_ y1 y2
  simp only [e1, e2, Option.bind_some, if_true]
  exact K c1 r1 hR1
theorem K_about (hS : Steps N c r) (hR : Rel c r) (K : ∀ c1 r1, Rel c1 r1 → Good1 (kb c1 r1 (x3 + 4))) {y1 y2 y3 : Int32} (h1 : ld xs (x3 + 1) = some y1) (h2 : ld xs (x3 + 2) = some y2) (h3 : ld xs (x3 + 3) = some y3) : Good1 (Law_p620 N xs kb c r x3) := by
  unfold Law_p620 Law_p1787
  simp only [h1, h2, h3, Option.bind_some]
  obtain ⟨v, e1, e2⟩ := hS.about_ y1 y2
  simp only [e1, e2, Option.bind_some, if_true]
  exact K c r hR
theorem K_as (hS : Steps N c r) (hR : Rel c r) (K : ∀ c1 r1, Rel c1 r1 → Good1 (kb c1 r1 (x3 + 4))) {y1 y2 y3 : Int32} (h1 : ld xs (x3 + 1) = some y1) (h2 : ld xs (x3 + 2) = some y2) (h3 : ld xs (x3 + 3) = some y3) : Good1 (Law_p653 N xs kb c r x3) := by
  unfold Law_p653 Law_p1787
  simp only [h1, h2, h3, Option.bind_some]
  obtain ⟨v, e1, e2⟩ := hS.as_ y1 y2
  simp only [e1, e2, Option.bind_some, if_true]
  exact K c r hR
theorem K_letters (hS : Steps N c r) (hR : Rel c r) (K : ∀ c1 r1, Rel c1 r1 → Good1 (kb c1 r1 (x3 + 4))) {y1 y2 y3 : Int32} (h1 : ld xs (x3 + 1) = some y1) (h2 : ld xs (x3 + 2) = some y2) (h3 : ld xs (x3 + 3) = some y3) : Good1 (Law_p686 N xs kb c r x3) := by
  unfold Law_p686 Law_p1787
  simp only [h1, h2, h3, Option.bind_some]
  obtain ⟨v, c1, r1, e1, e2, hR1⟩ := hS.letters_ _
  rw [e1]; simp only [Option.bind_some]; rw [e2]; simp only [Option.bind_some, if_true]
  exact K c1 r1 hR1
theorem K_blank (hS : Steps N c r) (hR : Rel c r) (K : ∀ c1 r1, Rel c1 r1 → Good1 (kb c1 r1 (x3 + 4))) {y1 y2 y3 : Int32} (h1 : ld xs (x3 + 1) = some y1) (h2 : ld xs (x3 + 2) = some y2) (h3 : ld xs (x3 + 3) = some y3) : Good1 (Law_p739 N xs kb c r x3) := by
  unfold Law_p739 Law_p1787
  obtain ⟨v, c1, r1, e1, e2, hR1⟩ := hS.blank_ 
  simp only [e1, e2, Option.bind_some, if_true]
  exact K c1 r1 hR1
theorem K_fault (hS : Steps N c r) (hR : Rel c r) (K : ∀ c1 r1, Rel c1 r1 → Good1 (kb c1 r1 (x3 + 4))) {y1 y2 y3 : Int32} (h1 : ld xs (x3 + 1) = some y1) (h2 : ld xs (x3 + 2) = some y2) (h3 : ld xs (x3 + 3) = some y3) : Good1 (Law_p752 N xs kb c r x3) := by
  unfold Law_p752 Law_p1787
  obtain ⟨v, c1, r1, e1, e2, hR1⟩ := hS.fault_ 
  simp only [e1, e2, Option.bind_some, if_true]
  exact K c1 r1 hR1
theorem K_text (hS : Steps N c r) (hR : Rel c r) (K : ∀ c1 r1, Rel c1 r1 → Good1 (kb c1 r1 (x3 + 4))) {y1 y2 y3 : Int32} (h1 : ld xs (x3 + 1) = some y1) (h2 : ld xs (x3 + 2) = some y2) (h3 : ld xs (x3 + 3) = some y3) : Good1 (Law_p765 N xs kb c r x3) := by
  unfold Law_p765 Law_p1787
  obtain ⟨v, c1, r1, e1, e2, hR1⟩ := hS.text_ 
  simp only [e1, e2, Option.bind_some, if_true]
  exact K c1 r1 hR1
theorem K_says (hS : Steps N c r) (hR : Rel c r) (K : ∀ c1 r1, Rel c1 r1 → Good1 (kb c1 r1 (x3 + 4))) {y1 y2 y3 : Int32} (h1 : ld xs (x3 + 1) = some y1) (h2 : ld xs (x3 + 2) = some y2) (h3 : ld xs (x3 + 3) = some y3) : Good1 (Law_p778 N xs kb c r x3) := by
  unfold Law_p778 Law_p1787
  simp only [h1, h2, h3, Option.bind_some]
  obtain ⟨v, c1, r1, e1, e2, hR1⟩ := hS.says_ y1 y2
  simp only [e1, e2, Option.bind_some, if_true]
  exact K c1 r1 hR1
theorem K_sum (hS : Steps N c r) (hR : Rel c r) (K : ∀ c1 r1, Rel c1 r1 → Good1 (kb c1 r1 (x3 + 4))) {y1 y2 y3 : Int32} (h1 : ld xs (x3 + 1) = some y1) (h2 : ld xs (x3 + 2) = some y2) (h3 : ld xs (x3 + 3) = some y3) : Good1 (Law_p811 N xs kb c r x3) := by
  unfold Law_p811 Law_p1787
  simp only [h1, h2, h3, Option.bind_some]
  obtain ⟨v, c1, r1, e1, e2, hR1⟩ := hS.sum_ y1 y2 y3
  simp only [e1, e2, Option.bind_some, mLc_self, if_true]
  exact K c1 r1 hR1
theorem K_lost (hS : Steps N c r) (hR : Rel c r) (K : ∀ c1 r1, Rel c1 r1 → Good1 (kb c1 r1 (x3 + 4))) {y1 y2 y3 : Int32} (h1 : ld xs (x3 + 1) = some y1) (h2 : ld xs (x3 + 2) = some y2) (h3 : ld xs (x3 + 3) = some y3) : Good1 (Law_p855 N xs kb c r x3) := by
  unfold Law_p855 Law_p1787
  simp only [h1, h2, h3, Option.bind_some]
  obtain ⟨v, c1, r1, e1, e2, hR1⟩ := hS.lost_ y1 y2
  simp only [e1, e2, Option.bind_some, if_true]
  exact K c1 r1 hR1
theorem K_way (hS : Steps N c r) (hR : Rel c r) (K : ∀ c1 r1, Rel c1 r1 → Good1 (kb c1 r1 (x3 + 4))) {y1 y2 y3 : Int32} (h1 : ld xs (x3 + 1) = some y1) (h2 : ld xs (x3 + 2) = some y2) (h3 : ld xs (x3 + 3) = some y3) : Good1 (Law_p888 N xs kb c r x3) := by
  unfold Law_p888 Law_p1787
  simp only [h1, h2, h3, Option.bind_some]
  obtain ⟨v, c1, r1, e1, e2, hR1⟩ := hS.way_ y1
  simp only [e1, e2, Option.bind_some, if_true]
  exact K c1 r1 hR1
theorem K_reading (hS : Steps N c r) (hR : Rel c r) (K : ∀ c1 r1, Rel c1 r1 → Good1 (kb c1 r1 (x3 + 4))) {y1 y2 y3 : Int32} (h1 : ld xs (x3 + 1) = some y1) (h2 : ld xs (x3 + 2) = some y2) (h3 : ld xs (x3 + 3) = some y3) : Good1 (Law_p911 N xs kb c r x3) := by
  unfold Law_p911 Law_p1787
  simp only [h1, h2, h3, Option.bind_some]
  obtain ⟨v, c1, r1, e1, e2, hR1⟩ := hS.reading_ y1 y2
  simp only [e1, e2, Option.bind_some, if_true]
  exact K c1 r1 hR1
theorem K_rate (hS : Steps N c r) (hR : Rel c r) (K : ∀ c1 r1, Rel c1 r1 → Good1 (kb c1 r1 (x3 + 4))) {y1 y2 y3 : Int32} (h1 : ld xs (x3 + 1) = some y1) (h2 : ld xs (x3 + 2) = some y2) (h3 : ld xs (x3 + 3) = some y3) : Good1 (Law_p944 N xs kb c r x3) := by
  unfold Law_p944 Law_p1787
  simp only [h1, h2, h3, Option.bind_some]
  obtain ⟨v, c1, r1, e1, e2, hR1⟩ := hS.rate_ y1
  simp only [e1, e2, Option.bind_some, if_true]
  exact K c1 r1 hR1
theorem K_could (hS : Steps N c r) (hR : Rel c r) (K : ∀ c1 r1, Rel c1 r1 → Good1 (kb c1 r1 (x3 + 4))) {y1 y2 y3 : Int32} (h1 : ld xs (x3 + 1) = some y1) (h2 : ld xs (x3 + 2) = some y2) (h3 : ld xs (x3 + 3) = some y3) : Good1 (Law_p967 N xs kb c r x3) := by
  unfold Law_p967 Law_p1787
  simp only [h1, h2, h3, Option.bind_some]
  obtain ⟨v, e1, e2⟩ := hS.could_ y1 y2
  simp only [e1, e2, Option.bind_some, if_true]
  exact K c r hR
theorem K_was (hS : Steps N c r) (hR : Rel c r) (K : ∀ c1 r1, Rel c1 r1 → Good1 (kb c1 r1 (x3 + 4))) {y1 y2 y3 : Int32} (h1 : ld xs (x3 + 1) = some y1) (h2 : ld xs (x3 + 2) = some y2) (h3 : ld xs (x3 + 3) = some y3) : Good1 (Law_p1000 N xs kb c r x3) := by
  unfold Law_p1000 Law_p1787
  simp only [h1, h2, h3, Option.bind_some]
  obtain ⟨v, e1, e2⟩ := hS.was_ y1 y2 y3
  simp only [e1, e2, Option.bind_some, if_true]
  exact K c r hR
theorem K_arrive (hS : Steps N c r) (hR : Rel c r) (K : ∀ c1 r1, Rel c1 r1 → Good1 (kb c1 r1 (x3 + 4))) {y1 y2 y3 : Int32} (h1 : ld xs (x3 + 1) = some y1) (h2 : ld xs (x3 + 2) = some y2) (h3 : ld xs (x3 + 3) = some y3) : Good1 (Law_p1043 N xs kb c r x3) := by
  unfold Law_p1043 Law_p1787
  simp only [h1, h2, h3, Option.bind_some]
  obtain ⟨v, c1, r1, e1, e2, hR1⟩ := hS.arrive_ y1
  simp only [e1, e2, Option.bind_some, if_true]
  exact K c1 r1 hR1
theorem K_laid (hS : Steps N c r) (hR : Rel c r) (K : ∀ c1 r1, Rel c1 r1 → Good1 (kb c1 r1 (x3 + 4))) {y1 y2 y3 : Int32} (h1 : ld xs (x3 + 1) = some y1) (h2 : ld xs (x3 + 2) = some y2) (h3 : ld xs (x3 + 3) = some y3) : Good1 (Law_p1066 N xs kb c r x3) := by
  unfold Law_p1066 Law_p1787
  simp only [h1, h2, h3, Option.bind_some]
  obtain ⟨v, c1, r1, e1, e2, hR1⟩ := hS.laid_ y1 y2 y3
  simp only [e1, e2, Option.bind_some, if_true]
  exact K c1 r1 hR1
theorem K_flock (hS : Steps N c r) (hR : Rel c r) (K : ∀ c1 r1, Rel c1 r1 → Good1 (kb c1 r1 (x3 + 4))) {y1 y2 y3 : Int32} (h1 : ld xs (x3 + 1) = some y1) (h2 : ld xs (x3 + 2) = some y2) (h3 : ld xs (x3 + 3) = some y3) : Good1 (Law_p1109 N xs kb c r x3) := by
  unfold Law_p1109 Law_p1787
  simp only [h1, h2, h3, Option.bind_some]
  obtain ⟨v, c1, r1, e1, e2, hR1⟩ := hS.flock_ y1 y2
  simp only [e1, e2, Option.bind_some, if_true]
  exact K c1 r1 hR1
theorem K_works (hS : Steps N c r) (hR : Rel c r) (K : ∀ c1 r1, Rel c1 r1 → Good1 (kb c1 r1 (x3 + 4))) {y1 y2 y3 : Int32} (h1 : ld xs (x3 + 1) = some y1) (h2 : ld xs (x3 + 2) = some y2) (h3 : ld xs (x3 + 3) = some y3) : Good1 (Law_p1142 N xs kb c r x3) := by
  unfold Law_p1142 Law_p1787
  simp only [h1, h2, h3, Option.bind_some]
  obtain ⟨v, c1, r1, e1, e2, hR1⟩ := hS.works_ y1 y2
  simp only [e1, e2, Option.bind_some, if_true]
  exact K c1 r1 hR1
theorem K_days (hS : Steps N c r) (hR : Rel c r) (K : ∀ c1 r1, Rel c1 r1 → Good1 (kb c1 r1 (x3 + 4))) {y1 y2 y3 : Int32} (h1 : ld xs (x3 + 1) = some y1) (h2 : ld xs (x3 + 2) = some y2) (h3 : ld xs (x3 + 3) = some y3) : Good1 (Law_p1175 N xs kb c r x3) := by
  unfold Law_p1175 Law_p1787
  simp only [h1, h2, h3, Option.bind_some]
  obtain ⟨v, c1, r1, e1, e2, hR1⟩ := hS.days_ y1 y2 y3
  simp only [e1, e2, Option.bind_some, if_true]
  exact K c1 r1 hR1
theorem K_loss (hS : Steps N c r) (hR : Rel c r) (K : ∀ c1 r1, Rel c1 r1 → Good1 (kb c1 r1 (x3 + 4))) {y1 y2 y3 : Int32} (h1 : ld xs (x3 + 1) = some y1) (h2 : ld xs (x3 + 2) = some y2) (h3 : ld xs (x3 + 3) = some y3) : Good1 (Law_p1218 N xs kb c r x3) := by
  unfold Law_p1218 Law_p1787
  simp only [h1, h2, h3, Option.bind_some]
  obtain ⟨v, c1, r1, e1, e2, hR1⟩ := hS.loss_ y1
  simp only [e1, e2, Option.bind_some, if_true]
  exact K c1 r1 hR1
theorem K_driven (hS : Steps N c r) (hR : Rel c r) (K : ∀ c1 r1, Rel c1 r1 → Good1 (kb c1 r1 (x3 + 4))) {y1 y2 y3 : Int32} (h1 : ld xs (x3 + 1) = some y1) (h2 : ld xs (x3 + 2) = some y2) (h3 : ld xs (x3 + 3) = some y3) : Good1 (Law_p1241 N xs kb c r x3) := by
  unfold Law_p1241 Law_p1787
  simp only [h1, h2, h3, Option.bind_some]
  obtain ⟨v, c1, r1, e1, e2, hR1⟩ := hS.driven_ y1
  simp only [e1, e2, Option.bind_some, if_true]
  exact K c1 r1 hR1
theorem K_market (hS : Steps N c r) (hR : Rel c r) (K : ∀ c1 r1, Rel c1 r1 → Good1 (kb c1 r1 (x3 + 4))) {y1 y2 y3 : Int32} (h1 : ld xs (x3 + 1) = some y1) (h2 : ld xs (x3 + 2) = some y2) (h3 : ld xs (x3 + 3) = some y3) : Good1 (Law_p1264 N xs kb c r x3) := by
  unfold Law_p1264 Law_p1787
  simp only [h1, h2, h3, Option.bind_some]
  obtain ⟨v, c1, r1, e1, e2, hR1⟩ := hS.market_ y1 y2
  simp only [e1, e2, Option.bind_some, if_true]
  exact K c1 r1 hR1
theorem K_seller (hS : Steps N c r) (hR : Rel c r) (K : ∀ c1 r1, Rel c1 r1 → Good1 (kb c1 r1 (x3 + 4))) {y1 y2 y3 : Int32} (h1 : ld xs (x3 + 1) = some y1) (h2 : ld xs (x3 + 2) = some y2) (h3 : ld xs (x3 + 3) = some y3) : Good1 (Law_p1297 N xs kb c r x3) := by
  unfold Law_p1297 Law_p1787
  simp only [h1, h2, h3, Option.bind_some]
  obtain ⟨v, c1, r1, e1, e2, hR1⟩ := hS.seller_ y1 y2
  simp only [e1, e2, Option.bind_some, if_true]
  exact K c1 r1 hR1
theorem K_week (hS : Steps N c r) (hR : Rel c r) (K : ∀ c1 r1, Rel c1 r1 → Good1 (kb c1 r1 (x3 + 4))) {y1 y2 y3 : Int32} (h1 : ld xs (x3 + 1) = some y1) (h2 : ld xs (x3 + 2) = some y2) (h3 : ld xs (x3 + 3) = some y3) : Good1 (Law_p1330 N xs kb c r x3) := by
  unfold Law_p1330 Law_p1787
  simp only [h1, h2, h3, Option.bind_some]
  obtain ⟨v, c1, r1, e1, e2, hR1⟩ := hS.week_ y1 y2
  simp only [e1, e2, Option.bind_some, if_true]
  exact K c1 r1 hR1
theorem K_turns (hS : Steps N c r) (hR : Rel c r) (K : ∀ c1 r1, Rel c1 r1 → Good1 (kb c1 r1 (x3 + 4))) {y1 y2 y3 : Int32} (h1 : ld xs (x3 + 1) = some y1) (h2 : ld xs (x3 + 2) = some y2) (h3 : ld xs (x3 + 3) = some y3) : Good1 (Law_p1363 N xs kb c r x3) := by
  unfold Law_p1363 Law_p1787
  simp only [h1, h2, h3, Option.bind_some]
  obtain ⟨v, c1, r1, e1, e2, hR1⟩ := hS.turns_ y1
  simp only [e1, e2, Option.bind_some, if_true]
  exact K c1 r1 hR1
theorem K_farm (hS : Steps N c r) (hR : Rel c r) (K : ∀ c1 r1, Rel c1 r1 → Good1 (kb c1 r1 (x3 + 4))) {y1 y2 y3 : Int32} (h1 : ld xs (x3 + 1) = some y1) (h2 : ld xs (x3 + 2) = some y2) (h3 : ld xs (x3 + 3) = some y3) : Good1 (Law_p1386 N xs kb c r x3) := by
  unfold Law_p1386 Law_p1787
  simp only [h1, h2, h3, Option.bind_some]
  obtain ⟨v, c1, r1, e1, e2, hR1⟩ := hS.farm_ y1 y2
  simp only [e1, e2, Option.bind_some, if_true]
  exact K c1 r1 hR1
theorem K_owe (hS : Steps N c r) (hR : Rel c r) (K : ∀ c1 r1, Rel c1 r1 → Good1 (kb c1 r1 (x3 + 4))) {y1 y2 y3 : Int32} (h1 : ld xs (x3 + 1) = some y1) (h2 : ld xs (x3 + 2) = some y2) (h3 : ld xs (x3 + 3) = some y3) : Good1 (Law_p1419 N xs kb c r x3) := by
  unfold Law_p1419 Law_p1787
  simp only [h1, h2, h3, Option.bind_some]
  obtain ⟨v, c1, r1, e1, e2, hR1⟩ := hS.owe_ y1 y2 y3
  simp only [e1, e2, Option.bind_some, if_true]
  exact K c1 r1 hR1
theorem K_falls (hS : Steps N c r) (hR : Rel c r) (K : ∀ c1 r1, Rel c1 r1 → Good1 (kb c1 r1 (x3 + 4))) {y1 y2 y3 : Int32} (h1 : ld xs (x3 + 1) = some y1) (h2 : ld xs (x3 + 2) = some y2) (h3 : ld xs (x3 + 3) = some y3) : Good1 (Law_p1462 N xs kb c r x3) := by
  unfold Law_p1462 Law_p1787
  simp only [h1, h2, h3, Option.bind_some]
  obtain ⟨v, c1, r1, e1, e2, hR1⟩ := hS.falls_ y1 y2
  simp only [e1, e2, Option.bind_some, if_true]
  exact K c1 r1 hR1
theorem K_safe (hS : Steps N c r) (hR : Rel c r) (K : ∀ c1 r1, Rel c1 r1 → Good1 (kb c1 r1 (x3 + 4))) {y1 y2 y3 : Int32} (h1 : ld xs (x3 + 1) = some y1) (h2 : ld xs (x3 + 2) = some y2) (h3 : ld xs (x3 + 3) = some y3) : Good1 (Law_p1495 N xs kb c r x3) := by
  unfold Law_p1495 Law_p1787
  simp only [h1, h2, h3, Option.bind_some]
  obtain ⟨v, c1, r1, e1, e2, hR1⟩ := hS.safe_ y1
  simp only [e1, e2, Option.bind_some, if_true]
  exact K c1 r1 hR1
theorem K_line (hS : Steps N c r) (hR : Rel c r) (K : ∀ c1 r1, Rel c1 r1 → Good1 (kb c1 r1 (x3 + 4))) {y1 y2 y3 : Int32} (h1 : ld xs (x3 + 1) = some y1) (h2 : ld xs (x3 + 2) = some y2) (h3 : ld xs (x3 + 3) = some y3) : Good1 (Law_p1518 N xs kb c r x3) := by
  unfold Law_p1518 Law_p1787
  simp only [h1, h2, h3, Option.bind_some]
  obtain ⟨v, c1, r1, e1, e2, hR1⟩ := hS.line_ y1 y2
  simp only [e1, e2, Option.bind_some, if_true]
  exact K c1 r1 hR1
theorem K_ring (hS : Steps N c r) (hR : Rel c r) (K : ∀ c1 r1, Rel c1 r1 → Good1 (kb c1 r1 (x3 + 4))) {y1 y2 y3 : Int32} (h1 : ld xs (x3 + 1) = some y1) (h2 : ld xs (x3 + 2) = some y2) (h3 : ld xs (x3 + 3) = some y3) : Good1 (Law_p1551 N xs kb c r x3) := by
  unfold Law_p1551 Law_p1787
  simp only [h1, h2, h3, Option.bind_some]
  obtain ⟨v, c1, r1, e1, e2, hR1⟩ := hS.ring_ y1 y2
  simp only [e1, e2, Option.bind_some, if_true]
  exact K c1 r1 hR1
theorem K_earns (hS : Steps N c r) (hR : Rel c r) (K : ∀ c1 r1, Rel c1 r1 → Good1 (kb c1 r1 (x3 + 4))) {y1 y2 y3 : Int32} (h1 : ld xs (x3 + 1) = some y1) (h2 : ld xs (x3 + 2) = some y2) (h3 : ld xs (x3 + 3) = some y3) : Good1 (Law_p1584 N xs kb c r x3) := by
  unfold Law_p1584 Law_p1787
  simp only [h1, h2, h3, Option.bind_some]
  obtain ⟨v, e1, e2⟩ := hS.earns_ y1 y2
  simp only [e1, e2, Option.bind_some, mLc_self, if_true]
  exact K c r hR
theorem K_stable (hS : Steps N c r) (hR : Rel c r) (K : ∀ c1 r1, Rel c1 r1 → Good1 (kb c1 r1 (x3 + 4))) {y1 y2 y3 : Int32} (h1 : ld xs (x3 + 1) = some y1) (h2 : ld xs (x3 + 2) = some y2) (h3 : ld xs (x3 + 3) = some y3) : Good1 (Law_p1618 N xs kb c r x3) := by
  unfold Law_p1618 Law_p1787
  simp only [h1, h2, h3, Option.bind_some]
  obtain ⟨v, e1, e2⟩ := hS.stable_ y1
  simp only [e1, e2, Option.bind_some, if_true]
  exact K c r hR
theorem K_choice (hS : Steps N c r) (hR : Rel c r) (K : ∀ c1 r1, Rel c1 r1 → Good1 (kb c1 r1 (x3 + 4))) {y1 y2 y3 : Int32} (h1 : ld xs (x3 + 1) = some y1) (h2 : ld xs (x3 + 2) = some y2) (h3 : ld xs (x3 + 3) = some y3) : Good1 (Law_p1641 N xs kb c r x3) := by
  unfold Law_p1641 Law_p1787
  simp only [h1, h2, h3, Option.bind_some]
  obtain ⟨v, c1, r1, e1, e2, hR1⟩ := hS.choice_ y1
  simp only [e1, e2, Option.bind_some, if_true]
  exact K c1 r1 hR1
theorem K_gives (hS : Steps N c r) (hR : Rel c r) (K : ∀ c1 r1, Rel c1 r1 → Good1 (kb c1 r1 (x3 + 4))) {y1 y2 y3 : Int32} (h1 : ld xs (x3 + 1) = some y1) (h2 : ld xs (x3 + 2) = some y2) (h3 : ld xs (x3 + 3) = some y3) : Good1 (Law_p1664 N xs kb c r x3) := by
  unfold Law_p1664 Law_p1787
  simp only [h1, h2, h3, Option.bind_some]
  obtain ⟨v, c1, r1, e1, e2, hR1⟩ := hS.gives_ y1 y2 y3
  simp only [e1, e2, Option.bind_some, if_true]
  exact K c1 r1 hR1
theorem K_plan (hS : Steps N c r) (hR : Rel c r) (K : ∀ c1 r1, Rel c1 r1 → Good1 (kb c1 r1 (x3 + 4))) {y1 y2 y3 : Int32} (h1 : ld xs (x3 + 1) = some y1) (h2 : ld xs (x3 + 2) = some y2) (h3 : ld xs (x3 + 3) = some y3) : Good1 (Law_p1707 N xs kb c r x3) := by
  unfold Law_p1707 Law_p1787
  simp only [h1, h2, h3, Option.bind_some]
  obtain ⟨v, e1, e2⟩ := hS.plan_ y1 y2 y3
  simp only [e1, e2, Option.bind_some, if_true]
  exact K c r hR
theorem K_count (hS : Steps N c r) (hR : Rel c r) (K : ∀ c1 r1, Rel c1 r1 → Good1 (kb c1 r1 (x3 + 4))) {y1 y2 y3 : Int32} (h1 : ld xs (x3 + 1) = some y1) (h2 : ld xs (x3 + 2) = some y2) (h3 : ld xs (x3 + 3) = some y3) : Good1 (Law_p1750 N xs kb c r x3) := by
  unfold Law_p1750 Law_p1787
  simp only [h1, h2, h3, Option.bind_some]
  obtain ⟨v, e1, e2⟩ := hS.count_ y1
  simp only [e1, e2, Option.bind_some, if_true]
  exact K c r hR
theorem K_digest (hS : Steps N c r) (hR : Rel c r) (K : ∀ c1 r1, Rel c1 r1 → Good1 (kb c1 r1 (x3 + 4))) {y1 y2 y3 : Int32} (h1 : ld xs (x3 + 1) = some y1) (h2 : ld xs (x3 + 2) = some y2) (h3 : ld xs (x3 + 3) = some y3) : Good1 (Law_p1773 N xs kb c r x3) := by
  unfold Law_p1773 Law_p1787
  obtain ⟨v, c1, r1, e1, e2, hR1⟩ := hS.digest_ 
  simp only [e1, e2, Option.bind_some, mLc_self, if_true]
  exact K c1 r1 hR1
set_option maxRecDepth 20000 in
theorem K_all (hS : Steps N c r) (hR : Rel c r) (K : ∀ c1 r1, Rel c1 r1 → Good1 (kb c1 r1 (x3 + 4))) (hx : x3 ≤ (Int32.ofNat xs.length) - 4) {y0 y1 y2 y3 : Int32} (h0 : ld xs x3 = some y0) (h1 : ld xs (x3 + 1) = some y1) (h2 : ld xs (x3 + 2) = some y2) (h3 : ld xs (x3 + 3) = some y3) : Good1 (Law_p18b N xs kb c r x3) := by
  unfold Law_p18b
  rw [if_neg (Int32.not_lt.mpr hx)]
  rw [h0, Option.bind_some]
  refine gd_if (fun _ => K_leg hS hR K h1 h2 h3) (fun _ => ?_)
  refine gd_if (fun _ => K_warm hS hR K h1 h2 h3) (fun _ => ?_)
  refine gd_if (fun _ => K_warmth hS hR K h1 h2 h3) (fun _ => ?_)
  refine gd_if (fun _ => K_outer hS hR K h1 h2 h3) (fun _ => ?_)
  refine gd_if (fun _ => K_pipe hS hR K h1 h2 h3) (fun _ => ?_)
  refine gd_if (fun _ => K_engine hS hR K h1 h2 h3) (fun _ => ?_)
  refine gd_if (fun _ => K_breaks hS hR K h1 h2 h3) (fun _ => ?_)
  refine gd_if (fun _ => K_sea hS hR K h1 h2 h3) (fun _ => ?_)
  refine gd_if (fun _ => K_hours hS hR K h1 h2 h3) (fun _ => ?_)
  refine gd_if (fun _ => K_first hS hR K h1 h2 h3) (fun _ => ?_)
  refine gd_if (fun _ => K_lot hS hR K h1 h2 h3) (fun _ => ?_)
  refine gd_if (fun _ => K_lay hS hR K h1 h2 h3) (fun _ => ?_)
  refine gd_if (fun _ => K_about hS hR K h1 h2 h3) (fun _ => ?_)
  refine gd_if (fun _ => K_as hS hR K h1 h2 h3) (fun _ => ?_)
  refine gd_if (fun _ => K_letters hS hR K h1 h2 h3) (fun _ => ?_)
  refine gd_if (fun _ => K_blank hS hR K h1 h2 h3) (fun _ => ?_)
  refine gd_if (fun _ => K_fault hS hR K h1 h2 h3) (fun _ => ?_)
  refine gd_if (fun _ => K_text hS hR K h1 h2 h3) (fun _ => ?_)
  refine gd_if (fun _ => K_says hS hR K h1 h2 h3) (fun _ => ?_)
  refine gd_if (fun _ => K_sum hS hR K h1 h2 h3) (fun _ => ?_)
  refine gd_if (fun _ => K_lost hS hR K h1 h2 h3) (fun _ => ?_)
  refine gd_if (fun _ => K_way hS hR K h1 h2 h3) (fun _ => ?_)
  refine gd_if (fun _ => K_reading hS hR K h1 h2 h3) (fun _ => ?_)
  refine gd_if (fun _ => K_rate hS hR K h1 h2 h3) (fun _ => ?_)
  refine gd_if (fun _ => K_could hS hR K h1 h2 h3) (fun _ => ?_)
  refine gd_if (fun _ => K_was hS hR K h1 h2 h3) (fun _ => ?_)
  refine gd_if (fun _ => K_arrive hS hR K h1 h2 h3) (fun _ => ?_)
  refine gd_if (fun _ => K_laid hS hR K h1 h2 h3) (fun _ => ?_)
  refine gd_if (fun _ => K_flock hS hR K h1 h2 h3) (fun _ => ?_)
  refine gd_if (fun _ => K_works hS hR K h1 h2 h3) (fun _ => ?_)
  refine gd_if (fun _ => K_days hS hR K h1 h2 h3) (fun _ => ?_)
  refine gd_if (fun _ => K_loss hS hR K h1 h2 h3) (fun _ => ?_)
  refine gd_if (fun _ => K_driven hS hR K h1 h2 h3) (fun _ => ?_)
  refine gd_if (fun _ => K_market hS hR K h1 h2 h3) (fun _ => ?_)
  refine gd_if (fun _ => K_seller hS hR K h1 h2 h3) (fun _ => ?_)
  refine gd_if (fun _ => K_week hS hR K h1 h2 h3) (fun _ => ?_)
  refine gd_if (fun _ => K_turns hS hR K h1 h2 h3) (fun _ => ?_)
  refine gd_if (fun _ => K_farm hS hR K h1 h2 h3) (fun _ => ?_)
  refine gd_if (fun _ => K_owe hS hR K h1 h2 h3) (fun _ => ?_)
  refine gd_if (fun _ => K_falls hS hR K h1 h2 h3) (fun _ => ?_)
  refine gd_if (fun _ => K_safe hS hR K h1 h2 h3) (fun _ => ?_)
  refine gd_if (fun _ => K_line hS hR K h1 h2 h3) (fun _ => ?_)
  refine gd_if (fun _ => K_ring hS hR K h1 h2 h3) (fun _ => ?_)
  refine gd_if (fun _ => K_earns hS hR K h1 h2 h3) (fun _ => ?_)
  refine gd_if (fun _ => K_stable hS hR K h1 h2 h3) (fun _ => ?_)
  refine gd_if (fun _ => K_choice hS hR K h1 h2 h3) (fun _ => ?_)
  refine gd_if (fun _ => K_gives hS hR K h1 h2 h3) (fun _ => ?_)
  refine gd_if (fun _ => K_plan hS hR K h1 h2 h3) (fun _ => ?_)
  refine gd_if (fun _ => K_count hS hR K h1 h2 h3) (fun _ => ?_)
  refine gd_if (fun _ => K_digest hS hR K h1 h2 h3) (fun _ => ?_)
  exact K c r hR
theorem law_loop (hS : ∀ c r, Rel c r → Steps N c r) (hl : xs.length ≤ 2048) : ∀ n k c r, Rel c r → 4 * k ≤ xs.length → xs.length + 4 ≤ 4 * (k + n) → Good1 (Law_p18 N xs n c r (nI (4 * k))) := by
  intro n
  induction n with
  | zero => intro k c r _ h1 h2; omega
  | succ n ih =>
    intro k c r hR h1 h2
    show Good1 (Law_p18b N xs (Law_p18 N xs n) c r (nI (4 * k)))
    by_cases hk : 4 * k + 4 ≤ xs.length
    · have i1 : nI (4 * k) + 1 = nI (4 * k + 1) := nI_add _ 1
      have i2 : nI (4 * k) + 2 = nI (4 * k + 2) := nI_add _ 2
      have i3 : nI (4 * k) + 3 = nI (4 * k + 3) := nI_add _ 3
      have i4 : nI (4 * k) + 4 = nI (4 * (k + 1)) := nI_add _ 4
      refine K_all (hS c r hR) hR (fun c1 r1 h => ?_) ?_ (ld_nI (by omega) (by omega)) (by rw [i1]; exact ld_nI (by omega) (by omega)) (by rw [i2]; exact ld_nI (by omega) (by omega)) (by rw [i3]; exact ld_nI (by omega) (by omega))
      · rw [i4]; exact ih (k + 1) c1 r1 h (by omega) (by omega)
      · have : Int32.ofNat xs.length - 4 = nI (xs.length - 4) := pk_sub (b := 4) (by omega)
        rw [this, nI_leI (by omega) (by omega)]; omega
    · unfold Law_p18b
      rw [if_pos]
      · exact ⟨_, rfl, rfl⟩
      · by_cases h4 : 4 ≤ xs.length
        · have : Int32.ofNat xs.length - 4 = nI (xs.length - 4) := pk_sub (b := 4) (by omega)
          rw [this, nI_ltI (by omega) (by omega)]; omega
        · have hk0 : k = 0 := by omega
          subst hk0
          exact pk_sneg (a := xs.length) (b := 4) (by decide) (by omega)
end LW
theorem law_good_of {N : Nat} (hN : 2000 ≤ N) (hS : ∀ c r, Rel c r → Steps N c r) (xs : List Int32) (hl : xs.length ≤ 2048) : LawGood xs := by
  obtain ⟨p, h, h1⟩ := law_loop (N := N) (xs := xs) hS hl N 0 c0 r0 rel0 (by omega) (by omega)
  exact ⟨N, p, h, h1⟩
