/-! PURE: the plain calls (written by gen32.py) -/
theorem Sim.ite {α : Type} {p : Prop} {d1 d2 : Decidable p} {A B A2 B2 : Option (α × St)} (ht : p → Sim A A2) (hf : ¬ p → Sim B B2) : Sim (@ite _ p d1 A B) (@ite _ p d2 A2 B2) := by
  by_cases h : p
  · rw [if_pos h, if_pos h]; exact ht h
  · rw [if_neg h, if_neg h]; exact hf h
theorem bind_eta {α β : Type} (o : Option (α × β)) : (o.bind fun p => some (p.1, p.2)) = o := by cases o <;> rfl
theorem bind_id {α : Type} (o : Option α) : (o.bind fun p => some p) = o := by cases o <;> rfl
theorem Sam.ite {α : Type} {p : Prop} {d1 d2 : Decidable p} {A B A2 B2 : Option α} (ht : p → Sam A A2) (hf : ¬ p → Sam B B2) : Sam (@ite _ p d1 A B) (@ite _ p d2 A2 B2) := by
  by_cases h : p
  · rw [if_pos h, if_pos h]; exact ht h
  · rw [if_neg h, if_neg h]; exact hf h
theorem Sim.ret {α : Type} {v : α} {c r : St} (h : Rel c r) : Sim (some (v, c)) (some (v, r)) := ⟨v, c, r, rfl, rfl, h⟩
theorem Sam.ret {α : Type} {v : α} : Sam (some v) (some v) := ⟨v, rfl, rfl⟩
theorem Sam.of {α : Type} {a b : Option α} {v : α} (h1 : a = some v) (h2 : b = some v) : Sam a b := ⟨v, h1, h2⟩
/-- an index between 0 and m - 1 -/
theorem ix_in {x : Int32} {m : Nat} (hm : m < 2 ^ 31) (h : 0 ≤ x ∧ x ≤ nI m - 1) : ∃ k : Nat, x = nI k ∧ k < m := by
  have h1 := ib_of h
  have e0 : (0 : Int32).toInt = 0 := rfl
  cases m with
  | zero =>
    have : (nI 0 - 1).toInt = -1 := rfl
    rw [this] at h1
    omega
  | succ m =>
    rw [nI_pred, nI_toInt (by omega)] at h1
    obtain ⟨q, e⟩ := nat_of (x := x) (by omega)
    exact ⟨_, q, by omega⟩
theorem lt_nI {n m : Nat} (hn : n < 2 ^ 31) (hm : m < 2 ^ 31) : (nI n < nI m) = (n < m) := propext (nI_ltI hn hm)
theorem ne_nI {n m : Nat} (hnm : n ≤ m) (hm : m < 2 ^ 31) : (¬ nI n = nI m) = (n < m) := propext (by rw [nI_eq (by omega) hm]; omega)
theorem S_warm {N : Nat} {c r : St} (h : Rel c r) (x1 x2 : Int32) : Sim (C_warm N c x1 x2) (R_warm N r x1 x2) := by
  obtain ⟨q1, q2, q3, q4, q5, q6⟩ := h.rCell
  unfold C_warm C_isCell C_isWarmth C_change R_warm R_isCell
  simp only [C_within_eq, R_in_eq, Option.bind_some, if_bz, if_nbz, ← q5]
  refine Sim.ite (fun g1 => Sim.ite (fun g2 => ?_) (fun _ => Sim.ret h)) (fun _ => Sim.ret h)
  obtain ⟨k, rfl, hk⟩ := nat_in g1
  have hk : k < 12 := by have : (11 : Int32).toInt = 11 := rfl; omega
  have hl : (gA c 5).length = 12 := h.lenC.1 5
  simp only [ld_nI (show k < (gA c 5).length by omega) (by omega), sto_nI (show k < (gA c 5).length by omega) (by omega), Option.bind_some]
  exact ⟨_, _, _, rfl, rfl, LenC_sA h.lenC List.length_set, LenR_sA h.lenR (by rw [List.length_set, q5]), h.rHold, h.rNow, ⟨q1, q2, q3, q4, rfl, bnd_set q6 (by omega) (ib_of g2)⟩, h.rEng, h.rLots.frg (Fm.sA (u := mks []) (w := mks [5]) (Fm.refl _ _ c) rfl List.length_set) (Fm.sA (u := mks []) (w := mks [0]) (Fm.refl _ _ r) rfl (by rw [List.length_set, q5])) (by decide), h.rText.frg (Fm.sA (u := mks []) (w := mks [5]) (Fm.refl _ _ c) rfl List.length_set) (Fm.sA (u := mks []) (w := mks [0]) (Fm.refl _ _ r) rfl (by rw [List.length_set, q5])) (by decide), h.rRead, h.rStk, h.rDrv.frg (Fm.sA (u := mks []) (w := mks [5]) (Fm.refl _ _ c) rfl List.length_set) (Fm.sA (u := mks []) (w := mks [0]) (Fm.refl _ _ r) rfl (by rw [List.length_set, q5])) (by decide), h.rMkt, h.rFarm.frg (Fm.sA (u := mks []) (w := mks [5]) (Fm.refl _ _ c) rfl List.length_set) (Fm.sA (u := mks []) (w := mks [0]) (Fm.refl _ _ r) rfl (by rw [List.length_set, q5])) (by decide), h.rRing, h.rCh.frg (Fm.sA (u := mks []) (w := mks [5]) (Fm.refl _ _ c) rfl List.length_set) (Fm.sA (u := mks []) (w := mks [0]) (Fm.refl _ _ r) rfl (by rw [List.length_set, q5])) (by decide)⟩
theorem S_outer {N : Nat} {c r : St} (h : Rel c r) (x1 x2 : Int32) : Sim (C_outer N c x1 x2) (R_outer N r x1 x2) := by
  obtain ⟨q1, q2, q3, q4, q5, q6⟩ := h.rCell
  unfold C_outer C_isCell C_change_2 R_outer R_isCell
  simp only [C_within_eq, R_in_eq, Option.bind_some, if_bz, if_nbz, ← q1]
  refine Sim.ite (fun g1 => Sim.ite (fun g2 => ?_) (fun _ => Sim.ret h)) (fun _ => Sim.ret h)
  obtain ⟨k, rfl, hk⟩ := nat_in g1
  have hk : k < 12 := by have : (11 : Int32).toInt = 11 := rfl; omega
  have hl : (gA c 0).length = 12 := h.lenC.1 0
  simp only [ld_nI (show k < (gA c 0).length by omega) (by omega), sto_nI (show k < (gA c 0).length by omega) (by omega), Option.bind_some]
  exact ⟨_, _, _, rfl, rfl, LenC_sA h.lenC List.length_set, LenR_sA h.lenR (by rw [List.length_set, q1]), h.rHold, h.rNow, ⟨rfl, bnd_set q2 (by omega) (ib_of g2), q3, q4, q5, q6⟩, h.rEng, h.rLots.frg (Fm.sA (u := mks []) (w := mks [0]) (Fm.refl _ _ c) rfl List.length_set) (Fm.sA (u := mks []) (w := mks [1]) (Fm.refl _ _ r) rfl (by rw [List.length_set, q1])) (by decide), h.rText.frg (Fm.sA (u := mks []) (w := mks [0]) (Fm.refl _ _ c) rfl List.length_set) (Fm.sA (u := mks []) (w := mks [1]) (Fm.refl _ _ r) rfl (by rw [List.length_set, q1])) (by decide), h.rRead, h.rStk, h.rDrv.frg (Fm.sA (u := mks []) (w := mks [0]) (Fm.refl _ _ c) rfl List.length_set) (Fm.sA (u := mks []) (w := mks [1]) (Fm.refl _ _ r) rfl (by rw [List.length_set, q1])) (by decide), h.rMkt, h.rFarm.frg (Fm.sA (u := mks []) (w := mks [0]) (Fm.refl _ _ c) rfl List.length_set) (Fm.sA (u := mks []) (w := mks [1]) (Fm.refl _ _ r) rfl (by rw [List.length_set, q1])) (by decide), h.rRing, h.rCh.frg (Fm.sA (u := mks []) (w := mks [0]) (Fm.refl _ _ c) rfl List.length_set) (Fm.sA (u := mks []) (w := mks [1]) (Fm.refl _ _ r) rfl (by rw [List.length_set, q1])) (by decide)⟩
theorem S_works {N : Nat} {c r : St} (h : Rel c r) (x1 x2 : Int32) : Sim (C_works N c x1 x2) (R_works N r x1 x2) := by
  obtain ⟨n, q1, q2, q3, q4, q5, q6, q7, q8, q9, q10, q11, q12⟩ := h.rDrv
  unfold C_works C_change_6 R_works
  simp only [C_within_eq, R_in_eq, Option.bind_some, if_bz, if_nbz, ← q10]
  refine Sim.ite (fun g1 => Sim.ite (fun g2 => ?_) (fun _ => Sim.ret h)) (fun _ => Sim.ret h)
  obtain ⟨k, rfl, hk⟩ := nat_in g1
  have hk : k < 4 := by have : (3 : Int32).toInt = 3 := rfl; omega
  have hl : (gA c 55).length = 4 := h.lenC.1 55
  simp only [ld_nI (show k < (gA c 55).length by omega) (by omega), sto_nI (show k < (gA c 55).length by omega) (by omega), Option.bind_some]
  exact ⟨_, _, _, rfl, rfl, LenC_sA h.lenC List.length_set, LenR_sA h.lenR (by rw [List.length_set, q10]), h.rHold, h.rNow, h.rCell, h.rEng, h.rLots.frg (Fm.sA (u := mks []) (w := mks [55]) (Fm.refl _ _ c) rfl List.length_set) (Fm.sA (u := mks []) (w := mks [19]) (Fm.refl _ _ r) rfl (by rw [List.length_set, q10])) (by decide), h.rText.frg (Fm.sA (u := mks []) (w := mks [55]) (Fm.refl _ _ c) rfl List.length_set) (Fm.sA (u := mks []) (w := mks [19]) (Fm.refl _ _ r) rfl (by rw [List.length_set, q10])) (by decide), h.rRead, h.rStk, ⟨n, q1, q2, q3, q4, q5, q6, q7, flat_eq q8 (fun i hi => gA_sA_ne _ _ (by omega)), q9, rfl, bnd_set q11 (by omega) (ib_of g2), q12⟩, h.rMkt, h.rFarm.frg (Fm.sA (u := mks []) (w := mks [55]) (Fm.refl _ _ c) rfl List.length_set) (Fm.sA (u := mks []) (w := mks [19]) (Fm.refl _ _ r) rfl (by rw [List.length_set, q10])) (by decide), h.rRing, h.rCh.frg (Fm.sA (u := mks []) (w := mks [55]) (Fm.refl _ _ c) rfl List.length_set) (Fm.sA (u := mks []) (w := mks [19]) (Fm.refl _ _ r) rfl (by rw [List.length_set, q10])) (by decide)⟩
theorem S_pipe {N : Nat} {c r : St} (h : Rel c r) (x1 x2 : Int32) (hx : x2 = 0 ∨ x2 = 1) : Sim (C_pipe N c x1 x2) (R_pipe N r x1 x2) := by
  obtain ⟨q1, q2, q3, q4, q5, q6⟩ := h.rCell
  unfold C_pipe C_pipe_p27 C_isCell C_change_3 R_pipe R_isCell R_pipe_p24
  simp only [C_within_eq, R_in_eq, Option.bind_some, if_bz, if_nbz, ← q3]
  refine Sim.ite (fun g1 => ?_) (fun _ => Sim.ret h)
  obtain ⟨k, rfl, hk⟩ := nat_in g1
  have hk : k < 12 := by have : (11 : Int32).toInt = 11 := rfl; omega
  have hl : (gA c 1).length = 12 := h.lenC.1 1
  have hb := q4 k hk
  have hv : (gA c 1).getD k 0 = 0 ∨ (gA c 1).getD k 0 = 1 := by
    have h2 : ((gA c 1).getD k 0).toInt = 0 ∨ ((gA c 1).getD k 0).toInt = 1 := by omega
    rcases h2 with e | e
    · exact Or.inl (Int32.toInt_inj.mp e)
    · exact Or.inr (Int32.toInt_inj.mp e)
  have g0 : gz 0 = some 0 := rfl
  have g1 : gz 1 = some 1 := rfl
  have hr : ∀ x : Int32, x = 0 ∨ x = 1 → Rel (sA c 1 ((gA c 1).set k x)) (sA r 2 ((gA c 1).set k x)) := fun x hx => ⟨LenC_sA h.lenC List.length_set, LenR_sA h.lenR (by rw [List.length_set, q3]), h.rHold, h.rNow, ⟨q1, q2, rfl, bnd_set q4 (by omega) (by rcases hx with rfl | rfl <;> decide), q5, q6⟩, h.rEng, h.rLots.frg (Fm.sA (u := mks []) (w := mks [1]) (Fm.refl _ _ c) rfl List.length_set) (Fm.sA (u := mks []) (w := mks [2]) (Fm.refl _ _ r) rfl (by rw [List.length_set, q3])) (by decide), h.rText.frg (Fm.sA (u := mks []) (w := mks [1]) (Fm.refl _ _ c) rfl List.length_set) (Fm.sA (u := mks []) (w := mks [2]) (Fm.refl _ _ r) rfl (by rw [List.length_set, q3])) (by decide), h.rRead, h.rStk, h.rDrv.frg (Fm.sA (u := mks []) (w := mks [1]) (Fm.refl _ _ c) rfl List.length_set) (Fm.sA (u := mks []) (w := mks [2]) (Fm.refl _ _ r) rfl (by rw [List.length_set, q3])) (by decide), h.rMkt, h.rFarm.frg (Fm.sA (u := mks []) (w := mks [1]) (Fm.refl _ _ c) rfl List.length_set) (Fm.sA (u := mks []) (w := mks [2]) (Fm.refl _ _ r) rfl (by rw [List.length_set, q3])) (by decide), h.rRing, h.rCh.frg (Fm.sA (u := mks []) (w := mks [1]) (Fm.refl _ _ c) rfl List.length_set) (Fm.sA (u := mks []) (w := mks [2]) (Fm.refl _ _ r) rfl (by rw [List.length_set, q3])) (by decide)⟩
  rcases hx with rfl | rfl
  · simp only [ld_nI (show k < (gA c 1).length by omega) (by omega), sto_nI (show k < (gA c 1).length by omega) (by omega), Option.bind_some, g0, if_true]
    rcases hv with e | e
    · rw [e, if_pos rfl]; exact ⟨_, _, _, rfl, rfl, hr 0 (Or.inl rfl)⟩
    · rw [e, if_neg (by decide)]; exact ⟨_, _, _, rfl, rfl, hr 0 (Or.inl rfl)⟩
  · rw [if_neg (by decide)]
    simp only [ld_nI (show k < (gA c 1).length by omega) (by omega), sto_nI (show k < (gA c 1).length by omega) (by omega), Option.bind_some, g1]
    rcases hv with e | e
    · rw [e, if_pos rfl]; exact ⟨_, _, _, rfl, rfl, hr 1 (Or.inr rfl)⟩
    · rw [e, if_neg (by decide)]; exact ⟨_, _, _, rfl, rfl, hr 1 (Or.inr rfl)⟩
theorem S_rate {N : Nat} {c r : St} (h : Rel c r) (x1 : Int32) : Sim (C_rate N c x1) (R_rate N r x1) := by
  obtain ⟨n, q1, q2, q3, q4, q5, q6, q7, q8, q9, q10⟩ := h.rRead
  unfold C_rate R_rate
  simp only [C_within_eq, R_in_eq, Option.bind_some, if_bz, if_nbz, ← q4]
  refine Sim.ite (fun g1 => ?_) (fun _ => Sim.ret h)
  exact ⟨_, _, _, rfl, rfl, h.lenC, h.lenR, h.rHold, h.rNow, h.rCell, h.rEng, h.rLots, h.rText, ⟨n, q1, q2, q3, rfl, ib_of g1, q6, q7, q8, q9, q10⟩, h.rStk, h.rDrv, h.rMkt, h.rFarm, h.rRing, h.rCh⟩
theorem S_loss {N : Nat} {c r : St} (h : Rel c r) (x1 : Int32) : Sim (C_loss N c x1) (R_loss N r x1) := by
  obtain ⟨n, q1, q2, q3, q4, q5, q6, q7, q8, q9, q10, q11, q12, q13⟩ := h.rDrv
  unfold C_loss R_loss
  simp only [C_within_eq, R_in_eq, Option.bind_some, if_bz, if_nbz, ← q12]
  refine Sim.ite (fun g1 => ?_) (fun _ => Sim.ret h)
  exact ⟨_, _, _, rfl, rfl, h.lenC, h.lenR, h.rHold, h.rNow, h.rCell, h.rEng, h.rLots, h.rText, h.rRead, h.rStk, ⟨n, q1, q2, q3, q4, q5, q6, q7, q8, q9, q10, q11, rfl, ib_of g1⟩, h.rMkt, h.rFarm, h.rRing, h.rCh⟩
theorem S_arrive {N : Nat} {c r : St} (h : Rel c r) (x1 : Int32) : Sim (C_arrive N c x1) (R_arrive N r x1) := by
  obtain ⟨n, q1, e1, e2, q2, q3, q9⟩ := h.rStk
  have hlt : (nI n < (8 : Int32)) = (n < 8) := lt_nI (m := 8) (by omega) (by omega)
  have hne : (¬ nI n = (8 : Int32)) = (n < 8) := ne_nI (m := 8) (by omega) (by omega)
  have hl51 : (gA c 51).length = 8 := h.lenC.1 51
  unfold C_arrive Stacks_add R_arrive
  simp only [C_within_eq, R_in_eq, Option.bind_some, if_bz, if_nbz, bind_eta, e1, e2, ← q2, hlt, hne]
  refine Sim.ite (fun g1 => Sim.ite (fun g9 => ?_) (fun _ => Sim.ret h)) (fun _ => Sim.ret h)
  have hn : n < 8 := g9
  have s51 : ∀ x, sto (gA c 51) (nI n) x = some ((gA c 51).set n x) := fun x => sto_nI (by omega) (by omega)
  simp only [s51, e1, e2, Option.bind_some, gA_sA, gI_sI, gI_sA, gA_sI, Nat.reduceEqDiff, if_true, if_false, ← q2, nI_1, nI_pred]
  exact ⟨_, _, _, rfl, rfl, LenC_sI (LenC_sA h.lenC List.length_set), LenR_sI (LenR_sA h.lenR (by rw [List.length_set, q2]; try rfl)), h.rHold, h.rNow, h.rCell, h.rEng, h.rLots.frg (Fm.sI (Fm.sA (Fm.refl (mks [17]) (mks [51]) c) rfl List.length_set) rfl) (Fm.sI (Fm.sA (Fm.refl (mks [12]) (mks [15]) r) rfl (by rw [List.length_set, q2]; try rfl)) rfl) (by decide), h.rText.frg (Fm.sI (Fm.sA (Fm.refl (mks [17]) (mks [51]) c) rfl List.length_set) rfl) (Fm.sI (Fm.sA (Fm.refl (mks [12]) (mks [15]) r) rfl (by rw [List.length_set, q2]; try rfl)) rfl) (by decide), h.rRead, ⟨n + 1, by omega, rfl, rfl, rfl, bnd_push q3 (by omega) (ib_of g1), q9⟩, h.rDrv.frg (Fm.sI (Fm.sA (Fm.refl (mks [17]) (mks [51]) c) rfl List.length_set) rfl) (Fm.sI (Fm.sA (Fm.refl (mks [12]) (mks [15]) r) rfl (by rw [List.length_set, q2]; try rfl)) rfl) (by decide), h.rMkt, h.rFarm.frg (Fm.sI (Fm.sA (Fm.refl (mks [17]) (mks [51]) c) rfl List.length_set) rfl) (Fm.sI (Fm.sA (Fm.refl (mks [12]) (mks [15]) r) rfl (by rw [List.length_set, q2]; try rfl)) rfl) (by decide), h.rRing, h.rCh.frg (Fm.sI (Fm.sA (Fm.refl (mks [17]) (mks [51]) c) rfl List.length_set) rfl) (Fm.sI (Fm.sA (Fm.refl (mks [12]) (mks [15]) r) rfl (by rw [List.length_set, q2]; try rfl)) rfl) (by decide)⟩
theorem S_choice {N : Nat} {c r : St} (h : Rel c r) (x1 : Int32) : Sim (C_choice N c x1) (R_choice N r x1) := by
  obtain ⟨n, q1, e1, e2, q2, q3, q4, q5⟩ := h.rCh
  have hlt : (nI n < (8 : Int32)) = (n < 8) := lt_nI (m := 8) (by omega) (by omega)
  have hne : (¬ nI n = (8 : Int32)) = (n < 8) := ne_nI (m := 8) (by omega) (by omega)
  have hl94 : (gA c 94).length = 8 := h.lenC.1 94
  unfold C_choice Choices_add R_choice
  simp only [C_within_eq, R_in_eq, Option.bind_some, if_bz, if_nbz, bind_eta, e1, e2, ← q2, hlt, hne]
  refine Sim.ite (fun g1 => Sim.ite (fun g9 => ?_) (fun _ => Sim.ret h)) (fun _ => Sim.ret h)
  have hn : n < 8 := g9
  have s94 : ∀ x, sto (gA c 94) (nI n) x = some ((gA c 94).set n x) := fun x => sto_nI (by omega) (by omega)
  simp only [s94, e1, e2, Option.bind_some, gA_sA, gI_sI, gI_sA, gA_sI, Nat.reduceEqDiff, if_true, if_false, ← q2, nI_1, nI_pred]
  exact ⟨_, _, _, rfl, rfl, LenC_sI (LenC_sA h.lenC List.length_set), LenR_sI (LenR_sA h.lenR (by rw [List.length_set, q2]; try rfl)), h.rHold, h.rNow, h.rCell, h.rEng, h.rLots.frg (Fm.sI (Fm.sA (Fm.refl (mks [28]) (mks [94]) c) rfl List.length_set) rfl) (Fm.sI (Fm.sA (Fm.refl (mks [26]) (mks [27]) r) rfl (by rw [List.length_set, q2]; try rfl)) rfl) (by decide), h.rText.frg (Fm.sI (Fm.sA (Fm.refl (mks [28]) (mks [94]) c) rfl List.length_set) rfl) (Fm.sI (Fm.sA (Fm.refl (mks [26]) (mks [27]) r) rfl (by rw [List.length_set, q2]; try rfl)) rfl) (by decide), h.rRead, h.rStk, h.rDrv.frg (Fm.sI (Fm.sA (Fm.refl (mks [28]) (mks [94]) c) rfl List.length_set) rfl) (Fm.sI (Fm.sA (Fm.refl (mks [26]) (mks [27]) r) rfl (by rw [List.length_set, q2]; try rfl)) rfl) (by decide), h.rMkt, h.rFarm.frg (Fm.sI (Fm.sA (Fm.refl (mks [28]) (mks [94]) c) rfl List.length_set) rfl) (Fm.sI (Fm.sA (Fm.refl (mks [26]) (mks [27]) r) rfl (by rw [List.length_set, q2]; try rfl)) rfl) (by decide), h.rRing, ⟨n + 1, by omega, rfl, rfl, rfl, bnd_push q3 (by omega) (ib_of g1), flat_eq q4 (fun i hi => gA_sA_ne _ _ (by omega)), q5⟩⟩
theorem S_flock {N : Nat} {c r : St} (h : Rel c r) (x1 x2 : Int32) : Sim (C_flock N c x1 x2) (R_flock N r x1 x2) := by
  obtain ⟨n, q1, e1, e2, q4, q5, q6, q7, q8, q9, q10, q11, q12, q13⟩ := h.rDrv
  have hlt : (nI n < (6 : Int32)) = (n < 6) := lt_nI (m := 6) (by omega) (by omega)
  have hne : (¬ nI n = (6 : Int32)) = (n < 6) := ne_nI (m := 6) (by omega) (by omega)
  have hl62 : (gA c 62).length = 6 := h.lenC.1 62
  have hl63 : (gA c 63).length = 6 := h.lenC.1 63
  unfold C_flock C_flock_p21 Drive_add R_flock R_flock_p21
  simp only [C_within_eq, R_in_eq, Option.bind_some, if_bz, if_nbz, bind_eta, e1, e2, ← q4, ← q5, hlt, hne]
  refine Sim.ite (fun g1 => Sim.ite (fun g2 => Sim.ite (fun g9 => ?_) (fun _ => Sim.ret h)) (fun _ => Sim.ret h)) (fun _ => Sim.ret h)
  have hn : n < 6 := g9
  have s62 : ∀ x, sto (gA c 62) (nI n) x = some ((gA c 62).set n x) := fun x => sto_nI (by omega) (by omega)
  have s63 : ∀ x, sto (gA c 63) (nI n) x = some ((gA c 63).set n x) := fun x => sto_nI (by omega) (by omega)
  simp only [s62, s63, e1, e2, Option.bind_some, gA_sA, gI_sI, gI_sA, gA_sI, Nat.reduceEqDiff, if_true, if_false, ← q4, ← q5, nI_1, nI_pred]
  exact ⟨_, _, _, rfl, rfl, LenC_sI (LenC_sA (LenC_sA h.lenC List.length_set) List.length_set), LenR_sI (LenR_sA (LenR_sA h.lenR (by rw [List.length_set, q4]; try rfl)) (by rw [List.length_set, q5]; try rfl)), h.rHold, h.rNow, h.rCell, h.rEng, h.rLots.frg (Fm.sI (Fm.sA (Fm.sA (Fm.refl (mks [21]) (mks [62, 63]) c) rfl List.length_set) rfl List.length_set) rfl) (Fm.sI (Fm.sA (Fm.sA (Fm.refl (mks [13]) (mks [16, 17]) r) rfl (by rw [List.length_set, q4]; try rfl)) rfl (by rw [List.length_set, q5]; try rfl)) rfl) (by decide), h.rText.frg (Fm.sI (Fm.sA (Fm.sA (Fm.refl (mks [21]) (mks [62, 63]) c) rfl List.length_set) rfl List.length_set) rfl) (Fm.sI (Fm.sA (Fm.sA (Fm.refl (mks [13]) (mks [16, 17]) r) rfl (by rw [List.length_set, q4]; try rfl)) rfl (by rw [List.length_set, q5]; try rfl)) rfl) (by decide), h.rRead, h.rStk, ⟨n + 1, by omega, rfl, rfl, rfl, rfl, bnd_push q6 (by omega) (ib_of g1), bnd_push q7 (by omega) (ib_of g2), flat_eq q8 (fun i hi => (gA_sA_ne _ _ (by omega)).trans (gA_sA_ne _ _ (by omega))), q9, q10, q11, q12, q13⟩, h.rMkt, h.rFarm.frg (Fm.sI (Fm.sA (Fm.sA (Fm.refl (mks [21]) (mks [62, 63]) c) rfl List.length_set) rfl List.length_set) rfl) (Fm.sI (Fm.sA (Fm.sA (Fm.refl (mks [13]) (mks [16, 17]) r) rfl (by rw [List.length_set, q4]; try rfl)) rfl (by rw [List.length_set, q5]; try rfl)) rfl) (by decide), h.rRing, h.rCh.frg (Fm.sI (Fm.sA (Fm.sA (Fm.refl (mks [21]) (mks [62, 63]) c) rfl List.length_set) rfl List.length_set) rfl) (Fm.sI (Fm.sA (Fm.sA (Fm.refl (mks [13]) (mks [16, 17]) r) rfl (by rw [List.length_set, q4]; try rfl)) rfl (by rw [List.length_set, q5]; try rfl)) rfl) (by decide)⟩
theorem S_seller {N : Nat} {c r : St} (h : Rel c r) (x1 x2 : Int32) : Sim (C_seller N c x1 x2) (R_seller N r x1 x2) := by
  obtain ⟨n, q1, e1, e2, q4, q5, q6, q7, q8⟩ := h.rMkt
  have hlt : (nI n < (5 : Int32)) = (n < 5) := lt_nI (m := 5) (by omega) (by omega)
  have hne : (¬ nI n = (5 : Int32)) = (n < 5) := ne_nI (m := 5) (by omega) (by omega)
  have hl69 : (gA c 69).length = 5 := h.lenC.1 69
  have hl70 : (gA c 70).length = 5 := h.lenC.1 70
  unfold C_seller C_seller_p21 Market_add R_seller R_seller_p21
  simp only [C_within_eq, R_in_eq, Option.bind_some, if_bz, if_nbz, bind_eta, e1, e2, ← q4, ← q5, hlt, hne]
  refine Sim.ite (fun g1 => Sim.ite (fun g2 => Sim.ite (fun g9 => ?_) (fun _ => Sim.ret h)) (fun _ => Sim.ret h)) (fun _ => Sim.ret h)
  have hn : n < 5 := g9
  have s69 : ∀ x, sto (gA c 69) (nI n) x = some ((gA c 69).set n x) := fun x => sto_nI (by omega) (by omega)
  have s70 : ∀ x, sto (gA c 70) (nI n) x = some ((gA c 70).set n x) := fun x => sto_nI (by omega) (by omega)
  simp only [s69, s70, e1, e2, Option.bind_some, gA_sA, gI_sI, gI_sA, gA_sI, Nat.reduceEqDiff, if_true, if_false, ← q4, ← q5, nI_1, nI_pred]
  exact ⟨_, _, _, rfl, rfl, LenC_sI (LenC_sA (LenC_sA h.lenC List.length_set) List.length_set), LenR_sI (LenR_sA (LenR_sA h.lenR (by rw [List.length_set, q4]; try rfl)) (by rw [List.length_set, q5]; try rfl)), h.rHold, h.rNow, h.rCell, h.rEng, h.rLots.frg (Fm.sI (Fm.sA (Fm.sA (Fm.refl (mks [24]) (mks [69, 70]) c) rfl List.length_set) rfl List.length_set) rfl) (Fm.sI (Fm.sA (Fm.sA (Fm.refl (mks [19]) (mks [20, 21]) r) rfl (by rw [List.length_set, q4]; try rfl)) rfl (by rw [List.length_set, q5]; try rfl)) rfl) (by decide), h.rText.frg (Fm.sI (Fm.sA (Fm.sA (Fm.refl (mks [24]) (mks [69, 70]) c) rfl List.length_set) rfl List.length_set) rfl) (Fm.sI (Fm.sA (Fm.sA (Fm.refl (mks [19]) (mks [20, 21]) r) rfl (by rw [List.length_set, q4]; try rfl)) rfl (by rw [List.length_set, q5]; try rfl)) rfl) (by decide), h.rRead, h.rStk, h.rDrv.frg (Fm.sI (Fm.sA (Fm.sA (Fm.refl (mks [24]) (mks [69, 70]) c) rfl List.length_set) rfl List.length_set) rfl) (Fm.sI (Fm.sA (Fm.sA (Fm.refl (mks [19]) (mks [20, 21]) r) rfl (by rw [List.length_set, q4]; try rfl)) rfl (by rw [List.length_set, q5]; try rfl)) rfl) (by decide), ⟨n + 1, by omega, rfl, rfl, rfl, rfl, bnd_push q6 (by omega) (ib_of g1), bnd_push q7 (by omega) (ib_of g2), q8⟩, h.rFarm.frg (Fm.sI (Fm.sA (Fm.sA (Fm.refl (mks [24]) (mks [69, 70]) c) rfl List.length_set) rfl List.length_set) rfl) (Fm.sI (Fm.sA (Fm.sA (Fm.refl (mks [19]) (mks [20, 21]) r) rfl (by rw [List.length_set, q4]; try rfl)) rfl (by rw [List.length_set, q5]; try rfl)) rfl) (by decide), h.rRing, h.rCh.frg (Fm.sI (Fm.sA (Fm.sA (Fm.refl (mks [24]) (mks [69, 70]) c) rfl List.length_set) rfl List.length_set) rfl) (Fm.sI (Fm.sA (Fm.sA (Fm.refl (mks [19]) (mks [20, 21]) r) rfl (by rw [List.length_set, q4]; try rfl)) rfl (by rw [List.length_set, q5]; try rfl)) rfl) (by decide)⟩
theorem S_farm {N : Nat} {c r : St} (h : Rel c r) (x1 x2 : Int32) : Sim (C_farm N c x1 x2) (R_farm N r x1 x2) := by
  obtain ⟨n, q1, e1, e2, q4, q5, q6, q7, q8, q9⟩ := h.rFarm
  have hlt : (nI n < (8 : Int32)) = (n < 8) := lt_nI (m := 8) (by omega) (by omega)
  have hne : (¬ nI n = (8 : Int32)) = (n < 8) := ne_nI (m := 8) (by omega) (by omega)
  have hl81 : (gA c 81).length = 8 := h.lenC.1 81
  have hl82 : (gA c 82).length = 8 := h.lenC.1 82
  unfold C_farm C_farm_p23 Farms_add R_farm R_farm_p23
  simp only [C_within_eq, R_in_eq, Option.bind_some, if_bz, if_nbz, bind_eta, e1, e2, ← q4, ← q5, hlt, hne]
  refine Sim.ite (fun g1 => Sim.ite (fun g2 => Sim.ite (fun g9 => ?_) (fun _ => Sim.ret h)) (fun _ => Sim.ret h)) (fun _ => Sim.ret h)
  have hn : n < 8 := g9
  have s81 : ∀ x, sto (gA c 81) (nI n) x = some ((gA c 81).set n x) := fun x => sto_nI (by omega) (by omega)
  have s82 : ∀ x, sto (gA c 82) (nI n) x = some ((gA c 82).set n x) := fun x => sto_nI (by omega) (by omega)
  simp only [s81, s82, e1, e2, Option.bind_some, gA_sA, gI_sI, gI_sA, gA_sI, Nat.reduceEqDiff, if_true, if_false, ← q4, ← q5, nI_1, nI_pred]
  exact ⟨_, _, _, rfl, rfl, LenC_sI (LenC_sA (LenC_sA h.lenC List.length_set) List.length_set), LenR_sI (LenR_sA (LenR_sA h.lenR (by rw [List.length_set, q4]; try rfl)) (by rw [List.length_set, q5]; try rfl)), h.rHold, h.rNow, h.rCell, h.rEng, h.rLots.frg (Fm.sI (Fm.sA (Fm.sA (Fm.refl (mks [25]) (mks [81, 82]) c) rfl List.length_set) rfl List.length_set) rfl) (Fm.sI (Fm.sA (Fm.sA (Fm.refl (mks [20]) (mks [22, 23]) r) rfl (by rw [List.length_set, q4]; try rfl)) rfl (by rw [List.length_set, q5]; try rfl)) rfl) (by decide), h.rText.frg (Fm.sI (Fm.sA (Fm.sA (Fm.refl (mks [25]) (mks [81, 82]) c) rfl List.length_set) rfl List.length_set) rfl) (Fm.sI (Fm.sA (Fm.sA (Fm.refl (mks [20]) (mks [22, 23]) r) rfl (by rw [List.length_set, q4]; try rfl)) rfl (by rw [List.length_set, q5]; try rfl)) rfl) (by decide), h.rRead, h.rStk, h.rDrv.frg (Fm.sI (Fm.sA (Fm.sA (Fm.refl (mks [25]) (mks [81, 82]) c) rfl List.length_set) rfl List.length_set) rfl) (Fm.sI (Fm.sA (Fm.sA (Fm.refl (mks [20]) (mks [22, 23]) r) rfl (by rw [List.length_set, q4]; try rfl)) rfl (by rw [List.length_set, q5]; try rfl)) rfl) (by decide), h.rMkt, ⟨n + 1, by omega, rfl, rfl, rfl, rfl, bnd_push q6 (by omega) (ib_of g1), bnd_push q7 (by omega) (ib_of g2), flat_eq q8 (fun i hi => (gA_sA_ne _ _ (by omega)).trans (gA_sA_ne _ _ (by omega))), q9⟩, h.rRing, h.rCh.frg (Fm.sI (Fm.sA (Fm.sA (Fm.refl (mks [25]) (mks [81, 82]) c) rfl List.length_set) rfl List.length_set) rfl) (Fm.sI (Fm.sA (Fm.sA (Fm.refl (mks [20]) (mks [22, 23]) r) rfl (by rw [List.length_set, q4]; try rfl)) rfl (by rw [List.length_set, q5]; try rfl)) rfl) (by decide)⟩
theorem S_line {N : Nat} {c r : St} (h : Rel c r) (x1 x2 : Int32) : Sim (C_line N c x1 x2) (R_line N r x1 x2) := by
  obtain ⟨n, q1, e1, e2, q4, q5, q6, q7, q8⟩ := h.rRing
  have hlt : (nI n < (5 : Int32)) = (n < 5) := lt_nI (m := 5) (by omega) (by omega)
  have hne : (¬ nI n = (5 : Int32)) = (n < 5) := ne_nI (m := 5) (by omega) (by omega)
  have hl84 : (gA c 84).length = 5 := h.lenC.1 84
  have hl85 : (gA c 85).length = 5 := h.lenC.1 85
  unfold C_line C_line_p21 Ring_add R_line R_line_p21
  simp only [C_within_eq, R_in_eq, Option.bind_some, if_bz, if_nbz, bind_eta, e1, e2, ← q4, ← q5, hlt, hne]
  refine Sim.ite (fun g1 => Sim.ite (fun g2 => Sim.ite (fun g9 => ?_) (fun _ => Sim.ret h)) (fun _ => Sim.ret h)) (fun _ => Sim.ret h)
  have hn : n < 5 := g9
  have s84 : ∀ x, sto (gA c 84) (nI n) x = some ((gA c 84).set n x) := fun x => sto_nI (by omega) (by omega)
  have s85 : ∀ x, sto (gA c 85) (nI n) x = some ((gA c 85).set n x) := fun x => sto_nI (by omega) (by omega)
  simp only [s84, s85, e1, e2, Option.bind_some, gA_sA, gI_sI, gI_sA, gA_sI, Nat.reduceEqDiff, if_true, if_false, ← q4, ← q5, nI_1, nI_pred]
  exact ⟨_, _, _, rfl, rfl, LenC_sI (LenC_sA (LenC_sA h.lenC List.length_set) List.length_set), LenR_sI (LenR_sA (LenR_sA h.lenR (by rw [List.length_set, q4]; try rfl)) (by rw [List.length_set, q5]; try rfl)), h.rHold, h.rNow, h.rCell, h.rEng, h.rLots.frg (Fm.sI (Fm.sA (Fm.sA (Fm.refl (mks [27]) (mks [84, 85]) c) rfl List.length_set) rfl List.length_set) rfl) (Fm.sI (Fm.sA (Fm.sA (Fm.refl (mks [21]) (mks [25, 26]) r) rfl (by rw [List.length_set, q4]; try rfl)) rfl (by rw [List.length_set, q5]; try rfl)) rfl) (by decide), h.rText.frg (Fm.sI (Fm.sA (Fm.sA (Fm.refl (mks [27]) (mks [84, 85]) c) rfl List.length_set) rfl List.length_set) rfl) (Fm.sI (Fm.sA (Fm.sA (Fm.refl (mks [21]) (mks [25, 26]) r) rfl (by rw [List.length_set, q4]; try rfl)) rfl (by rw [List.length_set, q5]; try rfl)) rfl) (by decide), h.rRead, h.rStk, h.rDrv.frg (Fm.sI (Fm.sA (Fm.sA (Fm.refl (mks [27]) (mks [84, 85]) c) rfl List.length_set) rfl List.length_set) rfl) (Fm.sI (Fm.sA (Fm.sA (Fm.refl (mks [21]) (mks [25, 26]) r) rfl (by rw [List.length_set, q4]; try rfl)) rfl (by rw [List.length_set, q5]; try rfl)) rfl) (by decide), h.rMkt, h.rFarm.frg (Fm.sI (Fm.sA (Fm.sA (Fm.refl (mks [27]) (mks [84, 85]) c) rfl List.length_set) rfl List.length_set) rfl) (Fm.sI (Fm.sA (Fm.sA (Fm.refl (mks [21]) (mks [25, 26]) r) rfl (by rw [List.length_set, q4]; try rfl)) rfl (by rw [List.length_set, q5]; try rfl)) rfl) (by decide), ⟨n + 1, by omega, rfl, rfl, rfl, rfl, bnd_push q6 (by omega) (ib_of g1), bnd_push q7 (by omega) (ib_of g2), q8⟩, h.rCh.frg (Fm.sI (Fm.sA (Fm.sA (Fm.refl (mks [27]) (mks [84, 85]) c) rfl List.length_set) rfl List.length_set) rfl) (Fm.sI (Fm.sA (Fm.sA (Fm.refl (mks [21]) (mks [25, 26]) r) rfl (by rw [List.length_set, q4]; try rfl)) rfl (by rw [List.length_set, q5]; try rfl)) rfl) (by decide)⟩
theorem S_blank {N : Nat} {c r : St} (h : Rel c r) : Sim (C_blank N c) (R_blank N r) := by
  obtain ⟨n, m, q1, q2, q3, q4, q5⟩ := h.rText
  unfold C_blank R_blank
  rw [q3, q4]
  exact ⟨_, _, _, rfl, rfl, h.lenC, h.lenR, h.rHold, h.rNow, h.rCell, h.rEng, h.rLots, ⟨0, m, by omega, q2, rfl, rfl, q5⟩, h.rRead, h.rStk, h.rDrv, h.rMkt, h.rFarm, h.rRing, h.rCh⟩
