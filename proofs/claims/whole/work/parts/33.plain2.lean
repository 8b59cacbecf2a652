/-! PURE: more of the plain calls (written by gen33.py) -/
theorem S_days {N : Nat} {c r : St} (h : Rel c r) (x1 x2 x3 : Int32) : Sim (C_days N c x1 x2 x3) (R_days N r x1 x2 x3) := by
  obtain ⟨n, q1, e1, e2, q4, q5, q6, q7, q8, q9, q10, q11, q12, q13⟩ := h.rDrv
  unfold C_days C_days_p26 C_change_7 R_days R_days_p17 R_isFlock
  simp only [C_within_eq, R_in_eq, Option.bind_some, if_bz, if_nbz, bind_eta, e1, e2]
  refine Sim.ite (fun g1 => Sim.ite (fun g2 => Sim.ite (fun g3 => ?_) (fun _ => Sim.ret h)) (fun _ => Sim.ret h)) (fun _ => Sim.ret h)
  obtain ⟨i, rfl, hi⟩ := ix_in (by omega) g1
  obtain ⟨j, rfl, hj⟩ := nat_in g2
  have hj : j < 4 := by have : (3 : Int32).toInt = 3 := rfl; omega
  have hi8 : i < 6 := by omega
  have hl : (gA c (56 + i)).length = 4 := (h.lenC.1 _).trans ((by decide : ∀ i, i < 6 → LAc (56 + i) = 4) i hi8)
  have hlr : (gA r 18).length = 24 := h.lenR.1 18
  have ei : (4 : Int32) * nI i + nI j = nI (4 * i + j) := by rw [show (4 : Int32) = nI 4 from rfl, pk_mul, nI_add]
  have hij : 4 * i + j < 24 := by omega
  have hv : (gA r 18).getD (4 * i + j) 0 = (gA c (56 + i)).getD j 0 := q8 i j hi8 hj
  simp only [ei, rwi_nI hi8 (by omega), ld_nI (show j < (gA c (56 + i)).length by omega) (by omega), sto_nI (show j < (gA c (56 + i)).length by omega) (by omega), ld_nI (show 4 * i + j < (gA r 18).length by omega) (by omega), sto_nI (show 4 * i + j < (gA r 18).length by omega) (by omega), Option.bind_some, hv]
  have hf : flat ((gA r 18).set (4 * i + j) x3) (fun k => gA (sA c (56 + i) ((gA c (56 + i)).set j x3)) (56 + k)) 6 4 := flat_set q8 hi8 hj hlr hl (gA_sA_same _ _ _) (fun k _ hk => gA_sA_ne _ _ (by omega))
  have fc := (Fm.sA (u := mks []) (w := fun j => Nat.ble 56 j && Nat.ble j 61) (Fm.refl _ _ c) ((by decide : ∀ i, i < 6 → (Nat.ble 56 (56 + i) && Nat.ble (56 + i) 61) = true) i hi8) (List.length_set (i := j) (a := x3)))
  have fr := (Fm.sA (k := 18) (u := mks []) (w := mks [18]) (Fm.refl _ _ r) rfl (List.length_set (i := 4 * i + j) (a := x3)))
  exact ⟨_, _, _, rfl, rfl, LenC_sA h.lenC List.length_set, LenR_sA h.lenR List.length_set, h.rHold.frg fc fr (by decide), h.rNow.frg fc fr (by decide), h.rCell.frg fc fr (by decide), h.rEng.frg fc fr (by decide), h.rLots.frg fc fr (by decide), h.rText.frg fc fr (by decide), h.rRead.frg fc fr (by decide), h.rStk.frg fc fr (by decide), ⟨n, q1, e1, e2, ((gA_sA_ne _ _ (by omega)).trans q4), ((gA_sA_ne _ _ (by omega)).trans q5), (by rw [gA_sA_ne _ _ (by omega)]; exact q6), (by rw [gA_sA_ne _ _ (by omega)]; exact q7), hf, bnd_set q9 (by omega) (ib_of g3), ((gA_sA_ne _ _ (by omega)).trans q10), (by rw [gA_sA_ne _ _ (by omega)]; exact q11), q12, q13⟩, h.rMkt.frg fc fr (by decide), h.rFarm.frg fc fr (by decide), h.rRing.frg fc fr (by decide), h.rCh.frg fc fr (by decide)⟩
theorem S_owe {N : Nat} {c r : St} (h : Rel c r) (x1 x2 x3 : Int32) : Sim (C_owe N c x1 x2 x3) (R_owe N r x1 x2 x3) := by
  obtain ⟨n, q1, e1, e2, q4, q5, q6, q7, q8, q9⟩ := h.rFarm
  unfold C_owe C_owe_p27 C_change_7 Farms_isOne R_owe R_owe_p33
  simp only [C_within_eq, R_in_eq, Option.bind_some, if_bz, if_nbz, bind_eta, e1, e2]
  refine Sim.ite (fun g1 => Sim.ite (fun g2 => Sim.ite (fun _ => Sim.ite (fun g3 => ?_) (fun _ => Sim.ret h)) (fun _ => Sim.ret h)) (fun _ => Sim.ret h)) (fun _ => Sim.ret h)
  obtain ⟨i, rfl, hi⟩ := ix_in (by omega) g1
  obtain ⟨j, rfl, hj⟩ := ix_in (by omega) g2
  have hj : j < 8 := by omega
  have hi8 : i < 8 := by omega
  have hl : (gA c (73 + i)).length = 8 := (h.lenC.1 _).trans ((by decide : ∀ i, i < 8 → LAc (73 + i) = 8) i hi8)
  have hlr : (gA r 24).length = 64 := h.lenR.1 24
  have ei : (8 : Int32) * nI i + nI j = nI (8 * i + j) := by rw [show (8 : Int32) = nI 8 from rfl, pk_mul, nI_add]
  have hij : 8 * i + j < 64 := by omega
  have hv : (gA r 24).getD (8 * i + j) 0 = (gA c (73 + i)).getD j 0 := q8 i j hi8 hj
  simp only [ei, rwi_nI hi8 (by omega), ld_nI (show j < (gA c (73 + i)).length by omega) (by omega), sto_nI (show j < (gA c (73 + i)).length by omega) (by omega), ld_nI (show 8 * i + j < (gA r 24).length by omega) (by omega), sto_nI (show 8 * i + j < (gA r 24).length by omega) (by omega), Option.bind_some, hv]
  have hf : flat ((gA r 24).set (8 * i + j) x3) (fun k => gA (sA c (73 + i) ((gA c (73 + i)).set j x3)) (73 + k)) 8 8 := flat_set q8 hi8 hj hlr hl (gA_sA_same _ _ _) (fun k _ hk => gA_sA_ne _ _ (by omega))
  have fc := (Fm.sA (u := mks []) (w := fun j => Nat.ble 73 j && Nat.ble j 80) (Fm.refl _ _ c) ((by decide : ∀ i, i < 8 → (Nat.ble 73 (73 + i) && Nat.ble (73 + i) 80) = true) i hi8) (List.length_set (i := j) (a := x3)))
  have fr := (Fm.sA (k := 24) (u := mks []) (w := mks [24]) (Fm.refl _ _ r) rfl (List.length_set (i := 8 * i + j) (a := x3)))
  exact ⟨_, _, _, rfl, rfl, LenC_sA h.lenC List.length_set, LenR_sA h.lenR List.length_set, h.rHold.frg fc fr (by decide), h.rNow.frg fc fr (by decide), h.rCell.frg fc fr (by decide), h.rEng.frg fc fr (by decide), h.rLots.frg fc fr (by decide), h.rText.frg fc fr (by decide), h.rRead.frg fc fr (by decide), h.rStk.frg fc fr (by decide), h.rDrv.frg fc fr (by decide), h.rMkt.frg fc fr (by decide), ⟨n, q1, e1, e2, ((gA_sA_ne _ _ (by omega)).trans q4), ((gA_sA_ne _ _ (by omega)).trans q5), (by rw [gA_sA_ne _ _ (by omega)]; exact q6), (by rw [gA_sA_ne _ _ (by omega)]; exact q7), hf, bnd_set q9 (by omega) (ib_of g3)⟩, h.rRing.frg fc fr (by decide), h.rCh.frg fc fr (by decide)⟩
theorem S_gives {N : Nat} {c r : St} (h : Rel c r) (x1 x2 x3 : Int32) : Sim (C_gives N c x1 x2 x3) (R_gives N r x1 x2 x3) := by
  obtain ⟨n, q1, e1, e2, q4, q5, q8, q9⟩ := h.rCh
  unfold C_gives C_gives_p26 C_change_7 R_gives R_gives_p23
  simp only [C_within_eq, R_in_eq, Option.bind_some, if_bz, if_nbz, bind_eta, e1, e2]
  refine Sim.ite (fun g1 => Sim.ite (fun g2 => Sim.ite (fun g3 => ?_) (fun _ => Sim.ret h)) (fun _ => Sim.ret h)) (fun _ => Sim.ret h)
  obtain ⟨i, rfl, hi⟩ := ix_in (by omega) g1
  obtain ⟨j, rfl, hj⟩ := nat_in g2
  have hj : j < 5 := by have : (4 : Int32).toInt = 4 := rfl; omega
  have hi8 : i < 8 := by omega
  have hl : (gA c (86 + i)).length = 5 := (h.lenC.1 _).trans ((by decide : ∀ i, i < 8 → LAc (86 + i) = 5) i hi8)
  have hlr : (gA r 28).length = 40 := h.lenR.1 28
  have ei : (5 : Int32) * nI i + nI j = nI (5 * i + j) := by rw [show (5 : Int32) = nI 5 from rfl, pk_mul, nI_add]
  have hij : 5 * i + j < 40 := by omega
  have hv : (gA r 28).getD (5 * i + j) 0 = (gA c (86 + i)).getD j 0 := q8 i j hi8 hj
  simp only [ei, rwi_nI hi8 (by omega), ld_nI (show j < (gA c (86 + i)).length by omega) (by omega), sto_nI (show j < (gA c (86 + i)).length by omega) (by omega), ld_nI (show 5 * i + j < (gA r 28).length by omega) (by omega), sto_nI (show 5 * i + j < (gA r 28).length by omega) (by omega), Option.bind_some, hv]
  have hf : flat ((gA r 28).set (5 * i + j) x3) (fun k => gA (sA c (86 + i) ((gA c (86 + i)).set j x3)) (86 + k)) 8 5 := flat_set q8 hi8 hj hlr hl (gA_sA_same _ _ _) (fun k _ hk => gA_sA_ne _ _ (by omega))
  have fc := (Fm.sA (u := mks []) (w := fun j => Nat.ble 86 j && Nat.ble j 93) (Fm.refl _ _ c) ((by decide : ∀ i, i < 8 → (Nat.ble 86 (86 + i) && Nat.ble (86 + i) 93) = true) i hi8) (List.length_set (i := j) (a := x3)))
  have fr := (Fm.sA (k := 28) (u := mks []) (w := mks [28]) (Fm.refl _ _ r) rfl (List.length_set (i := 5 * i + j) (a := x3)))
  exact ⟨_, _, _, rfl, rfl, LenC_sA h.lenC List.length_set, LenR_sA h.lenR List.length_set, h.rHold.frg fc fr (by decide), h.rNow.frg fc fr (by decide), h.rCell.frg fc fr (by decide), h.rEng.frg fc fr (by decide), h.rLots.frg fc fr (by decide), h.rText.frg fc fr (by decide), h.rRead.frg fc fr (by decide), h.rStk.frg fc fr (by decide), h.rDrv.frg fc fr (by decide), h.rMkt.frg fc fr (by decide), h.rFarm.frg fc fr (by decide), h.rRing.frg fc fr (by decide), ⟨n, q1, e1, e2, ((gA_sA_ne _ _ (by omega)).trans q4), (by rw [gA_sA_ne _ _ (by omega)]; exact q5), hf, bnd_set q9 (by omega) (ib_of g3)⟩⟩
theorem S_leg {N : Nat} {c r : St} (h : Rel c r) (x1 x2 : Int32) : Sim (C_leg N c x1 x2) (R_leg N r x1 x2) := by
  obtain ⟨n, q1, e1, e2, q4, q5, q6, q7⟩ := h.rHold
  obtain ⟨t1, t2, t3, t4⟩ := h.rNow
  have hlt : (nI n < (6 : Int32)) = (n < 6) := lt_nI (m := 6) (by omega) (by omega)
  have hne : (¬ nI n = (6 : Int32)) = (n < 6) := ne_nI (m := 6) (by omega) (by omega)
  have hl3 : (gA c 3).length = 6 := h.lenC.1 3
  have hl4 : (gA c 4).length = 6 := h.lenC.1 4
  unfold C_leg C_leg_p23 Hold_addLeg R_leg R_leg_p23
  simp only [C_within_eq, R_in_eq, Option.bind_some, if_bz, if_nbz, bind_eta, e1, e2, ← q4, ← q5, hlt, hne, ← t1]
  refine Sim.ite (fun g1 => Sim.ite (fun g2 => Sim.ite (fun _ => Sim.ite (fun g9 => ?_) (fun _ => Sim.ret h)) (fun _ => Sim.ret h)) (fun _ => Sim.ret h)) (fun _ => Sim.ret h)
  have hn : n < 6 := g9
  have s3 : ∀ x, sto (gA c 3) (nI n) x = some ((gA c 3).set n x) := fun x => sto_nI (by omega) (by omega)
  have s4 : ∀ x, sto (gA c 4) (nI n) x = some ((gA c 4).set n x) := fun x => sto_nI (by omega) (by omega)
  simp only [s3, s4, e1, e2, Option.bind_some, gA_sA, gI_sI, gI_sA, gA_sI, Nat.reduceEqDiff, if_true, if_false, ← q4, ← q5, nI_1, nI_pred]
  exact ⟨_, _, _, rfl, rfl, LenC_sI (LenC_sA (LenC_sA h.lenC List.length_set) List.length_set), LenR_sI (LenR_sA (LenR_sA h.lenR (by rw [List.length_set, q4]; try rfl)) (by rw [List.length_set, q5]; try rfl)), ⟨n + 1, by omega, rfl, rfl, rfl, rfl, bnd_push q6 (by omega) (ib_of g1), bnd_push q7 (by omega) (ib_of g2)⟩, h.rNow, h.rCell, h.rEng, h.rLots.frg (Fm.sI (Fm.sA (Fm.sA (Fm.refl (mks [0]) (mks [3, 4]) c) rfl List.length_set) rfl List.length_set) rfl) (Fm.sI (Fm.sA (Fm.sA (Fm.refl (mks [6]) (mks [3, 4]) r) rfl (by rw [List.length_set, q4]; try rfl)) rfl (by rw [List.length_set, q5]; try rfl)) rfl) (by decide), h.rText.frg (Fm.sI (Fm.sA (Fm.sA (Fm.refl (mks [0]) (mks [3, 4]) c) rfl List.length_set) rfl List.length_set) rfl) (Fm.sI (Fm.sA (Fm.sA (Fm.refl (mks [6]) (mks [3, 4]) r) rfl (by rw [List.length_set, q4]; try rfl)) rfl (by rw [List.length_set, q5]; try rfl)) rfl) (by decide), h.rRead, h.rStk, h.rDrv.frg (Fm.sI (Fm.sA (Fm.sA (Fm.refl (mks [0]) (mks [3, 4]) c) rfl List.length_set) rfl List.length_set) rfl) (Fm.sI (Fm.sA (Fm.sA (Fm.refl (mks [6]) (mks [3, 4]) r) rfl (by rw [List.length_set, q4]; try rfl)) rfl (by rw [List.length_set, q5]; try rfl)) rfl) (by decide), h.rMkt, h.rFarm.frg (Fm.sI (Fm.sA (Fm.sA (Fm.refl (mks [0]) (mks [3, 4]) c) rfl List.length_set) rfl List.length_set) rfl) (Fm.sI (Fm.sA (Fm.sA (Fm.refl (mks [6]) (mks [3, 4]) r) rfl (by rw [List.length_set, q4]; try rfl)) rfl (by rw [List.length_set, q5]; try rfl)) rfl) (by decide), h.rRing, h.rCh.frg (Fm.sI (Fm.sA (Fm.sA (Fm.refl (mks [0]) (mks [3, 4]) c) rfl List.length_set) rfl List.length_set) rfl) (Fm.sI (Fm.sA (Fm.sA (Fm.refl (mks [6]) (mks [3, 4]) r) rfl (by rw [List.length_set, q4]; try rfl)) rfl (by rw [List.length_set, q5]; try rfl)) rfl) (by decide)⟩
theorem S_readingA {N : Nat} {c r : St} (h : Rel c r) (x1 x2 : Int32) (g1 : 0 ≤ x1 ∧ x1 ≤ 1200) (g2 : ib x2 (-999) 600) (g3 : x2 = -999 ∨ -300 ≤ x2.toInt) : Sim (C_reading_p28 N c x1 x2) (R_reading_p34 N r x1 x2) := by
  obtain ⟨n, q1, e1, e2, q2, q3, q4, q5, q6, q7, q8⟩ := h.rRead
  have hlt : (nI n < (24 : Int32)) = (n < 24) := lt_nI (m := 24) (by omega) (by omega)
  have hne : (¬ nI n = (24 : Int32)) = (n < 24) := ne_nI (m := 24) (by omega) (by omega)
  have hl49 : (gA c 49).length = 24 := h.lenC.1 49
  have hl50 : (gA c 50).length = 24 := h.lenC.1 50
  unfold C_reading_p28 Readings_add R_reading_p34
  simp only [C_within_eq, R_in_eq, Option.bind_some, if_bz, if_nbz, bind_eta, e1, e2, ← q4, ← q5, hlt, hne]
  refine Sim.ite (fun g9 => ?_) (fun _ => Sim.ret h)
  have hn : n < 24 := g9
  have s49 : ∀ x, sto (gA c 49) (nI n) x = some ((gA c 49).set n x) := fun x => sto_nI (by omega) (by omega)
  have s50 : ∀ x, sto (gA c 50) (nI n) x = some ((gA c 50).set n x) := fun x => sto_nI (by omega) (by omega)
  simp only [s49, s50, e1, e2, Option.bind_some, gA_sA, gI_sI, gI_sA, gA_sI, Nat.reduceEqDiff, if_true, if_false, ← q4, ← q5, nI_1, nI_pred]
  exact ⟨_, _, _, rfl, rfl, LenC_sI (LenC_sA (LenC_sA h.lenC List.length_set) List.length_set), LenR_sI (LenR_sA (LenR_sA h.lenR (by rw [List.length_set, q4]; try rfl)) (by rw [List.length_set, q5]; try rfl)), h.rHold, h.rNow, h.rCell, h.rEng, h.rLots.frg (Fm.sI (Fm.sA (Fm.sA (Fm.refl (mks [15]) (mks [49, 50]) c) rfl List.length_set) rfl List.length_set) rfl) (Fm.sI (Fm.sA (Fm.sA (Fm.refl (mks [10]) (mks [13, 14]) r) rfl (by rw [List.length_set, q4]; try rfl)) rfl (by rw [List.length_set, q5]; try rfl)) rfl) (by decide), h.rText.frg (Fm.sI (Fm.sA (Fm.sA (Fm.refl (mks [15]) (mks [49, 50]) c) rfl List.length_set) rfl List.length_set) rfl) (Fm.sI (Fm.sA (Fm.sA (Fm.refl (mks [10]) (mks [13, 14]) r) rfl (by rw [List.length_set, q4]; try rfl)) rfl (by rw [List.length_set, q5]; try rfl)) rfl) (by decide), ⟨n + 1, by omega, rfl, rfl, q2, q3, rfl, rfl, bnd_push q6 (by omega) (ib_of g1), bnd_push q7 (by omega) g2, fun k hk => by show ((gA c 50).set n x2).getD k 0 = _ ∨ _ ≤ (((gA c 50).set n x2).getD k 0).toInt; rw [getD_set (by omega)]; split; exact g3; exact q8 k (by omega)⟩, h.rStk, h.rDrv.frg (Fm.sI (Fm.sA (Fm.sA (Fm.refl (mks [15]) (mks [49, 50]) c) rfl List.length_set) rfl List.length_set) rfl) (Fm.sI (Fm.sA (Fm.sA (Fm.refl (mks [10]) (mks [13, 14]) r) rfl (by rw [List.length_set, q4]; try rfl)) rfl (by rw [List.length_set, q5]; try rfl)) rfl) (by decide), h.rMkt, h.rFarm.frg (Fm.sI (Fm.sA (Fm.sA (Fm.refl (mks [15]) (mks [49, 50]) c) rfl List.length_set) rfl List.length_set) rfl) (Fm.sI (Fm.sA (Fm.sA (Fm.refl (mks [10]) (mks [13, 14]) r) rfl (by rw [List.length_set, q4]; try rfl)) rfl (by rw [List.length_set, q5]; try rfl)) rfl) (by decide), h.rRing, h.rCh.frg (Fm.sI (Fm.sA (Fm.sA (Fm.refl (mks [15]) (mks [49, 50]) c) rfl List.length_set) rfl List.length_set) rfl) (Fm.sI (Fm.sA (Fm.sA (Fm.refl (mks [10]) (mks [13, 14]) r) rfl (by rw [List.length_set, q4]; try rfl)) rfl (by rw [List.length_set, q5]; try rfl)) rfl) (by decide)⟩
theorem S_reading {N : Nat} {c r : St} (h : Rel c r) (x1 x2 : Int32) : Sim (C_reading N c x1 x2) (R_reading N r x1 x2) := by
  unfold C_reading C_reading_p25 C_isWarmth R_reading R_reading_p31
  simp only [C_within_eq, R_in_eq, Option.bind_some, if_bz, if_nbz, bind_eta]
  refine Sim.ite (fun g1 => ?_) (fun _ => Sim.ret h)
  by_cases h9 : x2 = -999
  · subst h9
    rw [if_neg (by decide), if_pos rfl, if_pos rfl]
    exact S_readingA h _ _ g1 (by decide) (Or.inl rfl)
  · rw [if_neg h9, if_neg h9]
    refine Sim.ite (fun g2 => ?_) (fun _ => Sim.ret h)
    have e : ib x2 (-300) 600 := ib_of g2
    exact S_readingA h _ _ g1 ⟨by have := e.1; omega, e.2⟩ (Or.inr e.1)
theorem add_toInt {x y : Int32} (h : -2147483648 ≤ x.toInt + y.toInt) (h2 : x.toInt + y.toInt < 2147483648) : (x + y).toInt = x.toInt + y.toInt := by
  rw [Int32.toInt_add, Int.bmod_eq_of_le] <;> omega
theorem sub_toInt {x y : Int32} (h : -2147483648 ≤ x.toInt - y.toInt) (h2 : x.toInt - y.toInt < 2147483648) : (x - y).toInt = x.toInt - y.toInt := by
  rw [Int32.toInt_sub, Int.bmod_eq_of_le] <;> omega
theorem mul_toInt {x y : Int32} (h : -2147483648 ≤ x.toInt * y.toInt) (h2 : x.toInt * y.toInt < 2147483648) : (x * y).toInt = x.toInt * y.toInt := by
  rw [Int32.toInt_mul, Int.bmod_eq_of_le] <;> omega
theorem S_breaks {N : Nat} {c r : St} (h : Rel c r) (x1 : Int32) : Sim (C_breaks N c x1) (R_breaks N r x1) := by
  obtain ⟨t1, t2, t3, t4⟩ := h.rNow
  unfold C_breaks C_breaks_p19 C_breaks_p42 R_breaks R_breaks_p12 R_breaks_p32
  simp only [C_within_eq, R_in_eq, Option.bind_some, if_bz, if_nbz, bind_eta, ← t1]
  by_cases hm : x1 = -1
  · subst hm
    rw [if_pos rfl, if_neg (by decide), if_neg (by decide), if_pos (by decide), if_neg (by decide)]
    exact ⟨_, _, _, rfl, rfl, h.lenC, h.lenR, h.rHold, ⟨t1, t2, rfl, (by decide : ib 1000000 0 1000000)⟩, h.rCell, h.rEng, h.rLots, h.rText, h.rRead, h.rStk, h.rDrv, h.rMkt, h.rFarm, h.rRing, h.rCh⟩
  · rw [if_neg hm, if_pos hm]
    by_cases g : 0 ≤ x1 ∧ x1 ≤ 1200
    · have e := ib_of g
      have e1 : (0 : Int32).toInt = 0 := rfl
      have e2 : (1200 : Int32).toInt = 1200 := rfl
      rw [if_pos g, if_neg, if_pos g.2, if_pos hm]
      · have e3 := add_toInt (x := gI c 1) (y := x1) (by omega) (by omega)
        exact ⟨_, _, _, rfl, rfl, h.lenC, h.lenR, h.rHold, ⟨t1, t2, rfl, (by show 0 ≤ (gI c 1 + x1).toInt ∧ (gI c 1 + x1).toInt ≤ 1000000; omega)⟩, h.rCell, h.rEng, h.rLots, h.rText, h.rRead, h.rStk, h.rDrv, h.rMkt, h.rFarm, h.rRing, h.rCh⟩
      · rw [Int32.lt_iff_toInt_lt]
        have e4 : (-1 : Int32).toInt = -1 := rfl
        omega
    · rw [if_neg g]
      by_cases g2 : x1 < -1
      · rw [if_pos g2]; exact Sim.ret h
      · rw [if_neg g2, if_neg]
        · exact Sim.ret h
        · intro g3
          refine g ⟨?_, g3⟩
          have hne : x1.toInt ≠ -1 := fun q => hm (Int32.toInt_inj.mp q)
          rw [Int32.lt_iff_toInt_lt] at g2
          rw [Int32.le_iff_toInt_le]
          have e1 : (0 : Int32).toInt = 0 := rfl
          have e4 : (-1 : Int32).toInt = -1 := rfl
          omega
theorem in4 {x1 : Int32} (g : 0 ≤ x1 ∧ x1 ≤ 3) : x1 = 0 ∨ x1 = 1 ∨ x1 = 2 ∨ x1 = 3 := by
  obtain ⟨k, rfl, hk⟩ := nat_in g
  have e : (3 : Int32).toInt = 3 := rfl
  have : k = 0 ∨ k = 1 ∨ k = 2 ∨ k = 3 := by omega
  rcases this with rfl | rfl | rfl | rfl
  · exact Or.inl rfl
  · exact Or.inr (Or.inl rfl)
  · exact Or.inr (Or.inr (Or.inl rfl))
  · exact Or.inr (Or.inr (Or.inr rfl))
theorem ld_c0 (a b c d : Int32) : ld [a, b, c, d] 0 = some a := rfl
theorem ld_c1 (a b c d : Int32) : ld [a, b, c, d] 1 = some b := rfl
theorem ld_c2 (a b c d : Int32) : ld [a, b, c, d] 2 = some c := rfl
theorem ld_c3 (a b c d : Int32) : ld [a, b, c, d] 3 = some d := rfl
theorem ld_3_0 (a b c : Int32) : ld [a, b, c] 0 = some a := rfl
theorem ld_3_1 (a b c : Int32) : ld [a, b, c] 1 = some b := rfl
theorem ld_3_2 (a b c : Int32) : ld [a, b, c] 2 = some c := rfl
theorem sto_c0 (a b c d x : Int32) : sto [a, b, c, d] 0 x = some [x, b, c, d] := rfl
theorem sto_c1 (a b c d x : Int32) : sto [a, b, c, d] 1 x = some [a, x, c, d] := rfl
theorem sto_c2 (a b c d x : Int32) : sto [a, b, c, d] 2 x = some [a, b, x, d] := rfl
theorem sto_c3 (a b c d x : Int32) : sto [a, b, c, d] 3 x = some [a, b, c, x] := rfl
theorem sto_3_0 (a b c x : Int32) : sto [a, b, c] 0 x = some [x, b, c] := rfl
theorem sto_3_1 (a b c x : Int32) : sto [a, b, c] 1 x = some [a, x, c] := rfl
theorem sto_3_2 (a b c x : Int32) : sto [a, b, c] 2 x = some [a, b, x] := rfl
theorem n01 : ((0 : Int32) = 1) = False := eq_false (by decide)
theorem n02 : ((0 : Int32) = 2) = False := eq_false (by decide)
theorem n03 : ((0 : Int32) = 3) = False := eq_false (by decide)
theorem n10 : ((1 : Int32) = 0) = False := eq_false (by decide)
theorem n12 : ((1 : Int32) = 2) = False := eq_false (by decide)
theorem n13 : ((1 : Int32) = 3) = False := eq_false (by decide)
theorem n20 : ((2 : Int32) = 0) = False := eq_false (by decide)
theorem n21 : ((2 : Int32) = 1) = False := eq_false (by decide)
theorem n23 : ((2 : Int32) = 3) = False := eq_false (by decide)
theorem n30 : ((3 : Int32) = 0) = False := eq_false (by decide)
theorem n31 : ((3 : Int32) = 1) = False := eq_false (by decide)
theorem n32 : ((3 : Int32) = 2) = False := eq_false (by decide)
theorem S_market {N : Nat} {c r : St} (h : Rel c r) (x1 x2 : Int32) : Sim (C_market N c x1 x2) (R_market N r x1 x2) := by
  obtain ⟨n, q1, e1, e2, q4, q5, q6, q7, eq, b0, b1, b2, b3⟩ := h.rMkt
  unfold C_market C_change_8 R_market R_market_p23 R_market_p45 R_market_p93 R_market_p107 R_market_p124 R_market_p141 R_market_p158
  simp only [C_within_eq, R_in_eq, Option.bind_some, if_bz, if_nbz, bind_eta]
  refine Sim.ite (fun g1 => ?_) (fun _ => Sim.ret h)
  rcases in4 g1 with rfl | rfl | rfl | rfl
  · simp only [ld_c0, ld_c1, ld_c2, ld_c3, ld_3_0, ld_3_1, ld_3_2, sto_c0, sto_c1, sto_c2, sto_c3, sto_3_0, sto_3_1, sto_3_2, Option.bind_some, C_within_eq, R_in_eq, if_bz, if_nbz, bind_eta, n10, n20, n21, n30, n31, n32, n01, n02, n03, n12, n13, n23, not_true, not_false_iff, if_true, if_false, eq]
    refine Sim.ite (fun g2 => ?_) (fun _ => Sim.ret h)
    exact ⟨_, _, _, rfl, rfl, LenC_sA h.lenC (by rw [eq]; rfl), h.lenR, h.rHold, h.rNow, h.rCell, h.rEng, h.rLots.frg (Fm.sA (k := 68) (u := mks []) (w := mks [68]) (Fm.refl _ _ c) rfl (by rw [eq]; rfl)) (Fm.sI (k := 18) (Fm.sI (k := 17) (Fm.sI (k := 16) (Fm.sI (k := 15) (Fm.refl (mks [15, 16, 17, 18]) (mks []) r) rfl) rfl) rfl) rfl) (by decide), h.rText.frg (Fm.sA (k := 68) (u := mks []) (w := mks [68]) (Fm.refl _ _ c) rfl (by rw [eq]; rfl)) (Fm.sI (k := 18) (Fm.sI (k := 17) (Fm.sI (k := 16) (Fm.sI (k := 15) (Fm.refl (mks [15, 16, 17, 18]) (mks []) r) rfl) rfl) rfl) rfl) (by decide), h.rRead, h.rStk, h.rDrv.frg (Fm.sA (k := 68) (u := mks []) (w := mks [68]) (Fm.refl _ _ c) rfl (by rw [eq]; rfl)) (Fm.sI (k := 18) (Fm.sI (k := 17) (Fm.sI (k := 16) (Fm.sI (k := 15) (Fm.refl (mks [15, 16, 17, 18]) (mks []) r) rfl) rfl) rfl) rfl) (by decide), ⟨n, q1, e1, e2, q4, q5, q6, q7, rfl, ib_of g2, b1, b2, b3⟩, h.rFarm.frg (Fm.sA (k := 68) (u := mks []) (w := mks [68]) (Fm.refl _ _ c) rfl (by rw [eq]; rfl)) (Fm.sI (k := 18) (Fm.sI (k := 17) (Fm.sI (k := 16) (Fm.sI (k := 15) (Fm.refl (mks [15, 16, 17, 18]) (mks []) r) rfl) rfl) rfl) rfl) (by decide), h.rRing, h.rCh.frg (Fm.sA (k := 68) (u := mks []) (w := mks [68]) (Fm.refl _ _ c) rfl (by rw [eq]; rfl)) (Fm.sI (k := 18) (Fm.sI (k := 17) (Fm.sI (k := 16) (Fm.sI (k := 15) (Fm.refl (mks [15, 16, 17, 18]) (mks []) r) rfl) rfl) rfl) rfl) (by decide)⟩
  · simp only [ld_c0, ld_c1, ld_c2, ld_c3, ld_3_0, ld_3_1, ld_3_2, sto_c0, sto_c1, sto_c2, sto_c3, sto_3_0, sto_3_1, sto_3_2, Option.bind_some, C_within_eq, R_in_eq, if_bz, if_nbz, bind_eta, n10, n20, n21, n30, n31, n32, n01, n02, n03, n12, n13, n23, not_true, not_false_iff, if_true, if_false, eq]
    refine Sim.ite (fun g2 => ?_) (fun _ => Sim.ret h)
    exact ⟨_, _, _, rfl, rfl, LenC_sA h.lenC (by rw [eq]; rfl), h.lenR, h.rHold, h.rNow, h.rCell, h.rEng, h.rLots.frg (Fm.sA (k := 68) (u := mks []) (w := mks [68]) (Fm.refl _ _ c) rfl (by rw [eq]; rfl)) (Fm.sI (k := 18) (Fm.sI (k := 17) (Fm.sI (k := 16) (Fm.sI (k := 15) (Fm.refl (mks [15, 16, 17, 18]) (mks []) r) rfl) rfl) rfl) rfl) (by decide), h.rText.frg (Fm.sA (k := 68) (u := mks []) (w := mks [68]) (Fm.refl _ _ c) rfl (by rw [eq]; rfl)) (Fm.sI (k := 18) (Fm.sI (k := 17) (Fm.sI (k := 16) (Fm.sI (k := 15) (Fm.refl (mks [15, 16, 17, 18]) (mks []) r) rfl) rfl) rfl) rfl) (by decide), h.rRead, h.rStk, h.rDrv.frg (Fm.sA (k := 68) (u := mks []) (w := mks [68]) (Fm.refl _ _ c) rfl (by rw [eq]; rfl)) (Fm.sI (k := 18) (Fm.sI (k := 17) (Fm.sI (k := 16) (Fm.sI (k := 15) (Fm.refl (mks [15, 16, 17, 18]) (mks []) r) rfl) rfl) rfl) rfl) (by decide), ⟨n, q1, e1, e2, q4, q5, q6, q7, rfl, b0, ib_of g2, b2, b3⟩, h.rFarm.frg (Fm.sA (k := 68) (u := mks []) (w := mks [68]) (Fm.refl _ _ c) rfl (by rw [eq]; rfl)) (Fm.sI (k := 18) (Fm.sI (k := 17) (Fm.sI (k := 16) (Fm.sI (k := 15) (Fm.refl (mks [15, 16, 17, 18]) (mks []) r) rfl) rfl) rfl) rfl) (by decide), h.rRing, h.rCh.frg (Fm.sA (k := 68) (u := mks []) (w := mks [68]) (Fm.refl _ _ c) rfl (by rw [eq]; rfl)) (Fm.sI (k := 18) (Fm.sI (k := 17) (Fm.sI (k := 16) (Fm.sI (k := 15) (Fm.refl (mks [15, 16, 17, 18]) (mks []) r) rfl) rfl) rfl) rfl) (by decide)⟩
  · simp only [ld_c0, ld_c1, ld_c2, ld_c3, ld_3_0, ld_3_1, ld_3_2, sto_c0, sto_c1, sto_c2, sto_c3, sto_3_0, sto_3_1, sto_3_2, Option.bind_some, C_within_eq, R_in_eq, if_bz, if_nbz, bind_eta, n10, n20, n21, n30, n31, n32, n01, n02, n03, n12, n13, n23, not_true, not_false_iff, if_true, if_false, eq]
    refine Sim.ite (fun g2 => ?_) (fun _ => Sim.ret h)
    exact ⟨_, _, _, rfl, rfl, LenC_sA h.lenC (by rw [eq]; rfl), h.lenR, h.rHold, h.rNow, h.rCell, h.rEng, h.rLots.frg (Fm.sA (k := 68) (u := mks []) (w := mks [68]) (Fm.refl _ _ c) rfl (by rw [eq]; rfl)) (Fm.sI (k := 18) (Fm.sI (k := 17) (Fm.sI (k := 16) (Fm.sI (k := 15) (Fm.refl (mks [15, 16, 17, 18]) (mks []) r) rfl) rfl) rfl) rfl) (by decide), h.rText.frg (Fm.sA (k := 68) (u := mks []) (w := mks [68]) (Fm.refl _ _ c) rfl (by rw [eq]; rfl)) (Fm.sI (k := 18) (Fm.sI (k := 17) (Fm.sI (k := 16) (Fm.sI (k := 15) (Fm.refl (mks [15, 16, 17, 18]) (mks []) r) rfl) rfl) rfl) rfl) (by decide), h.rRead, h.rStk, h.rDrv.frg (Fm.sA (k := 68) (u := mks []) (w := mks [68]) (Fm.refl _ _ c) rfl (by rw [eq]; rfl)) (Fm.sI (k := 18) (Fm.sI (k := 17) (Fm.sI (k := 16) (Fm.sI (k := 15) (Fm.refl (mks [15, 16, 17, 18]) (mks []) r) rfl) rfl) rfl) rfl) (by decide), ⟨n, q1, e1, e2, q4, q5, q6, q7, rfl, b0, b1, ib_of g2, b3⟩, h.rFarm.frg (Fm.sA (k := 68) (u := mks []) (w := mks [68]) (Fm.refl _ _ c) rfl (by rw [eq]; rfl)) (Fm.sI (k := 18) (Fm.sI (k := 17) (Fm.sI (k := 16) (Fm.sI (k := 15) (Fm.refl (mks [15, 16, 17, 18]) (mks []) r) rfl) rfl) rfl) rfl) (by decide), h.rRing, h.rCh.frg (Fm.sA (k := 68) (u := mks []) (w := mks [68]) (Fm.refl _ _ c) rfl (by rw [eq]; rfl)) (Fm.sI (k := 18) (Fm.sI (k := 17) (Fm.sI (k := 16) (Fm.sI (k := 15) (Fm.refl (mks [15, 16, 17, 18]) (mks []) r) rfl) rfl) rfl) rfl) (by decide)⟩
  · simp only [ld_c0, ld_c1, ld_c2, ld_c3, ld_3_0, ld_3_1, ld_3_2, sto_c0, sto_c1, sto_c2, sto_c3, sto_3_0, sto_3_1, sto_3_2, Option.bind_some, C_within_eq, R_in_eq, if_bz, if_nbz, bind_eta, n10, n20, n21, n30, n31, n32, n01, n02, n03, n12, n13, n23, not_true, not_false_iff, if_true, if_false, eq]
    refine Sim.ite (fun g2 => ?_) (fun _ => Sim.ret h)
    exact ⟨_, _, _, rfl, rfl, LenC_sA h.lenC (by rw [eq]; rfl), h.lenR, h.rHold, h.rNow, h.rCell, h.rEng, h.rLots.frg (Fm.sA (k := 68) (u := mks []) (w := mks [68]) (Fm.refl _ _ c) rfl (by rw [eq]; rfl)) (Fm.sI (k := 18) (Fm.sI (k := 17) (Fm.sI (k := 16) (Fm.sI (k := 15) (Fm.refl (mks [15, 16, 17, 18]) (mks []) r) rfl) rfl) rfl) rfl) (by decide), h.rText.frg (Fm.sA (k := 68) (u := mks []) (w := mks [68]) (Fm.refl _ _ c) rfl (by rw [eq]; rfl)) (Fm.sI (k := 18) (Fm.sI (k := 17) (Fm.sI (k := 16) (Fm.sI (k := 15) (Fm.refl (mks [15, 16, 17, 18]) (mks []) r) rfl) rfl) rfl) rfl) (by decide), h.rRead, h.rStk, h.rDrv.frg (Fm.sA (k := 68) (u := mks []) (w := mks [68]) (Fm.refl _ _ c) rfl (by rw [eq]; rfl)) (Fm.sI (k := 18) (Fm.sI (k := 17) (Fm.sI (k := 16) (Fm.sI (k := 15) (Fm.refl (mks [15, 16, 17, 18]) (mks []) r) rfl) rfl) rfl) rfl) (by decide), ⟨n, q1, e1, e2, q4, q5, q6, q7, rfl, b0, b1, b2, ib_of g2⟩, h.rFarm.frg (Fm.sA (k := 68) (u := mks []) (w := mks [68]) (Fm.refl _ _ c) rfl (by rw [eq]; rfl)) (Fm.sI (k := 18) (Fm.sI (k := 17) (Fm.sI (k := 16) (Fm.sI (k := 15) (Fm.refl (mks [15, 16, 17, 18]) (mks []) r) rfl) rfl) rfl) rfl) (by decide), h.rRing, h.rCh.frg (Fm.sA (k := 68) (u := mks []) (w := mks [68]) (Fm.refl _ _ c) rfl (by rw [eq]; rfl)) (Fm.sI (k := 18) (Fm.sI (k := 17) (Fm.sI (k := 16) (Fm.sI (k := 15) (Fm.refl (mks [15, 16, 17, 18]) (mks []) r) rfl) rfl) rfl) rfl) (by decide)⟩
theorem S_ring {N : Nat} {c r : St} (h : Rel c r) (x1 x2 : Int32) : Sim (C_ring N c x1 x2) (R_ring N r x1 x2) := by
  obtain ⟨n, q1, e1, e2, q4, q5, q6, q7, eq, b0, b1, b2, b3⟩ := h.rRing
  unfold C_ring C_change_9 R_ring R_ring_p37 R_ring_p85 R_ring_p99 R_ring_p116 R_ring_p133 R_ring_p150
  simp only [C_within_eq, R_in_eq, Option.bind_some, if_bz, if_nbz, bind_eta]
  refine Sim.ite (fun g1 => ?_) (fun _ => Sim.ret h)
  rcases in4 g1 with rfl | rfl | rfl | rfl
  · simp only [ld_c0, ld_c1, ld_c2, ld_c3, ld_3_0, ld_3_1, ld_3_2, sto_c0, sto_c1, sto_c2, sto_c3, sto_3_0, sto_3_1, sto_3_2, Option.bind_some, C_within_eq, R_in_eq, if_bz, if_nbz, bind_eta, n10, n20, n21, n30, n31, n32, n01, n02, n03, n12, n13, n23, not_true, not_false_iff, if_true, if_false, eq]
    refine Sim.ite (fun g2 => ?_) (fun _ => Sim.ret h)
    exact ⟨_, _, _, rfl, rfl, LenC_sA h.lenC (by rw [eq]; rfl), h.lenR, h.rHold, h.rNow, h.rCell, h.rEng, h.rLots.frg (Fm.sA (k := 83) (u := mks []) (w := mks [83]) (Fm.refl _ _ c) rfl (by rw [eq]; rfl)) (Fm.sI (k := 25) (Fm.sI (k := 24) (Fm.sI (k := 23) (Fm.sI (k := 22) (Fm.refl (mks [22, 23, 24, 25]) (mks []) r) rfl) rfl) rfl) rfl) (by decide), h.rText.frg (Fm.sA (k := 83) (u := mks []) (w := mks [83]) (Fm.refl _ _ c) rfl (by rw [eq]; rfl)) (Fm.sI (k := 25) (Fm.sI (k := 24) (Fm.sI (k := 23) (Fm.sI (k := 22) (Fm.refl (mks [22, 23, 24, 25]) (mks []) r) rfl) rfl) rfl) rfl) (by decide), h.rRead, h.rStk, h.rDrv.frg (Fm.sA (k := 83) (u := mks []) (w := mks [83]) (Fm.refl _ _ c) rfl (by rw [eq]; rfl)) (Fm.sI (k := 25) (Fm.sI (k := 24) (Fm.sI (k := 23) (Fm.sI (k := 22) (Fm.refl (mks [22, 23, 24, 25]) (mks []) r) rfl) rfl) rfl) rfl) (by decide), h.rMkt, h.rFarm.frg (Fm.sA (k := 83) (u := mks []) (w := mks [83]) (Fm.refl _ _ c) rfl (by rw [eq]; rfl)) (Fm.sI (k := 25) (Fm.sI (k := 24) (Fm.sI (k := 23) (Fm.sI (k := 22) (Fm.refl (mks [22, 23, 24, 25]) (mks []) r) rfl) rfl) rfl) rfl) (by decide), ⟨n, q1, e1, e2, q4, q5, q6, q7, rfl, ib_of g2, b1, b2, b3⟩, h.rCh.frg (Fm.sA (k := 83) (u := mks []) (w := mks [83]) (Fm.refl _ _ c) rfl (by rw [eq]; rfl)) (Fm.sI (k := 25) (Fm.sI (k := 24) (Fm.sI (k := 23) (Fm.sI (k := 22) (Fm.refl (mks [22, 23, 24, 25]) (mks []) r) rfl) rfl) rfl) rfl) (by decide)⟩
  · simp only [ld_c0, ld_c1, ld_c2, ld_c3, ld_3_0, ld_3_1, ld_3_2, sto_c0, sto_c1, sto_c2, sto_c3, sto_3_0, sto_3_1, sto_3_2, Option.bind_some, C_within_eq, R_in_eq, if_bz, if_nbz, bind_eta, n10, n20, n21, n30, n31, n32, n01, n02, n03, n12, n13, n23, not_true, not_false_iff, if_true, if_false, eq]
    refine Sim.ite (fun g2 => ?_) (fun _ => Sim.ret h)
    exact ⟨_, _, _, rfl, rfl, LenC_sA h.lenC (by rw [eq]; rfl), h.lenR, h.rHold, h.rNow, h.rCell, h.rEng, h.rLots.frg (Fm.sA (k := 83) (u := mks []) (w := mks [83]) (Fm.refl _ _ c) rfl (by rw [eq]; rfl)) (Fm.sI (k := 25) (Fm.sI (k := 24) (Fm.sI (k := 23) (Fm.sI (k := 22) (Fm.refl (mks [22, 23, 24, 25]) (mks []) r) rfl) rfl) rfl) rfl) (by decide), h.rText.frg (Fm.sA (k := 83) (u := mks []) (w := mks [83]) (Fm.refl _ _ c) rfl (by rw [eq]; rfl)) (Fm.sI (k := 25) (Fm.sI (k := 24) (Fm.sI (k := 23) (Fm.sI (k := 22) (Fm.refl (mks [22, 23, 24, 25]) (mks []) r) rfl) rfl) rfl) rfl) (by decide), h.rRead, h.rStk, h.rDrv.frg (Fm.sA (k := 83) (u := mks []) (w := mks [83]) (Fm.refl _ _ c) rfl (by rw [eq]; rfl)) (Fm.sI (k := 25) (Fm.sI (k := 24) (Fm.sI (k := 23) (Fm.sI (k := 22) (Fm.refl (mks [22, 23, 24, 25]) (mks []) r) rfl) rfl) rfl) rfl) (by decide), h.rMkt, h.rFarm.frg (Fm.sA (k := 83) (u := mks []) (w := mks [83]) (Fm.refl _ _ c) rfl (by rw [eq]; rfl)) (Fm.sI (k := 25) (Fm.sI (k := 24) (Fm.sI (k := 23) (Fm.sI (k := 22) (Fm.refl (mks [22, 23, 24, 25]) (mks []) r) rfl) rfl) rfl) rfl) (by decide), ⟨n, q1, e1, e2, q4, q5, q6, q7, rfl, b0, ib_of g2, b2, b3⟩, h.rCh.frg (Fm.sA (k := 83) (u := mks []) (w := mks [83]) (Fm.refl _ _ c) rfl (by rw [eq]; rfl)) (Fm.sI (k := 25) (Fm.sI (k := 24) (Fm.sI (k := 23) (Fm.sI (k := 22) (Fm.refl (mks [22, 23, 24, 25]) (mks []) r) rfl) rfl) rfl) rfl) (by decide)⟩
  · simp only [ld_c0, ld_c1, ld_c2, ld_c3, ld_3_0, ld_3_1, ld_3_2, sto_c0, sto_c1, sto_c2, sto_c3, sto_3_0, sto_3_1, sto_3_2, Option.bind_some, C_within_eq, R_in_eq, if_bz, if_nbz, bind_eta, n10, n20, n21, n30, n31, n32, n01, n02, n03, n12, n13, n23, not_true, not_false_iff, if_true, if_false, eq]
    refine Sim.ite (fun g2 => ?_) (fun _ => Sim.ret h)
    exact ⟨_, _, _, rfl, rfl, LenC_sA h.lenC (by rw [eq]; rfl), h.lenR, h.rHold, h.rNow, h.rCell, h.rEng, h.rLots.frg (Fm.sA (k := 83) (u := mks []) (w := mks [83]) (Fm.refl _ _ c) rfl (by rw [eq]; rfl)) (Fm.sI (k := 25) (Fm.sI (k := 24) (Fm.sI (k := 23) (Fm.sI (k := 22) (Fm.refl (mks [22, 23, 24, 25]) (mks []) r) rfl) rfl) rfl) rfl) (by decide), h.rText.frg (Fm.sA (k := 83) (u := mks []) (w := mks [83]) (Fm.refl _ _ c) rfl (by rw [eq]; rfl)) (Fm.sI (k := 25) (Fm.sI (k := 24) (Fm.sI (k := 23) (Fm.sI (k := 22) (Fm.refl (mks [22, 23, 24, 25]) (mks []) r) rfl) rfl) rfl) rfl) (by decide), h.rRead, h.rStk, h.rDrv.frg (Fm.sA (k := 83) (u := mks []) (w := mks [83]) (Fm.refl _ _ c) rfl (by rw [eq]; rfl)) (Fm.sI (k := 25) (Fm.sI (k := 24) (Fm.sI (k := 23) (Fm.sI (k := 22) (Fm.refl (mks [22, 23, 24, 25]) (mks []) r) rfl) rfl) rfl) rfl) (by decide), h.rMkt, h.rFarm.frg (Fm.sA (k := 83) (u := mks []) (w := mks [83]) (Fm.refl _ _ c) rfl (by rw [eq]; rfl)) (Fm.sI (k := 25) (Fm.sI (k := 24) (Fm.sI (k := 23) (Fm.sI (k := 22) (Fm.refl (mks [22, 23, 24, 25]) (mks []) r) rfl) rfl) rfl) rfl) (by decide), ⟨n, q1, e1, e2, q4, q5, q6, q7, rfl, b0, b1, ib_of g2, b3⟩, h.rCh.frg (Fm.sA (k := 83) (u := mks []) (w := mks [83]) (Fm.refl _ _ c) rfl (by rw [eq]; rfl)) (Fm.sI (k := 25) (Fm.sI (k := 24) (Fm.sI (k := 23) (Fm.sI (k := 22) (Fm.refl (mks [22, 23, 24, 25]) (mks []) r) rfl) rfl) rfl) rfl) (by decide)⟩
  · simp only [ld_c0, ld_c1, ld_c2, ld_c3, ld_3_0, ld_3_1, ld_3_2, sto_c0, sto_c1, sto_c2, sto_c3, sto_3_0, sto_3_1, sto_3_2, Option.bind_some, C_within_eq, R_in_eq, if_bz, if_nbz, bind_eta, n10, n20, n21, n30, n31, n32, n01, n02, n03, n12, n13, n23, not_true, not_false_iff, if_true, if_false, eq]
    refine Sim.ite (fun g2 => ?_) (fun _ => Sim.ret h)
    exact ⟨_, _, _, rfl, rfl, LenC_sA h.lenC (by rw [eq]; rfl), h.lenR, h.rHold, h.rNow, h.rCell, h.rEng, h.rLots.frg (Fm.sA (k := 83) (u := mks []) (w := mks [83]) (Fm.refl _ _ c) rfl (by rw [eq]; rfl)) (Fm.sI (k := 25) (Fm.sI (k := 24) (Fm.sI (k := 23) (Fm.sI (k := 22) (Fm.refl (mks [22, 23, 24, 25]) (mks []) r) rfl) rfl) rfl) rfl) (by decide), h.rText.frg (Fm.sA (k := 83) (u := mks []) (w := mks [83]) (Fm.refl _ _ c) rfl (by rw [eq]; rfl)) (Fm.sI (k := 25) (Fm.sI (k := 24) (Fm.sI (k := 23) (Fm.sI (k := 22) (Fm.refl (mks [22, 23, 24, 25]) (mks []) r) rfl) rfl) rfl) rfl) (by decide), h.rRead, h.rStk, h.rDrv.frg (Fm.sA (k := 83) (u := mks []) (w := mks [83]) (Fm.refl _ _ c) rfl (by rw [eq]; rfl)) (Fm.sI (k := 25) (Fm.sI (k := 24) (Fm.sI (k := 23) (Fm.sI (k := 22) (Fm.refl (mks [22, 23, 24, 25]) (mks []) r) rfl) rfl) rfl) rfl) (by decide), h.rMkt, h.rFarm.frg (Fm.sA (k := 83) (u := mks []) (w := mks [83]) (Fm.refl _ _ c) rfl (by rw [eq]; rfl)) (Fm.sI (k := 25) (Fm.sI (k := 24) (Fm.sI (k := 23) (Fm.sI (k := 22) (Fm.refl (mks [22, 23, 24, 25]) (mks []) r) rfl) rfl) rfl) rfl) (by decide), ⟨n, q1, e1, e2, q4, q5, q6, q7, rfl, b0, b1, b2, ib_of g2⟩, h.rCh.frg (Fm.sA (k := 83) (u := mks []) (w := mks [83]) (Fm.refl _ _ c) rfl (by rw [eq]; rfl)) (Fm.sI (k := 25) (Fm.sI (k := 24) (Fm.sI (k := 23) (Fm.sI (k := 22) (Fm.refl (mks [22, 23, 24, 25]) (mks []) r) rfl) rfl) rfl) rfl) (by decide)⟩
theorem S_engine {N : Nat} {c r : St} (h : Rel c r) (x1 x2 : Int32) : Sim (C_engine N c x1 x2) (R_engine N r x1 x2) := by
  obtain ⟨eq, b0, b1, b2, e1, b3⟩ := h.rEng
  unfold C_engine C_change_4 R_engine R_engine_p44 R_engine_p56 R_engine_p105 R_engine_p120 R_engine_p137 R_engine_p154 R_engine_p171
  simp only [C_within_eq, R_in_eq, Option.bind_some, if_bz, if_nbz, bind_eta]
  refine Sim.ite (fun g1 => ?_) (fun _ => Sim.ret h)
  rcases in4 g1 with rfl | rfl | rfl | rfl
  · simp only [ld_c0, ld_c1, ld_c2, ld_c3, ld_3_0, ld_3_1, ld_3_2, sto_c0, sto_c1, sto_c2, sto_c3, sto_3_0, sto_3_1, sto_3_2, Option.bind_some, C_within_eq, R_in_eq, if_bz, if_nbz, bind_eta, n10, n20, n21, n30, n31, n32, e1, n01, n02, n03, n12, n13, n23, not_true, not_false_iff, if_true, if_false, eq]
    refine Sim.ite (fun g2 => ?_) (fun _ => Sim.ret h)
    exact ⟨_, _, _, rfl, rfl, LenC_sA h.lenC (by rw [eq]; rfl), h.lenR, h.rHold, h.rNow, h.rCell, ⟨rfl, ib_of g2, b1, b2, e1, b3⟩, h.rLots.frg (Fm.sA (k := 2) (u := mks []) (w := mks [2]) (Fm.refl _ _ c) rfl (by rw [eq]; rfl)) (Fm.sI (k := 3) (Fm.sI (k := 2) (Fm.sI (k := 1) (Fm.sI (k := 0) (Fm.refl (mks [0, 1, 2, 3]) (mks []) r) rfl) rfl) rfl) rfl) (by decide), h.rText.frg (Fm.sA (k := 2) (u := mks []) (w := mks [2]) (Fm.refl _ _ c) rfl (by rw [eq]; rfl)) (Fm.sI (k := 3) (Fm.sI (k := 2) (Fm.sI (k := 1) (Fm.sI (k := 0) (Fm.refl (mks [0, 1, 2, 3]) (mks []) r) rfl) rfl) rfl) rfl) (by decide), h.rRead, h.rStk, h.rDrv.frg (Fm.sA (k := 2) (u := mks []) (w := mks [2]) (Fm.refl _ _ c) rfl (by rw [eq]; rfl)) (Fm.sI (k := 3) (Fm.sI (k := 2) (Fm.sI (k := 1) (Fm.sI (k := 0) (Fm.refl (mks [0, 1, 2, 3]) (mks []) r) rfl) rfl) rfl) rfl) (by decide), h.rMkt, h.rFarm.frg (Fm.sA (k := 2) (u := mks []) (w := mks [2]) (Fm.refl _ _ c) rfl (by rw [eq]; rfl)) (Fm.sI (k := 3) (Fm.sI (k := 2) (Fm.sI (k := 1) (Fm.sI (k := 0) (Fm.refl (mks [0, 1, 2, 3]) (mks []) r) rfl) rfl) rfl) rfl) (by decide), h.rRing, h.rCh.frg (Fm.sA (k := 2) (u := mks []) (w := mks [2]) (Fm.refl _ _ c) rfl (by rw [eq]; rfl)) (Fm.sI (k := 3) (Fm.sI (k := 2) (Fm.sI (k := 1) (Fm.sI (k := 0) (Fm.refl (mks [0, 1, 2, 3]) (mks []) r) rfl) rfl) rfl) rfl) (by decide)⟩
  · simp only [ld_c0, ld_c1, ld_c2, ld_c3, ld_3_0, ld_3_1, ld_3_2, sto_c0, sto_c1, sto_c2, sto_c3, sto_3_0, sto_3_1, sto_3_2, Option.bind_some, C_within_eq, R_in_eq, if_bz, if_nbz, bind_eta, n10, n20, n21, n30, n31, n32, e1, n01, n02, n03, n12, n13, n23, not_true, not_false_iff, if_true, if_false, eq]
    refine Sim.ite (fun g2 => ?_) (fun _ => Sim.ret h)
    exact ⟨_, _, _, rfl, rfl, LenC_sA h.lenC (by rw [eq]; rfl), h.lenR, h.rHold, h.rNow, h.rCell, ⟨rfl, b0, ib_of g2, b2, e1, b3⟩, h.rLots.frg (Fm.sA (k := 2) (u := mks []) (w := mks [2]) (Fm.refl _ _ c) rfl (by rw [eq]; rfl)) (Fm.sI (k := 3) (Fm.sI (k := 2) (Fm.sI (k := 1) (Fm.sI (k := 0) (Fm.refl (mks [0, 1, 2, 3]) (mks []) r) rfl) rfl) rfl) rfl) (by decide), h.rText.frg (Fm.sA (k := 2) (u := mks []) (w := mks [2]) (Fm.refl _ _ c) rfl (by rw [eq]; rfl)) (Fm.sI (k := 3) (Fm.sI (k := 2) (Fm.sI (k := 1) (Fm.sI (k := 0) (Fm.refl (mks [0, 1, 2, 3]) (mks []) r) rfl) rfl) rfl) rfl) (by decide), h.rRead, h.rStk, h.rDrv.frg (Fm.sA (k := 2) (u := mks []) (w := mks [2]) (Fm.refl _ _ c) rfl (by rw [eq]; rfl)) (Fm.sI (k := 3) (Fm.sI (k := 2) (Fm.sI (k := 1) (Fm.sI (k := 0) (Fm.refl (mks [0, 1, 2, 3]) (mks []) r) rfl) rfl) rfl) rfl) (by decide), h.rMkt, h.rFarm.frg (Fm.sA (k := 2) (u := mks []) (w := mks [2]) (Fm.refl _ _ c) rfl (by rw [eq]; rfl)) (Fm.sI (k := 3) (Fm.sI (k := 2) (Fm.sI (k := 1) (Fm.sI (k := 0) (Fm.refl (mks [0, 1, 2, 3]) (mks []) r) rfl) rfl) rfl) rfl) (by decide), h.rRing, h.rCh.frg (Fm.sA (k := 2) (u := mks []) (w := mks [2]) (Fm.refl _ _ c) rfl (by rw [eq]; rfl)) (Fm.sI (k := 3) (Fm.sI (k := 2) (Fm.sI (k := 1) (Fm.sI (k := 0) (Fm.refl (mks [0, 1, 2, 3]) (mks []) r) rfl) rfl) rfl) rfl) (by decide)⟩
  · simp only [ld_c0, ld_c1, ld_c2, ld_c3, ld_3_0, ld_3_1, ld_3_2, sto_c0, sto_c1, sto_c2, sto_c3, sto_3_0, sto_3_1, sto_3_2, Option.bind_some, C_within_eq, R_in_eq, if_bz, if_nbz, bind_eta, n10, n20, n21, n30, n31, n32, e1, n01, n02, n03, n12, n13, n23, not_true, not_false_iff, if_true, if_false, eq]
    refine Sim.ite (fun g2 => ?_) (fun _ => Sim.ret h)
    exact ⟨_, _, _, rfl, rfl, LenC_sA h.lenC (by rw [eq]; rfl), h.lenR, h.rHold, h.rNow, h.rCell, ⟨rfl, b0, b1, ib_of g2, e1, b3⟩, h.rLots.frg (Fm.sA (k := 2) (u := mks []) (w := mks [2]) (Fm.refl _ _ c) rfl (by rw [eq]; rfl)) (Fm.sI (k := 3) (Fm.sI (k := 2) (Fm.sI (k := 1) (Fm.sI (k := 0) (Fm.refl (mks [0, 1, 2, 3]) (mks []) r) rfl) rfl) rfl) rfl) (by decide), h.rText.frg (Fm.sA (k := 2) (u := mks []) (w := mks [2]) (Fm.refl _ _ c) rfl (by rw [eq]; rfl)) (Fm.sI (k := 3) (Fm.sI (k := 2) (Fm.sI (k := 1) (Fm.sI (k := 0) (Fm.refl (mks [0, 1, 2, 3]) (mks []) r) rfl) rfl) rfl) rfl) (by decide), h.rRead, h.rStk, h.rDrv.frg (Fm.sA (k := 2) (u := mks []) (w := mks [2]) (Fm.refl _ _ c) rfl (by rw [eq]; rfl)) (Fm.sI (k := 3) (Fm.sI (k := 2) (Fm.sI (k := 1) (Fm.sI (k := 0) (Fm.refl (mks [0, 1, 2, 3]) (mks []) r) rfl) rfl) rfl) rfl) (by decide), h.rMkt, h.rFarm.frg (Fm.sA (k := 2) (u := mks []) (w := mks [2]) (Fm.refl _ _ c) rfl (by rw [eq]; rfl)) (Fm.sI (k := 3) (Fm.sI (k := 2) (Fm.sI (k := 1) (Fm.sI (k := 0) (Fm.refl (mks [0, 1, 2, 3]) (mks []) r) rfl) rfl) rfl) rfl) (by decide), h.rRing, h.rCh.frg (Fm.sA (k := 2) (u := mks []) (w := mks [2]) (Fm.refl _ _ c) rfl (by rw [eq]; rfl)) (Fm.sI (k := 3) (Fm.sI (k := 2) (Fm.sI (k := 1) (Fm.sI (k := 0) (Fm.refl (mks [0, 1, 2, 3]) (mks []) r) rfl) rfl) rfl) rfl) (by decide)⟩
  · simp only [ld_c0, ld_c1, ld_c2, ld_c3, ld_3_0, ld_3_1, ld_3_2, sto_c0, sto_c1, sto_c2, sto_c3, sto_3_0, sto_3_1, sto_3_2, Option.bind_some, C_within_eq, R_in_eq, if_bz, if_nbz, bind_eta, n10, n20, n21, n30, n31, n32, e1, n01, n02, n03, n12, n13, n23, not_true, not_false_iff, if_true, if_false, eq]
    refine Sim.ite (fun g2 => ?_) (fun _ => Sim.ret h)
    exact ⟨_, _, _, rfl, rfl, h.lenC, h.lenR, h.rHold, h.rNow, h.rCell, ⟨eq, b0, b1, b2, rfl, ib_of g2⟩, h.rLots, h.rText, h.rRead, h.rStk, h.rDrv, h.rMkt, h.rFarm, h.rRing, h.rCh⟩
