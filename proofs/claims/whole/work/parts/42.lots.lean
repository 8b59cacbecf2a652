/-! PURE: lots (written by gen42.py) -/
section LT
variable {N : Nat} {c r : St}
theorem S_warmth (h : Rel c r) (x1 : Int32) : Sam (C_warmth N c x1) (R_warmth N r x1) := by
  obtain ⟨q1, q2, q3, q4, q5, q6⟩ := h.rCell
  unfold C_warmth C_isCell R_warmth R_isCell
  simp only [C_within_eq, R_in_eq, Option.bind_some, if_bz, if_nbz, bind_id, ← q5]
  refine Sam.ite (fun g1 => ?_) (fun _ => Sam.ret)
  obtain ⟨k, rfl, hk⟩ := nat_in g1
  have hk : k < 12 := by have : (11 : Int32).toInt = 11 := rfl; omega
  have hl : (gA c 5).length = 12 := h.lenC.1 5
  rw [ld_nI (by omega) (by omega)]
  exact Sam.ret
theorem S_lay (h : Rel c r) (x1 x2 : Int32) : Sim (C_lay N c x1 x2) (R_lay N r x1 x2) := by
  obtain ⟨n, q1, q2, q3, q4, q5, q6, q7, q8, q9, q10, q11⟩ := h.rLots
  unfold C_lay C_lay_p18 Lots_isOne C_isCell C_change_5 R_lay R_lay_p15 R_isLot R_isCell
  simp only [C_within_eq, R_in_eq, Option.bind_some, if_bz, if_nbz, bind_id, bind_eta, q2, q3, ← q5]
  refine Sim.ite (fun g1 => Sim.ite (fun g2 => ?_) (fun _ => Sim.ret h)) (fun _ => Sim.ret h)
  obtain ⟨k, rfl, hk⟩ := ix_in (by omega) g1
  have hl : (gA c 12).length = 20 := h.lenC.1 12
  simp only [ld_nI (show k < (gA c 12).length by omega) (by omega), sto_nI (show k < (gA c 12).length by omega) (by omega), Option.bind_some]
  have fc := (Fm.sA (k := 12) (u := mks []) (w := mks [12]) (Fm.refl _ _ c) rfl (List.length_set (i := k) (a := x2)))
  have fr := (Fm.sA (k := 6) (v := (gA c 12).set k x2) (u := mks []) (w := mks [6]) (Fm.refl _ _ r) rfl (by rw [List.length_set, q5]))
  exact ⟨_, _, _, rfl, rfl, LenC_sA h.lenC List.length_set, LenR_sA h.lenR (by rw [List.length_set, q5]), h.rHold, h.rNow, h.rCell, h.rEng, ⟨n, q1, q2, q3, q4, rfl, q6, q7, q8, bnd_set q9 (by omega) (ib_of g2), q10, flat_eq q11 (fun i hi => gA_sA_ne _ _ (by omega))⟩, h.rText.frg fc fr (by decide), h.rRead, h.rStk, h.rDrv.frg fc fr (by decide), h.rMkt, h.rFarm.frg fc fr (by decide), h.rRing, h.rCh.frg fc fr (by decide)⟩
theorem worth_same {kd : Int32} (hk : ib kd 0 5) (rt : Int32) : (Lots_worth N kd).bind (fun p14 => some (p14 * (100 - 25 * nI (sn rt)))) = (if ¬ kd = 0 then (if ¬ kd = 1 then (if ¬ kd = 2 then (if ¬ kd = 3 then (if ¬ kd = 4 then some (30 * (100 - 25 * nI (sn rt))) else some (10 * (100 - 25 * nI (sn rt)))) else some (60 * (100 - 25 * nI (sn rt)))) else some (35 * (100 - 25 * nI (sn rt)))) else some (30 * (100 - 25 * nI (sn rt)))) else some (10 * (100 - 25 * nI (sn rt)))) := by
  obtain ⟨q, e⟩ := nat_of (x := kd) hk.1
  generalize kd.toNatClampNeg = k at q e
  subst q
  have : k = 0 ∨ k = 1 ∨ k = 2 ∨ k = 3 ∨ k = 4 ∨ k = 5 := by omega
  rcases this with rfl | rfl | rfl | rfl | rfl | rfl <;> rfl
theorem tell_same (h : Rel c r) {l w : Nat} (hl : nI l < gI c 5) (hw : w < 9) (hl2 : l < 20) : ∃ v, Lots_tell N c (nI l) (nI w) (gI c 1) = some v ∧ R_aboutOf N r (nI l) (nI w) = some v := by
  obtain ⟨n, q1, q2, q3, q4, q5, q6, q7, q8, q9, q10, q11⟩ := h.rLots
  obtain ⟨t1, t2, t3, t4⟩ := h.rNow
  rw [q2, nI_ltI (by omega) (by omega)] at hl
  have l11 : (gA c 11).length = 20 := h.lenC.1 11
  have l12 : (gA c 12).length = 20 := h.lenC.1 12
  have l13 : (gA c 13).length = 20 := h.lenC.1 13
  have l6 : (gA c 6).length = 20 := h.lenC.1 6
  have l9 : (gA r 9).length = 60 := h.lenR.1 9
  have lq : (gA c (14 + l)).length = 3 := (h.lenC.1 _).trans ((by decide : ∀ i, i < 20 → LAc (14 + i) = 3) l (by omega))
  have d11 := ld_nI (l := gA c 11) (k := l) (by omega) (by omega)
  have d12 := ld_nI (l := gA c 12) (k := l) (by omega) (by omega)
  have d13 := ld_nI (l := gA c 13) (k := l) (by omega) (by omega)
  have d6 := ld_nI (l := gA c 6) (k := l) (by omega) (by omega)
  have came : ∀ j, j < 3 → ∃ v, ((rwi (nI l) 20).bind fun q18 => (ld (gA c (14 + q18)) (nI j)).bind fun y19 => some y19) = some v ∧ ((ld (gA r 9) (((3 * nI l) + nI (6 + j)) - 6)).bind fun y14 => some y14) = some v := by
    intro j hj
    have ei : (3 : Int32) * nI l + nI (6 + j) - 6 = nI (3 * l + j) := by
      rw [show (3 : Int32) = nI 3 from rfl, pk_mul, nI_add]
      have : nI (3 * l + (6 + j)) - 6 = nI (3 * l + (6 + j) - 6) := pk_sub (b := 6) (by omega)
      rw [this]
      exact congrArg nI (by omega)
    refine ⟨(gA c (14 + l)).getD j 0, ?_, ?_⟩
    · rw [rwi_nI (by omega) (by omega), Option.bind_some, ld_nI (by omega) (by omega)]; rfl
    · rw [ei, ld_nI (by omega) (by omega), q11 l j (by omega) (by omega)]; rfl
  have hw9 : w = 0 ∨ w = 1 ∨ w = 2 ∨ w = 3 ∨ w = 4 ∨ w = 5 ∨ w = 6 ∨ w = 7 ∨ w = 8 := by omega
  unfold Lots_tell R_aboutOf R_worthOf R_worthOf_p58
  rw [← q4, ← q5, ← q6, ← q7, d11, d12, d13, d6, ← t1]
  simp only [Option.bind_some, C_stateFrom_ok, R_stateOf_ok]
  rcases hw9 with rfl | rfl | rfl | rfl | rfl | rfl | rfl | rfl | rfl
  · exact ⟨_, rfl, rfl⟩
  · exact ⟨_, rfl, rfl⟩
  · exact ⟨_, rfl, rfl⟩
  · exact ⟨_, rfl, rfl⟩
  · exact ⟨_, rfl, rfl⟩
  · have hk := q8 l hl
    have hws := worth_same (N := N) (kd := (gA c 11).getD l 0) hk ((gA c 6).getD l 0)
    simp only [if_neg (show ¬ nI 5 = 0 by decide), if_neg (show ¬ nI 5 = 1 by decide), if_neg (show ¬ nI 5 = 2 by decide), if_neg (show ¬ nI 5 = 3 by decide), if_neg (show ¬ nI 5 = 4 by decide), if_pos (show nI 5 = 5 by decide), bind_id]
    rw [hws]
    have : ∃ v, (if ¬ (gA c 11).getD l 0 = 0 then (if ¬ (gA c 11).getD l 0 = 1 then (if ¬ (gA c 11).getD l 0 = 2 then (if ¬ (gA c 11).getD l 0 = 3 then (if ¬ (gA c 11).getD l 0 = 4 then some ((30 : Int32) * (100 - 25 * nI (sn ((gA c 6).getD l 0)))) else some (10 * (100 - 25 * nI (sn ((gA c 6).getD l 0))))) else some (60 * (100 - 25 * nI (sn ((gA c 6).getD l 0))))) else some (35 * (100 - 25 * nI (sn ((gA c 6).getD l 0))))) else some (30 * (100 - 25 * nI (sn ((gA c 6).getD l 0))))) else some (10 * (100 - 25 * nI (sn ((gA c 6).getD l 0))))) = some v := by
      repeat (first | exact ⟨_, rfl⟩ | split)
    obtain ⟨v, hv⟩ := this
    exact ⟨v, hv, hv⟩
  · exact came 0 (by omega)
  · exact came 1 (by omega)
  · exact came 2 (by omega)
theorem S_about (h : Rel c r) (x1 x2 : Int32) : Sam (C_about N c x1 x2) (R_about N r x1 x2) := by
  obtain ⟨n, q1, q2, q3, q4⟩ := h.rLots
  unfold C_about Lots_isOne R_about R_isLot
  simp only [C_within_eq, R_in_eq, Option.bind_some, if_bz, if_nbz, bind_id, q2, q3]
  refine Sam.ite (fun g1 => Sam.ite (fun g2 => ?_) (fun _ => Sam.ret)) (fun _ => Sam.ret)
  obtain ⟨k, rfl, hk⟩ := ix_in (by omega) g1
  obtain ⟨m, rfl, hm⟩ := nat_in g2
  have : (8 : Int32).toInt = 8 := rfl
  obtain ⟨v, h1, h2⟩ := tell_same (N := N) (l := k) (w := m) h (by rw [q2]; exact nI_lt hk (by omega)) (by omega) (by omega)
  exact Sam.of h1 h2
theorem S_as (h : Rel c r) (x1 x2 : Int32) : Sam (C_as N c x1 x2) (R_as N r x1 x2) := by
  obtain ⟨n, q1, q2, q3, q4, q5, q6, q7, q8, q9⟩ := h.rLots
  unfold C_as Lots_isOne Lots_isKind R_as R_isLot R_as_p56 R_as_p60 R_as_p61
  simp only [C_within_eq, R_in_eq, Option.bind_some, if_bz, if_nbz, bind_id, q2, q3, ← q4]
  refine Sam.ite (fun g1 => Sam.ite (fun g2 => ?_) (fun _ => Sam.ret)) (fun _ => Sam.ret)
  obtain ⟨k, rfl, hk⟩ := ix_in (by omega) g1
  have l11 : (gA c 11).length = 20 := h.lenC.1 11
  have hb := q8 k hk
  rw [ld_nI (by omega) (by omega)]
  simp only [Option.bind_some]
  obtain ⟨qk, ek⟩ := nat_of (x := (gA c 11).getD k 0) hb.1
  generalize ((gA c 11).getD k 0).toNatClampNeg = a at qk ek
  rw [qk]
  obtain ⟨b, rfl, hb2⟩ := nat_in g2
  have e5 : (5 : Int32).toInt = 5 := rfl
  have ha : a = 0 ∨ a = 1 ∨ a = 2 ∨ a = 3 ∨ a = 4 ∨ a = 5 := by omega
  have hb : b = 0 ∨ b = 1 ∨ b = 2 ∨ b = 3 ∨ b = 4 ∨ b = 5 := by omega
  rcases ha with rfl | rfl | rfl | rfl | rfl | rfl <;> rcases hb with rfl | rfl | rfl | rfl | rfl | rfl <;> exact ⟨_, rfl, rfl⟩
theorem many_same (h : Rel c r) {w : Nat} (hw : w < 13) : ∃ v, C_howMany N c (nI w) = some v ∧ R_countOf N r (nI w) = some v := by
  obtain ⟨n1, a1, a2, a3, _⟩ := h.rHold
  obtain ⟨t1, _⟩ := h.rNow
  obtain ⟨_, _, _, _, s5, _⟩ := h.rEng
  obtain ⟨n2, b1, b2, b3, _⟩ := h.rLots
  obtain ⟨n3, m3, d1, d2, d3, d4, d5, d6, _⟩ := h.rText
  obtain ⟨n4, f1, f2, f3, _⟩ := h.rRead
  obtain ⟨n5, i1, i2, i3, _⟩ := h.rStk
  obtain ⟨n6, j1, j2, j3, _⟩ := h.rDrv
  obtain ⟨n7, k1, k2, k3, _⟩ := h.rMkt
  obtain ⟨n8, l1, l2, l3, _⟩ := h.rFarm
  obtain ⟨n9, o1, o2, o3, _⟩ := h.rRing
  obtain ⟨n10, p1, p2, p3, _⟩ := h.rCh
  have hw13 : w = 0 ∨ w = 1 ∨ w = 2 ∨ w = 3 ∨ w = 4 ∨ w = 5 ∨ w = 6 ∨ w = 7 ∨ w = 8 ∨ w = 9 ∨ w = 10 ∨ w = 11 ∨ w = 12 := by omega
  unfold C_howMany R_countOf
  rw [a2, a3, b2, b3, d3, d4, d5, d6, f2, f3, i2, i3, j2, j3, k2, k3, l2, l3, o2, o3, p2, p3, ← t1, ← s5]
  rcases hw13 with rfl | rfl | rfl | rfl | rfl | rfl | rfl | rfl | rfl | rfl | rfl | rfl | rfl <;> exact ⟨_, rfl, rfl⟩
theorem S_count (h : Rel c r) (x1 : Int32) : Sam (C_count N c x1) (R_count N r x1) := by
  unfold C_count R_count
  simp only [C_within_eq, Option.bind_some, if_bz, bind_id]
  by_cases g : 0 ≤ x1 ∧ x1 ≤ 12
  · rw [if_pos g]
    obtain ⟨k, rfl, hk⟩ := nat_in g
    have : (12 : Int32).toInt = 12 := rfl
    obtain ⟨v, h1, h2⟩ := many_same (N := N) (w := k) h (by omega)
    exact Sam.of h1 h2
  · rw [if_neg g]
    refine Sam.of rfl ?_
    unfold R_countOf
    have ne : ∀ j : Int32, 0 ≤ j ∧ j ≤ 12 → ¬ x1 = j := fun j hj q => g (by rw [q]; exact hj)
    rw [if_neg (ne 0 (by decide)), if_neg (ne 1 (by decide)), if_neg (ne 2 (by decide)), if_neg (ne 3 (by decide)), if_neg (ne 4 (by decide)), if_neg (ne 5 (by decide)), if_neg (ne 6 (by decide)), if_neg (ne 7 (by decide)), if_neg (ne 8 (by decide)), if_neg (ne 9 (by decide)), if_neg (ne 10 (by decide)), if_neg (ne 11 (by decide)), if_neg (ne 12 (by decide))]
theorem fill_ok (hN : 100 < N) {j L : Nat} (hl : (gA c j).length = L) (hL : L ≤ 100) (v : Int32) : ∃ c1, J_fill N j c v = some c1 ∧ Fm (mks []) (mks [j]) c c1 ∧ ∀ i, i < L → (gA c1 j).getD i 0 = v := by
  have hj : mks [j] j = true := by unfold mks; simp
  unfold J_fill
  rw [hl]
  refine for_up (P := fun f k => ∀ c2, Fm (mks []) (mks [j]) c c2 → (∀ i, i < k → (gA c2 j).getD i 0 = v) → ∃ c1, J_fill_p5 N j f c2 v (nI k) (nI L) = some c1 ∧ Fm (mks []) (mks [j]) c c1 ∧ ∀ i, i < L → (gA c1 j).getD i 0 = v) (m := L) ?_ ?_ N 0 (by omega) (by omega) c (Fm.refl _ _ c) (fun i hi => absurd hi (Nat.not_lt_zero i))
  · intro f c2 fc h2
    refine ⟨c2, ?_, fc, h2⟩
    show J_fill_p5b _ _ _ _ _ _ _ = _
    unfold J_fill_p5b
    rw [if_pos (nI_stop L)]
  · intro f k hk ih c2 fc h2
    have l2 : (gA c2 j).length = L := (fc.len j).trans hl
    show ∃ c1, J_fill_p5b _ _ _ _ _ _ _ = _ ∧ _
    unfold J_fill_p5b
    rw [if_neg (nI_on hk (by omega)), sto_nI (by omega) (by omega), Option.bind_some, nI_1]
    refine ih _ (fc.sA hj List.length_set) (fun i hi => ?_)
    rw [gA_sA_same, getD_set (by omega)]
    split
    · rfl
    · exact h2 i (by omega)
theorem S_lot (h : Rel c r) (hN : 100 < N) (x1 x2 : Int32) : Sim (C_lot N c x1 x2) (R_lot N r x1 x2) := by
  obtain ⟨n, q1, q2, q3, q4, q5, q6, q7, q8, q9, q10, q11⟩ := h.rLots
  obtain ⟨t1, t2, t3, t4⟩ := h.rNow
  have hlt : (nI n < (20 : Int32)) = (n < 20) := lt_nI (m := 20) (by omega) (by omega)
  have hne : (¬ nI n = (20 : Int32)) = (n < 20) := ne_nI (m := 20) (by omega) (by omega)
  unfold C_lot C_isCell Lots_isKind Lots_add R_lot R_isCell
  simp only [C_within_eq, R_in_eq, Option.bind_some, if_bz, if_nbz, bind_id, bind_eta, q2, q3, hlt, hne]
  refine Sim.ite (fun g1 => Sim.ite (fun g2 => Sim.ite (fun hn => ?_) (fun _ => Sim.ret h)) (fun _ => Sim.ret h)) (fun _ => Sim.ret h)
  have l11 : (gA c 11).length = 20 := h.lenC.1 11
  have l12 : (gA c 12).length = 20 := h.lenC.1 12
  have l13 : (gA c 13).length = 20 := h.lenC.1 13
  have l6 : (gA c 6).length = 20 := h.lenC.1 6
  have r5 : (gA r 5).length = 20 := h.lenR.1 5
  have r6 : (gA r 6).length = 20 := h.lenR.1 6
  have r7 : (gA r 7).length = 20 := h.lenR.1 7
  have r8 : (gA r 8).length = 20 := h.lenR.1 8
  have r9 : (gA r 9).length = 60 := h.lenR.1 9
  have s11 : ∀ x, sto (gA c 11) (nI n) x = some ((gA c 11).set n x) := fun x => sto_nI (by omega) (by omega)
  have s12 : ∀ x, sto (gA c 12) (nI n) x = some ((gA c 12).set n x) := fun x => sto_nI (by omega) (by omega)
  have s13 : ∀ x, sto (gA c 13) (nI n) x = some ((gA c 13).set n x) := fun x => sto_nI (by omega) (by omega)
  have u5 : ∀ x, sto (gA r 5) (nI n) x = some ((gA r 5).set n x) := fun x => sto_nI (by omega) (by omega)
  have u6 : ∀ x, sto (gA r 6) (nI n) x = some ((gA r 6).set n x) := fun x => sto_nI (by omega) (by omega)
  have u7 : ∀ x, sto (gA r 7) (nI n) x = some ((gA r 7).set n x) := fun x => sto_nI (by omega) (by omega)
  have u8 : ∀ x, sto (gA r 8) (nI n) x = some ((gA r 8).set n x) := fun x => sto_nI (by omega) (by omega)
  simp only [s11, s12, s13, u5, u6, u7, u8, q2, q3, Option.bind_some, gA_sA, gI_sI, gI_sA, gA_sI, Nat.reduceEqDiff, if_true, if_false, rwi_nI (show n < 20 by omega) (by omega), ← t1]
  have lq : (gA (sA (sA (sA c 11 ((gA c 11).set n x1)) 12 ((gA c 12).set n x2)) 13 ((gA c 13).set n (gI c 1))) (14 + n)).length = 3 := by
    rw [gA_sA_ne _ _ (by omega), gA_sA_ne _ _ (by omega), gA_sA_ne _ _ (by omega)]
    exact (h.lenC.1 _).trans ((by decide : ∀ i, i < 20 → LAc (14 + i) = 3) n (by omega))
  obtain ⟨c1, a1, a2, a3⟩ := fill_ok (N := N) hN lq (by omega) (-1)
  rw [a1, Option.bind_some]
  have main : ∀ (f k : Nat), k ≤ 3 → 3 - k < f → ∀ r2, Fm (mks []) (mks [9]) (sA (sA (sA (sA r 5 ((gA r 5).set n x1)) 6 ((gA r 6).set n x2)) 7 ((gA r 7).set n 0)) 8 ((gA r 8).set n (gI c 1))) r2 → (∀ i, (gA r2 9).getD i 0 = if 3 * n ≤ i ∧ i < 3 * n + k then -1 else (gA r 9).getD i 0) → ∃ r1, R_lot_p79 N f r2 (nI k) = some (nI n, sI r1 7 (nI (n + 1))) ∧ Fm (mks []) (mks [9]) (sA (sA (sA (sA r 5 ((gA r 5).set n x1)) 6 ((gA r 6).set n x2)) 7 ((gA r 7).set n 0)) 8 ((gA r 8).set n (gI c 1))) r1 ∧ ∀ i, (gA r1 9).getD i 0 = if 3 * n ≤ i ∧ i < 3 * n + 3 then -1 else (gA r 9).getD i 0 := by
    refine for_up (P := fun f k => ∀ r2, Fm (mks []) (mks [9]) (sA (sA (sA (sA r 5 ((gA r 5).set n x1)) 6 ((gA r 6).set n x2)) 7 ((gA r 7).set n 0)) 8 ((gA r 8).set n (gI c 1))) r2 → (∀ i, (gA r2 9).getD i 0 = if 3 * n ≤ i ∧ i < 3 * n + k then -1 else (gA r 9).getD i 0) → ∃ r1, R_lot_p79 N f r2 (nI k) = some (nI n, sI r1 7 (nI (n + 1))) ∧ Fm (mks []) (mks [9]) (sA (sA (sA (sA r 5 ((gA r 5).set n x1)) 6 ((gA r 6).set n x2)) 7 ((gA r 7).set n 0)) 8 ((gA r 8).set n (gI c 1))) r1 ∧ ∀ i, (gA r1 9).getD i 0 = if 3 * n ≤ i ∧ i < 3 * n + 3 then -1 else (gA r 9).getD i 0) ?_ ?_
    · intro f r2 f2 h2
      refine ⟨r2, ?_, f2, h2⟩
      show R_lot_p79b _ _ _ _ = _
      unfold R_lot_p79b
      have e7 : gI r2 7 = nI n := (f2.1 7 rfl).trans q3
      rw [if_pos (show (3 : Int32) ≤ nI 3 by decide), gI_sI_same, e7, nI_1, nI_pred]
    · intro f k hk ih r2 f2 h2
      have e7 : gI r2 7 = nI n := (f2.1 7 rfl).trans q3
      have l9 : (gA r2 9).length = 60 := (f2.len 9).trans r9
      have ei : (3 : Int32) * nI n + nI k = nI (3 * n + k) := by rw [show (3 : Int32) = nI 3 from rfl, pk_mul, nI_add]
      show ∃ r1, R_lot_p79b _ _ _ _ = _ ∧ _
      unfold R_lot_p79b
      rw [if_neg (show ¬ (3 : Int32) ≤ nI k from nI_on (m := 3) hk (by decide)), e7, ei, sto_nI (by omega) (by omega), Option.bind_some, nI_1]
      refine ih _ (f2.sA rfl List.length_set) (fun i => ?_)
      rw [gA_sA_same, getD_set (by omega), h2 i]
      by_cases hi : i = 3 * n + k
      · rw [if_pos hi, if_pos (by omega)]
      · rw [if_neg hi]
        by_cases hi2 : 3 * n ≤ i ∧ i < 3 * n + k
        · rw [if_pos hi2, if_pos (by omega)]
        · rw [if_neg hi2, if_neg (by omega)]
  obtain ⟨r1, b1, b2, b3⟩ := main N 0 (by omega) (by omega) _ (Fm.refl _ _ _) (fun i => by rw [if_neg (by omega)]; rfl)
  have b1 : R_lot_p79 N N (sA (sA (sA (sA r 5 ((gA r 5).set n x1)) 6 ((gA r 6).set n x2)) 7 ((gA r 7).set n 0)) 8 ((gA r 8).set n (gI c 1))) 0 = _ := b1
  rw [b1]
  have e5 : gI c1 5 = nI n := (a2.1 5 rfl).trans q2
  rw [e5, nI_1, nI_pred]
  have w12 : ∀ j, j < 14 → mks [14 + n] j = false := fun j hj => mks_false (fun x hx => by simp only [List.mem_singleton] at hx; omega)
  have gx : ∀ j, j < 14 → gA c1 j = gA (sA (sA (sA c 11 ((gA c 11).set n x1)) 12 ((gA c 12).set n x2)) 13 ((gA c 13).set n (gI c 1))) j := fun j hj => a2.2.1 j (w12 j hj)
  have f0 : Fm (mks [5]) (fun j => mks [11, 12, 13] j || w14 j) c (sI c1 5 (nI (n + 1))) := by
    have g0 : Fm (mks [5]) (fun j => mks [11, 12, 13] j || w14 j) c (sA (sA (sA c 11 ((gA c 11).set n x1)) 12 ((gA c 12).set n x2)) 13 ((gA c 13).set n (gI c 1))) := Fm.sA (k := 13) (Fm.sA (k := 12) (Fm.sA (k := 11) (Fm.refl _ _ c) rfl List.length_set) rfl List.length_set) rfl List.length_set
    refine Fm.sI (g0.trans (a2.mono (fun _ _ => rfl) (fun j e => mks_false (fun x hx => ?_)))) rfl
    simp only [List.mem_singleton] at hx
    subst hx
    intro q
    subst q
    have := (Bool.or_eq_false_iff.mp e).2
    rw [w14_t n (by omega)] at this
    cases this
  have g0 : Fm (mks [7]) (mks [5, 6, 7, 8, 9]) r (sI r1 7 (nI (n + 1))) := by
    have g1 : Fm (mks [7]) (mks [5, 6, 7, 8, 9]) r (sA (sA (sA (sA r 5 ((gA r 5).set n x1)) 6 ((gA r 6).set n x2)) 7 ((gA r 7).set n 0)) 8 ((gA r 8).set n (gI c 1))) := Fm.sA (k := 8) (Fm.sA (k := 7) (Fm.sA (k := 6) (Fm.sA (k := 5) (Fm.refl _ _ r) rfl List.length_set) rfl List.length_set) rfl List.length_set) rfl List.length_set
    exact Fm.sI (g1.trans (b2.mono (fun _ _ => rfl) (mks_sub (by decide)))) rfl
  have k11 : gA c1 11 = (gA c 11).set n x1 := gx 11 (by omega)
  have k12 : gA c1 12 = (gA c 12).set n x2 := gx 12 (by omega)
  have k13 : gA c1 13 = (gA c 13).set n (gI c 1) := gx 13 (by omega)
  have k6 : gA c1 6 = gA c 6 := gx 6 (by omega)
  have v5 : gA r1 5 = (gA r 5).set n x1 := b2.2.1 5 rfl
  have v6 : gA r1 6 = (gA r 6).set n x2 := b2.2.1 6 rfl
  have v7 : gA r1 7 = (gA r 7).set n 0 := b2.2.1 7 rfl
  have v8 : gA r1 8 = (gA r 8).set n (gI c 1) := b2.2.1 8 rfl
  refine ⟨_, _, _, rfl, rfl, LenC_fr h.lenC f0, LenR_fr h.lenR g0, h.rHold.frg f0 g0 (by decide), h.rNow.frg f0 g0 (by decide), h.rCell.frg f0 g0 (by decide), h.rEng.frg f0 g0 (by decide), ?_, h.rText.frg f0 g0 (by decide), h.rRead.frg f0 g0 (by decide), h.rStk.frg f0 g0 (by decide), h.rDrv.frg f0 g0 (by decide), h.rMkt.frg f0 g0 (by decide), h.rFarm.frg f0 g0 (by decide), h.rRing.frg f0 g0 (by decide), h.rCh.frg f0 g0 (by decide)⟩
  · refine ⟨n + 1, by omega, gI_sI_same _ _ _, gI_sI_same _ _ _, ?_, ?_, ?_, ?_, ?_, ?_, ?_, ?_⟩
    · show gA c1 11 = gA r1 5; rw [k11, v5, q4]
    · show gA c1 12 = gA r1 6; rw [k12, v6, q5]
    · show gA c1 13 = gA r1 8; rw [k13, v8, q6]
    · show gA c1 6 = gA r1 7
      rw [k6, v7, q7]
      refine list_ext (by rw [List.length_set]) (fun k hk => ?_)
      rw [getD_set (by omega)]
      split
      · rename_i e; rw [e, ← q7]; exact q10 n (Nat.le_refl n)
      · rfl
    · show bnd (gA c1 11) _ _ _; rw [k11]; exact bnd_push q8 (by omega) (ib_of g2)
    · show bnd (gA c1 12) _ _ _; rw [k12]; exact bnd_push q9 (by omega) (ib_of g1)
    · intro k hk; show (gA c1 6).getD k 0 = 0; rw [k6]; exact q10 k (by omega)
    · intro i j hi hj
      show (gA r1 9).getD (3 * i + j) 0 = (gA c1 (14 + i)).getD j 0
      rw [b3]
      by_cases hin : i = n
      · subst hin
        rw [if_pos (by omega), a3 j hj]
      · rw [if_neg (by omega), q11 i j hi hj]
        refine congrArg (fun l => List.getD l j 0) ?_
        rw [a2.2.1 (14 + i) (mks_false (fun x hx => by simp only [List.mem_singleton] at hx; omega)), gA_sA_ne _ _ (by omega), gA_sA_ne _ _ (by omega), gA_sA_ne _ _ (by omega)]
end LT
