/-! PURE: lost, way -/
section LO
variable {N n : Nat} {c r : St}
theorem count_same (hN : 100 < N) (hc : LenC c) (hr : LenR r) (hn : n ≤ 20) (e5 : gI c 5 = nI n) (e7 : gI r 7 = nI n) (hrot : ∀ l, l < n → (gA c 9).getD l 0 = (gA r 31).getD l 0) : ∃ v, C_lostGoing_p172 N c = some (v, c) ∧ R_lostBy_p150 N r = some (v, r) := by
  have l9 : (gA c 9).length = 20 := hc.1 9
  have l31 : (gA r 31).length = 20 := hr.1 31
  have main : ∀ (f k : Nat), k ≤ n → n - k < f → ∀ acc : Int32, ∃ v, Lots_lostIn_p4 N c f acc (nI k) = some v ∧ R_lostBy_p155 N f r acc (nI k) = some (v, r) := by
    refine for_up (P := fun f k => ∀ acc : Int32, ∃ v, Lots_lostIn_p4 N c f acc (nI k) = some v ∧ R_lostBy_p155 N f r acc (nI k) = some (v, r)) ?_ ?_
    · intro f acc
      refine ⟨acc, ?_, ?_⟩
      · show Lots_lostIn_p4b _ _ _ _ _ = _
        unfold Lots_lostIn_p4b
        rw [e5, if_pos (nI_stop n)]
      · show R_lostBy_p155b _ _ _ _ _ = _
        unfold R_lostBy_p155b
        rw [e7, if_pos (nI_stop n)]
    · intro f k hk ih acc
      show ∃ v, Lots_lostIn_p4b _ _ _ _ _ = _ ∧ R_lostBy_p155b _ _ _ _ _ = _
      unfold Lots_lostIn_p4b Lots_lostIn_p28 R_lostBy_p155b R_lostBy_p184
      rw [e5, e7, if_neg (nI_on hk (by omega)), if_neg (nI_on hk (by omega)), ld_nI (by omega) (by omega), ld_nI (by omega) (by omega), Option.bind_some, Option.bind_some, C_stateFrom_ok, R_stateOf_ok, Option.bind_some, Option.bind_some, nI_1, hrot k hk]
      by_cases g : nI (sn ((gA r 31).getD k 0)) = 3
      · rw [if_neg (fun q => q g), if_neg (fun q => q g)]; exact ih _
      · rw [if_pos g, if_pos g, Int32.add_zero]; exact ih _
  obtain ⟨v, h1, h2⟩ := main N 0 (by omega) (by omega) 0
  refine ⟨v, ?_, h2⟩
  unfold C_lostGoing_p172 Lots_lostIn
  have h1 : Lots_lostIn_p4 N c N 0 0 = some v := h1
  rw [h1]
  rfl
theorem legs_same (hN : 100 < N) (hH : RHold c r) (l3 : (gA c 3).length = 6) : ∃ v : Int32, Hold_allHours N c = some v ∧ (∀ r1, gI r1 6 = gI r 6 → gA r1 3 = gA r 3 → R_lostBy_p43 N N r1 0 0 = R_lostBy_p68 N N r1 v) ∧ ib v 0 1200 := by
  obtain ⟨m, hm, e0, e6, q3, q4, b3, b4⟩ := hH
  have main : ∀ (f k : Nat), k ≤ m → m - k < f → ∀ acc : Int32, 0 ≤ acc.toInt → acc.toInt ≤ 200 * k → ∃ v : Int32, Hold_allHours_p4 N c f acc (nI k) = some v ∧ (∀ r1, gI r1 6 = gI r 6 → gA r1 3 = gA r 3 → R_lostBy_p43 N f r1 acc (nI k) = R_lostBy_p68 N N r1 v) ∧ ib v 0 1200 := by
    refine for_up (P := fun f k => ∀ acc : Int32, 0 ≤ acc.toInt → acc.toInt ≤ 200 * k → ∃ v : Int32, Hold_allHours_p4 N c f acc (nI k) = some v ∧ (∀ r1, gI r1 6 = gI r 6 → gA r1 3 = gA r 3 → R_lostBy_p43 N f r1 acc (nI k) = R_lostBy_p68 N N r1 v) ∧ ib v 0 1200) ?_ ?_
    · intro f acc h1 h2
      refine ⟨acc, ?_, ?_, h1, by omega⟩
      · show Hold_allHours_p4b _ _ _ _ _ = _
        unfold Hold_allHours_p4b
        rw [e0, if_pos (nI_stop m)]
      · intro r1 k1 k2
        show R_lostBy_p43b _ _ _ _ _ = _
        unfold R_lostBy_p43b
        rw [k1, e6, if_pos (nI_stop m)]
    · intro f k hk ih acc h1 h2
      have hb := b3 k hk
      have ea : (acc + (gA c 3).getD k 0).toInt = acc.toInt + ((gA c 3).getD k 0).toInt := add_toInt (by omega) (by omega)
      obtain ⟨v, y1, y2, y3⟩ := ih (acc + (gA c 3).getD k 0) (by omega) (by omega)
      refine ⟨v, ?_, ?_, y3⟩
      · show Hold_allHours_p4b _ _ _ _ _ = _
        unfold Hold_allHours_p4b
        rw [e0, if_neg (nI_on hk (by omega)), ld_nI (by omega) (by omega), Option.bind_some, nI_1]
        exact y1
      · intro r1 k1 k2
        show R_lostBy_p43b _ _ _ _ _ = _
        unfold R_lostBy_p43b
        rw [k1, e6, if_neg (nI_on hk (by omega)), k2, ← q3, ld_nI (by omega) (by omega), Option.bind_some, nI_1]
        exact y2 r1 k1 k2
  exact main N 0 (by omega) (by omega) 0 (by decide) (by decide)
theorem sub1_neg (x : Int32) : x + (-1) = x - 1 := (Int32.sub_eq_add_neg ..).symm
theorem lost_same (h : Rel c r) (hN : 5000 < N) (x1 x2 : Int32) (g1 : 0 ≤ x1 ∧ x1 ≤ 300) (g2 : x2 = 0 ∨ x2 = 1) : ∃ v c1 r1, C_lostGoing N c x1 x2 = some (v, c1) ∧ R_lostBy N r x1 x2 = some (v, r1) ∧ Fm scI scA c c1 ∧ Fm srI srA r r1 := by
  obtain ⟨n, hF⟩ := h.fix
  obtain ⟨t1, t2, t3, t4⟩ := h.rNow
  obtain ⟨c1, r1, a1, a2, a3, a4, aT, a6, a7⟩ := trial_start (N := N) h hF (by omega)
  have e300 : (300 : Int32).toInt = 300 := rfl
  obtain ⟨M, rfl, hM⟩ := nat_in g1
  have eM : (nI M).toInt = M := nI_toInt (by omega)
  obtain ⟨qG, eG⟩ := nat_of (x := gI c 1) t2.1
  generalize hGG : (gI c 1).toNatClampNeg = G at qG eG
  have hG : G ≤ 1200 := by omega
  have eT : gI c 1 + nI M = nI (G + M) := by rw [qG, nI_add]
  have eTi : (nI (G + M)).toInt = ((G + M : Nat) : Int) := nI_toInt (by omega)
  have hg : gI c1 1 = gI c 1 := a3.1 1 rfl
  have hb2 : gI c1 2 = gI c 2 := a3.1 2 rfl
  -- the hour when the engine stops
  have hbr : ∃ B : Int32, J_min N (gI c1 2) (gI c1 1 + nI M) = some B ∧ B.toInt ≤ ((G + M : Nat) : Int) ∧ (∀ (w : Int32), (if (gI r1 4 + nI M) ≤ gI r1 5 then R_lostBy_p31 N r1 (nI M) w (gI r1 4 + nI M) else R_lostBy_p31 N r1 (nI M) w (gI r1 5)) = R_lostBy_p31 N r1 (nI M) w B) := by
    have k4 : gI r1 4 = gI c 1 := by rw [a4.1 4 rfl, t1]
    have k5 : gI r1 5 = gI c 2 := by rw [a4.1 5 rfl, t3]
    rw [hg, hb2, k4, k5, eT]
    unfold J_min
    by_cases q : nI (G + M) < gI c 2
    · refine ⟨nI (G + M), by rw [if_pos q], by omega, fun w => ?_⟩
      rw [if_pos (Int32.le_of_lt q)]
    · rw [Int32.lt_iff_toInt_lt] at q
      refine ⟨gI c 2, by rw [if_neg (by rw [Int32.lt_iff_toInt_lt]; exact q)], by omega, fun w => ?_⟩
      by_cases q2 : nI (G + M) ≤ gI c 2
      · rw [if_pos q2]
        rw [Int32.le_iff_toInt_le] at q2
        have : nI (G + M) = gI c 2 := Int32.toInt_inj.mp (by omega)
        rw [this]
      · rw [if_neg q2]
  obtain ⟨B, hB1, hB2, hB3⟩ := hbr
  -- an hour, with the trial going
  have step : ∀ (c2 r2 : St) (H : Nat) (s : Int32), H ≤ 10000 → Fm scI scA c c2 → Fm srI srA r r2 → Tr n c2 r2 → ((s = 0 ∧ gI r2 29 ≤ gI r2 28) ∨ (s = 1 ∧ ¬ gI r2 29 ≤ gI r2 28)) → ∃ sea v c3 c4 r4, Hold_seaOf N c2 (nI H) = some sea ∧ R_seaOf N r2 (nI H) = some sea ∧ Air_pass_2 N c2 sea s = some (v, c3) ∧ Lots_spoilIn_2 N c3 = some c4 ∧ R_anHour N r2 sea = some (v, r4) ∧ Fm scI scA c c4 ∧ Fm srI srA r r4 ∧ Tr n c4 r4 ∧ gI r4 28 = gI r2 28 + 1 ∧ gI r4 29 = gI r2 29 := by
    intro c2 r2 H s hH fc fr hT hs
    have hF2 : Fix n c2 r2 := hF.fr fc fr sc_fix1 sc_fix2
    obtain ⟨sea, w1, w2, w3⟩ := sea_same (N := N) (c := c2) (r := r2) hF2.2.2.1 ((fc.len 3).trans (h.lenC.1 3)) ((fc.len 4).trans (h.lenC.1 4)) (by omega) (nI H) (by rw [nI_toInt (by omega)]; omega)
    obtain ⟨v, c3, c4, r4, z1, z2, z3, z4, z5, z6, z7, z8⟩ := Tr.hour (N := N) hT hF2 (by omega) sea s w3 hs
    exact ⟨sea, v, c3, c4, r4, w1, w2, z1, z2, z3, fc.trans z4, fr.trans z5, z6, z7, z8⟩
  have finish : ∀ (c2 r2 : St), Fm scI scA c c2 → Fm srI srA r r2 → Tr n c2 r2 → ∃ v, C_lostGoing_p172 N c2 = some (v, c2) ∧ R_lostBy_p150 N r2 = some (v, r2) := by
    intro c2 r2 fc fr hT
    have hF2 : Fix n c2 r2 := hF.fr fc fr sc_fix1 sc_fix2
    exact count_same (n := n) (by omega) hF2.1 hF2.2.1 hF2.2.2.2.2.2.1 hF2.2.2.2.2.2.2.1 hF2.2.2.2.2.2.2.2.1 hT.2.2.1
  -- going on, up to E
  unfold C_lostGoing R_lostBy
  rw [a1, a2, Option.bind_some, Option.bind_some, hB1, Option.bind_some, hB3]
  unfold R_lostBy_p31 C_lostGoing_p50
  have k4 : gI r1 4 = gI c 1 := by rw [a4.1 4 rfl, t1]
  have frB : Fm srI srA r (sI r1 29 B) := a4.sI rfl
  have TB : Tr n c1 (sI r1 29 B) := aT
  rcases g2 with rfl | rfl
  · rw [if_pos (show ¬ (0 : Int32) = 1 by decide), if_neg (show ¬ ¬ (0 : Int32) = 0 from fun q => q rfl)]
    have hF1 : Fix n c1 r1 := hF.fr a3 a4 sc_fix1 sc_fix2
    obtain ⟨E, y1, y2, y3⟩ := legs_same (N := N) (c := c1) (r := r1) (by omega) hF1.2.2.1 ((a3.len 3).trans (h.lenC.1 3))
    rw [y1, Option.bind_some, y2 (sI r1 29 B) rfl rfl, hg, qG]
    obtain ⟨qE, eE⟩ := nat_of (x := E) y3.1
    generalize E.toNatClampNeg = e at qE eE
    subst qE
    have main : ∀ (f k : Nat), k ≤ e - G → e - G - k < f → ∀ (c2 r2 : St), Fm scI scA c c2 → Fm srI srA r r2 → Tr n c2 r2 → gI r2 28 = nI (G + k) → gI r2 29 = B → ∃ v c3 r3, C_lostGoing_p61 N f c2 0 (nI G + nI M) B (nI e) (nI (G + k)) = some (v, c3) ∧ R_lostBy_p68 N f r2 (nI e) = some (v, r3) ∧ Fm scI scA c c3 ∧ Fm srI srA r r3 := by
      refine for_up (P := fun f k => ∀ (c2 r2 : St), Fm scI scA c c2 → Fm srI srA r r2 → Tr n c2 r2 → gI r2 28 = nI (G + k) → gI r2 29 = B → ∃ v c3 r3, C_lostGoing_p61 N f c2 0 (nI G + nI M) B (nI e) (nI (G + k)) = some (v, c3) ∧ R_lostBy_p68 N f r2 (nI e) = some (v, r3) ∧ Fm scI scA c c3 ∧ Fm srI srA r r3) ?_ ?_
      · intro f c2 r2 fc fr hT i1 i2
        obtain ⟨v, z1, z2⟩ := finish c2 r2 fc fr hT
        refine ⟨v, c2, r2, ?_, ?_, fc, fr⟩
        · show C_lostGoing_p61b _ _ _ _ _ _ _ _ = _
          unfold C_lostGoing_p61b
          rw [if_pos (nI_le (by omega) (by omega)), if_pos (by decide)]
          exact z1
        · show R_lostBy_p68b _ _ _ _ = _
          unfold R_lostBy_p68b
          rw [i1, if_pos (nI_le (by omega) (by omega))]
          exact z2
      · intro f k hk ih c2 r2 fc fr hT i1 i2
        have hlt : ¬ nI e ≤ nI (G + k) := nI_ge (by omega) (by omega)
        have hgo : ∀ s : Int32, ((s = 0 ∧ gI r2 29 ≤ gI r2 28) ∨ (s = 1 ∧ ¬ gI r2 29 ≤ gI r2 28)) → ∃ v c3 r3, ((Hold_seaOf N c2 (nI (G + k))).bind fun p12 => (Air_pass_2 N c2 p12 s).bind fun p14 => (Lots_spoilIn_2 N p14.2).bind fun p15 => C_lostGoing_p61 N f p15 0 (nI G + nI M) B (nI e) (nI (G + k) + 1)) = some (v, c3) ∧ ((R_seaOf N r2 (gI r2 28)).bind fun p16 => (R_anHour N r2 p16).bind fun p17 => R_lostBy_p68 N f p17.2 (nI e)) = some (v, r3) ∧ Fm scI scA c c3 ∧ Fm srI srA r r3 := by
          intro s hs
          obtain ⟨sea, v, c3, c4, r4, w1, w2, w3, w4, w5, w6, w7, w8, w9, w10⟩ := step c2 r2 (G + k) s (by omega) fc fr hT hs
          rw [i1] at w9
          simp only [i1, w1, w2, w3, w4, w5, Option.bind_some, nI_1]
          exact ih c4 r4 w6 w7 w8 (by rw [w9, nI_1]; rfl) (w10.trans i2)
        show ∃ v c3 r3, C_lostGoing_p61b _ _ _ _ _ _ _ _ = _ ∧ R_lostBy_p68b _ _ _ _ = _ ∧ _
        unfold C_lostGoing_p61b C_lostGoing_p97 R_lostBy_p68b
        rw [if_neg hlt, i1, if_neg hlt, ← i1, ← i2]
        by_cases g : gI r2 29 ≤ gI r2 28
        · have := hgo 0 (Or.inl ⟨rfl, g⟩)
          rw [← i1] at this
          simp only [if_pos g]
          rw [i2]
          exact this
        · have := hgo 1 (Or.inr ⟨rfl, g⟩)
          rw [← i1] at this
          simp only [if_neg g]
          rw [i2]
          exact this
    exact main N 0 (by omega) (by omega) c1 (sI r1 29 B) a3 frB TB (by show gI r1 28 = _; rw [a6, qG]; rfl) rfl
  · rw [if_neg (show ¬ ¬ (1 : Int32) = 1 from fun q => q rfl), if_pos (show ¬ (1 : Int32) = 0 by decide), hg]
    rw [eT, qG]
    -- the way back
    have back : ∀ (f j : Nat), j ≤ G + M → G + M - j < f → ∀ (c2 r2 : St), Fm scI scA c c2 → Fm srI srA r r2 → Tr n c2 r2 → gI r2 28 = nI (G + M + j) → gI r2 29 = B → ∃ v c3 r3, C_lostGoing_p128 N f c2 (nI (G + M - j) - 1) = some (v, c3) ∧ R_lostBy_p130 N f r2 (nI (G + M - j) - 1) = some (v, r3) ∧ Fm scI scA c c3 ∧ Fm srI srA r r3 := by
      refine for_up (P := fun f j => ∀ (c2 r2 : St), Fm scI scA c c2 → Fm srI srA r r2 → Tr n c2 r2 → gI r2 28 = nI (G + M + j) → gI r2 29 = B → ∃ v c3 r3, C_lostGoing_p128 N f c2 (nI (G + M - j) - 1) = some (v, c3) ∧ R_lostBy_p130 N f r2 (nI (G + M - j) - 1) = some (v, r3) ∧ Fm scI scA c c3 ∧ Fm srI srA r r3) ?_ ?_
      · intro f c2 r2 fc fr hT i1 i2
        obtain ⟨v, z1, z2⟩ := finish c2 r2 fc fr hT
        refine ⟨v, c2, r2, ?_, ?_, fc, fr⟩
        · show C_lostGoing_p128b _ _ _ _ = _
          unfold C_lostGoing_p128b
          rw [Nat.sub_self, if_pos (by decide)]
          exact z1
        · show R_lostBy_p130b _ _ _ _ = _
          unfold R_lostBy_p130b
          rw [Nat.sub_self, if_pos (by decide)]
          exact z2
      · intro f j hj ih c2 r2 fc fr hT i1 i2
        have e1 : nI (G + M - j) - 1 = nI (G + M - (j + 1)) := by
          have : G + M - j = (G + M - (j + 1)) + 1 := by omega
          rw [this, nI_pred]
        have hle : gI r2 29 ≤ gI r2 28 := by
          rw [i1, i2, Int32.le_iff_toInt_le, nI_toInt (by omega)]; omega
        obtain ⟨sea, v, c3, c4, r4, w1, w2, w3, w4, w5, w6, w7, w8, w9, w10⟩ := step c2 r2 (G + M - (j + 1)) 0 (by omega) fc fr hT (Or.inl ⟨rfl, hle⟩)
        rw [e1]
        show ∃ v c3 r3, C_lostGoing_p128b _ _ _ _ = _ ∧ R_lostBy_p130b _ _ _ _ = _ ∧ _
        unfold C_lostGoing_p128b R_lostBy_p130b
        rw [if_neg (nI_pos (by omega)), if_neg (nI_pos (by omega)), w1, w2, Option.bind_some, Option.bind_some, w3, w5, Option.bind_some, Option.bind_some, w4, Option.bind_some, sub1_neg]
        exact ih c4 r4 w6 w7 w8 (by rw [w9, i1, nI_1]; rfl) (w10.trans i2)
    have main : ∀ (f k : Nat), k ≤ M → M - k < f → ∀ (c2 r2 : St), Fm scI scA c c2 → Fm srI srA r r2 → Tr n c2 r2 → gI r2 28 = nI (G + k) → gI r2 29 = B → ∃ v c3 r3, C_lostGoing_p61 N f c2 1 (nI (G + M)) B (nI (G + M)) (nI (G + k)) = some (v, c3) ∧ R_lostBy_p97 N f r2 (nI M) (nI k) = some (v, r3) ∧ Fm scI scA c c3 ∧ Fm srI srA r r3 := by
      refine for_up (P := fun f k => ∀ (c2 r2 : St), Fm scI scA c c2 → Fm srI srA r r2 → Tr n c2 r2 → gI r2 28 = nI (G + k) → gI r2 29 = B → ∃ v c3 r3, C_lostGoing_p61 N f c2 1 (nI (G + M)) B (nI (G + M)) (nI (G + k)) = some (v, c3) ∧ R_lostBy_p97 N f r2 (nI M) (nI k) = some (v, r3) ∧ Fm scI scA c c3 ∧ Fm srI srA r r3) ?_ ?_
      · intro f c2 r2 fc fr hT i1 i2
        have hk4 : gI r2 4 = nI G := by rw [fr.1 4 rfl, ← t1, qG]
        show ∃ v c3 r3, C_lostGoing_p61b _ _ _ _ _ _ _ _ = _ ∧ R_lostBy_p97b _ _ _ _ _ = _ ∧ _
        unfold C_lostGoing_p61b R_lostBy_p97b
        rw [if_pos (nI_stop _), if_neg (show ¬ ¬ (1 : Int32) = 1 from fun q => q rfl), if_pos (nI_stop _), hk4, nI_add]
        exact back N 0 (by omega) (by omega) c2 r2 fc fr hT i1 i2
      · intro f k hk ih c2 r2 fc fr hT i1 i2
        have hlt : ¬ nI (G + M) ≤ nI (G + k) := nI_ge (by omega) (by omega)
        have hgo : ∀ s : Int32, ((s = 0 ∧ gI r2 29 ≤ gI r2 28) ∨ (s = 1 ∧ ¬ gI r2 29 ≤ gI r2 28)) → ∃ v c3 r3, ((Hold_seaOf N c2 (nI (G + k))).bind fun p12 => (Air_pass_2 N c2 p12 s).bind fun p14 => (Lots_spoilIn_2 N p14.2).bind fun p15 => C_lostGoing_p61 N f p15 1 (nI (G + M)) B (nI (G + M)) (nI (G + k) + 1)) = some (v, c3) ∧ ((R_seaOf N r2 (gI r2 28)).bind fun p16 => (R_anHour N r2 p16).bind fun p17 => R_lostBy_p97 N f p17.2 (nI M) (nI k + 1)) = some (v, r3) ∧ Fm scI scA c c3 ∧ Fm srI srA r r3 := by
          intro s hs
          obtain ⟨sea, v, c3, c4, r4, w1, w2, w3, w4, w5, w6, w7, w8, w9, w10⟩ := step c2 r2 (G + k) s (by omega) fc fr hT hs
          rw [i1] at w9
          simp only [i1, w1, w2, w3, w4, w5, Option.bind_some, nI_1]
          exact ih c4 r4 w6 w7 w8 (by rw [w9, nI_1]; rfl) (w10.trans i2)
        show ∃ v c3 r3, C_lostGoing_p61b _ _ _ _ _ _ _ _ = _ ∧ R_lostBy_p97b _ _ _ _ _ = _ ∧ _
        unfold C_lostGoing_p61b C_lostGoing_p97 R_lostBy_p97b
        rw [if_neg hlt, if_neg (nI_on hk (by omega)), ← i1, ← i2]
        by_cases g : gI r2 29 ≤ gI r2 28
        · have := hgo 0 (Or.inl ⟨rfl, g⟩)
          rw [← i1] at this
          simp only [if_pos g]
          rw [i2]
          exact this
        · have := hgo 1 (Or.inr ⟨rfl, g⟩)
          rw [← i1] at this
          simp only [if_neg g]
          rw [i2]
          exact this
    exact main N 0 (by omega) (by omega) c1 (sI r1 29 B) a3 frB TB (by show gI r1 28 = _; rw [a6, qG]; rfl) rfl
theorem S_lost (h : Rel c r) (hN : 5000 < N) (x1 x2 : Int32) : Sim (C_lost N c x1 x2) (R_lost N r x1 x2) := by
  unfold C_lost C_lost_p20 R_lost R_lost_p29 R_lost_p20
  simp only [C_within_eq, R_in_eq, Option.bind_some, if_bz, if_nbz, bind_id, bind_eta]
  by_cases g1 : 0 ≤ x1 ∧ x1 ≤ 300
  · rw [if_pos g1, if_neg (Int32.not_lt.mpr g1.1), if_neg (Int32.not_lt.mpr g1.2)]
    have go : (x2 = 0 ∨ x2 = 1) → Sim (C_lostGoing N c x1 x2) (R_lostBy N r x1 x2) := fun g2 => by
      obtain ⟨v, c1, r1, y1, y2, y3, y4⟩ := lost_same h hN x1 x2 g1 g2
      exact ⟨v, c1, r1, y1, y2, h.fr y3 y4⟩
    by_cases h0 : x2 = 0
    · rw [if_pos h0, if_pos (by rw [h0]; decide)]; exact go (Or.inl h0)
    · rw [if_neg h0]
      by_cases h1 : x2 = 1
      · rw [if_pos (show 0 ≤ x2 ∧ x2 ≤ 1 by rw [h1]; decide), if_neg (fun q => q h1)]; exact go (Or.inr h1)
      · rw [if_pos h1, if_neg]
        · exact Sim.ret h
        · rintro ⟨q1, q2⟩
          rw [Int32.le_iff_toInt_le] at q1 q2
          have e0 : (0 : Int32).toInt = 0 := rfl
          have e1 : (1 : Int32).toInt = 1 := rfl
          have : x2.toInt = 0 ∨ x2.toInt = 1 := by omega
          rcases this with q | q
          · exact h0 (Int32.toInt_inj.mp q)
          · exact h1 (Int32.toInt_inj.mp q)
  · rw [if_neg g1]
    by_cases q : x1 < 0
    · rw [if_pos q]; exact Sim.ret h
    · rw [if_neg q, if_pos]
      · exact Sim.ret h
      · rw [← Int32.not_le]
        exact fun q2 => g1 ⟨Int32.not_lt.mp q, q2⟩
theorem S_way (h : Rel c r) (hN : 5000 < N) (x1 : Int32) : Sim (C_way N c x1) (R_way N r x1) := by
  unfold C_way R_way R_way_p11
  simp only [C_within_eq, R_in_eq, Option.bind_some, if_bz, if_nbz, bind_id, bind_eta]
  by_cases g1 : 0 ≤ x1 ∧ x1 ≤ 300
  · rw [if_pos g1, if_neg (Int32.not_lt.mpr g1.1), if_pos g1.2]
    obtain ⟨vb, c1, rx, y1, _, y3, _⟩ := lost_same h hN x1 1 g1 (Or.inr rfl)
    have h1 : Rel c1 r := h.fr y3 (Fm.refl _ _ r)
    obtain ⟨vo, c2, r1, z1, z2, z3, z4⟩ := lost_same h1 hN x1 0 g1 (Or.inl rfl)
    have h2 : Rel c r1 := h.fr (Fm.refl _ _ c) z4
    obtain ⟨vb2, cx, r2, w1, w2, w3, w4⟩ := lost_same h2 hN x1 1 g1 (Or.inr rfl)
    have e := y1.symm.trans w1
    simp only [Option.some.injEq, Prod.mk.injEq] at e
    rw [y1, Option.bind_some, z1, Option.bind_some, z2, Option.bind_some, w2, Option.bind_some, e.1]
    have hR : Rel c2 r2 := h.fr (y3.trans z3) (z4.trans w4)
    refine Sim.ite (fun _ => Sim.ret hR) (fun _ => Sim.ret hR)
  · rw [if_neg g1]
    by_cases q : x1 < 0
    · rw [if_pos q]; exact Sim.ret h
    · rw [if_neg q, if_neg]
      · exact Sim.ret h
      · exact fun q2 => g1 ⟨Int32.not_lt.mp q, q2⟩
end LO
