/-! PURE: first, lost, way -/
theorem mks_u {u : Nat → Bool} {l : List Nat} (h : ∀ x, x ∈ l → u x = true) (j : Nat) (e : u j = false) : mks l j = false := mks_false (fun x hx q => by have := h x hx; rw [q, e] at this; cases this)
theorem take_ok {N : Nat} {c : St} (hl : LenC c) : ∃ c1, Air_takeFrom N c = some c1 ∧ Fm scI scA c c1 ∧ gA c1 8 = gA c 5 ∧ gA c1 9 = gA c 6 ∧ gI c1 4 = gI c 3 := by
  have l5 : (gA c 5).length = 12 := hl.1 5
  have l8 : (gA c 8).length = 12 := hl.1 8
  have l6 : (gA c 6).length = 20 := hl.1 6
  have l9 : (gA c 9).length = 20 := hl.1 9
  have e1 : cpy (gA c 5) (gA c 8) 0 0 12 = some (gA c 5) := cpy_all (n := 12) l5 l8 (by decide)
  have e2 : cpy (gA c 6) (gA c 9) 0 0 20 = some (gA c 6) := cpy_all (n := 20) l6 l9 (by decide)
  refine ⟨sI (sA (sA c 8 (gA c 5)) 9 (gA c 6)) 4 (gI c 3), ?_, Fm.sI (k := 4) (Fm.sA (k := 9) (Fm.sA (k := 8) (Fm.refl scI scA c) rfl (by omega)) rfl (l6.trans l9.symm)) rfl, rfl, rfl, rfl⟩
  unfold Air_takeFrom
  rw [e1, Option.bind_some]
  exact (congrArg (fun o => Option.bind o _) e2).trans rfl
theorem above_same {N : Nat} {c r : St} (hN : 100 < N) (hl : (gA c 8).length = 12) (e : gA c 8 = gA r 29) (x : Int32) : ∃ v, Air_firstAbove N c x = some v ∧ R_above N r x = some v := by
  unfold Air_firstAbove R_above
  refine for_up (P := fun f k => ∃ v, Air_firstAbove_p2 N c f x (nI k) = some v ∧ R_above_p2 N r f x (nI k) = some v) (m := 12) ?_ ?_ N 0 (by omega) (by omega)
  · intro f
    refine ⟨-1, ?_, ?_⟩
    · show Air_firstAbove_p2b _ _ _ _ _ = _
      unfold Air_firstAbove_p2b
      rw [if_pos (show (12 : Int32) ≤ nI 12 by decide)]
    · show R_above_p2b _ _ _ _ _ = _
      unfold R_above_p2b
      rw [if_pos (show (12 : Int32) ≤ nI 12 by decide)]
  · intro f k hk ih
    show ∃ v, Air_firstAbove_p2b _ _ _ _ _ = _ ∧ R_above_p2b _ _ _ _ _ = _
    unfold Air_firstAbove_p2b R_above_p2b
    rw [if_neg (show ¬ (12 : Int32) ≤ nI k from nI_on (m := 12) hk (by decide)), if_neg (show ¬ (12 : Int32) ≤ nI k from nI_on (m := 12) hk (by decide)), ← e, ld_nI (by omega) (by omega), Option.bind_some, Option.bind_some, nI_1]
    by_cases g : (gA c 8).getD k 0 ≤ x
    · rw [if_pos g, if_pos g]; exact ih
    · rw [if_neg g, if_neg g]; exact ⟨_, rfl, rfl⟩
section FL
variable {N n : Nat} {c r : St}
/-- the trial stands as the reference's now -/
def Tr (n : Nat) (c r : St) : Prop := gA c 8 = gA r 29 ∧ bnd (gA c 8) 12 (-300) 600 ∧ (∀ l, l < n → (gA c 9).getD l 0 = (gA r 31).getD l 0) ∧ gI c 4 = gI r 27
theorem trial_start (h : Rel c r) (hF : Fix n c r) (hN : 100 < N) : ∃ c1 r1, Air_takeFrom N c = some c1 ∧ R_startAsNow N r = some r1 ∧ Fm scI scA c c1 ∧ Fm srI srA r r1 ∧ Tr n c1 r1 ∧ gI r1 28 = gI c 1 ∧ gI r1 29 = gI c 2 := by
  obtain ⟨t1, t2, t3, t4⟩ := h.rNow
  obtain ⟨v1, v2, v3, v4, v5, v6⟩ := h.rCell
  obtain ⟨s1, s2, s3, s4, s5, s6⟩ := h.rEng
  obtain ⟨m, q1, q2, q3, q4, q5, q6, q7, q8, q9, q10, q11⟩ := h.rLots
  obtain ⟨c1, a1, a2, a3, a4, a5⟩ := take_ok (N := N) h.lenC
  obtain ⟨r1, b1, b2, b3, b4, b5, b6, b7⟩ := start_ok (N := N) hN h.lenR hF.2.2.2.2.2.1 hF.2.2.2.2.2.2.2.1
  refine ⟨c1, r1, a1, b1, a2, b2.mono (mks_u (by decide)) (mks_u (by decide)), ⟨?_, ?_, ?_, ?_⟩, ?_, ?_⟩
  · rw [a3, b3]; exact v5
  · rw [a3]; exact v6
  · intro l hl; rw [a4, b4 l hl, q7]
  · rw [a5, b5]; exact s5
  · rw [b6]; exact t1.symm
  · rw [b7]; exact t3.symm
theorem Tr.hour (hT : Tr n c r) (hF : Fix n c r) (hN : 100 < N) (sea s : Int32) (hsea : ib sea (-50) 400) (hs : (s = 0 ∧ gI r 29 ≤ gI r 28) ∨ (s = 1 ∧ ¬ gI r 29 ≤ gI r 28)) : ∃ v c1 c2 r1, Air_pass_2 N c sea s = some (v, c1) ∧ Lots_spoilIn_2 N c1 = some c2 ∧ R_anHour N r sea = some (v, r1) ∧ Fm scI scA c c2 ∧ Fm srI srA r r1 ∧ Tr n c2 r1 ∧ gI r1 28 = gI r 28 + 1 ∧ gI r1 29 = gI r 29 := by
  obtain ⟨h1, h2, h3, h4⟩ := hT
  obtain ⟨v, c1, c2, r1, a1, a2, a3, _, a5, a6, a7, a8, a9, a10, a11, a12, a13⟩ := hour_same_2 (N := N) hN hF h1 h2 h3 h4 sea s hsea hs
  exact ⟨v, c1, c2, r1, a1, a2, a3, a5.mono (mks_u (by decide)) (mks_u (by decide)), a6.mono (mks_u (by decide)) (mks_u (by decide)), ⟨a7, a8, a9, a11⟩, a12, a6.1 29 rfl⟩
/-- the air of the trial alone -/
theorem pass_same (hF : Fix n c r) (hN : 100 < N) (hW : gA c 8 = gA r 29) (hWb : bnd (gA c 8) 12 (-300) 600) (hco : gI c 4 = gI r 27) (sea s : Int32) (hsea : ib sea (-50) 400) (hs : (s = 0 ∧ gI r 29 ≤ gI r 28) ∨ (s = 1 ∧ ¬ gI r 29 ≤ gI r 28)) : ∃ v c1 r1, Air_pass_2 N c sea s = some (v, c1) ∧ R_anHour N r sea = some (v, r1) ∧ Fm scI scA c c1 ∧ Fm srI srA r r1 ∧ gA c1 8 = gA r1 29 ∧ bnd (gA c1 8) 12 (-300) 600 ∧ gI c1 4 = gI r1 27 ∧ gI r1 28 = gI r 28 + 1 ∧ gI r1 29 = gI r 29 := by
  have hF0 := hF
  obtain ⟨hc, hr, h3, ⟨t1, t2, t3, t4⟩, ⟨s1, s2, s3, s4⟩, q1, q2, q3, q4, q5, q6⟩ := hF
  have hs01 : s = 0 ∨ s = 1 := hs.elim (fun a => Or.inl a.1) (fun a => Or.inr a.1)
  obtain ⟨c1, a1, a2, a3, a4⟩ := Air_pass_2_ok (N := N) (lk := gI r 0) (cd := gI r 1) (bn := gI r 2) hN hc s1 t4 sea s hs01
  have hv : (if s = 0 ∨ gI c 4 < gI r 2 then (0 : Int32) else 1) = if gI r 27 < gI r 2 then 0 else if gI r 29 ≤ gI r 28 then 0 else 1 := by
    rw [hco]
    by_cases g1 : gI r 27 < gI r 2
    · rw [if_pos (Or.inr g1), if_pos g1]
    · rw [if_neg g1]
      rcases hs with ⟨e, g2⟩ | ⟨e, g2⟩
      · rw [if_pos (Or.inl e), if_pos g2]
      · rw [if_neg g2, if_neg]
        rintro (q | q)
        · rw [e] at q; exact absurd q (by decide)
        · exact g1 q
  obtain ⟨r1, d1, d2, d3, d4, d5, d6⟩ := R_hour_ok (N := N) (n := n) (r := r) hN hr q1 q3 (by rw [← q5]; exact q6) (by rw [← t1]; exact t2) s2 s3 (by rw [← hW]; exact hWb) sea hsea _ hv
  refine ⟨_, c1, r1, a1, d1, a2.mono (mks_u (by decide)) (mks_u (by decide)), d2.mono (mks_u (by decide)) (mks_u (by decide)), ?_, ?_, ?_, d5, d2.1 29 rfl⟩
  · have l1 : (gA c1 8).length = 12 := (a2.len _).trans (hc.1 8)
    have l2 : (gA r1 29).length = 12 := (d2.len _).trans (hr.1 29)
    refine list_ext (by omega) (fun k hk => ?_)
    rw [a3 k (by omega), d3 k (by omega), t1, t3, hW]
  · intro k hk
    rw [a3 k hk]
    exact nxw_bnd s2 s3 hsea t2 hWb hk
  · rw [a4, d4, hco]
    by_cases g : s = 0 ∨ gI r 27 < gI r 2
    · rw [if_pos g, if_pos g, if_pos rfl]
    · rw [if_neg g, if_neg g, if_neg (by decide)]
theorem sc_fix1 : scI 0 = false ∧ scI 5 = false ∧ scA 0 = false ∧ scA 1 = false ∧ scA 2 = false ∧ scA 3 = false ∧ scA 4 = false ∧ scA 11 = false ∧ scA 12 = false := by decide
theorem sc_fix2 : srI 0 = false ∧ srI 1 = false ∧ srI 2 = false ∧ srI 6 = false ∧ srI 7 = false ∧ srA 1 = false ∧ srA 2 = false ∧ srA 3 = false ∧ srA 4 = false ∧ srA 5 = false ∧ srA 6 = false := by decide
theorem S_first (h : Rel c r) (hN : 1000 < N) (x1 x2 : Int32) : Sim (C_first N c x1 x2) (R_first N r x1 x2) := by
  obtain ⟨n, hF⟩ := h.fix
  obtain ⟨t1, t2, t3, t4⟩ := h.rNow
  unfold C_first C_first_p18 C_isWarmth R_first R_first_p24
  simp only [C_within_eq, R_in_eq, Option.bind_some, if_bz, if_nbz, bind_id, bind_eta]
  refine Sim.ite (fun g1 => Sim.ite (fun g2 => ?_) (fun _ => Sim.ret h)) (fun _ => Sim.ret h)
  obtain ⟨c1, r1, a1, a2, a3, a4, ⟨b1, b2, b3, b4⟩, a6, a7⟩ := trial_start (N := N) h hF (by omega)
  rw [a1, a2, Option.bind_some, Option.bind_some]
  have e1' : (1 : Int32).toInt = 1 := rfl
  have e3' : (300 : Int32).toInt = 300 := rfl
  obtain ⟨M, rfl, hM⟩ := nat_in g2
  have main : ∀ (f k : Nat), k ≤ M → M - k < f → (M + 1 - k < f → ∀ (c2 r2 : St) (cl : Int32), Fm scI scA c c2 → Fm srI srA r r2 → gA c2 8 = gA r2 29 → bnd (gA c2 8) 12 (-300) 600 → gI c2 4 = gI r2 27 → gI r2 28 = gI c 1 + nI k → gI r2 29 = gI c 2 → Air_firstAbove N c2 x1 = some cl → Sim (C_first_p44 N f c2 x1 (nI M) cl (nI k)) (R_first_p33 N f r2 x1 (nI M) (nI k))) := by
    refine for_up (P := fun f k => M + 1 - k < f → ∀ (c2 r2 : St) (cl : Int32), Fm scI scA c c2 → Fm srI srA r r2 → gA c2 8 = gA r2 29 → bnd (gA c2 8) 12 (-300) 600 → gI c2 4 = gI r2 27 → gI r2 28 = gI c 1 + nI k → gI r2 29 = gI c 2 → Air_firstAbove N c2 x1 = some cl → Sim (C_first_p44 N f c2 x1 (nI M) cl (nI k)) (R_first_p33 N f r2 x1 (nI M) (nI k))) ?_ ?_
    · intro f hf c2 r2 cl fc fr i1 i2 i3 i4 i5 i6
      obtain ⟨v, y1, y2⟩ := above_same (N := N) (c := c2) (r := r2) (by omega) ((fc.len 8).trans (h.lenC.1 8)) i1 x1
      rw [i6] at y1
      simp only [Option.some.injEq] at y1
      subst y1
      show Sim (C_first_p44b _ _ _ _ _ _ _) (R_first_p33b _ _ _ _ _ _)
      unfold C_first_p44b C_first_p120 R_first_p33b
      rw [if_neg (nI_nlt (Nat.le_refl M) (by omega)), y2, Option.bind_some, if_pos (nI_stop M)]
      by_cases hc1 : cl = -1
      · rw [if_neg (fun q => q hc1), if_neg (fun q => q hc1), if_pos hc1]
        have hF2 : Fix n c2 r2 := hF.fr fc fr sc_fix1 sc_fix2
        have ek : (nI M).toInt = M := nI_toInt (by omega)
        have e28 : (gI c 1 + nI M).toInt = (gI c 1).toInt + M := by rw [add_toInt (by omega) (by omega), ek]
        obtain ⟨sea, w1, w2, w3⟩ := sea_same (N := N) (c := c2) (r := r2) hF2.2.2.1 ((fc.len 3).trans (h.lenC.1 3)) ((fc.len 4).trans (h.lenC.1 4)) (by omega) (gI r2 28) (by rw [i4, e28]; omega)
        obtain ⟨v, c3, r3, z1, z2, z3, z4, z5⟩ := pass_same (N := N) hF2 (by omega) i1 i2 i3 sea (if gI r2 29 ≤ gI r2 28 then 0 else 1) w3 (by by_cases q : gI r2 29 ≤ gI r2 28; rw [if_pos q]; exact Or.inl ⟨rfl, q⟩; rw [if_neg q]; exact Or.inr ⟨rfl, q⟩)
        rw [w2, Option.bind_some, z2, Option.bind_some, nI_1]
        cases f with
        | zero => omega
        | succ f =>
          show Sim _ (R_first_p33b _ _ _ _ _ _)
          unfold R_first_p33b
          rw [if_pos (nI_lt (by omega) (by omega))]
          exact ⟨_, _, _, rfl, rfl, h.fr fc (fr.trans z4)⟩
      · rw [if_pos hc1, if_pos hc1, if_neg hc1]
        exact ⟨_, _, _, rfl, rfl, h.fr fc fr⟩
    · intro f k hk ih hf c2 r2 cl fc fr i1 i2 i3 i4 i5 i6
      obtain ⟨v, y1, y2⟩ := above_same (N := N) (c := c2) (r := r2) (by omega) ((fc.len 8).trans (h.lenC.1 8)) i1 x1
      rw [i6] at y1
      simp only [Option.some.injEq] at y1
      subst y1
      show Sim (C_first_p44b _ _ _ _ _ _ _) (R_first_p33b _ _ _ _ _ _)
      unfold C_first_p44b C_first_p120 C_first_p101 R_first_p33b
      rw [if_neg (nI_nlt (show k ≤ M by omega) (by omega)), y2, Option.bind_some, if_neg (nI_on hk (by omega))]
      by_cases hc1 : cl = -1
      · rw [if_neg (fun q => q hc1), if_pos hc1]
        have hF2 : Fix n c2 r2 := hF.fr fc fr sc_fix1 sc_fix2
        have ek : (nI k).toInt = k := nI_toInt (by omega)
        have e28 : (gI c 1 + nI k).toInt = (gI c 1).toInt + k := by rw [add_toInt (by omega) (by omega), ek]
        obtain ⟨sea, w1, w2, w3⟩ := sea_same (N := N) (c := c2) (r := r2) hF2.2.2.1 ((fc.len 3).trans (h.lenC.1 3)) ((fc.len 4).trans (h.lenC.1 4)) (by omega) (gI r2 28) (by rw [i4, e28]; omega)
        have hk1 : gI c2 1 + nI k = gI r2 28 := by rw [fc.1 1 rfl, i4]
        have hk2 : gI c2 2 = gI r2 29 := by rw [fc.1 2 rfl, i5]
        rw [hk1, hk2, w1, w2, Option.bind_some, Option.bind_some]
        have hgo : ∀ s : Int32, ((s = 0 ∧ gI r2 29 ≤ gI r2 28) ∨ (s = 1 ∧ ¬ gI r2 29 ≤ gI r2 28)) → Sim ((Air_pass_2 N c2 sea s).bind fun p12 => (Air_firstAbove N p12.2 x1).bind fun p13 => C_first_p44 N f p12.2 x1 (nI M) p13 (nI k + 1)) ((R_anHour N r2 sea).bind fun p10 => R_first_p33 N f p10.2 x1 (nI M) (nI k + 1)) := by
          intro s hs
          obtain ⟨v, c3, r3, z1, z2, z3, z4, z5, z6, z7, z8, z9⟩ := pass_same (N := N) hF2 (by omega) i1 i2 i3 sea s w3 hs
          obtain ⟨v2, y3, y4⟩ := above_same (N := N) (c := c3) (r := r3) (by omega) (((fc.trans z3).len 8).trans (h.lenC.1 8)) z5 x1
          rw [z1, z2, Option.bind_some, Option.bind_some, y3, Option.bind_some, nI_1]
          exact ih (by omega) c3 r3 v2 (fc.trans z3) (fr.trans z4) z5 z6 z7 (by rw [z8, i4, Int32.add_assoc, nI_1]) (by rw [z9]; exact i5) y3
        by_cases g : gI r2 29 ≤ gI r2 28
        · rw [if_pos g]; exact hgo 0 (Or.inl ⟨rfl, g⟩)
        · rw [if_neg g]; exact hgo 1 (Or.inr ⟨rfl, g⟩)
      · rw [if_pos hc1, if_pos hc1, if_neg hc1]
        exact ⟨_, _, _, rfl, rfl, h.fr fc fr⟩
  obtain ⟨v, y1, y2⟩ := above_same (N := N) (c := c1) (r := r1) (by omega) ((a3.len 8).trans (h.lenC.1 8)) b1 x1
  rw [y1, Option.bind_some]
  exact main N 0 (by omega) (by omega) (by omega) c1 r1 v a3 a4 b1 b2 b4 (by rw [a6]; exact (Int32.add_zero _).symm) a7 y1
end FL
