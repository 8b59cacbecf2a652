/-! PURE: hours (written by gen39.py) -/
def Fix (n : Nat) (c r : St) : Prop := LenC c ∧ LenR r ∧ RHold c r ∧ (gA c 0 = gA r 1 ∧ bnd (gA c 0) 12 0 20 ∧ gA c 1 = gA r 2 ∧ bnd (gA c 1) 12 0 1) ∧ (gA c 2 = [gI r 0, gI r 1, gI r 2] ∧ ib (gI r 0) 0 20 ∧ ib (gI r 1) 0 60 ∧ ib (gI r 2) 1 9) ∧ (n ≤ 20 ∧ gI c 5 = nI n ∧ gI r 7 = nI n ∧ gA c 11 = gA r 5 ∧ gA c 12 = gA r 6 ∧ bnd (gA c 12) n 0 11)
theorem Fix.fr {n : Nat} {u w u2 w2 : Nat → Bool} {c r c1 r1 : St} (h : Fix n c r) (hc : Fm u w c c1) (hr : Fm u2 w2 r r1) (m1 : u 0 = false ∧ u 5 = false ∧ w 0 = false ∧ w 1 = false ∧ w 2 = false ∧ w 3 = false ∧ w 4 = false ∧ w 11 = false ∧ w 12 = false) (m2 : u2 0 = false ∧ u2 1 = false ∧ u2 2 = false ∧ u2 6 = false ∧ u2 7 = false ∧ w2 1 = false ∧ w2 2 = false ∧ w2 3 = false ∧ w2 4 = false ∧ w2 5 = false ∧ w2 6 = false) : Fix n c1 r1 := by
  obtain ⟨a1, a2, a3, a4, a5, a6, a7, a8, a9⟩ := m1
  obtain ⟨b1, b2, b3, b4, b5, b6, b7, b8, b9, b10, b11⟩ := m2
  obtain ⟨h1, h2, h3, h4, h5, h6⟩ := h
  refine ⟨LenC_fr h1 hc, LenR_fr h2 hr, h3.frg hc hr (by simp only [a1, a6, a7, b4, b8, b9, and_self]), ?_, ?_, ?_⟩
  · rw [hc.2.1 0 a3, hc.2.1 1 a4, hr.2.1 1 b6, hr.2.1 2 b7]; exact h4
  · rw [hc.2.1 2 a5, hr.1 0 b1, hr.1 1 b2, hr.1 2 b3]; exact h5
  · rw [hc.1 5 a2, hr.1 7 b5, hc.2.1 11 a8, hc.2.1 12 a9, hr.2.1 5 b10, hr.2.1 6 b11]; exact h6
theorem Rel.fix {c r : St} (h : Rel c r) : ∃ n, Fix n c r := by
  obtain ⟨n, q1, q2, q3, q4, q5, q6, q7, q8, q9, q10, q11⟩ := h.rLots
  obtain ⟨t1, t2, t3, t4, t5, t6⟩ := h.rCell
  obtain ⟨s1, s2, s3, s4, s5, s6⟩ := h.rEng
  exact ⟨n, h.lenC, h.lenR, h.rHold, ⟨t1, t2, t3, t4⟩, ⟨s1, s2, s3, s4⟩, q1, q2, q3, q4, q5, q9⟩
theorem hour_same {N n : Nat} {c r : St} (hN : 100 < N) (hF : Fix n c r) (hW : gA c 5 = gA r 29) (hWb : bnd (gA c 5) 12 (-300) 600) (hrot : ∀ l, l < n → (gA c 6).getD l 0 = (gA r 31).getD l 0) (hco : gI c 3 = gI r 27) (sea s : Int32) (hsea : ib sea (-50) 400) (hs : (s = 0 ∧ gI r 29 ≤ gI r 28) ∨ (s = 1 ∧ ¬ gI r 29 ≤ gI r 28)) : ∃ v c1 c2 r1, Air_pass N c sea s = some (v, c1) ∧ Lots_spoilIn N c1 = some c2 ∧ R_anHour N r sea = some (v, r1) ∧ (v = 0 ∨ v = 1) ∧ Fm (mks [3]) (mks [5, 7, 6]) c c2 ∧ Fm (mks [27, 28]) (mks [29, 30, 31]) r r1 ∧ gA c2 5 = gA r1 29 ∧ bnd (gA c2 5) 12 (-300) 600 ∧ (∀ l, l < n → (gA c2 6).getD l 0 = (gA r1 31).getD l 0) ∧ (∀ l, ¬ l < n → (gA c2 6).getD l 0 = (gA c 6).getD l 0) ∧ gI c2 3 = gI r1 27 ∧ gI r1 28 = gI r 28 + 1 ∧ (gI c2 3 = gI c 3 ∨ (¬ gI c 3 < gI r 2 ∧ gI c2 3 = gI c 3 - gI r 2)) := by
  have hF0 := hF
  obtain ⟨hc, hr, h3, ⟨t1, t2, t3, t4⟩, ⟨s1, s2, s3, s4⟩, q1, q2, q3, q4, q5, q6⟩ := hF
  have hs01 : s = 0 ∨ s = 1 := hs.elim (fun a => Or.inl a.1) (fun a => Or.inr a.1)
  obtain ⟨c1, a1, a2, a3, a4⟩ := Air_pass_ok (N := N) (lk := gI r 0) (cd := gI r 1) (bn := gI r 2) hN hc s1 t4 sea s hs01
  have hbW : bnd (gA c1 5) 12 (-300) 600 := fun k hk => by
    rw [a3 k hk]
    exact nxw_bnd s2 s3 hsea t2 hWb hk
  obtain ⟨c2, b1, b2, b3⟩ := Lots_spoilIn_ok (N := N) (n := n) (c := c1) hN (LenC_fr hc a2) q1 ((a2.1 5 rfl).trans q2) (by rw [a2.2.1 12 rfl]; exact q6) hbW
  have hv : (if s = 0 ∨ gI c 3 < gI r 2 then (0 : Int32) else 1) = if gI r 27 < gI r 2 then 0 else if gI r 29 ≤ gI r 28 then 0 else 1 := by
    rw [hco]
    by_cases g1 : gI r 27 < gI r 2
    · rw [if_pos (Or.inr g1), if_pos g1]
    · rw [if_neg g1]
      rcases hs with ⟨e, g2⟩ | ⟨e, g2⟩
      · rw [if_pos (Or.inl e), if_pos g2]
      · rw [if_neg g2, if_neg]
        rintro (q | q)
        · rw [e] at q; exact absurd q (by decide)
        · exact g1 q
  obtain ⟨r1, d1, d2, d3, d4, d5, d6⟩ := R_hour_ok (N := N) (n := n) (r := r) hN hr q1 q3 (by rw [← q5]; exact q6) (by rw [← t1]; exact t2) s2 s3 (by rw [← hW]; exact hWb) sea hsea _ hv
  have hWn : gA c1 5 = gA r1 29 := by
    have l1 : (gA c1 5).length = 12 := (a2.len _).trans (hc.1 5)
    have l2 : (gA r1 29).length = 12 := (d2.len _).trans (hr.1 29)
    refine list_ext (by omega) (fun k hk => ?_)
    rw [a3 k (by omega), d3 k (by omega), t1, t3, hW]
  have hb2W : gA c2 5 = gA c1 5 := b2.2.1 5 rfl
  refine ⟨_, c1, c2, r1, a1, b1, d1, ?_, ?_, d2, ?_, ?_, ?_, ?_, ?_, d5, ?_⟩
  · split
    · exact Or.inl rfl
    · exact Or.inr rfl
  · exact (a2.mono (fun _ e => e) (mks_sub (by decide))).trans (b2.mono (fun _ _ => rfl) (mks_sub (by decide)))
  · rw [hb2W]; exact hWn
  · rw [hb2W]; exact hbW
  · intro l hl
    rw [b3 l, if_pos hl, d6 l, if_pos hl, a2.2.1 6 rfl, hrot l hl, hWn, a2.2.1 11 rfl, a2.2.1 12 rfl, q4, q5]
  · intro l hl
    rw [b3 l, if_neg hl, a2.2.1 6 rfl]
  · rw [b2.1 3 rfl, a4, d4, hco]
    by_cases g : s = 0 ∨ gI r 27 < gI r 2
    · rw [if_pos g, if_pos g, if_pos rfl]
    · rw [if_neg g, if_neg g, if_neg (by decide)]
  · rw [b2.1 3 rfl, a4]
    by_cases g : s = 0 ∨ gI c 3 < gI r 2
    · rw [if_pos g]; exact Or.inl rfl
    · rw [if_neg g]; exact Or.inr ⟨fun q => g (Or.inr q), rfl⟩
theorem hour_same_2 {N n : Nat} {c r : St} (hN : 100 < N) (hF : Fix n c r) (hW : gA c 8 = gA r 29) (hWb : bnd (gA c 8) 12 (-300) 600) (hrot : ∀ l, l < n → (gA c 9).getD l 0 = (gA r 31).getD l 0) (hco : gI c 4 = gI r 27) (sea s : Int32) (hsea : ib sea (-50) 400) (hs : (s = 0 ∧ gI r 29 ≤ gI r 28) ∨ (s = 1 ∧ ¬ gI r 29 ≤ gI r 28)) : ∃ v c1 c2 r1, Air_pass_2 N c sea s = some (v, c1) ∧ Lots_spoilIn_2 N c1 = some c2 ∧ R_anHour N r sea = some (v, r1) ∧ (v = 0 ∨ v = 1) ∧ Fm (mks [4]) (mks [8, 10, 9]) c c2 ∧ Fm (mks [27, 28]) (mks [29, 30, 31]) r r1 ∧ gA c2 8 = gA r1 29 ∧ bnd (gA c2 8) 12 (-300) 600 ∧ (∀ l, l < n → (gA c2 9).getD l 0 = (gA r1 31).getD l 0) ∧ (∀ l, ¬ l < n → (gA c2 9).getD l 0 = (gA c 9).getD l 0) ∧ gI c2 4 = gI r1 27 ∧ gI r1 28 = gI r 28 + 1 ∧ (gI c2 4 = gI c 4 ∨ (¬ gI c 4 < gI r 2 ∧ gI c2 4 = gI c 4 - gI r 2)) := by
  have hF0 := hF
  obtain ⟨hc, hr, h3, ⟨t1, t2, t3, t4⟩, ⟨s1, s2, s3, s4⟩, q1, q2, q3, q4, q5, q6⟩ := hF
  have hs01 : s = 0 ∨ s = 1 := hs.elim (fun a => Or.inl a.1) (fun a => Or.inr a.1)
  obtain ⟨c1, a1, a2, a3, a4⟩ := Air_pass_2_ok (N := N) (lk := gI r 0) (cd := gI r 1) (bn := gI r 2) hN hc s1 t4 sea s hs01
  have hbW : bnd (gA c1 8) 12 (-300) 600 := fun k hk => by
    rw [a3 k hk]
    exact nxw_bnd s2 s3 hsea t2 hWb hk
  obtain ⟨c2, b1, b2, b3⟩ := Lots_spoilIn_2_ok (N := N) (n := n) (c := c1) hN (LenC_fr hc a2) q1 ((a2.1 5 rfl).trans q2) (by rw [a2.2.1 12 rfl]; exact q6) hbW
  have hv : (if s = 0 ∨ gI c 4 < gI r 2 then (0 : Int32) else 1) = if gI r 27 < gI r 2 then 0 else if gI r 29 ≤ gI r 28 then 0 else 1 := by
    rw [hco]
    by_cases g1 : gI r 27 < gI r 2
    · rw [if_pos (Or.inr g1), if_pos g1]
    · rw [if_neg g1]
      rcases hs with ⟨e, g2⟩ | ⟨e, g2⟩
      · rw [if_pos (Or.inl e), if_pos g2]
      · rw [if_neg g2, if_neg]
        rintro (q | q)
        · rw [e] at q; exact absurd q (by decide)
        · exact g1 q
  obtain ⟨r1, d1, d2, d3, d4, d5, d6⟩ := R_hour_ok (N := N) (n := n) (r := r) hN hr q1 q3 (by rw [← q5]; exact q6) (by rw [← t1]; exact t2) s2 s3 (by rw [← hW]; exact hWb) sea hsea _ hv
  have hWn : gA c1 8 = gA r1 29 := by
    have l1 : (gA c1 8).length = 12 := (a2.len _).trans (hc.1 8)
    have l2 : (gA r1 29).length = 12 := (d2.len _).trans (hr.1 29)
    refine list_ext (by omega) (fun k hk => ?_)
    rw [a3 k (by omega), d3 k (by omega), t1, t3, hW]
  have hb2W : gA c2 8 = gA c1 8 := b2.2.1 8 rfl
  refine ⟨_, c1, c2, r1, a1, b1, d1, ?_, ?_, d2, ?_, ?_, ?_, ?_, ?_, d5, ?_⟩
  · split
    · exact Or.inl rfl
    · exact Or.inr rfl
  · exact (a2.mono (fun _ e => e) (mks_sub (by decide))).trans (b2.mono (fun _ _ => rfl) (mks_sub (by decide)))
  · rw [hb2W]; exact hWn
  · rw [hb2W]; exact hbW
  · intro l hl
    rw [b3 l, if_pos hl, d6 l, if_pos hl, a2.2.1 9 rfl, hrot l hl, hWn, a2.2.1 11 rfl, a2.2.1 12 rfl, q4, q5]
  · intro l hl
    rw [b3 l, if_neg hl, a2.2.1 9 rfl]
  · rw [b2.1 4 rfl, a4, d4, hco]
    by_cases g : s = 0 ∨ gI r 27 < gI r 2
    · rw [if_pos g, if_pos g, if_pos rfl]
    · rw [if_neg g, if_neg g, if_neg (by decide)]
  · rw [b2.1 4 rfl, a4]
    by_cases g : s = 0 ∨ gI c 4 < gI r 2
    · rw [if_pos g]; exact Or.inl rfl
    · rw [if_neg g]; exact Or.inr ⟨fun q => g (Or.inr q), rfl⟩
theorem start_ok {N n : Nat} {r : St} (hN : 100 < N) (hl : LenR r) (hn : n ≤ 20) (e7 : gI r 7 = nI n) : ∃ r1, R_startAsNow N r = some r1 ∧ Fm (mks [27, 28, 29]) (mks [29, 31]) r r1 ∧ gA r1 29 = gA r 0 ∧ (∀ l, l < n → (gA r1 31).getD l 0 = (gA r 7).getD l 0) ∧ gI r1 27 = gI r 3 ∧ gI r1 28 = gI r 4 ∧ gI r1 29 = gI r 5 := by
  have l0 : (gA r 0).length = 12 := hl.1 0
  have l7 : (gA r 7).length = 20 := hl.1 7
  have key : ∀ r2, Fm (mks [27, 28, 29]) (mks [29, 31]) r r2 → gA r2 29 = gA r 0 → ∃ r1, R_startAsNow_p28 N N r2 0 = some r1 ∧ Fm (mks [27, 28, 29]) (mks [29, 31]) r r1 ∧ gA r1 29 = gA r 0 ∧ (∀ l, l < n → (gA r1 31).getD l 0 = (gA r 7).getD l 0) ∧ gI r1 27 = gI r 3 ∧ gI r1 28 = gI r 4 ∧ gI r1 29 = gI r 5 := by
    intro r2 f2 h2
    refine for_up (P := fun f k => ∀ r3, Fm (mks [27, 28, 29]) (mks [29, 31]) r r3 → gA r3 29 = gA r 0 → (∀ l, l < k → (gA r3 31).getD l 0 = (gA r 7).getD l 0) → ∃ r1, R_startAsNow_p28 N f r3 (nI k) = some r1 ∧ Fm (mks [27, 28, 29]) (mks [29, 31]) r r1 ∧ gA r1 29 = gA r 0 ∧ (∀ l, l < n → (gA r1 31).getD l 0 = (gA r 7).getD l 0) ∧ gI r1 27 = gI r 3 ∧ gI r1 28 = gI r 4 ∧ gI r1 29 = gI r 5) (m := n) ?_ ?_ N 0 (by omega) (by omega) r2 f2 h2 (fun l hl => absurd hl (Nat.not_lt_zero l))
    · intro f r3 f3 h3 g3
      refine ⟨sI (sI (sI r3 27 (gI r3 3)) 28 (gI r3 4)) 29 (gI r3 5), ?_, ((f3.sI rfl).sI rfl).sI rfl, h3, g3, (f3.1 3 rfl : gI r3 3 = gI r 3), (f3.1 4 rfl : gI r3 4 = gI r 4), (f3.1 5 rfl : gI r3 5 = gI r 5)⟩
      show R_startAsNow_p28b _ _ _ _ = _
      unfold R_startAsNow_p28b
      rw [f3.1 7 rfl, e7, if_pos (nI_stop n)]
      rfl
    · intro f k hk ih r3 f3 h3 g3
      have l31 : (gA r3 31).length = 20 := (f3.len _).trans (hl.1 31)
      show ∃ r1, R_startAsNow_p28b _ _ _ _ = _ ∧ _
      unfold R_startAsNow_p28b
      rw [f3.1 7 rfl, e7, if_neg (nI_on hk (by omega)), f3.2.1 7 rfl, ld_nI (by omega) (by omega), Option.bind_some, sto_nI (by omega) (by omega), Option.bind_some, nI_1]
      refine ih _ (f3.sA rfl List.length_set) h3 (fun l hl2 => ?_)
      rw [gA_sA_same, getD_set (by omega)]
      split
      · rename_i q; rw [q]
      · exact g3 l (by omega)
  unfold R_startAsNow
  refine for_up (P := fun f k => ∀ r3, Fm (mks [27, 28, 29]) (mks [29, 31]) r r3 → (∀ l, l < k → (gA r3 29).getD l 0 = (gA r 0).getD l 0) → ∃ r1, R_startAsNow_p2 N f r3 (nI k) = some r1 ∧ Fm (mks [27, 28, 29]) (mks [29, 31]) r r1 ∧ gA r1 29 = gA r 0 ∧ (∀ l, l < n → (gA r1 31).getD l 0 = (gA r 7).getD l 0) ∧ gI r1 27 = gI r 3 ∧ gI r1 28 = gI r 4 ∧ gI r1 29 = gI r 5) (m := 12) ?_ ?_ N 0 (by omega) (by omega) r (Fm.refl _ _ r) (fun l hl => absurd hl (Nat.not_lt_zero l))
  · intro f r3 f3 h3
    have l29 : (gA r3 29).length = 12 := (f3.len _).trans (hl.1 29)
    obtain ⟨r1, k1, k2⟩ := key r3 f3 (list_ext (by omega) (fun k hk => h3 k (by omega)))
    refine ⟨r1, ?_, k2⟩
    show R_startAsNow_p2b _ _ _ _ = _
    unfold R_startAsNow_p2b
    rw [if_pos (show (12 : Int32) ≤ nI 12 by decide)]
    exact k1
  · intro f k hk ih r3 f3 h3
    have l29 : (gA r3 29).length = 12 := (f3.len _).trans (hl.1 29)
    show ∃ r1, R_startAsNow_p2b _ _ _ _ = _ ∧ _
    unfold R_startAsNow_p2b
    rw [if_neg (show ¬ (12 : Int32) ≤ nI k from nI_on (m := 12) hk (by decide)), f3.2.1 0 rfl, ld_nI (by omega) (by omega), Option.bind_some, sto_nI (by omega) (by omega), Option.bind_some, nI_1]
    refine ih _ (f3.sA rfl List.length_set) (fun l hl2 => ?_)
    rw [gA_sA_same, getD_set (by omega)]
    split
    · rename_i q; rw [q]
    · exact h3 l (by omega)
theorem hours_end_ok {N n : Nat} {r : St} (hN : 100 < N) (hl : LenR r) (hn : n ≤ 20) (e7 : gI r 7 = nI n) (ran : Int32) : ∃ r1, R_hours_p149 N N r ran 0 = some (ran, r1) ∧ Fm (mks [3, 4]) (mks [0, 7]) r r1 ∧ gA r1 0 = gA r 29 ∧ (∀ l, (gA r1 7).getD l 0 = if l < n then (gA r 31).getD l 0 else (gA r 7).getD l 0) ∧ gI r1 3 = gI r 27 ∧ gI r1 4 = gI r 28 := by
  have l29 : (gA r 29).length = 12 := hl.1 29
  have l31 : (gA r 31).length = 20 := hl.1 31
  have key : ∀ r2, Fm (mks [3, 4]) (mks [0, 7]) r r2 → gA r2 0 = gA r 29 → gA r2 7 = gA r 7 → ∃ r1, R_hours_p175 N N r2 ran 0 = some (ran, r1) ∧ Fm (mks [3, 4]) (mks [0, 7]) r r1 ∧ gA r1 0 = gA r 29 ∧ (∀ l, (gA r1 7).getD l 0 = if l < n then (gA r 31).getD l 0 else (gA r 7).getD l 0) ∧ gI r1 3 = gI r 27 ∧ gI r1 4 = gI r 28 := by
    intro r2 f2 h2 i2
    refine for_up (P := fun f k => ∀ r3, Fm (mks [3, 4]) (mks [0, 7]) r r3 → gA r3 0 = gA r 29 → (∀ l, (gA r3 7).getD l 0 = if l < k then (gA r 31).getD l 0 else (gA r 7).getD l 0) → ∃ r1, R_hours_p175 N f r3 ran (nI k) = some (ran, r1) ∧ Fm (mks [3, 4]) (mks [0, 7]) r r1 ∧ gA r1 0 = gA r 29 ∧ (∀ l, (gA r1 7).getD l 0 = if l < n then (gA r 31).getD l 0 else (gA r 7).getD l 0) ∧ gI r1 3 = gI r 27 ∧ gI r1 4 = gI r 28) (m := n) ?_ ?_ N 0 (by omega) (by omega) r2 f2 h2 (fun l => by rw [if_neg (Nat.not_lt_zero l), i2])
    · intro f r3 f3 h3 g3
      refine ⟨sI (sI r3 3 (gI r3 27)) 4 (gI r3 28), ?_, (f3.sI rfl).sI rfl, h3, g3, (f3.1 27 rfl : gI r3 27 = gI r 27), (f3.1 28 rfl : gI r3 28 = gI r 28)⟩
      show R_hours_p175b _ _ _ _ _ = _
      unfold R_hours_p175b
      rw [f3.1 7 rfl, e7, if_pos (nI_stop n)]
      rfl
    · intro f k hk ih r3 f3 h3 g3
      have l7 : (gA r3 7).length = 20 := (f3.len _).trans (hl.1 7)
      show ∃ r1, R_hours_p175b _ _ _ _ _ = _ ∧ _
      unfold R_hours_p175b
      rw [f3.1 7 rfl, e7, if_neg (nI_on hk (by omega)), f3.2.1 31 rfl, ld_nI (by omega) (by omega), Option.bind_some, sto_nI (by omega) (by omega), Option.bind_some, nI_1]
      refine ih _ (f3.sA rfl List.length_set) h3 (fun l => ?_)
      rw [gA_sA_same, getD_set (by omega)]
      by_cases q : l = k
      · rw [if_pos q, q, if_pos (by omega)]
      · rw [if_neg q, g3 l]
        by_cases q2 : l < k
        · rw [if_pos q2, if_pos (by omega)]
        · rw [if_neg q2, if_neg (by omega)]
  refine for_up (P := fun f k => ∀ r3, Fm (mks [3, 4]) (mks [0, 7]) r r3 → gA r3 7 = gA r 7 → (∀ l, l < k → (gA r3 0).getD l 0 = (gA r 29).getD l 0) → ∃ r1, R_hours_p149 N f r3 ran (nI k) = some (ran, r1) ∧ Fm (mks [3, 4]) (mks [0, 7]) r r1 ∧ gA r1 0 = gA r 29 ∧ (∀ l, (gA r1 7).getD l 0 = if l < n then (gA r 31).getD l 0 else (gA r 7).getD l 0) ∧ gI r1 3 = gI r 27 ∧ gI r1 4 = gI r 28) (m := 12) ?_ ?_ N 0 (by omega) (by omega) r (Fm.refl _ _ r) rfl (fun l hl => absurd hl (Nat.not_lt_zero l))
  · intro f r3 f3 i3 h3
    have l0 : (gA r3 0).length = 12 := (f3.len _).trans (hl.1 0)
    obtain ⟨r1, k1, k2⟩ := key r3 f3 (list_ext (by omega) (fun k hk => h3 k (by omega))) i3
    refine ⟨r1, ?_, k2⟩
    show R_hours_p149b _ _ _ _ _ = _
    unfold R_hours_p149b
    rw [if_pos (show (12 : Int32) ≤ nI 12 by decide)]
    exact k1
  · intro f k hk ih r3 f3 i3 h3
    have l0 : (gA r3 0).length = 12 := (f3.len _).trans (hl.1 0)
    show ∃ r1, R_hours_p149b _ _ _ _ _ = _ ∧ _
    unfold R_hours_p149b
    rw [if_neg (show ¬ (12 : Int32) ≤ nI k from nI_on (m := 12) hk (by decide)), f3.2.1 29 rfl, ld_nI (by omega) (by omega), Option.bind_some, sto_nI (by omega) (by omega), Option.bind_some, nI_1]
    refine ih _ (f3.sA rfl List.length_set) i3 (fun l hl2 => ?_)
    rw [gA_sA_same, getD_set (by omega)]
    split
    · rename_i q; rw [q]
    · exact h3 l (by omega)
def wH (j : Nat) : Bool := mks [5, 6, 7] j || w14 j
theorem wH_a (j : Nat) (e : wH j = false) : mks [5, 7, 6] j = false := mks_sub (l2 := [5, 6, 7]) (by decide) j (Bool.or_eq_false_iff.mp e).1
theorem wH_b (j : Nat) (e : wH j = false) : w14 j = false := (Bool.or_eq_false_iff.mp e).2
theorem S_hours {N : Nat} {c r : St} (h : Rel c r) (hN : 1000 < N) (x1 : Int32) : Sim (C_hours N c x1) (R_hours N r x1) := by
  obtain ⟨t1, t2, t3, t4⟩ := h.rNow
  obtain ⟨v1, v2, v3, v4, v5, v6⟩ := h.rCell
  obtain ⟨s1, s2, s3, s4, s5, s6⟩ := h.rEng
  obtain ⟨n, q1, q2, q3, q4, q5, q6, q7, q8, q9, q10, q11⟩ := h.rLots
  have hF : Fix n c r := ⟨h.lenC, h.lenR, h.rHold, ⟨v1, v2, v3, v4⟩, ⟨s1, s2, s3, s4⟩, q1, q2, q3, q4, q5, q9⟩
  unfold C_hours R_hours
  simp only [C_within_eq, R_in_eq, Option.bind_some, if_bz, if_nbz, bind_id, bind_eta, ← t1]
  refine Sim.ite (fun g1 => Sim.ite (fun g2 => ?_) (fun _ => Sim.ret h)) (fun _ => Sim.ret h)
  have hx := ib_of g1
  have e1' : (1 : Int32).toInt = 1 := rfl
  have e3' : (300 : Int32).toInt = 300 := rfl
  have e12 : (1200 : Int32).toInt = 1200 := rfl
  obtain ⟨qY, eY⟩ := nat_of (x := x1) (by omega)
  generalize x1.toNatClampNeg = M at qY eY
  subst qY
  rw [Int32.le_iff_toInt_le, add_toInt (by omega) (by omega), e12] at g2
  obtain ⟨r0, z1, z2, z3, z4, z5, z6, z7⟩ := start_ok (N := N) (by omega) h.lenR q1 q3
  rw [z1, Option.bind_some]
  have main : ∀ (f k : Nat), k ≤ M → M - k < f → ∀ (c2 r2 : St) (ran : Int32), Fm (mks [1, 3]) wH c c2 → Fm (mks [27, 28, 29]) (mks [29, 30, 31, 9]) r r2 → gA c2 5 = gA r2 29 → bnd (gA c2 5) 12 (-300) 600 → (∀ l, l < n → (gA c2 6).getD l 0 = (gA r2 31).getD l 0) → (∀ l, ¬ l < n → (gA c2 6).getD l 0 = (gA c 6).getD l 0) → gI c2 3 = gI r2 27 → ib (gI c2 3) 0 9999 → gI c2 1 = gI r2 28 → (gI c2 1).toInt = (gI c 1).toInt + k → gI r2 29 = gI c 2 → flat (gA r2 9) (fun i => gA c2 (14 + i)) 20 3 → Sim (C_hours_p36 N f c2 (nI M) ran (nI k)) (R_hours_p37 N f r2 (nI M) ran (nI k)) := by
    refine for_up (P := fun f k => ∀ (c2 r2 : St) (ran : Int32), Fm (mks [1, 3]) wH c c2 → Fm (mks [27, 28, 29]) (mks [29, 30, 31, 9]) r r2 → gA c2 5 = gA r2 29 → bnd (gA c2 5) 12 (-300) 600 → (∀ l, l < n → (gA c2 6).getD l 0 = (gA r2 31).getD l 0) → (∀ l, ¬ l < n → (gA c2 6).getD l 0 = (gA c 6).getD l 0) → gI c2 3 = gI r2 27 → ib (gI c2 3) 0 9999 → gI c2 1 = gI r2 28 → (gI c2 1).toInt = (gI c 1).toInt + k → gI r2 29 = gI c 2 → flat (gA r2 9) (fun i => gA c2 (14 + i)) 20 3 → Sim (C_hours_p36 N f c2 (nI M) ran (nI k)) (R_hours_p37 N f r2 (nI M) ran (nI k))) ?_ ?_
    · intro f c2 r2 ran fc fr i1 i2 i3 i4 i5 i6 i7 i8 i9 i10
      show Sim (C_hours_p36b _ _ _ _ _ _) (R_hours_p37b _ _ _ _ _ _)
      unfold C_hours_p36b R_hours_p37b
      rw [if_pos (nI_stop M), if_pos (nI_stop M)]
      obtain ⟨r3, y1, y2, y3, y4, y5, y6⟩ := hours_end_ok (N := N) (r := r2) (n := n) (by omega) (LenR_fr h.lenR fr) q1 ((fr.1 7 rfl).trans q3) ran
      rw [y1]
      have fr3 : Fm (mks [27, 28, 29, 3, 4]) (mks [29, 30, 31, 9, 0, 7]) r r3 := (fr.mono (mks_sub (by decide)) (mks_sub (by decide))).trans (y2.mono (mks_sub (by decide)) (mks_sub (by decide)))
      refine ⟨_, _, _, rfl, rfl, LenC_fr h.lenC fc, LenR_fr h.lenR fr3, h.rHold.frg fc fr3 (by decide), (by show gI c2 1 = gI r3 4 ∧ ib (gI c2 1) 0 1200 ∧ gI c2 2 = gI r3 5 ∧ ib (gI c2 2) 0 1000000; rw [y6, fr3.1 5 rfl, fc.1 2 rfl]; exact ⟨i7, by omega, t3, t4⟩), (by show gA c2 0 = gA r3 1 ∧ _ ∧ gA c2 1 = gA r3 2 ∧ _ ∧ gA c2 5 = gA r3 0 ∧ _; rw [fc.2.1 0 rfl, fc.2.1 1 rfl, fr3.2.1 1 rfl, fr3.2.1 2 rfl, y3]; exact ⟨v1, v2, v3, v4, i1, i2⟩), (by show gA c2 2 = [gI r3 0, gI r3 1, gI r3 2] ∧ _ ∧ _ ∧ _ ∧ gI c2 3 = gI r3 3 ∧ _; rw [fc.2.1 2 rfl, fr3.1 0 rfl, fr3.1 1 rfl, fr3.1 2 rfl, y5]; exact ⟨s1, s2, s3, s4, i5, i6⟩), ⟨n, q1, (fc.1 5 rfl).trans q2, (fr3.1 7 rfl).trans q3, (fc.2.1 11 rfl).trans (q4.trans (fr3.2.1 5 rfl).symm), (fc.2.1 12 rfl).trans (q5.trans (fr3.2.1 6 rfl).symm), (fc.2.1 13 rfl).trans (q6.trans (fr3.2.1 8 rfl).symm), (by
        have l1 : (gA c2 6).length = 20 := (fc.len 6).trans (h.lenC.1 6)
        have l2 : (gA r3 7).length = 20 := (fr3.len 7).trans (h.lenR.1 7)
        refine list_ext (by omega) (fun l _ => ?_)
        rw [y4 l]
        by_cases hl : l < n
        · rw [if_pos hl]; exact i3 l hl
        · rw [if_neg hl, i4 l hl, fr.2.1 7 rfl, q7]), (by rw [fc.2.1 11 rfl]; exact q8), (by rw [fc.2.1 12 rfl]; exact q9), (fun l hl => (i4 l (by omega)).trans (q10 l hl)), (by rw [y2.2.1 9 rfl]; exact i10)⟩, h.rText.frg fc fr3 (by decide), h.rRead.frg fc fr3 (by decide), h.rStk.frg fc fr3 (by decide), h.rDrv.frg fc fr3 (by decide), h.rMkt.frg fc fr3 (by decide), h.rFarm.frg fc fr3 (by decide), h.rRing.frg fc fr3 (by decide), h.rCh.frg fc fr3 (by decide)⟩
    · intro f k hk ih c2 r2 ran fc fr i1 i2 i3 i4 i5 i6 i7 i8 i9 i10
      have hF2 : Fix n c2 r2 := hF.fr fc fr (by decide) (by decide)
      obtain ⟨sea, a1, a2, a3⟩ := sea_same (N := N) (c := c2) (r := r2) hF2.2.2.1 ((fc.len 3).trans (h.lenC.1 3)) ((fc.len 4).trans (h.lenC.1 4)) (by omega) (gI c2 1) (by omega)
      rw [i7] at a2
      show Sim (C_hours_p36b _ _ _ _ _ _) (R_hours_p37b _ _ _ _ _ _)
      unfold C_hours_p36b R_hours_p37b C_hours_p84 C_hours_p93 R_hours_p63
      rw [if_neg (nI_on hk (by omega)), if_neg (nI_on hk (by omega)), a1, a2, Option.bind_some, Option.bind_some]
      have hgo : ∀ s : Int32, ((s = 0 ∧ gI r2 29 ≤ gI r2 28) ∨ (s = 1 ∧ ¬ gI r2 29 ≤ gI r2 28)) → Sim ((Air_pass N c2 sea s).bind fun p7 => if p7.1 = 0 then (Lots_spoilIn N p7.2).bind fun p9 => (Lots_noteStates N p9 (gI c2 1)).bind fun p10 => C_hours_p36 N f (sI p10 1 (gI p10 1 + 1)) (nI M) ran (nI k + 1) else (Lots_spoilIn N p7.2).bind fun p9 => (Lots_noteStates N p9 (gI c2 1)).bind fun p10 => C_hours_p36 N f (sI p10 1 (gI p10 1 + 1)) (nI M) (ran + 1) (nI k + 1)) ((R_anHour N r2 sea).bind fun p13 => if p13.1 = 0 then R_hours_p68 N (R_hours_p37 N f) N p13.2 (nI M) (ran + 0) (nI k) 0 else R_hours_p68 N (R_hours_p37 N f) N p13.2 (nI M) (ran + 1) (nI k) 0) := by
        intro s hs
        obtain ⟨v, c3, c4, r3, b1, b2, b3, b4, b5, b6, b7, b8, b9, b10, b11, b12, b13⟩ := hour_same (N := N) (by omega) hF2 i1 i2 i3 i5 sea s a3 hs
        have hF4 : Fix n c4 r3 := hF2.fr b5 b6 (by decide) (by decide)
        have hf4 : flat (gA r3 9) (fun i => gA c4 (14 + i)) 20 3 := by
          rw [b6.2.1 9 rfl]
          exact flat_eq i10 (fun i hi => b5.2.1 _ ((by decide : ∀ i, i < 20 → mks [5, 7, 6] (14 + i) = false) i hi))
        have key : ∀ ran2 : Int32, Sim ((Lots_noteStates N c4 (gI c2 1)).bind fun p10 => C_hours_p36 N f (sI p10 1 (gI p10 1 + 1)) (nI M) ran2 (nI k + 1)) (R_hours_p68 N (R_hours_p37 N f) N r3 (nI M) ran2 (nI k) 0) := by
          intro ran2
          obtain ⟨c5, r5, d1, d2, d3, d4, d5⟩ := note_same (N := N) (n := n) (c := c4) (r := r3) (by omega) hF4.1 hF4.2.1 q1 hF4.2.2.2.2.2.2.1 hF4.2.2.2.2.2.2.2.1 b9 hf4 (gI c2 1) (by rw [b12, i7, Int32.add_sub_cancel]) (R_hours_p37 N f) (nI M) ran2 (nI k)
          rw [d1, d2, Option.bind_some, nI_1]
          have g1 : gI c5 1 = gI c2 1 := (d3.1 1 rfl).trans (b5.1 1 rfl)
          have e1c : (gI c2 1 + 1).toInt = (gI c2 1).toInt + 1 := by rw [add_toInt (by omega) (by omega), e1']
          have fc5 : Fm (mks [1, 3]) wH c c5 := (fc.trans (b5.mono (mks_sub (by decide)) wH_a)).trans (d3.mono (fun _ _ => rfl) wH_b)
          have fr5 : Fm (mks [27, 28, 29]) (mks [29, 30, 31, 9]) r r5 := (fr.trans (b6.mono (mks_sub (by decide)) (mks_sub (by decide)))).trans (d4.mono (fun _ _ => rfl) (mks_sub (by decide)))
          have k5 : gA c5 5 = gA c4 5 := d3.2.1 5 rfl
          have k6 : gA c5 6 = gA c4 6 := d3.2.1 6 rfl
          have kc : gI c5 3 = gI c4 3 := d3.1 3 rfl
          have kr29 : gA r5 29 = gA r3 29 := d4.2.1 29 rfl
          have kr31 : gA r5 31 = gA r3 31 := d4.2.1 31 rfl
          have kr27 : gI r5 27 = gI r3 27 := d4.1 27 rfl
          have kr28 : gI r5 28 = gI r3 28 := d4.1 28 rfl
          have kri : gI r5 29 = gI r2 29 := (d4.1 29 rfl).trans (b6.1 29 rfl)
          refine ih (sI c5 1 (gI c5 1 + 1)) r5 ran2 (fc5.sI rfl) fr5 ?_ ?_ ?_ ?_ ?_ ?_ ?_ ?_ ?_ d5
          · show gA c5 5 = _; rw [k5, kr29]; exact b7
          · show bnd (gA c5 5) _ _ _; rw [k5]; exact b8
          · intro l hl; show (gA c5 6).getD l 0 = _; rw [k6, kr31]; exact b9 l hl
          · intro l hl; show (gA c5 6).getD l 0 = _; rw [k6, b10 l hl]; exact i4 l hl
          · show gI c5 3 = _; rw [kc, kr27]; exact b11
          · show ib (gI c5 3) _ _
            rw [kc]
            rcases b13 with e | ⟨e, e2⟩
            · rw [e]; exact i6
            · have hb := hF2.2.2.2.2.1.2.2.2
              rw [Int32.lt_iff_toInt_lt] at e
              rw [e2]
              show 0 ≤ (gI c2 3 - gI r2 2).toInt ∧ (gI c2 3 - gI r2 2).toInt ≤ 9999
              rw [sub_toInt (by omega) (by omega)]
              omega
          · rw [gI_sI_same, g1, kr28, b12, i7]
          · rw [gI_sI_same, g1, e1c]; omega
          · rw [kri]; exact i9
        rw [b1, Option.bind_some, b3, Option.bind_some]
        rcases b4 with hv | hv
        · subst hv
          rw [if_pos rfl, if_pos rfl, b2, Option.bind_some, Int32.add_zero]
          exact key ran
        · subst hv
          rw [if_neg (show ¬ (1 : Int32) = 0 by decide), if_neg (show ¬ (1 : Int32) = 0 by decide), b2, Option.bind_some]
          exact key (ran + 1)
      have h2c : gI c2 2 = gI r2 29 := by rw [fc.1 2 rfl, i9]
      rw [h2c]
      by_cases g : gI r2 29 ≤ gI c2 1
      · rw [if_pos g]
        exact hgo 0 (Or.inl ⟨rfl, by rw [← i7]; exact g⟩)
      · rw [if_neg g]
        exact hgo 1 (Or.inr ⟨rfl, by rw [← i7]; exact g⟩)
  refine main N 0 (by omega) (by omega) c r0 0 (Fm.refl _ _ c) (z2.mono (mks_sub (by decide)) (mks_sub (by decide))) ?_ v6 ?_ (fun l _ => rfl) ?_ s6 ?_ (by omega) ?_ ?_
  · rw [z3]; exact v5
  · intro l hl; rw [z4 l hl, q7]
  · rw [z5]; exact s5
  · rw [z6]; exact t1
  · rw [z7]; exact t3.symm
  · rw [z2.2.1 9 rfl]; exact q11
