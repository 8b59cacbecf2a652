/-! PURE: the sea; hours -/
theorem mks_sub {l1 l2 : List Nat} (h : ∀ x, x ∈ l1 → x ∈ l2) (j : Nat) (e : mks l2 j = false) : mks l1 j = false := by
  unfold mks at e ⊢
  rw [List.any_eq_false] at e ⊢
  exact fun x hx => e x (h x hx)
theorem sea_tail {N n : Nat} {r : St} (e6 : gI r 6 = nI n) (hn : n ≤ 6) (l3 : (gA r 3).length = 6) (b3 : bnd (gA r 3) n 1 200) (x : Int32) : ∀ (f k : Nat), k ≤ n → n - k < f → ∀ from1 sea : Int32, x.toInt < from1.toInt → from1.toInt ≤ 200 * k → R_seaOf_p9 N r f x from1 sea (nI k) = some sea := by
  have hx := toInt_rng x
  refine for_up (P := fun f k => ∀ from1 sea : Int32, x.toInt < from1.toInt → from1.toInt ≤ 200 * k → R_seaOf_p9 N r f x from1 sea (nI k) = some sea) ?_ ?_
  · intro f from1 sea _ _
    show R_seaOf_p9b _ _ _ _ _ _ _ = _
    unfold R_seaOf_p9b
    rw [e6, if_pos (nI_stop n)]
  · intro f k hk ih from1 sea h1 h2
    have hb := b3 k hk
    have ea : (from1 + (gA r 3).getD k 0).toInt = from1.toInt + ((gA r 3).getD k 0).toInt := add_toInt (by omega) (by omega)
    show R_seaOf_p9b _ _ _ _ _ _ _ = _
    unfold R_seaOf_p9b R_seaOf_p31
    rw [e6, if_neg (nI_on hk (by omega)), if_pos (Int32.lt_iff_toInt_lt.mpr h1), ld_nI (by omega) (by omega), Option.bind_some, nI_1]
    exact ih _ _ (by omega) (by omega)
theorem sea_same {N : Nat} {c r : St} (hR : RHold c r) (l3 : (gA c 3).length = 6) (l4 : (gA c 4).length = 6) (hN : 100 < N) (x : Int32) (hx : 0 ≤ x.toInt) : ∃ v, Hold_seaOf N c x = some v ∧ R_seaOf N r x = some v ∧ ib v (-50) 400 := by
  obtain ⟨n, hn, e0, e6, q3, q4, b3, b4⟩ := hR
  have l3r : (gA r 3).length = 6 := by rw [← q3]; exact l3
  have l4r : (gA r 4).length = 6 := by rw [← q4]; exact l4
  have b3r : bnd (gA r 3) n 1 200 := by rw [← q3]; exact b3
  unfold Hold_seaOf R_seaOf
  have main : ∀ (f k : Nat), k ≤ n → n - k < f → (n - k < f → ∀ from1 sea : Int32, 0 ≤ from1.toInt → from1.toInt ≤ x.toInt → from1.toInt ≤ 200 * k → ib sea (-50) 400 → ∃ v, Hold_seaOf_p9 N c f x sea from1 (nI k) = some v ∧ R_seaOf_p9 N r f x from1 sea (nI k) = some v ∧ ib v (-50) 400) := by
    refine for_up (P := fun f k => n - k < f → ∀ from1 sea : Int32, 0 ≤ from1.toInt → from1.toInt ≤ x.toInt → from1.toInt ≤ 200 * k → ib sea (-50) 400 → ∃ v, Hold_seaOf_p9 N c f x sea from1 (nI k) = some v ∧ R_seaOf_p9 N r f x from1 sea (nI k) = some v ∧ ib v (-50) 400) ?_ ?_
    · intro f _ from1 sea _ _ _ hs
      refine ⟨sea, ?_, ?_, hs⟩
      · show Hold_seaOf_p9b _ _ _ _ _ _ _ = _
        unfold Hold_seaOf_p9b
        rw [e0, if_pos (nI_stop n)]
      · show R_seaOf_p9b _ _ _ _ _ _ _ = _
        unfold R_seaOf_p9b
        rw [e6, if_pos (nI_stop n)]
    · intro f k hk ih hf from1 sea h0 h1 h2 hs
      have hb := b3 k hk
      have ea : (from1 + (gA c 3).getD k 0).toInt = from1.toInt + ((gA c 3).getD k 0).toInt := add_toInt (by omega) (by omega)
      show ∃ v, Hold_seaOf_p9b _ _ _ _ _ _ _ = _ ∧ R_seaOf_p9b _ _ _ _ _ _ _ = _ ∧ _
      unfold Hold_seaOf_p9b R_seaOf_p9b R_seaOf_p31
      have hnl : ¬ x < from1 := by rw [Int32.lt_iff_toInt_lt]; omega
      rw [e0, e6, if_neg (nI_on hk (by omega)), if_neg (nI_on hk (by omega)), if_neg hnl, ← q3, ← q4, ld_nI (by omega) (by omega), ld_nI (by omega) (by omega)]
      simp only [Option.bind_some, nI_1]
      by_cases hle : from1 + (gA c 3).getD k 0 ≤ x
      · rw [if_pos hle]
        rw [Int32.le_iff_toInt_le] at hle
        exact ih (by omega) _ _ (by omega) (by omega) (by omega) (b4 k hk)
      · rw [if_neg hle]
        rw [Int32.le_iff_toInt_le] at hle
        exact ⟨_, rfl, sea_tail e6 hn l3r b3r x f (k + 1) (by omega) (by omega) _ _ (by omega) (by omega), b4 k hk⟩
  exact main N 0 (by omega) (by omega) (by omega) 0 150 (by decide) (by have : (0 : Int32).toInt = 0 := rfl; omega) (by decide) (by decide)
theorem S_sea {N : Nat} {c r : St} (h : Rel c r) (hN : 100 < N) (x1 : Int32) : Sam (C_sea N c x1) (R_sea N r x1) := by
  unfold C_sea R_sea
  simp only [C_within_eq, R_in_eq, Option.bind_some, if_bz, if_nbz, bind_id]
  refine Sam.ite (fun g1 => ?_) (fun _ => Sam.ret)
  have e := ib_of g1
  have e0 : (0 : Int32).toInt = 0 := rfl
  obtain ⟨v, h1, h2, _⟩ := sea_same (N := N) h.rHold (h.lenC.1 3) (h.lenC.1 4) hN x1 (by omega)
  exact Sam.of h1 h2
/-- the state of a lot, by its rot -/
def sn (x : Int32) : Nat := if x < 100 then 0 else if x < 300 then 1 else if x < 600 then 2 else 3
theorem sn_le (x : Int32) : sn x ≤ 3 := by unfold sn; split; omega; split; omega; split <;> omega
theorem R_stateOf_ok (N : Nat) (x : Int32) : R_stateOf N x = some (nI (sn x)) := by
  unfold R_stateOf sn
  have k : ∀ b : Int32, (b ≤ x) = ¬ (x < b) := fun b => propext Int32.not_lt.symm
  simp only [k]
  by_cases h1 : x < 100
  · rw [if_neg (fun q => q h1), if_pos h1]; rfl
  · rw [if_pos h1, if_neg h1]
    by_cases h2 : x < 300
    · rw [if_neg (fun q => q h2), if_pos h2]; rfl
    · rw [if_pos h2, if_neg h2]
      by_cases h3 : x < 600
      · rw [if_neg (fun q => q h3), if_pos h3]; rfl
      · rw [if_pos h3, if_neg h3]; rfl
theorem C_stateFrom_ok (N : Nat) (x : Int32) : Lots_stateFrom N x = some (nI (sn x)) := by
  unfold Lots_stateFrom sn
  have e1 : (100 : Int32).toInt = 100 := rfl
  have e2 : (300 : Int32).toInt = 300 := rfl
  have e3 : (600 : Int32).toInt = 600 := rfl
  simp only [Int32.lt_iff_toInt_lt, e1, e2, e3]
  by_cases h3 : x.toInt < 600
  · rw [if_pos h3]
    by_cases h2 : x.toInt < 300
    · rw [if_pos h2]
      by_cases h1 : x.toInt < 100
      · rw [if_pos h1, if_pos h1]; rfl
      · rw [if_neg h1, if_neg h1, if_pos h2]; rfl
    · rw [if_neg h2, if_neg (by omega), if_neg h2, if_pos h3]; rfl
  · rw [if_neg h3, if_neg (by omega), if_neg (by omega), if_neg h3]; rfl
def w14 (j : Nat) : Bool := Nat.ble 14 j && Nat.ble j 33
theorem w14_t : ∀ i, i < 20 → w14 (14 + i) = true := by decide
/-- what came of the lots is written down alike -/
theorem note_same {N n : Nat} {c r : St} (hN : 100 < N) (hc : LenC c) (hr : LenR r) (hn : n ≤ 20) (e5 : gI c 5 = nI n) (e7 : gI r 7 = nI n) (hrot : ∀ l, l < n → (gA c 6).getD l 0 = (gA r 31).getD l 0) (hf : flat (gA r 9) (fun i => gA c (14 + i)) 20 3) (hour : Int32) (hh : gI r 28 - 1 = hour) (kb37 : St → Int32 → Int32 → Int32 → Option (Int32 × St)) (x1 x2 x3 : Int32) : ∃ c1 r1, Lots_noteStates N c hour = some c1 ∧ R_hours_p68 N kb37 N r x1 x2 x3 0 = kb37 r1 x1 x2 (x3 + 1) ∧ Fm (mks []) w14 c c1 ∧ Fm (mks []) (mks [9]) r r1 ∧ flat (gA r1 9) (fun i => gA c1 (14 + i)) 20 3 := by
  unfold Lots_noteStates
  refine for_up (P := fun f l => ∀ c2 r2, Fm (mks []) w14 c c2 → Fm (mks []) (mks [9]) r r2 → flat (gA r2 9) (fun i => gA c2 (14 + i)) 20 3 → ∃ c1 r1, Lots_noteStates_p2 N f c2 hour (nI l) = some c1 ∧ R_hours_p68 N kb37 f r2 x1 x2 x3 (nI l) = kb37 r1 x1 x2 (x3 + 1) ∧ Fm (mks []) w14 c c1 ∧ Fm (mks []) (mks [9]) r r1 ∧ flat (gA r1 9) (fun i => gA c1 (14 + i)) 20 3) (m := n) ?_ ?_ N 0 (by omega) (by omega) c r (Fm.refl _ _ c) (Fm.refl _ _ r) hf
  · intro f c2 r2 fc fr h2
    refine ⟨c2, r2, ?_, ?_, fc, fr, h2⟩
    · show Lots_noteStates_p2b _ _ _ _ _ = _
      unfold Lots_noteStates_p2b
      rw [fc.1 5 rfl, e5, if_pos (nI_stop n)]
    · show R_hours_p68b _ _ _ _ _ _ _ _ = _
      unfold R_hours_p68b
      rw [fr.1 7 rfl, e7, if_pos (nI_stop n)]
  · intro f l hl ih c2 r2 fc fr h2
    have l6 : (gA c2 6).length = 20 := (fc.len _).trans (hc.1 6)
    have l31 : (gA r 31).length = 20 := hr.1 31
    have hs3 := sn_le ((gA r 31).getD l 0)
    have inner : ∀ (f2 s : Nat), s ≤ sn ((gA r 31).getD l 0) → sn ((gA r 31).getD l 0) - s < f2 → ∀ c3 r3, Fm (mks []) w14 c c3 → Fm (mks []) (mks [9]) r r3 → flat (gA r3 9) (fun i => gA c3 (14 + i)) 20 3 → ∃ c4 r4, Lots_noteStates_p24 N (Lots_noteStates_p2 N f) f2 c3 hour (nI l) (nI (sn ((gA r 31).getD l 0))) (nI s) = Lots_noteStates_p2 N f c4 hour (nI (l + 1)) ∧ R_hours_p80 N kb37 (R_hours_p68 N kb37 f) f2 r3 x1 x2 x3 (nI l) (nI s) = R_hours_p68 N kb37 f r4 x1 x2 x3 (nI (l + 1)) ∧ Fm (mks []) w14 c c4 ∧ Fm (mks []) (mks [9]) r r4 ∧ flat (gA r4 9) (fun i => gA c4 (14 + i)) 20 3 := by
      refine for_up (P := fun f2 s => ∀ c3 r3, Fm (mks []) w14 c c3 → Fm (mks []) (mks [9]) r r3 → flat (gA r3 9) (fun i => gA c3 (14 + i)) 20 3 → ∃ c4 r4, Lots_noteStates_p24 N (Lots_noteStates_p2 N f) f2 c3 hour (nI l) (nI (sn ((gA r 31).getD l 0))) (nI s) = Lots_noteStates_p2 N f c4 hour (nI (l + 1)) ∧ R_hours_p80 N kb37 (R_hours_p68 N kb37 f) f2 r3 x1 x2 x3 (nI l) (nI s) = R_hours_p68 N kb37 f r4 x1 x2 x3 (nI (l + 1)) ∧ Fm (mks []) w14 c c4 ∧ Fm (mks []) (mks [9]) r r4 ∧ flat (gA r4 9) (fun i => gA c4 (14 + i)) 20 3) ?_ ?_
      · intro f2 c3 r3 gc gr h3
        refine ⟨c3, r3, ?_, ?_, gc, gr, h3⟩
        · show Lots_noteStates_p24b _ _ _ _ _ _ _ _ = _
          unfold Lots_noteStates_p24b
          rw [if_pos (nI_stop _), nI_1]
        · show R_hours_p80b _ _ _ _ _ _ _ _ _ _ = _
          unfold R_hours_p80b
          rw [gr.2.1 31 rfl, ld_nI (by omega) (by omega), Option.bind_some, R_stateOf_ok, Option.bind_some, if_pos (nI_stop _), nI_1]
      · intro f2 s hs ih2 c3 r3 gc gr h3
        have lq : (gA c3 (14 + l)).length = 3 := (gc.len _).trans ((hc.1 _).trans ((by decide : ∀ i, i < 20 → LAc (14 + i) = 3) l (by omega)))
        have l9 : (gA r3 9).length = 60 := (gr.len _).trans (hr.1 9)
        have ei : (3 : Int32) * nI l + nI s = nI (3 * l + s) := by rw [show (3 : Int32) = nI 3 from rfl, pk_mul, nI_add]
        have hv : (gA r3 9).getD (3 * l + s) 0 = (gA c3 (14 + l)).getD s 0 := h3 l s (by omega) (by omega)
        have u1 : Lots_noteStates_p24 N (Lots_noteStates_p2 N f) (f2 + 1) c3 hour (nI l) (nI (sn ((gA r 31).getD l 0))) (nI s) = if ¬ (gA c3 (14 + l)).getD s 0 = -1 then Lots_noteStates_p24 N (Lots_noteStates_p2 N f) f2 c3 hour (nI l) (nI (sn ((gA r 31).getD l 0))) (nI (s + 1)) else Lots_noteStates_p24 N (Lots_noteStates_p2 N f) f2 (sA c3 (14 + l) ((gA c3 (14 + l)).set s hour)) hour (nI l) (nI (sn ((gA r 31).getD l 0))) (nI (s + 1)) := by
          show Lots_noteStates_p24b _ _ _ _ _ _ _ _ = _
          unfold Lots_noteStates_p24b Lots_noteStates_p54
          rw [if_neg (nI_on hs (by omega)), rwi_nI (by omega) (by omega), Option.bind_some, ld_nI (by omega) (by omega), Option.bind_some, Option.bind_some, sto_nI (by omega) (by omega), Option.bind_some, nI_1]
        have u2 : R_hours_p80 N kb37 (R_hours_p68 N kb37 f) (f2 + 1) r3 x1 x2 x3 (nI l) (nI s) = if ¬ (gA c3 (14 + l)).getD s 0 = -1 then R_hours_p80 N kb37 (R_hours_p68 N kb37 f) f2 r3 x1 x2 x3 (nI l) (nI (s + 1)) else R_hours_p80 N kb37 (R_hours_p68 N kb37 f) f2 (sA r3 9 ((gA r3 9).set (3 * l + s) hour)) x1 x2 x3 (nI l) (nI (s + 1)) := by
          show R_hours_p80b _ _ _ _ _ _ _ _ _ _ = _
          unfold R_hours_p80b R_hours_p129
          rw [gr.2.1 31 rfl, ld_nI (by omega) (by omega), Option.bind_some, R_stateOf_ok, Option.bind_some, if_neg (nI_on hs (by omega)), ei, ld_nI (by omega) (by omega), Option.bind_some, hv, sto_nI (by omega) (by omega), Option.bind_some, nI_1, gr.1 28 rfl, hh]
        rw [u1, u2]
        by_cases hm : (gA c3 (14 + l)).getD s 0 = -1
        · rw [if_neg (fun q => q hm), if_neg (fun q => q hm)]
          refine ih2 _ _ (gc.sA (w14_t l (by omega)) List.length_set) (gr.sA rfl List.length_set) ?_
          exact flat_set h3 (by omega) (by omega) l9 lq (gA_sA_same _ _ _) (fun k _ hk => gA_sA_ne _ _ (by omega))
        · rw [if_pos hm, if_pos hm]
          exact ih2 _ _ gc gr h3
    obtain ⟨c4, r4, a1, a2, a3, a4, a5⟩ := inner N 0 (by omega) (by omega) c2 r2 fc fr h2
    obtain ⟨c1, r1, b1, b2, b3⟩ := ih c4 r4 a3 a4 a5
    refine ⟨c1, r1, ?_, ?_, b3⟩
    · show Lots_noteStates_p2b _ _ _ _ _ = _
      unfold Lots_noteStates_p2b
      have : (gA c2 6).getD l 0 = (gA r 31).getD l 0 := by rw [fc.2.1 6 rfl]; exact hrot l hl
      rw [fc.1 5 rfl, e5, if_neg (nI_on hl (by omega)), ld_nI (by omega) (by omega), Option.bind_some, C_stateFrom_ok, Option.bind_some, this]
      exact a1.trans b1
    · show R_hours_p68b _ _ _ _ _ _ _ _ = _
      unfold R_hours_p68b
      rw [fr.1 7 rfl, e7, if_neg (nI_on hl (by omega))]
      exact a2.trans b2
