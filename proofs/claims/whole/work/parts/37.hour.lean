/-! PURE: an hour passes (written by gen37.py) -/
theorem le_nI {n m : Nat} (hn : n < 2 ^ 31) (hm : m < 2 ^ 31) : (nI n ≤ nI m) = (n ≤ m) := propext (nI_leI hn hm)
theorem rm_nI4 {k : Nat} (hk : k < 2 ^ 31) : rm (nI k) 4 = some (nI (k % 4)) := by
  unfold rm
  rw [if_neg (by decide)]
  exact congrArg some (pk_rem (d := 4) hk (by decide) (by decide))
theorem Fm.len {u w : Nat → Bool} {c c1 : St} (h : Fm u w c c1) (j : Nat) : (gA c1 j).length = (gA c j).length := h.2.2.1 j
theorem mks_false {l : List Nat} {j : Nat} (h : ∀ x, x ∈ l → x ≠ j) : mks l j = false := by
  unfold mks
  rw [List.any_eq_false]
  intro x hx q
  exact h x hx (Nat.eq_of_beq_eq_true q).symm
theorem Hold_pull_ok {N : Nat} {c : St} (hl : (gA c 5).length = 12) {k : Nat} (hk : k < 12) : Hold_pull N c (nI k) = some (pul (gA c 5) k) := by
  have c4 : (nI k < (4 : Int32)) = (k < 4) := lt_nI (m := 4) (by omega) (by omega)
  have c8 : ((8 : Int32) ≤ nI k) = (8 ≤ k) := le_nI (n := 8) (by omega) (by omega)
  have c0 : (nI (k % 4) ≤ (0 : Int32)) = (k % 4 ≤ 0) := le_nI (m := 0) (by omega) (by omega)
  have c3 : ((3 : Int32) ≤ nI (k % 4)) = (3 ≤ k % 4) := le_nI (n := 3) (by omega) (by omega)
  have h0 : ld (gA c 5) (nI k) = some ((gA c 5).getD k 0) := ld_nI (by omega) (by omega)
  have h1 : 4 ≤ k → ld (gA c 5) (nI k - 4) = some ((gA c 5).getD (k - 4) 0) := fun q => by
    have : nI k - 4 = nI (k - 4) := pk_sub (b := 4) (by omega)
    rw [this, ld_nI (by omega) (by omega)]
  have h2 : k < 8 → ld (gA c 5) (nI k + 4) = some ((gA c 5).getD (k + 4) 0) := fun q => by
    have : nI k + 4 = nI (k + 4) := nI_add k 4
    rw [this, ld_nI (by omega) (by omega)]
  have h3 : 1 ≤ k → ld (gA c 5) (nI k - 1) = some ((gA c 5).getD (k - 1) 0) := fun q => by
    have : nI k - 1 = nI (k - 1) := pk_sub (b := 1) (by omega)
    rw [this, ld_nI (by omega) (by omega)]
  have h4 : k < 11 → ld (gA c 5) (nI k + 1) = some ((gA c 5).getD (k + 1) 0) := fun q => by
    rw [nI_1, ld_nI (by omega) (by omega)]
  unfold Hold_pull Hold_pull_p21 Hold_pull_p37 Hold_pull_p53 Hold_pull_p70 pul pul3 pul2 pul1
  simp only [c4, c8, rm_nI4 (show k < 2 ^ 31 by omega), Option.bind_some, c0, c3, h0]
  by_cases a1 : k < 4 <;> by_cases a2 : 8 ≤ k <;> by_cases a3 : k % 4 ≤ 0 <;> by_cases a4 : 3 ≤ k % 4 <;> first | omega | simp (disch := omega) only [a1, a2, a3, a4, if_true, if_false, h1, h2, h3, h4, Option.bind_some, Int32.add_zero]
theorem Hold_pull_2_ok {N : Nat} {c : St} (hl : (gA c 8).length = 12) {k : Nat} (hk : k < 12) : Hold_pull_2 N c (nI k) = some (pul (gA c 8) k) := by
  have c4 : (nI k < (4 : Int32)) = (k < 4) := lt_nI (m := 4) (by omega) (by omega)
  have c8 : ((8 : Int32) ≤ nI k) = (8 ≤ k) := le_nI (n := 8) (by omega) (by omega)
  have c0 : (nI (k % 4) ≤ (0 : Int32)) = (k % 4 ≤ 0) := le_nI (m := 0) (by omega) (by omega)
  have c3 : ((3 : Int32) ≤ nI (k % 4)) = (3 ≤ k % 4) := le_nI (n := 3) (by omega) (by omega)
  have h0 : ld (gA c 8) (nI k) = some ((gA c 8).getD k 0) := ld_nI (by omega) (by omega)
  have h1 : 4 ≤ k → ld (gA c 8) (nI k - 4) = some ((gA c 8).getD (k - 4) 0) := fun q => by
    have : nI k - 4 = nI (k - 4) := pk_sub (b := 4) (by omega)
    rw [this, ld_nI (by omega) (by omega)]
  have h2 : k < 8 → ld (gA c 8) (nI k + 4) = some ((gA c 8).getD (k + 4) 0) := fun q => by
    have : nI k + 4 = nI (k + 4) := nI_add k 4
    rw [this, ld_nI (by omega) (by omega)]
  have h3 : 1 ≤ k → ld (gA c 8) (nI k - 1) = some ((gA c 8).getD (k - 1) 0) := fun q => by
    have : nI k - 1 = nI (k - 1) := pk_sub (b := 1) (by omega)
    rw [this, ld_nI (by omega) (by omega)]
  have h4 : k < 11 → ld (gA c 8) (nI k + 1) = some ((gA c 8).getD (k + 1) 0) := fun q => by
    rw [nI_1, ld_nI (by omega) (by omega)]
  unfold Hold_pull_2 Hold_pull_2_p21 Hold_pull_2_p37 Hold_pull_2_p53 Hold_pull_2_p70 pul pul3 pul2 pul1
  simp only [c4, c8, rm_nI4 (show k < 2 ^ 31 by omega), Option.bind_some, c0, c3, h0]
  by_cases a1 : k < 4 <;> by_cases a2 : 8 ≤ k <;> by_cases a3 : k % 4 ≤ 0 <;> by_cases a4 : 3 ≤ k % 4 <;> first | omega | simp (disch := omega) only [a1, a2, a3, a4, if_true, if_false, h1, h2, h3, h4, Option.bind_some, Int32.add_zero]
theorem R_besides_ok {N : Nat} {r : St} (hl : (gA r 30).length = 12) {k : Nat} (hk : k < 12) : R_besides N r (nI k) = some (pul (gA r 30) k) := by
  have c4 : (nI k < (4 : Int32)) = (k < 4) := lt_nI (m := 4) (by omega) (by omega)
  have c8 : ((8 : Int32) ≤ nI k) = (8 ≤ k) := le_nI (n := 8) (by omega) (by omega)
  have c0 : (nI (k % 4) ≤ (0 : Int32)) = (k % 4 ≤ 0) := le_nI (m := 0) (by omega) (by omega)
  have c3 : ((3 : Int32) ≤ nI (k % 4)) = (3 ≤ k % 4) := le_nI (n := 3) (by omega) (by omega)
  have h0 : ld (gA r 30) (nI k) = some ((gA r 30).getD k 0) := ld_nI (by omega) (by omega)
  have h1 : 4 ≤ k → ld (gA r 30) (nI k - 4) = some ((gA r 30).getD (k - 4) 0) := fun q => by
    have : nI k - 4 = nI (k - 4) := pk_sub (b := 4) (by omega)
    rw [this, ld_nI (by omega) (by omega)]
  have h2 : k < 8 → ld (gA r 30) (nI k + 4) = some ((gA r 30).getD (k + 4) 0) := fun q => by
    have : nI k + 4 = nI (k + 4) := nI_add k 4
    rw [this, ld_nI (by omega) (by omega)]
  have h3 : 1 ≤ k → ld (gA r 30) (nI k - 1) = some ((gA r 30).getD (k - 1) 0) := fun q => by
    have : nI k - 1 = nI (k - 1) := pk_sub (b := 1) (by omega)
    rw [this, ld_nI (by omega) (by omega)]
  have h4 : k < 11 → ld (gA r 30) (nI k + 1) = some ((gA r 30).getD (k + 1) 0) := fun q => by
    rw [nI_1, ld_nI (by omega) (by omega)]
  unfold R_besides R_besides_p27 R_besides_p55 R_besides_p83 R_besides_p112 pul pul3 pul2 pul1
  simp only [c4, c8, rm_nI4 (show k < 2 ^ 31 by omega), Option.bind_some, c0, c3, h0]
  by_cases a1 : k < 4 <;> by_cases a2 : 8 ≤ k <;> by_cases a3 : k % 4 ≤ 0 <;> by_cases a4 : 3 ≤ k % 4 <;> first | omega | simp (disch := omega) only [a1, a2, a3, a4, if_true, if_false, h1, h2, h3, h4, Option.bind_some, Int32.add_zero]
theorem Hold_nextWarmth_ok {N : Nat} {c : St} {lk cd bn : Int32} (hl : LenC c) (e2 : gA c 2 = [lk, cd, bn]) (hp : bnd (gA c 1) 12 0 1) (sea runs : Int32) {k : Nat} (hk : k < 12) : Hold_nextWarmth N c (nI k) sea runs = some (nxw lk cd sea runs (gA c 0) (gA c 1) (gA c 5) k) := by
  have l0 : (gA c 0).length = 12 := hl.1 0
  have l1 : (gA c 1).length = 12 := hl.1 1
  have lW : (gA c 5).length = 12 := hl.1 5
  have hv : ¬ (gA c 1).getD k 0 = 0 → (gA c 1).getD k 0 = 1 := fun q => by
    have hb := hp k hk
    have h2 : ((gA c 1).getD k 0).toInt = 0 ∨ ((gA c 1).getD k 0).toInt = 1 := by omega
    rcases h2 with e | e
    · exact absurd (Int32.toInt_inj.mp e) q
    · exact Int32.toInt_inj.mp e
  unfold Hold_nextWarmth Hold_nextWarmth_p66 J_max
  rw [e2, ld_3_0, ld_3_1, Option.bind_some, Hold_pull_ok lW hk, ld_nI (l := gA c 0) (by omega) (by omega), ld_nI (l := gA c 5) (by omega) (by omega), ld_nI (l := gA c 1) (by omega) (by omega)]
  simp only [Option.bind_some, floorDiv_ok, bind_id]
  unfold nxw flo
  by_cases hr : runs = 0
  · simp only [if_pos hr]
    split <;> rfl
  · simp only [if_neg hr]
    by_cases h0 : (gA c 1).getD k 0 = 0
    · have h1 : ¬ (gA c 1).getD k 0 = 1 := by rw [h0]; decide
      rw [if_pos h1]
      simp only [if_pos h0]
      split <;> rfl
    · rw [if_neg (fun q => q (hv h0))]
      simp only [if_neg h0]
      split <;> rfl
/-- the hour of the air -/
theorem Air_pass_ok {N : Nat} {c : St} {lk cd bn : Int32} (hN : 100 < N) (hl : LenC c) (e2 : gA c 2 = [lk, cd, bn]) (hp : bnd (gA c 1) 12 0 1) (sea s : Int32) (hs : s = 0 ∨ s = 1) : ∃ c1, Air_pass N c sea s = some (if s = 0 ∨ gI c 3 < bn then 0 else 1, c1) ∧ Fm (mks [3]) (mks [5, 7]) c c1 ∧ (∀ k, k < 12 → (gA c1 5).getD k 0 = nxw lk cd sea (if s = 0 ∨ gI c 3 < bn then 0 else 1) (gA c 0) (gA c 1) (gA c 5) k) ∧ gI c1 3 = if s = 0 ∨ gI c 3 < bn then gI c 3 else gI c 3 - bn := by
  have key : ∀ (runs : Int32) (c0 : St), (runs = 0 ∨ runs = 1) → Fm (mks [3]) (mks [5, 7]) c c0 → gA c0 5 = gA c 5 → ∃ c1, Air_pass_p44 N c0 sea runs = some (runs, c1) ∧ Fm (mks [3]) (mks [5, 7]) c c1 ∧ (∀ k, k < 12 → (gA c1 5).getD k 0 = nxw lk cd sea runs (gA c 0) (gA c 1) (gA c 5) k) ∧ gI c1 3 = gI c0 3 := by
    intro runs c0 hr hf hw
    unfold Air_pass_p44
    refine for_up (P := fun n k => ∀ c2, Fm (mks [3]) (mks [5, 7]) c c2 → gA c2 5 = gA c 5 → gI c2 3 = gI c0 3 → (∀ j, j < k → (gA c2 7).getD j 0 = nxw lk cd sea runs (gA c 0) (gA c 1) (gA c 5) j) → ∃ c1, Air_pass_p47 N n c2 sea runs (nI k) = some (runs, c1) ∧ Fm (mks [3]) (mks [5, 7]) c c1 ∧ (∀ k, k < 12 → (gA c1 5).getD k 0 = nxw lk cd sea runs (gA c 0) (gA c 1) (gA c 5) k) ∧ gI c1 3 = gI c0 3) (m := 12) ?_ ?_ N 0 (by omega) (by omega) c0 hf hw rfl (fun j hj => absurd hj (Nat.not_lt_zero j))
    · intro n c2 f2 w2 i2 h2
      have lx : (gA c2 7).length = 12 := (f2.len _).trans (hl.1 7)
      have lw : (gA c2 5).length = 12 := (f2.len _).trans (hl.1 5)
      refine ⟨sA c2 5 (gA c2 7), ?_, f2.sA rfl (by omega), fun k hk => by rw [gA_sA_same]; exact h2 k hk, i2⟩
      show Air_pass_p47b _ _ _ _ _ _ = _
      unfold Air_pass_p47b
      have hc : cpy (gA c2 7) (gA c2 5) 0 0 12 = some (gA c2 7) := cpy_all (n := 12) lx lw (by decide)
      have hg : gz runs = some runs := if_pos hr
      rw [if_pos (show (12 : Int32) ≤ nI 12 by decide), hc, Option.bind_some, hg, Option.bind_some]
    · intro n k hk ih c2 f2 w2 i2 h2
      have lx : (gA c2 7).length = 12 := (f2.len _).trans (hl.1 7)
      have hnw := Hold_nextWarmth_ok (N := N) (c := c2) (LenC_fr hl f2) ((f2.2.1 2 rfl).trans e2) (by rw [f2.2.1 1 rfl]; exact hp) sea runs hk
      rw [w2, f2.2.1 0 rfl, f2.2.1 1 rfl] at hnw
      show ∃ c1, Air_pass_p47b _ _ _ _ _ _ = _ ∧ _
      unfold Air_pass_p47b
      rw [if_neg (show ¬ (12 : Int32) ≤ nI k from nI_on (m := 12) hk (by decide)), hnw, Option.bind_some, sto_nI (by omega) (by omega), Option.bind_some, nI_1]
      refine ih _ (f2.sA rfl List.length_set) w2 i2 (fun j hj => ?_)
      rw [gA_sA_same, getD_set (by omega)]
      split
      · rename_i q; rw [q]
      · exact h2 j (by omega)
  unfold Air_pass Air_pass_p25 Air_pass_p26
  rw [e2, ld_3_2, Option.bind_some]
  by_cases h1 : s = 0
  · have hc : s = 0 ∨ gI c 3 < bn := Or.inl h1
    simp only [if_pos hc, if_pos h1]
    exact key 0 c (Or.inl rfl) (Fm.refl _ _ c) rfl
  · rw [if_neg h1]
    by_cases h2 : gI c 3 < bn
    · have hc : s = 0 ∨ gI c 3 < bn := Or.inr h2
      simp only [if_pos hc, if_pos h2, if_true]
      exact key 0 c (Or.inl rfl) (Fm.refl _ _ c) rfl
    · have hc : ¬ (s = 0 ∨ gI c 3 < bn) := fun q => q.elim h1 h2
      simp only [if_neg hc, if_neg h2, if_neg (show ¬ (1 : Int32) = 0 by decide)]
      obtain ⟨c1, k1, k2, k3, k4⟩ := key 1 (sI c 3 (gI c 3 - bn)) (Or.inr rfl) ((Fm.refl _ _ c).sI rfl) rfl
      exact ⟨c1, k1, k2, k3, k4⟩
/-- the lots spoil -/
theorem Lots_spoilIn_ok {N n : Nat} {c : St} (hN : 100 < N) (hl : LenC c) (hn : n ≤ 20) (e5 : gI c 5 = nI n) (hb : bnd (gA c 12) n 0 11) (hw : bnd (gA c 5) 12 (-300) 600) : ∃ c1, Lots_spoilIn N c = some c1 ∧ Fm (mks []) (mks [6]) c c1 ∧ ∀ l, (gA c1 6).getD l 0 = if l < n then (gA c 6).getD l 0 + spl ((gA c 11).getD l 0) ((gA c 5).getD ((gA c 12).getD l 0).toNatClampNeg 0) else (gA c 6).getD l 0 := by
  unfold Lots_spoilIn
  refine for_up (P := fun f k => ∀ c2, Fm (mks []) (mks [6]) c c2 → (∀ l, (gA c2 6).getD l 0 = if l < k then (gA c 6).getD l 0 + spl ((gA c 11).getD l 0) ((gA c 5).getD ((gA c 12).getD l 0).toNatClampNeg 0) else (gA c 6).getD l 0) → ∃ c1, Lots_spoilIn_p2 N f c2 (nI k) = some c1 ∧ Fm (mks []) (mks [6]) c c1 ∧ ∀ l, (gA c1 6).getD l 0 = if l < n then (gA c 6).getD l 0 + spl ((gA c 11).getD l 0) ((gA c 5).getD ((gA c 12).getD l 0).toNatClampNeg 0) else (gA c 6).getD l 0) (m := n) ?_ ?_ N 0 (by omega) (by omega) c (Fm.refl _ _ c) (fun l => by rw [if_neg (Nat.not_lt_zero l)])
  · intro f c2 f2 h2
    refine ⟨c2, ?_, f2, h2⟩
    show Lots_spoilIn_p2b _ _ _ _ = _
    unfold Lots_spoilIn_p2b
    rw [f2.1 5 rfl, e5, if_pos (nI_stop n)]
  · intro f k hk ih c2 f2 h2
    have l6 : (gA c2 6).length = 20 := (f2.len _).trans (hl.1 6)
    have l11 : (gA c 11).length = 20 := hl.1 11
    have l12 : (gA c 12).length = 20 := hl.1 12
    have lW : (gA c 5).length = 12 := hl.1 5
    have hbk := hb k hk
    obtain ⟨q, e⟩ := nat_of (x := (gA c 12).getD k 0) (by omega)
    have hcell : ((gA c 12).getD k 0).toNatClampNeg < 12 := by omega
    have hld : ld (gA c 5) ((gA c 12).getD k 0) = some ((gA c 5).getD ((gA c 12).getD k 0).toNatClampNeg 0) := by
      rw [q, nI_clamp (by omega)]; exact ld_nI (by omega) (by omega)
    show ∃ c1, Lots_spoilIn_p2b _ _ _ _ = _ ∧ _
    unfold Lots_spoilIn_p2b
    rw [f2.1 5 rfl, e5, if_neg (nI_on hk (by omega)), f2.2.1 11 rfl, f2.2.1 12 rfl, f2.2.1 5 rfl, ld_nI (by omega) (by omega), ld_nI (by omega) (by omega), ld_nI (by omega) (by omega)]
    simp only [Option.bind_some]
    rw [hld, Option.bind_some, C_spoils_ok N _ (hw _ hcell), Option.bind_some, sto_nI (by omega) (by omega), Option.bind_some, nI_1]
    refine ih _ (f2.sA rfl List.length_set) (fun l => ?_)
    rw [gA_sA_same, getD_set (by omega)]
    by_cases hlk : l = k
    · subst hlk
      rw [if_pos rfl, if_pos (by omega), h2, if_neg (by omega)]
    · rw [if_neg hlk, h2]
      by_cases hl2 : l < k
      · rw [if_pos hl2, if_pos (by omega)]
      · rw [if_neg hl2, if_neg (by omega)]
theorem Hold_nextWarmth_2_ok {N : Nat} {c : St} {lk cd bn : Int32} (hl : LenC c) (e2 : gA c 2 = [lk, cd, bn]) (hp : bnd (gA c 1) 12 0 1) (sea runs : Int32) {k : Nat} (hk : k < 12) : Hold_nextWarmth_2 N c (nI k) sea runs = some (nxw lk cd sea runs (gA c 0) (gA c 1) (gA c 8) k) := by
  have l0 : (gA c 0).length = 12 := hl.1 0
  have l1 : (gA c 1).length = 12 := hl.1 1
  have lW : (gA c 8).length = 12 := hl.1 8
  have hv : ¬ (gA c 1).getD k 0 = 0 → (gA c 1).getD k 0 = 1 := fun q => by
    have hb := hp k hk
    have h2 : ((gA c 1).getD k 0).toInt = 0 ∨ ((gA c 1).getD k 0).toInt = 1 := by omega
    rcases h2 with e | e
    · exact absurd (Int32.toInt_inj.mp e) q
    · exact Int32.toInt_inj.mp e
  unfold Hold_nextWarmth_2 Hold_nextWarmth_2_p66 J_max
  rw [e2, ld_3_0, ld_3_1, Option.bind_some, Hold_pull_2_ok lW hk, ld_nI (l := gA c 0) (by omega) (by omega), ld_nI (l := gA c 8) (by omega) (by omega), ld_nI (l := gA c 1) (by omega) (by omega)]
  simp only [Option.bind_some, floorDiv_ok, bind_id]
  unfold nxw flo
  by_cases hr : runs = 0
  · simp only [if_pos hr]
    split <;> rfl
  · simp only [if_neg hr]
    by_cases h0 : (gA c 1).getD k 0 = 0
    · have h1 : ¬ (gA c 1).getD k 0 = 1 := by rw [h0]; decide
      rw [if_pos h1]
      simp only [if_pos h0]
      split <;> rfl
    · rw [if_neg (fun q => q (hv h0))]
      simp only [if_neg h0]
      split <;> rfl
/-- the hour of the air -/
theorem Air_pass_2_ok {N : Nat} {c : St} {lk cd bn : Int32} (hN : 100 < N) (hl : LenC c) (e2 : gA c 2 = [lk, cd, bn]) (hp : bnd (gA c 1) 12 0 1) (sea s : Int32) (hs : s = 0 ∨ s = 1) : ∃ c1, Air_pass_2 N c sea s = some (if s = 0 ∨ gI c 4 < bn then 0 else 1, c1) ∧ Fm (mks [4]) (mks [8, 10]) c c1 ∧ (∀ k, k < 12 → (gA c1 8).getD k 0 = nxw lk cd sea (if s = 0 ∨ gI c 4 < bn then 0 else 1) (gA c 0) (gA c 1) (gA c 8) k) ∧ gI c1 4 = if s = 0 ∨ gI c 4 < bn then gI c 4 else gI c 4 - bn := by
  have key : ∀ (runs : Int32) (c0 : St), (runs = 0 ∨ runs = 1) → Fm (mks [4]) (mks [8, 10]) c c0 → gA c0 8 = gA c 8 → ∃ c1, Air_pass_2_p44 N c0 sea runs = some (runs, c1) ∧ Fm (mks [4]) (mks [8, 10]) c c1 ∧ (∀ k, k < 12 → (gA c1 8).getD k 0 = nxw lk cd sea runs (gA c 0) (gA c 1) (gA c 8) k) ∧ gI c1 4 = gI c0 4 := by
    intro runs c0 hr hf hw
    unfold Air_pass_2_p44
    refine for_up (P := fun n k => ∀ c2, Fm (mks [4]) (mks [8, 10]) c c2 → gA c2 8 = gA c 8 → gI c2 4 = gI c0 4 → (∀ j, j < k → (gA c2 10).getD j 0 = nxw lk cd sea runs (gA c 0) (gA c 1) (gA c 8) j) → ∃ c1, Air_pass_2_p47 N n c2 sea runs (nI k) = some (runs, c1) ∧ Fm (mks [4]) (mks [8, 10]) c c1 ∧ (∀ k, k < 12 → (gA c1 8).getD k 0 = nxw lk cd sea runs (gA c 0) (gA c 1) (gA c 8) k) ∧ gI c1 4 = gI c0 4) (m := 12) ?_ ?_ N 0 (by omega) (by omega) c0 hf hw rfl (fun j hj => absurd hj (Nat.not_lt_zero j))
    · intro n c2 f2 w2 i2 h2
      have lx : (gA c2 10).length = 12 := (f2.len _).trans (hl.1 10)
      have lw : (gA c2 8).length = 12 := (f2.len _).trans (hl.1 8)
      refine ⟨sA c2 8 (gA c2 10), ?_, f2.sA rfl (by omega), fun k hk => by rw [gA_sA_same]; exact h2 k hk, i2⟩
      show Air_pass_2_p47b _ _ _ _ _ _ = _
      unfold Air_pass_2_p47b
      have hc : cpy (gA c2 10) (gA c2 8) 0 0 12 = some (gA c2 10) := cpy_all (n := 12) lx lw (by decide)
      have hg : gz runs = some runs := if_pos hr
      rw [if_pos (show (12 : Int32) ≤ nI 12 by decide), hc, Option.bind_some, hg, Option.bind_some]
    · intro n k hk ih c2 f2 w2 i2 h2
      have lx : (gA c2 10).length = 12 := (f2.len _).trans (hl.1 10)
      have hnw := Hold_nextWarmth_2_ok (N := N) (c := c2) (LenC_fr hl f2) ((f2.2.1 2 rfl).trans e2) (by rw [f2.2.1 1 rfl]; exact hp) sea runs hk
      rw [w2, f2.2.1 0 rfl, f2.2.1 1 rfl] at hnw
      show ∃ c1, Air_pass_2_p47b _ _ _ _ _ _ = _ ∧ _
      unfold Air_pass_2_p47b
      rw [if_neg (show ¬ (12 : Int32) ≤ nI k from nI_on (m := 12) hk (by decide)), hnw, Option.bind_some, sto_nI (by omega) (by omega), Option.bind_some, nI_1]
      refine ih _ (f2.sA rfl List.length_set) w2 i2 (fun j hj => ?_)
      rw [gA_sA_same, getD_set (by omega)]
      split
      · rename_i q; rw [q]
      · exact h2 j (by omega)
  unfold Air_pass_2 Air_pass_2_p25 Air_pass_2_p26
  rw [e2, ld_3_2, Option.bind_some]
  by_cases h1 : s = 0
  · have hc : s = 0 ∨ gI c 4 < bn := Or.inl h1
    simp only [if_pos hc, if_pos h1]
    exact key 0 c (Or.inl rfl) (Fm.refl _ _ c) rfl
  · rw [if_neg h1]
    by_cases h2 : gI c 4 < bn
    · have hc : s = 0 ∨ gI c 4 < bn := Or.inr h2
      simp only [if_pos hc, if_pos h2, if_true]
      exact key 0 c (Or.inl rfl) (Fm.refl _ _ c) rfl
    · have hc : ¬ (s = 0 ∨ gI c 4 < bn) := fun q => q.elim h1 h2
      simp only [if_neg hc, if_neg h2, if_neg (show ¬ (1 : Int32) = 0 by decide)]
      obtain ⟨c1, k1, k2, k3, k4⟩ := key 1 (sI c 4 (gI c 4 - bn)) (Or.inr rfl) ((Fm.refl _ _ c).sI rfl) rfl
      exact ⟨c1, k1, k2, k3, k4⟩
/-- the lots spoil -/
theorem Lots_spoilIn_2_ok {N n : Nat} {c : St} (hN : 100 < N) (hl : LenC c) (hn : n ≤ 20) (e5 : gI c 5 = nI n) (hb : bnd (gA c 12) n 0 11) (hw : bnd (gA c 8) 12 (-300) 600) : ∃ c1, Lots_spoilIn_2 N c = some c1 ∧ Fm (mks []) (mks [9]) c c1 ∧ ∀ l, (gA c1 9).getD l 0 = if l < n then (gA c 9).getD l 0 + spl ((gA c 11).getD l 0) ((gA c 8).getD ((gA c 12).getD l 0).toNatClampNeg 0) else (gA c 9).getD l 0 := by
  unfold Lots_spoilIn_2
  refine for_up (P := fun f k => ∀ c2, Fm (mks []) (mks [9]) c c2 → (∀ l, (gA c2 9).getD l 0 = if l < k then (gA c 9).getD l 0 + spl ((gA c 11).getD l 0) ((gA c 8).getD ((gA c 12).getD l 0).toNatClampNeg 0) else (gA c 9).getD l 0) → ∃ c1, Lots_spoilIn_2_p2 N f c2 (nI k) = some c1 ∧ Fm (mks []) (mks [9]) c c1 ∧ ∀ l, (gA c1 9).getD l 0 = if l < n then (gA c 9).getD l 0 + spl ((gA c 11).getD l 0) ((gA c 8).getD ((gA c 12).getD l 0).toNatClampNeg 0) else (gA c 9).getD l 0) (m := n) ?_ ?_ N 0 (by omega) (by omega) c (Fm.refl _ _ c) (fun l => by rw [if_neg (Nat.not_lt_zero l)])
  · intro f c2 f2 h2
    refine ⟨c2, ?_, f2, h2⟩
    show Lots_spoilIn_2_p2b _ _ _ _ = _
    unfold Lots_spoilIn_2_p2b
    rw [f2.1 5 rfl, e5, if_pos (nI_stop n)]
  · intro f k hk ih c2 f2 h2
    have l6 : (gA c2 9).length = 20 := (f2.len _).trans (hl.1 9)
    have l11 : (gA c 11).length = 20 := hl.1 11
    have l12 : (gA c 12).length = 20 := hl.1 12
    have lW : (gA c 8).length = 12 := hl.1 8
    have hbk := hb k hk
    obtain ⟨q, e⟩ := nat_of (x := (gA c 12).getD k 0) (by omega)
    have hcell : ((gA c 12).getD k 0).toNatClampNeg < 12 := by omega
    have hld : ld (gA c 8) ((gA c 12).getD k 0) = some ((gA c 8).getD ((gA c 12).getD k 0).toNatClampNeg 0) := by
      rw [q, nI_clamp (by omega)]; exact ld_nI (by omega) (by omega)
    show ∃ c1, Lots_spoilIn_2_p2b _ _ _ _ = _ ∧ _
    unfold Lots_spoilIn_2_p2b
    rw [f2.1 5 rfl, e5, if_neg (nI_on hk (by omega)), f2.2.1 11 rfl, f2.2.1 12 rfl, f2.2.1 8 rfl, ld_nI (by omega) (by omega), ld_nI (by omega) (by omega), ld_nI (by omega) (by omega)]
    simp only [Option.bind_some]
    rw [hld, Option.bind_some, C_spoils_ok N _ (hw _ hcell), Option.bind_some, sto_nI (by omega) (by omega), Option.bind_some, nI_1]
    refine ih _ (f2.sA rfl List.length_set) (fun l => ?_)
    rw [gA_sA_same, getD_set (by omega)]
    by_cases hlk : l = k
    · subst hlk
      rw [if_pos rfl, if_pos (by omega), h2, if_neg (by omega)]
    · rw [if_neg hlk, h2]
      by_cases hl2 : l < k
      · rw [if_pos hl2, if_pos (by omega)]
      · rw [if_neg hl2, if_neg (by omega)]
/-- the reference's hour -/
theorem R_hour_ok {N n : Nat} {r : St} (hN : 100 < N) (hl : LenR r) (hn : n ≤ 20) (e7 : gI r 7 = nI n) (hb : bnd (gA r 6) n 0 11) (ho : bnd (gA r 1) 12 0 20) (hlk : ib (gI r 0) 0 20) (hcd : ib (gI r 1) 0 60) (hw : bnd (gA r 29) 12 (-300) 600) (sea : Int32) (hsea : ib sea (-50) 400) (runs : Int32) (hruns : runs = if gI r 27 < gI r 2 then 0 else if gI r 29 ≤ gI r 28 then 0 else 1) : ∃ r1, R_anHour N r sea = some (runs, r1) ∧ Fm (mks [27, 28]) (mks [29, 30, 31]) r r1 ∧ (∀ k, k < 12 → (gA r1 29).getD k 0 = nxw (gI r 0) (gI r 1) sea runs (gA r 1) (gA r 2) (gA r 29) k) ∧ gI r1 27 = (if runs = 0 then gI r 27 else gI r 27 - gI r 2) ∧ gI r1 28 = gI r 28 + 1 ∧ ∀ l, (gA r1 31).getD l 0 = if l < n then (gA r 31).getD l 0 + spl ((gA r 5).getD l 0) ((gA r1 29).getD ((gA r 6).getD l 0).toNatClampNeg 0) else (gA r 31).getD l 0 := by
  have hr01 : runs = 0 ∨ runs = 1 := by rw [hruns]; split; exact Or.inl rfl; split; exact Or.inl rfl; exact Or.inr rfl
  -- the lots
  have key3 : ∀ r2, Fm (mks [27, 28]) (mks [29, 30, 31]) r r2 → gA r2 31 = gA r 31 → gI r2 28 = gI r 28 → bnd (gA r2 29) 12 (-300) 600 → ∃ r1, R_anHour_p175 N N r2 runs 0 = some (runs, r1) ∧ Fm (mks [27, 28]) (mks [29, 30, 31]) r r1 ∧ gA r1 29 = gA r2 29 ∧ gI r1 27 = gI r2 27 ∧ gI r1 28 = gI r 28 + 1 ∧ ∀ l, (gA r1 31).getD l 0 = if l < n then (gA r 31).getD l 0 + spl ((gA r 5).getD l 0) ((gA r2 29).getD ((gA r 6).getD l 0).toNatClampNeg 0) else (gA r 31).getD l 0 := by
    intro r2 f2 h31 h28 hw2
    refine for_up (P := fun f k => ∀ r3, Fm (mks [27, 28]) (mks [29, 30, 31]) r r3 → gA r3 29 = gA r2 29 → gI r3 27 = gI r2 27 → gI r3 28 = gI r 28 → (∀ l, (gA r3 31).getD l 0 = if l < k then (gA r 31).getD l 0 + spl ((gA r 5).getD l 0) ((gA r2 29).getD ((gA r 6).getD l 0).toNatClampNeg 0) else (gA r 31).getD l 0) → ∃ r1, R_anHour_p175 N f r3 runs (nI k) = some (runs, r1) ∧ Fm (mks [27, 28]) (mks [29, 30, 31]) r r1 ∧ gA r1 29 = gA r2 29 ∧ gI r1 27 = gI r2 27 ∧ gI r1 28 = gI r 28 + 1 ∧ ∀ l, (gA r1 31).getD l 0 = if l < n then (gA r 31).getD l 0 + spl ((gA r 5).getD l 0) ((gA r2 29).getD ((gA r 6).getD l 0).toNatClampNeg 0) else (gA r 31).getD l 0) (m := n) ?_ ?_ N 0 (by omega) (by omega) r2 f2 rfl rfl h28 (fun l => by rw [if_neg (Nat.not_lt_zero l), h31])
    · intro f r3 f3 a3 b3 d3 h3
      refine ⟨sI r3 28 (gI r3 28 + 1), ?_, f3.sI rfl, a3, b3, by rw [gI_sI_same, d3], h3⟩
      show R_anHour_p175b _ _ _ _ _ = _
      unfold R_anHour_p175b
      have hg : gz runs = some runs := if_pos hr01
      rw [f3.1 7 rfl, e7, if_pos (nI_stop n), hg, Option.bind_some]
    · intro f k hk ih r3 f3 a3 b3 d3 h3
      have l31 : (gA r3 31).length = 20 := (f3.len _).trans (hl.1 31)
      have l5 : (gA r 5).length = 20 := hl.1 5
      have l6 : (gA r 6).length = 20 := hl.1 6
      have l29 : (gA r2 29).length = 12 := (f2.len _).trans (hl.1 29)
      have hbk := hb k hk
      obtain ⟨q, e⟩ := nat_of (x := (gA r 6).getD k 0) (by omega)
      have hcell : ((gA r 6).getD k 0).toNatClampNeg < 12 := by omega
      have hld : ld (gA r2 29) ((gA r 6).getD k 0) = some ((gA r2 29).getD ((gA r 6).getD k 0).toNatClampNeg 0) := by
        rw [q, nI_clamp (by omega)]; exact ld_nI (by omega) (by omega)
      show ∃ r1, R_anHour_p175b _ _ _ _ _ = _ ∧ _
      unfold R_anHour_p175b
      rw [f3.1 7 rfl, e7, if_neg (nI_on hk (by omega)), f3.2.1 5 rfl, f3.2.1 6 rfl, a3, ld_nI (by omega) (by omega), ld_nI (by omega) (by omega), ld_nI (by omega) (by omega)]
      simp only [Option.bind_some]
      rw [hld, Option.bind_some, R_spoils_ok, Option.bind_some, sto_nI (by omega) (by omega), Option.bind_some, nI_1]
      refine ih _ (f3.sA rfl List.length_set) a3 b3 d3 (fun l => ?_)
      rw [gA_sA_same, getD_set (by omega)]
      by_cases hlk : l = k
      · subst hlk
        rw [if_pos rfl, if_pos (by omega), h3, if_neg (by omega)]
      · rw [if_neg hlk, h3]
        by_cases hl2 : l < k
        · rw [if_pos hl2, if_pos (by omega)]
        · rw [if_neg hl2, if_neg (by omega)]
  -- the cells
  have key2 : ∀ r2, Fm (mks [27, 28]) (mks [29, 30, 31]) r r2 → gA r2 31 = gA r 31 → gI r2 28 = gI r 28 → gA r2 30 = gA r 29 → ∃ r1, R_anHour_p77 N N r2 sea runs 0 = some (runs, r1) ∧ Fm (mks [27, 28]) (mks [29, 30, 31]) r r1 ∧ (∀ k, k < 12 → (gA r1 29).getD k 0 = nxw (gI r 0) (gI r 1) sea runs (gA r 1) (gA r 2) (gA r 29) k) ∧ gI r1 27 = gI r2 27 ∧ gI r1 28 = gI r 28 + 1 ∧ ∀ l, (gA r1 31).getD l 0 = if l < n then (gA r 31).getD l 0 + spl ((gA r 5).getD l 0) ((gA r1 29).getD ((gA r 6).getD l 0).toNatClampNeg 0) else (gA r 31).getD l 0 := by
    intro r2 f2 h31 h28 h30
    refine for_up (P := fun f k => ∀ r3, Fm (mks [27, 28]) (mks [29, 30, 31]) r r3 → gA r3 31 = gA r 31 → gI r3 28 = gI r 28 → gA r3 30 = gA r 29 → gI r3 27 = gI r2 27 → (∀ j, j < k → (gA r3 29).getD j 0 = nxw (gI r 0) (gI r 1) sea runs (gA r 1) (gA r 2) (gA r 29) j) → ∃ r1, R_anHour_p77 N f r3 sea runs (nI k) = some (runs, r1) ∧ Fm (mks [27, 28]) (mks [29, 30, 31]) r r1 ∧ (∀ k, k < 12 → (gA r1 29).getD k 0 = nxw (gI r 0) (gI r 1) sea runs (gA r 1) (gA r 2) (gA r 29) k) ∧ gI r1 27 = gI r2 27 ∧ gI r1 28 = gI r 28 + 1 ∧ ∀ l, (gA r1 31).getD l 0 = if l < n then (gA r 31).getD l 0 + spl ((gA r 5).getD l 0) ((gA r1 29).getD ((gA r 6).getD l 0).toNatClampNeg 0) else (gA r 31).getD l 0) (m := 12) ?_ ?_ N 0 (by omega) (by omega) r2 f2 h31 h28 h30 rfl (fun j hj => absurd hj (Nat.not_lt_zero j))
    · intro f r3 f3 a3 b3 d3 i3 h3
      obtain ⟨r1, k1, k2, k3, k4, k5, k6⟩ := key3 r3 f3 a3 b3 (fun k hk => by rw [h3 k hk]; exact nxw_bnd hlk hcd hsea ho hw hk)
      refine ⟨r1, ?_, k2, fun k hk => by rw [k3]; exact h3 k hk, k4.trans i3, k5, fun l => by rw [k6 l, k3]⟩
      show R_anHour_p77b _ _ _ _ _ _ = _
      unfold R_anHour_p77b
      rw [if_pos (show (12 : Int32) ≤ nI 12 by decide)]
      exact k1
    · intro f k hk ih r3 f3 a3 b3 d3 i3 h3
      have l29 : (gA r3 29).length = 12 := (f3.len _).trans (hl.1 29)
      have l29r : (gA r 29).length = 12 := hl.1 29
      have l30 : (gA r3 30).length = 12 := (f3.len _).trans (hl.1 30)
      have l1 : (gA r 1).length = 12 := hl.1 1
      have l2 : (gA r 2).length = 12 := hl.1 2
      have hfl := flo_bnd hlk hsea ho hw hk
      have hgo : ∀ v, v = nxw (gI r 0) (gI r 1) sea runs (gA r 1) (gA r 2) (gA r 29) k → ∃ r1, (sto (gA r3 29) (nI k) v).bind (fun w20 => R_anHour_p77 N f (sA r3 29 w20) sea runs (nI k + 1)) = some (runs, r1) ∧ Fm (mks [27, 28]) (mks [29, 30, 31]) r r1 ∧ (∀ k, k < 12 → (gA r1 29).getD k 0 = nxw (gI r 0) (gI r 1) sea runs (gA r 1) (gA r 2) (gA r 29) k) ∧ gI r1 27 = gI r2 27 ∧ gI r1 28 = gI r 28 + 1 ∧ ∀ l, (gA r1 31).getD l 0 = if l < n then (gA r 31).getD l 0 + spl ((gA r 5).getD l 0) ((gA r1 29).getD ((gA r 6).getD l 0).toNatClampNeg 0) else (gA r 31).getD l 0 := by
        intro v hv
        rw [sto_nI (by omega) (by omega), Option.bind_some, nI_1]
        refine ih _ (f3.sA rfl List.length_set) a3 b3 d3 i3 (fun j hj => ?_)
        rw [gA_sA_same, getD_set (by omega)]
        split
        · rename_i q; rw [q]; exact hv
        · exact h3 j (by omega)
      show ∃ r1, R_anHour_p77b _ _ _ _ _ _ = _ ∧ _
      unfold R_anHour_p77b R_anHour_p141 R_anHour_p142 R_anHour_p166
      have hfb : R_floorBy N (gI r 0 * pul (gA r 29) k + (gA r 1).getD k 0 * (sea - (gA r 29).getD k 0)) 100 = some (fl (flo (gI r 0) sea (gA r 1) (gA r 29) k)) := floorBy_ok N _ hfl.1 (by have h9 := hfl.2; have h8 := (hw k hk).1; unfold flo at h9; omega)
      rw [if_neg (show ¬ (12 : Int32) ≤ nI k from nI_on (m := 12) hk (by decide)), R_besides_ok l30 hk, f3.2.1 1 rfl, f3.2.1 2 rfl, f3.1 0 rfl, f3.1 1 rfl, d3, ld_nI (by omega) (by omega), ld_nI (by omega) (by omega), ld_nI (by omega) (by omega)]
      simp only [Option.bind_some]
      rw [hfb]
      simp only [Option.bind_some, Int32.sub_zero]
      have e0 : ∀ (v : Int32) (A B : Option (Int32 × St)), (if (-300 : Int32) ≤ v then A else B) = if v < -300 then B else A := fun v A B => by
        by_cases q : v < -300
        · rw [if_pos q, if_neg (Int32.not_le.mpr q)]
        · rw [if_neg q, if_pos (Int32.not_lt.mp q)]
      simp only [e0]
      by_cases hr : runs = 0
      · simp only [if_pos hr]
        split
        · rename_i q; exact hgo _ (by unfold nxw; simp only [if_pos hr, if_pos q])
        · rename_i q; exact hgo _ (by unfold nxw; simp only [if_pos hr, if_neg q])
      · simp only [if_neg hr]
        by_cases hz : (gA r 2).getD k 0 = 0
        · simp only [if_pos hz]
          split
          · rename_i q; exact hgo _ (by unfold nxw; simp only [if_neg hr, if_pos hz, if_pos q])
          · rename_i q; exact hgo _ (by unfold nxw; simp only [if_neg hr, if_pos hz, if_neg q])
        · simp only [if_neg hz]
          split
          · rename_i q; exact hgo _ (by unfold nxw; simp only [if_neg hr, if_neg hz, if_pos q])
          · rename_i q; exact hgo _ (by unfold nxw; simp only [if_neg hr, if_neg hz, if_neg q])
  -- as it was an hour ago
  have key1 : ∀ r0, Fm (mks [27, 28]) (mks [29, 30, 31]) r r0 → gA r0 31 = gA r 31 → gI r0 28 = gI r 28 → gA r0 29 = gA r 29 → ∃ r1, R_anHour_p51 N N r0 sea runs 0 = some (runs, r1) ∧ Fm (mks [27, 28]) (mks [29, 30, 31]) r r1 ∧ (∀ k, k < 12 → (gA r1 29).getD k 0 = nxw (gI r 0) (gI r 1) sea runs (gA r 1) (gA r 2) (gA r 29) k) ∧ gI r1 27 = gI r0 27 ∧ gI r1 28 = gI r 28 + 1 ∧ ∀ l, (gA r1 31).getD l 0 = if l < n then (gA r 31).getD l 0 + spl ((gA r 5).getD l 0) ((gA r1 29).getD ((gA r 6).getD l 0).toNatClampNeg 0) else (gA r 31).getD l 0 := by
    intro r0 f0 h31 h28 h29
    refine for_up (P := fun f k => ∀ r3, Fm (mks [27, 28]) (mks [29, 30, 31]) r r3 → gA r3 31 = gA r 31 → gI r3 28 = gI r 28 → gA r3 29 = gA r 29 → gI r3 27 = gI r0 27 → (∀ j, j < k → (gA r3 30).getD j 0 = (gA r 29).getD j 0) → ∃ r1, R_anHour_p51 N f r3 sea runs (nI k) = some (runs, r1) ∧ Fm (mks [27, 28]) (mks [29, 30, 31]) r r1 ∧ (∀ k, k < 12 → (gA r1 29).getD k 0 = nxw (gI r 0) (gI r 1) sea runs (gA r 1) (gA r 2) (gA r 29) k) ∧ gI r1 27 = gI r0 27 ∧ gI r1 28 = gI r 28 + 1 ∧ ∀ l, (gA r1 31).getD l 0 = if l < n then (gA r 31).getD l 0 + spl ((gA r 5).getD l 0) ((gA r1 29).getD ((gA r 6).getD l 0).toNatClampNeg 0) else (gA r 31).getD l 0) (m := 12) ?_ ?_ N 0 (by omega) (by omega) r0 f0 h31 h28 h29 rfl (fun j hj => absurd hj (Nat.not_lt_zero j))
    · intro f r3 f3 a3 b3 d3 i3 h3
      have l30 : (gA r3 30).length = 12 := (f3.len _).trans (hl.1 30)
      have l29 : (gA r 29).length = 12 := hl.1 29
      obtain ⟨r1, k1, k2, k3, k4, k5, k6⟩ := key2 r3 f3 a3 b3 (list_ext (by omega) (fun k hk => h3 k (by omega)))
      refine ⟨r1, ?_, k2, k3, k4.trans i3, k5, k6⟩
      show R_anHour_p51b _ _ _ _ _ _ = _
      unfold R_anHour_p51b
      rw [if_pos (show (12 : Int32) ≤ nI 12 by decide)]
      exact k1
    · intro f k hk ih r3 f3 a3 b3 d3 i3 h3
      have l30 : (gA r3 30).length = 12 := (f3.len _).trans (hl.1 30)
      have l29 : (gA r 29).length = 12 := hl.1 29
      show ∃ r1, R_anHour_p51b _ _ _ _ _ _ = _ ∧ _
      unfold R_anHour_p51b
      rw [if_neg (show ¬ (12 : Int32) ≤ nI k from nI_on (m := 12) hk (by decide)), d3, ld_nI (by omega) (by omega), Option.bind_some, sto_nI (by omega) (by omega), Option.bind_some, nI_1]
      refine ih _ (f3.sA rfl List.length_set) a3 b3 d3 i3 (fun j hj => ?_)
      rw [gA_sA_same, getD_set (by omega)]
      split
      · rename_i q; rw [q]
      · exact h3 j (by omega)
  unfold R_anHour R_anHour_p26 R_anHour_p27 R_anHour_p45
  by_cases c1 : gI r 27 < gI r 2
  · rw [if_pos c1] at hruns ⊢
    subst hruns
    rw [if_pos rfl, if_pos rfl, Int32.sub_zero]
    obtain ⟨r1, k⟩ := key1 (sI r 27 (gI r 27)) ((Fm.refl _ _ r).sI rfl) rfl rfl rfl
    exact ⟨r1, k⟩
  · rw [if_neg c1] at hruns ⊢
    by_cases c2 : gI r 29 ≤ gI r 28
    · rw [if_pos c2] at hruns ⊢
      subst hruns
      rw [if_pos rfl, if_pos rfl, Int32.sub_zero]
      obtain ⟨r1, k⟩ := key1 (sI r 27 (gI r 27)) ((Fm.refl _ _ r).sI rfl) rfl rfl rfl
      exact ⟨r1, k⟩
    · rw [if_neg c2] at hruns ⊢
      subst hruns
      rw [if_neg (by decide), if_neg (by decide)]
      obtain ⟨r1, k⟩ := key1 (sI r 27 (gI r 27 - gI r 2)) ((Fm.refl _ _ r).sI rfl) rfl rfl rfl
      exact ⟨r1, k⟩
