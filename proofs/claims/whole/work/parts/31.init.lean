/-! PURE: what the constructors lay stands in the relation -/
theorem getD_len {l : List (List Int32)} (j : Nat) : (l.getD j []).length = (l.map List.length).getD j 0 := by
  simp only [List.getD_eq_getElem?_getD, List.getElem?_map]
  cases l[j]? <;> rfl
theorem getD_lenL {l : List (List Int64)} (j : Nat) : (l.getD j []).length = (l.map List.length).getD j 0 := by
  simp only [List.getD_eq_getElem?_getD, List.getElem?_map]
  cases l[j]? <;> rfl
set_option maxRecDepth 100000 in
theorem lenC0 : LenC c0 := by
  refine ⟨fun j => ?_, fun j => ?_⟩
  · unfold LAc
    refine Eq.trans (getD_len (l := [List.replicate 12 4, [1, 0, 0, 0, 0, 0, 0, 0, 0, 0, 0, 0], [5, 20, 1], List.replicate 6 0, List.replicate 6 0, List.replicate 12 100, List.replicate 20 0, List.replicate 12 0, List.replicate 12 100, List.replicate 20 0, List.replicate 12 0, List.replicate 20 0, List.replicate 20 0, List.replicate 20 0, [0, 0, 0], [0, 0, 0], [0, 0, 0], [0, 0, 0], [0, 0, 0], [0, 0, 0], [0, 0, 0], [0, 0, 0], [0, 0, 0], [0, 0, 0], [0, 0, 0], [0, 0, 0], [0, 0, 0], [0, 0, 0], [0, 0, 0], [0, 0, 0], [0, 0, 0], [0, 0, 0], [0, 0, 0], [0, 0, 0], List.replicate 60 0, List.replicate 60 0, List.replicate 60 0, List.replicate 60 0, List.replicate 60 0, List.replicate 60 0, List.replicate 60 0, List.replicate 60 0, List.replicate 60 0, List.replicate 60 0, List.replicate 60 0, List.replicate 60 0, List.replicate 60 0, List.replicate 12 0, List.replicate 12 0, List.replicate 24 0, List.replicate 24 0, List.replicate 8 0, [0, 0, 0, 0], List.replicate 8 0, List.replicate 8 0, [0, 0, 0, 0], [10, 10, 10, 10], [10, 10, 10, 10], [10, 10, 10, 10], [10, 10, 10, 10], [10, 10, 10, 10], [10, 10, 10, 10], List.replicate 6 0, List.replicate 6 0, [0, 0, 0, 0], List.replicate 6 0, List.replicate 6 0, List.replicate 7 0, [100, 1, 2, 3], [0, 0, 0, 0, 0], [0, 0, 0, 0, 0], List.replicate 200 0, List.replicate 200 0, List.replicate 8 0, List.replicate 8 0, List.replicate 8 0, List.replicate 8 0, List.replicate 8 0, List.replicate 8 0, List.replicate 8 0, List.replicate 8 0, List.replicate 8 0, List.replicate 8 0, [50, 2, 80, 10], [0, 0, 0, 0, 0], [0, 0, 0, 0, 0], [0, 0, 0, 0, 0], [0, 0, 0, 0, 0], [0, 0, 0, 0, 0], [0, 0, 0, 0, 0], [0, 0, 0, 0, 0], [0, 0, 0, 0, 0], [0, 0, 0, 0, 0], [0, 0, 0, 0, 0], List.replicate 8 0]) j) ?_
    exact congrArg (fun l : List Nat => l.getD j 0) (by decide +kernel)
  · unfold LBc
    refine Eq.trans (getD_lenL (l := [List.replicate 60 0, List.replicate 60 0]) j) ?_
    exact congrArg (fun l : List Nat => l.getD j 0) (by decide +kernel)
set_option maxRecDepth 100000 in
theorem lenR0 : LenR r0 := by
  refine ⟨fun j => ?_, fun j => ?_⟩
  · unfold LAr
    refine Eq.trans (getD_len (l := [List.replicate 12 100, List.replicate 12 4, [1, 0, 0, 0, 0, 0, 0, 0, 0, 0, 0, 0], List.replicate 6 0, List.replicate 6 0, List.replicate 20 0, List.replicate 20 0, List.replicate 20 0, List.replicate 20 0, List.replicate 60 0, List.replicate 60 0, List.replicate 720 0, List.replicate 12 0, List.replicate 24 0, List.replicate 24 0, List.replicate 8 0, List.replicate 6 0, List.replicate 6 0, List.replicate 24 10, [0, 0, 0, 0], [0, 0, 0, 0, 0], [0, 0, 0, 0, 0], List.replicate 8 0, List.replicate 8 0, List.replicate 64 0, [0, 0, 0, 0, 0], [0, 0, 0, 0, 0], List.replicate 8 0, List.replicate 40 0, List.replicate 12 0, List.replicate 12 0, List.replicate 20 0, List.replicate 9 0, [0, 0, 0, 0], List.replicate 9 0, List.replicate 8 0, List.replicate 6 0, [0, 0, 0, 0, 0], List.replicate 200 0, List.replicate 200 0]) j) ?_
    exact congrArg (fun l : List Nat => l.getD j 0) (by decide +kernel)
  · unfold LBr
    refine Eq.trans (getD_lenL (l := [List.replicate 61 0, List.replicate 61 0]) j) ?_
    exact congrArg (fun l : List Nat => l.getD j 0) (by decide +kernel)
theorem flat_of {l : List Int32} {f : Nat → List Int32} {n w : Nat} (h : ∀ i, i < n → ∀ j, j < w → l.getD (w * i + j) 0 = (f i).getD j 0) : flat l f n w := fun i j hi hj => h i hi j hj
theorem bnd0 (l : List Int32) (lo hi : Int) : bnd l 0 lo hi := fun k hk => absurd hk (Nat.not_lt_zero k)
theorem rep_get (n k : Nat) (x : Int32) : (List.replicate n x).getD k 0 = if k < n then x else 0 := by
  rw [List.getD_eq_getElem?_getD, List.getElem?_replicate]
  split <;> rfl
theorem flat_rep {f : Nat → List Int32} {m n w : Nat} {x : Int32} (hm : m = n * w) (h : ∀ i, i < n → ∀ j, j < w → (f i).getD j 0 = x) : flat (List.replicate m x) f n w := by
  intro i j hi hj
  rw [rep_get, h i hi j hj, if_pos]
  rw [hm]
  have := Nat.mul_le_mul_left w (show i + 1 ≤ n by omega)
  rw [Nat.mul_add, Nat.mul_one, Nat.mul_comm w n] at this
  omega
theorem bnd_rep {m n : Nat} {x : Int32} {lo hi : Int} (h : ib x lo hi) (h0 : n ≤ m) : bnd (List.replicate m x) n lo hi := by
  intro k hk
  rw [rep_get, if_pos (by omega)]
  exact h
set_option maxRecDepth 100000 in
theorem rel0 : Rel c0 r0 := by
  refine ⟨lenC0, lenR0, ?_, ?_, ?_, ?_, ?_, ?_, ?_, ?_, ?_, ?_, ?_, ?_, ?_⟩
  · exact ⟨0, by decide, rfl, rfl, rfl, rfl, bnd0 _ _ _, bnd0 _ _ _⟩
  · exact ⟨rfl, by decide, rfl, by decide⟩
  · exact ⟨rfl, bnd_rep (by decide) (by decide), rfl, (by decide : ∀ k, k < 12 → (0 : Int) ≤ (([1, 0, 0, 0, 0, 0, 0, 0, 0, 0, 0, 0] : List Int32).getD k 0).toInt ∧ (([1, 0, 0, 0, 0, 0, 0, 0, 0, 0, 0, 0] : List Int32).getD k 0).toInt ≤ 1), rfl, bnd_rep (by decide) (by decide)⟩
  · exact ⟨rfl, by decide, by decide, by decide, rfl, by decide⟩
  · refine ⟨0, by decide, rfl, rfl, rfl, rfl, rfl, rfl, bnd0 _ _ _, bnd0 _ _ _, fun k _ => ?_, flat_rep (by decide) (by decide)⟩
    exact (rep_get 20 k 0).trans (by split <;> rfl)
  · refine ⟨0, 0, by decide, by decide, rfl, rfl, rfl, rfl, rfl, bnd_rep (by decide) (by decide), flat_rep (by decide) ?_, rfl, fun t ht => absurd ht (Nat.not_lt_zero t)⟩
    have : ∀ i, i < 12 → gA c0 (35 + i) = List.replicate 60 0 := by decide
    intro i hi j _
    rw [this i hi, rep_get]; split <;> rfl
  · exact ⟨0, by decide, rfl, rfl, rfl, by decide, rfl, rfl, bnd0 _ _ _, bnd0 _ _ _, fun k hk => absurd hk (Nat.not_lt_zero k)⟩
  · exact ⟨0, by decide, rfl, rfl, rfl, bnd0 _ _ _, rfl⟩
  · exact ⟨0, by decide, rfl, rfl, rfl, rfl, bnd0 _ _ _, bnd0 _ _ _, flat_rep (by decide) (by decide), bnd_rep (by decide) (by decide), rfl, (bnd_rep (m := 4) (x := 0) (by decide) (by decide)), rfl, by decide⟩
  · exact ⟨0, by decide, rfl, rfl, rfl, rfl, bnd0 _ _ _, bnd0 _ _ _, rfl, by decide, by decide, by decide, by decide⟩
  · exact ⟨0, by decide, rfl, rfl, rfl, rfl, bnd0 _ _ _, bnd0 _ _ _, flat_rep (by decide) (by decide), bnd_rep (by decide) (by decide)⟩
  · exact ⟨0, by decide, rfl, rfl, rfl, rfl, bnd0 _ _ _, bnd0 _ _ _, rfl, by decide, by decide, by decide, by decide⟩
  · exact ⟨0, by decide, rfl, rfl, rfl, bnd0 _ _ _, flat_rep (by decide) (by decide), bnd_rep (by decide) (by decide)⟩
