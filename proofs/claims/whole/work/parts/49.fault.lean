/-! PURE: the page read as a text -/
section SC
variable {N n k : Nat} {c r : St} {x : Int32}
theorem not_dig {x y : Int32} (g : 48 ≤ x ∧ x ≤ 57) (h : ¬ (48 ≤ y ∧ y ≤ 57)) : ¬ x = y := fun e => h (e ▸ g)
theorem into_eq : Texts_intoFactor N c x = if 48 ≤ x ∧ x ≤ 57 then some (5, c) else if x = 40 then some (2, sI c 13 (gI c 13 + 1)) else if x = 114 ∨ x = 116 ∨ x = 104 ∨ x = 107 then some (3, c) else some (-1, c) := by
  unfold Texts_intoFactor Texts_intoFactor_p51 Texts_isDigit
  simp only [C_within_eq, Option.bind_some, if_bz]
  by_cases g : 48 ≤ x ∧ x ≤ 57
  · rw [if_pos g, if_pos g]
  · rw [if_neg g, if_neg g]
    by_cases h1 : x = 40
    · rw [if_neg (fun q => q h1), if_pos h1]
    · rw [if_pos h1, if_neg h1]
      by_cases h2 : x = 114
      · rw [if_pos h2, if_pos (Or.inl h2)]
      · rw [if_neg h2]
        by_cases h3 : x = 116
        · rw [if_pos h3, if_pos (Or.inr (Or.inl h3))]
        · rw [if_neg h3]
          by_cases h4 : x = 104
          · rw [if_pos h4, if_pos (Or.inr (Or.inr (Or.inl h4)))]
          · rw [if_neg h4]
            by_cases h5 : x = 107
            · rw [if_neg (fun q => q h5), if_pos (Or.inr (Or.inr (Or.inr h5)))]
            · rw [if_pos h5, if_neg (fun q => q.elim h2 (fun q => q.elim h3 (fun q => q.elim h4 h5)))]
theorem behind_eq {k : Int32} : Texts_behindFactor N c x k = if 48 ≤ x ∧ x ≤ 57 then (if gI c 12 ≤ 3 then some (-1, c) else some (gI c 12 - 1, c)) else if x = 43 ∨ x = 45 ∨ x = 42 then some (2, c) else if x = 41 ∧ ¬ gI c 13 ≤ 0 then some (3, sI c 13 (gI c 13 - 1)) else if (x = 60 ∨ x = 61 ∨ x = 62) ∧ gI c 13 = 0 ∧ gI c 14 = -1 then some (2, sI c 14 k) else some (-1, c) := by
  have mk : Texts_behindFactor_p71 N c x k = if (x = 60 ∨ x = 61 ∨ x = 62) ∧ gI c 13 = 0 ∧ gI c 14 = -1 then some (2, sI c 14 k) else some (-1, c) := by
    have m2 : Texts_behindFactor_p89 N c k = if gI c 13 = 0 ∧ gI c 14 = -1 then some (2, sI c 14 k) else some (-1, c) := by
      unfold Texts_behindFactor_p89 Texts_behindFactor_p111
      by_cases h1 : gI c 13 = 0
      · rw [if_neg (fun q => q h1)]
        by_cases h2 : gI c 14 = -1
        · rw [if_neg (fun q => q h2), if_pos ⟨h1, h2⟩]
        · rw [if_pos h2, if_neg (fun q => h2 q.2)]
      · rw [if_pos h1, if_neg (fun q => h1 q.1)]
    unfold Texts_behindFactor_p71
    rw [m2]
    unfold Texts_behindFactor_p111
    by_cases h1 : x = 60
    · rw [if_pos h1]
      by_cases h2 : gI c 13 = 0 ∧ gI c 14 = -1
      · rw [if_pos h2, if_pos ⟨Or.inl h1, h2⟩]
      · rw [if_neg h2, if_neg (fun q => h2 q.2)]
    · rw [if_neg h1]
      by_cases h3 : x = 61
      · rw [if_pos h3]
        by_cases h2 : gI c 13 = 0 ∧ gI c 14 = -1
        · rw [if_pos h2, if_pos ⟨Or.inr (Or.inl h3), h2⟩]
        · rw [if_neg h2, if_neg (fun q => h2 q.2)]
      · rw [if_neg h3]
        by_cases h4 : x = 62
        · rw [if_neg (fun q => q h4)]
          by_cases h2 : gI c 13 = 0 ∧ gI c 14 = -1
          · rw [if_pos h2, if_pos ⟨Or.inr (Or.inr h4), h2⟩]
          · rw [if_neg h2, if_neg (fun q => h2 q.2)]
        · rw [if_pos h4, if_neg (fun q => q.1.elim h1 (fun q => q.elim h3 h4))]
  unfold Texts_behindFactor Texts_behindFactor_p44 Texts_isDigit
  simp only [C_within_eq, Option.bind_some, if_bz]
  rw [mk]
  by_cases g : 48 ≤ x ∧ x ≤ 57
  · rw [if_pos g, if_pos g]
  · rw [if_neg g, if_neg g]
    by_cases h1 : x = 43
    · rw [if_pos h1, if_pos (Or.inl h1)]
    · rw [if_neg h1]
      by_cases h2 : x = 45
      · rw [if_pos h2, if_pos (Or.inr (Or.inl h2))]
      · rw [if_neg h2]
        by_cases h3 : x = 42
        · rw [if_neg (fun q => q h3), if_pos (Or.inr (Or.inr h3))]
        · have hn : ¬ (x = 43 ∨ x = 45 ∨ x = 42) := fun q => q.elim h1 (fun q => q.elim h2 h3)
          rw [if_pos h3, if_neg hn]
          by_cases h4 : x = 41
          · rw [if_neg (fun q => q h4)]
            by_cases h5 : gI c 13 ≤ 0
            · rw [if_pos h5]
              by_cases h6 : x = 41 ∧ ¬ gI c 13 ≤ 0
              · exact absurd h5 h6.2
              · rw [if_neg h6]
            · rw [if_neg h5, if_pos ⟨h4, h5⟩]
          · rw [if_pos h4]
            by_cases h6 : x = 41 ∧ ¬ gI c 13 ≤ 0
            · exact absurd h6.1 h4
            · rw [if_neg h6]
theorem after_eq {k : Int32} : Texts_after N c x k = if gI c 12 = 0 then (if x = 87 ∨ x = 83 ∨ x = 67 then some (1, c) else some (-1, c)) else if gI c 12 = 1 then (if x = 58 then some (2, c) else some (-1, c)) else if gI c 12 = 2 then Texts_intoFactor N c x else Texts_behindFactor N c x k := by
  unfold Texts_after
  by_cases h0 : gI c 12 = 0
  · rw [if_pos h0, if_pos h0]
    unfold Texts_letterNumber
    by_cases h1 : x = 67
    · rw [if_pos h1, if_pos (Or.inr (Or.inr h1)), Option.bind_some, if_pos (by decide)]
    · rw [if_neg h1]
      by_cases h2 : x = 83
      · rw [if_pos h2, if_pos (Or.inr (Or.inl h2)), Option.bind_some, if_pos (by decide)]
      · rw [if_neg h2]
        by_cases h3 : x = 87
        · rw [if_pos h3, if_pos (Or.inl h3), Option.bind_some, if_pos (by decide)]
        · rw [if_neg h3, if_neg (fun q => q.elim h3 (fun q => q.elim h2 h1)), Option.bind_some, if_neg (fun q => q rfl)]
  · rw [if_neg h0, if_neg h0]
    by_cases h1 : gI c 12 = 1
    · rw [if_pos h1, if_pos h1]
      by_cases h2 : x = 58
      · rw [if_neg (fun q => q h2), if_pos h2]
      · rw [if_pos h2, if_neg h2]
    · rw [if_neg h1, if_neg h1, bind_eta, bind_eta]
theorem mk_none {m : Nat} (hm : m ≤ 60) : (nI m - 1 = (-1 : Int32)) = (m = 0) := by
  refine propext ⟨fun h => ?_, fun h => by subst h; rfl⟩
  cases m with
  | zero => rfl
  | succ m =>
    rw [nI_pred] at h
    have e := congrArg Int32.toInt h
    rw [nI_toInt (by omega)] at e
    have : (-1 : Int32).toInt = -1 := rfl
    omega
theorem aft_ok {a d m : Nat} (ha : a ≤ 5) (hd : d ≤ 60) (hm : m ≤ 60) (hk : k ≤ 60) (e12 : gI c 12 = nI a) (e13 : gI c 13 = nI d) (e14 : gI c 14 = nI m - 1) : ∃ v c1, Texts_after N c x (nI k) = some (v, c1) ∧ Fm (mks [13, 14]) (mks []) c c1 ∧ (tStep x k (a, d, m) = none → v = -1) ∧ ∀ q, tStep x k (a, d, m) = some q → v = nI q.1 ∧ gI c1 13 = nI q.2.1 ∧ gI c1 14 = nI q.2.2 - 1 := by
  have z0 : (nI a = (0 : Int32)) = (a = 0) := propext (nI_eq (b := 0) (by omega) (by omega))
  have z1 : (nI a = (1 : Int32)) = (a = 1) := propext (nI_eq (b := 1) (by omega) (by omega))
  have z2 : (nI a = (2 : Int32)) = (a = 2) := propext (nI_eq (b := 2) (by omega) (by omega))
  have z3 : (nI a ≤ (3 : Int32)) = (a ≤ 3) := propext (nI_leI (b := 3) (by omega) (by omega))
  have z4 : (nI d ≤ (0 : Int32)) = (d ≤ 0) := propext (nI_leI (b := 0) (by omega) (by omega))
  have z5 : (nI d = (0 : Int32)) = (d = 0) := propext (nI_eq (b := 0) (by omega) (by omega))
  have one : ∀ (v : Int32) (c1 : St) (o : Option (Nat × Nat × Nat)) (q : Nat × Nat × Nat), o = some q → Fm (mks [13, 14]) (mks []) c c1 → v = nI q.1 → gI c1 13 = nI q.2.1 → gI c1 14 = nI q.2.2 - 1 → ∃ v2 c2, some (v, c1) = some (v2, c2) ∧ Fm (mks [13, 14]) (mks []) c c2 ∧ (o = none → v2 = -1) ∧ ∀ q, o = some q → v2 = nI q.1 ∧ gI c2 13 = nI q.2.1 ∧ gI c2 14 = nI q.2.2 - 1 := by
    intro v c1 o q ho hf h1 h2 h3
    subst ho
    exact ⟨v, c1, rfl, hf, fun z => (by cases z), fun q2 z => by cases z; exact ⟨h1, h2, h3⟩⟩
  have bad : ∀ (o : Option (Nat × Nat × Nat)), o = none → ∃ v2 c2, some ((-1 : Int32), c) = some (v2, c2) ∧ Fm (mks [13, 14]) (mks []) c c2 ∧ (o = none → v2 = -1) ∧ ∀ q, o = some q → v2 = nI q.1 ∧ gI c2 13 = nI q.2.1 ∧ gI c2 14 = nI q.2.2 - 1 := by
    intro o ho
    subst ho
    exact ⟨-1, c, rfl, Fm.refl _ _ c, fun _ => rfl, fun q z => by cases z⟩
  rw [after_eq, into_eq, behind_eq, e12, e13, e14]
  simp only [z0, z1, z2, z3, z4, z5, mk_none hm]
  unfold tStep
  dsimp only
  by_cases a0 : a = 0
  · rw [if_pos a0, if_pos a0]
    by_cases g : x = 87 ∨ x = 83 ∨ x = 67
    · rw [if_pos g, if_pos g]; exact one _ _ _ _ rfl (Fm.refl _ _ c) rfl e13 e14
    · rw [if_neg g, if_neg g]; exact bad _ rfl
  · rw [if_neg a0, if_neg a0]
    by_cases a1 : a = 1
    · rw [if_pos a1, if_pos a1]
      by_cases g : x = 58
      · rw [if_pos g, if_pos g]; exact one _ _ _ _ rfl (Fm.refl _ _ c) rfl e13 e14
      · rw [if_neg g, if_neg g]; exact bad _ rfl
    · rw [if_neg a1, if_neg a1]
      by_cases a2 : a = 2
      · rw [if_pos a2, if_pos a2]
        by_cases g : 48 ≤ x ∧ x ≤ 57
        · rw [if_pos g, if_pos g]; exact one _ _ _ _ rfl (Fm.refl _ _ c) rfl e13 e14
        · rw [if_neg g, if_neg g]
          by_cases g1 : x = 40
          · rw [if_pos g1, if_pos g1]
            exact one _ _ _ _ rfl ((Fm.refl _ _ c).sI rfl) rfl (by rw [gI_sI_same, nI_1]) e14
          · rw [if_neg g1, if_neg g1]
            by_cases g2 : x = 114 ∨ x = 116 ∨ x = 104 ∨ x = 107
            · rw [if_pos g2, if_pos g2]; exact one _ _ _ _ rfl (Fm.refl _ _ c) rfl e13 e14
            · rw [if_neg g2, if_neg g2]; exact bad _ rfl
      · rw [if_neg a2, if_neg a2]
        by_cases g : 48 ≤ x ∧ x ≤ 57
        · rw [if_pos g, if_pos g]
          by_cases a3 : a ≤ 3
          · rw [if_pos a3, if_neg (by omega)]; exact bad _ rfl
          · rw [if_neg a3, if_pos (by omega)]
            refine one _ _ _ _ rfl (Fm.refl _ _ c) ?_ e13 e14
            show nI a - 1 = nI (a - 1)
            rw [show a = a - 1 + 1 by omega, nI_pred]
            rfl
        · rw [if_neg g, if_neg g]
          by_cases g1 : x = 43 ∨ x = 45 ∨ x = 42
          · rw [if_pos g1, if_pos g1]; exact one _ _ _ _ rfl (Fm.refl _ _ c) rfl e13 e14
          · rw [if_neg g1, if_neg g1]
            by_cases g2 : x = 41 ∧ 0 < d
            · rw [if_pos (show x = 41 ∧ ¬ d ≤ 0 from ⟨g2.1, by omega⟩), if_pos g2]
              refine one _ _ _ _ rfl ((Fm.refl _ _ c).sI rfl) rfl ?_ e14
              rw [gI_sI_same]
              show nI d - 1 = nI (d - 1)
              rw [show d = d - 1 + 1 by omega, nI_pred]
              rfl
            · rw [if_neg (show ¬ (x = 41 ∧ ¬ d ≤ 0) from fun q => g2 ⟨q.1, by omega⟩), if_neg g2]
              by_cases g3 : (x = 60 ∨ x = 61 ∨ x = 62) ∧ d = 0 ∧ m = 0
              · rw [if_pos g3, if_pos g3]
                exact one _ _ _ _ rfl ((Fm.refl _ _ c).sI rfl) rfl e13 (by rw [gI_sI_same]; show nI k = nI (k + 1) - 1; rw [nI_pred])
              · rw [if_neg g3, if_neg g3]; exact bad _ rfl
theorem isMark_eq : R_isMark N x = some (bz (x = 60 ∨ x = 61 ∨ x = 62)) := by
  unfold R_isMark R_isMark_p18 bz
  by_cases h1 : x = 60
  · rw [if_pos h1, if_pos (Or.inl h1)]
  · rw [if_neg h1]
    by_cases h2 : x = 61
    · rw [if_pos h2, if_pos (Or.inr (Or.inl h2))]
    · rw [if_neg h2]
      by_cases h3 : x = 62
      · rw [if_neg (fun q => q h3), if_pos (Or.inr (Or.inr h3))]
      · rw [if_pos h3, if_neg (fun q => q.elim h1 (fun q => q.elim h2 h3))]
section RT
variable {kb : St → Int32 → Int32 → Int32 → Int32 → Int32 → Int32 → Option St} {s d g m j : Int32}
theorem p281_go : R_readText_p281 N kb r s d g m j 1 = kb r s d g m (j + 1) 1 := by
  unfold R_readText_p281 R_readText_p293
  rw [if_neg (by decide)]
theorem p278_st : R_readText_p278 N kb r s d g m j = kb r s d g m (j + 0) 0 := by
  unfold R_readText_p278 R_readText_p281 R_readText_p293
  rw [if_pos rfl]
theorem p193_lo (h : s ≤ 2) : R_readText_p193 N kb r s d g m j 1 x = kb r s d g m (j + 0) 0 := by
  unfold R_readText_p193
  rw [if_pos h]
  unfold R_readText_p224
  rw [if_pos h]
  unfold R_readText_p248
  rw [if_pos h, p278_st]
theorem p248_hi (h : ¬ s ≤ 2) : R_readText_p248 N kb r s d g m j 1 x = if (x = 60 ∨ x = 61 ∨ x = 62) ∧ d = 0 ∧ m = 0 then kb r 2 d g 1 (j + 1) 1 else kb r s d g m (j + 0) 0 := by
  unfold R_readText_p248
  rw [if_neg h, isMark_eq, Option.bind_some, if_bz, p278_st, p281_go]
  by_cases h1 : x = 60 ∨ x = 61 ∨ x = 62
  · rw [if_pos h1]
    by_cases h2 : d = 0
    · rw [if_neg (fun q => q h2)]
      by_cases h3 : m = 0
      · rw [if_neg (fun q => q h3), if_pos ⟨h1, h2, h3⟩]
      · rw [if_pos h3, if_neg (fun q => h3 q.2.2)]
    · rw [if_pos h2, if_neg (fun q => h2 q.2.1)]
  · rw [if_neg h1, if_neg (fun q => h1 q.1)]
theorem p193_hi (h : ¬ s ≤ 2) : R_readText_p193 N kb r s d g m j 1 x = if x = 43 ∨ x = 45 ∨ x = 42 then kb r 2 d g m (j + 1) 1 else if x = 41 ∧ ¬ d ≤ 0 then kb r 3 (d + (-1)) g m (j + 1) 1 else if (x = 60 ∨ x = 61 ∨ x = 62) ∧ d = 0 ∧ m = 0 then kb r 2 d g 1 (j + 1) 1 else kb r s d g m (j + 0) 0 := by
  unfold R_readText_p193 R_readText_p219
  rw [if_neg h, p281_go]
  have e : R_readText_p224 N kb r s d g m j 1 x = if x = 41 ∧ ¬ d ≤ 0 then kb r 3 (d + (-1)) g m (j + 1) 1 else if (x = 60 ∨ x = 61 ∨ x = 62) ∧ d = 0 ∧ m = 0 then kb r 2 d g 1 (j + 1) 1 else kb r s d g m (j + 0) 0 := by
    unfold R_readText_p224
    rw [if_neg h, p248_hi h, p281_go]
    by_cases h1 : x = 41
    · rw [if_neg (fun q => q h1)]
      by_cases h2 : d ≤ 0
      · rw [if_pos h2]
        by_cases h6 : x = 41 ∧ ¬ d ≤ 0
        · exact absurd h2 h6.2
        · rw [if_neg h6]
      · rw [if_neg h2, if_pos ⟨h1, h2⟩]
    · rw [if_pos h1]
      by_cases h6 : x = 41 ∧ ¬ d ≤ 0
      · exact absurd h6.1 h1
      · rw [if_neg h6]
  rw [e]
  by_cases h1 : x = 43
  · rw [if_pos h1, if_pos (Or.inl h1)]
  · rw [if_neg h1]
    by_cases h2 : x = 45
    · rw [if_pos h2, if_pos (Or.inr (Or.inl h2))]
    · rw [if_neg h2]
      by_cases h3 : x = 42
      · rw [if_neg (fun q => q h3), if_pos (Or.inr (Or.inr h3))]
      · rw [if_pos h3]
        by_cases h4 : x = 43 ∨ x = 45 ∨ x = 42
        · exact (h4.elim h1 (fun q => q.elim h2 h3)).elim
        · rw [if_neg h4]
end RT
/-- the reference's state of reading -/
def Rst (a : Nat) (s g : Int32) : Prop := (a ≤ 3 ∧ s = nI a) ∨ (3 ≤ a ∧ a ≤ 5 ∧ s = 4 ∧ g = nI (6 - a))
def cmp (m : Nat) : Int32 := if m = 0 then 0 else 1
theorem cmp_0 {m : Nat} : (cmp m = 0) = (m = 0) := by
  unfold cmp
  by_cases h : m = 0
  · simp [h]
  · simp [h]
theorem Rst_k1 (g : Int32) : Rst 1 1 g := Or.inl ⟨by decide, rfl⟩
theorem Rst_k2 (g : Int32) : Rst 2 2 g := Or.inl ⟨by decide, rfl⟩
theorem Rst_k3 (g : Int32) : Rst 3 3 g := Or.inl ⟨by decide, rfl⟩
theorem Rst_k5 : Rst 5 4 1 := Or.inr ⟨by decide, by decide, rfl, rfl⟩
theorem tS0 {d m : Nat} : tStep x k (0, d, m) = if x = 87 ∨ x = 83 ∨ x = 67 then some (1, d, m) else none := by
  unfold tStep
  dsimp only
  rw [if_pos rfl]
theorem tS1 {d m : Nat} : tStep x k (1, d, m) = if x = 58 then some (2, d, m) else none := by
  unfold tStep
  dsimp only
  rw [if_neg (show ¬ 1 = 0 by decide), if_pos rfl]
theorem tS2 {d m : Nat} : tStep x k (2, d, m) = if 48 ≤ x ∧ x ≤ 57 then some (5, d, m) else if x = 40 then some (2, d + 1, m) else if x = 114 ∨ x = 116 ∨ x = 104 ∨ x = 107 then some (3, d, m) else none := by
  unfold tStep
  dsimp only
  rw [if_neg (show ¬ 2 = 0 by decide), if_neg (show ¬ 2 = 1 by decide), if_pos rfl]
theorem tS3 {a d m : Nat} (ha : 3 ≤ a) : tStep x k (a, d, m) = if 48 ≤ x ∧ x ≤ 57 then (if 3 < a then some (a - 1, d, m) else none) else if x = 43 ∨ x = 45 ∨ x = 42 then some (2, d, m) else if x = 41 ∧ 0 < d then some (3, d - 1, m) else if (x = 60 ∨ x = 61 ∨ x = 62) ∧ d = 0 ∧ m = 0 then some (2, d, k + 1) else none := by
  unfold tStep
  dsimp only
  rw [if_neg (show ¬ a = 0 by omega), if_neg (show ¬ a = 1 by omega), if_neg (show ¬ a = 2 by omega)]
theorem rstep {a d m : Nat} {s g : Int32} (hs : Rst a s g) (hd : d ≤ 60) (hn : n ≤ 60) (hk : k < n) (e8 : gI r 8 = nI n) (hx : ld (gA r 10) (nI k) = some x) (kb : St → Int32 → Int32 → Int32 → Int32 → Int32 → Int32 → Option St) : (tStep x k (a, d, m) = none → R_readText_p15b N kb r s (nI d) g (cmp m) (nI k) 1 = kb r s (nI d) g (cmp m) (nI k) 0) ∧ ∀ q, tStep x k (a, d, m) = some q → ∃ s2 g2, Rst q.1 s2 g2 ∧ R_readText_p15b N kb r s (nI d) g (cmp m) (nI k) 1 = kb r s2 (nI q.2.1) g2 (cmp q.2.2) (nI (k + 1)) 1 := by
  have z4 : (nI d ≤ (0 : Int32)) = (d ≤ 0) := propext (nI_leI (b := 0) (by omega) (by omega))
  have z5 : (nI d = (0 : Int32)) = (d = 0) := propext (nI_eq (b := 0) (by omega) (by omega))
  have one : ∀ (T : Option St) (o : Option (Nat × Nat × Nat)) (q : Nat × Nat × Nat) (s2 g2 : Int32), o = some q → Rst q.1 s2 g2 → T = kb r s2 (nI q.2.1) g2 (cmp q.2.2) (nI (k + 1)) 1 → (o = none → T = kb r s (nI d) g (cmp m) (nI k) 0) ∧ ∀ q, o = some q → ∃ s2 g2, Rst q.1 s2 g2 ∧ T = kb r s2 (nI q.2.1) g2 (cmp q.2.2) (nI (k + 1)) 1 := by
    intro T o q s2 g2 ho h1 h2
    subst ho
    exact ⟨fun z => (by cases z), fun q2 z => by cases z; exact ⟨s2, g2, h1, h2⟩⟩
  have bad : ∀ (T : Option St) (o : Option (Nat × Nat × Nat)), o = none → T = kb r s (nI d) g (cmp m) (nI k) 0 → (o = none → T = kb r s (nI d) g (cmp m) (nI k) 0) ∧ ∀ q, o = some q → ∃ s2 g2, Rst q.1 s2 g2 ∧ T = kb r s2 (nI q.2.1) g2 (cmp q.2.2) (nI (k + 1)) 1 := by
    intro T o ho h1
    subst ho
    exact ⟨fun _ => h1, fun q z => by cases z⟩
  unfold R_readText_p15b
  rw [e8, if_neg (nI_on hk (by omega)), if_neg (by decide), hx, Option.bind_some, R_in_eq, Option.bind_some]
  have hi : ∀ s : Int32, ¬ s = 1 → ¬ s = 2 → R_readText_p82 N kb r s (nI d) g (cmp m) (nI k) 1 x (bz (48 ≤ x ∧ x ≤ 57)) = R_readText_p172 N kb r s (nI d) g (cmp m) (nI k) 1 x (bz (48 ≤ x ∧ x ≤ 57)) := by
    intro s h1 h2
    unfold R_readText_p82
    rw [if_pos h1]
    unfold R_readText_p99
    rw [if_pos h2]
    unfold R_readText_p117
    rw [if_pos h2]
    unfold R_readText_p155
    rw [if_pos h2]
  have lo1 : ∀ s : Int32, s ≤ 2 → ¬ s = 2 → ¬ s = 4 → R_readText_p99 N kb r s (nI d) g (cmp m) (nI k) 1 x (bz (48 ≤ x ∧ x ≤ 57)) = kb r s (nI d) g (cmp m) (nI k) 0 := by
    intro s h1 h2 h3
    unfold R_readText_p99
    rw [if_pos h2]
    unfold R_readText_p117
    rw [if_pos h2]
    unfold R_readText_p155
    rw [if_pos h2]
    unfold R_readText_p172
    rw [if_pos h3, p193_lo h1, Int32.add_zero]
  have ahi : 3 ≤ a → ∀ s : Int32, ¬ s ≤ 2 → Rst a s g → (R_readText_p193 N kb r s (nI d) g (cmp m) (nI k) 1 x = if x = 43 ∨ x = 45 ∨ x = 42 then kb r 2 (nI d) g (cmp m) (nI (k + 1)) 1 else if x = 41 ∧ ¬ d ≤ 0 then kb r 3 (nI d + (-1)) g (cmp m) (nI (k + 1)) 1 else if (x = 60 ∨ x = 61 ∨ x = 62) ∧ d = 0 ∧ m = 0 then kb r 2 (nI d) g 1 (nI (k + 1)) 1 else kb r s (nI d) g (cmp m) (nI k) 0) := by
    intro _ s h1 _
    rw [p193_hi h1]
    simp only [z4, z5, cmp_0, nI_1, Int32.add_zero]
  have a4 : a = 0 ∨ a = 1 ∨ a = 2 ∨ 3 ≤ a := by omega
  rcases a4 with rfl | rfl | rfl | a3
  · have s0 : s = 0 := Or.elim hs (fun q => q.2) (fun q => by omega)
    subst s0
    rw [if_neg (by decide)]
    have off : R_readText_p82 N kb r 0 (nI d) g (cmp m) (nI k) 1 x (bz (48 ≤ x ∧ x ≤ 57)) = kb r 0 (nI d) g (cmp m) (nI k) 0 := by
      unfold R_readText_p82
      rw [if_pos (by decide), lo1 0 (by decide) (by decide) (by decide)]
    rw [off]
    unfold R_readText_p77
    rw [p281_go, nI_1]
    have fin := fun h : x = 87 ∨ x = 83 ∨ x = 67 => one (kb r 1 (nI d) g (cmp m) (nI (k + 1)) 1) (tStep x k (0, d, m)) (1, d, m) 1 g (by rw [tS0, if_pos h]) (Rst_k1 g) rfl
    by_cases h1 : x = 87
    · rw [if_pos h1]; exact fin (Or.inl h1)
    · rw [if_neg h1]
      by_cases h2 : x = 83
      · rw [if_pos h2]; exact fin (Or.inr (Or.inl h2))
      · rw [if_neg h2]
        by_cases h3 : x = 67
        · rw [if_neg (fun q => q h3)]; exact fin (Or.inr (Or.inr h3))
        · rw [if_pos h3]
          have hn : ¬ (x = 87 ∨ x = 83 ∨ x = 67) := fun q => q.elim h1 (fun q => q.elim h2 h3)
          exact bad _ _ (by rw [tS0, if_neg hn]) rfl
  · have s1 : s = 1 := Or.elim hs (fun q => q.2) (fun q => by omega)
    subst s1
    rw [if_pos (by decide)]
    unfold R_readText_p82
    rw [if_neg (by decide), lo1 1 (by decide) (by decide) (by decide), p281_go, nI_1]
    by_cases h1 : x = 58
    · rw [if_neg (fun q => q h1)]
      exact one _ _ (2, d, m) 2 g (by rw [tS1, if_pos h1]) (Rst_k2 g) rfl
    · rw [if_pos h1]
      exact bad _ _ (by rw [tS1, if_neg h1]) rfl
  · have s2 : s = 2 := Or.elim hs (fun q => q.2) (fun q => by omega)
    subst s2
    rw [if_pos (by decide)]
    unfold R_readText_p82
    rw [if_pos (by decide)]
    unfold R_readText_p99
    rw [if_neg (by decide), p281_go, nI_1, nI_1]
    unfold R_readText_p117 R_readText_p150
    rw [if_neg (show ¬ ¬ (2 : Int32) = 2 by decide), p281_go, nI_1]
    unfold R_readText_p155
    rw [if_neg (show ¬ ¬ (2 : Int32) = 2 by decide), p281_go, nI_1, if_bz]
    unfold R_readText_p172
    rw [if_pos (show ¬ (2 : Int32) = 4 by decide), p193_lo (by decide), Int32.add_zero]
    by_cases gd : 48 ≤ x ∧ x ≤ 57
    · rw [if_pos (not_dig gd (by decide)), if_neg (not_dig gd (by decide)), if_neg (not_dig gd (by decide)), if_neg (not_dig gd (by decide)), if_pos (not_dig gd (by decide)), if_pos gd]
      exact one _ _ (5, d, m) 4 1 (by rw [tS2, if_pos gd]) Rst_k5 rfl
    · rw [if_neg gd]
      have fin := fun (h0 : ¬ x = 40) (h : x = 114 ∨ x = 116 ∨ x = 104 ∨ x = 107) => one (kb r 3 (nI d) g (cmp m) (nI (k + 1)) 1) (tStep x k (2, d, m)) (3, d, m) 3 g (by rw [tS2, if_neg gd, if_neg h0, if_pos h]) (Rst_k3 g) rfl
      by_cases h0 : x = 40
      · rw [if_neg (fun q => q h0)]
        exact one _ _ (2, d + 1, m) 2 g (by rw [tS2, if_neg gd, if_pos h0]) (Rst_k2 g) rfl
      · rw [if_pos h0]
        by_cases h1 : x = 114
        · rw [if_pos h1]; exact fin h0 (Or.inl h1)
        · rw [if_neg h1]
          by_cases h2 : x = 116
          · rw [if_pos h2]; exact fin h0 (Or.inr (Or.inl h2))
          · rw [if_neg h2]
            by_cases h3 : x = 104
            · rw [if_pos h3]; exact fin h0 (Or.inr (Or.inr (Or.inl h3)))
            · rw [if_neg h3]
              by_cases h4 : x = 107
              · rw [if_neg (fun q => q h4)]; exact fin h0 (Or.inr (Or.inr (Or.inr h4)))
              · rw [if_pos h4]
                have hn : ¬ (x = 114 ∨ x = 116 ∨ x = 104 ∨ x = 107) := fun q => q.elim h1 (fun q => q.elim h2 (fun q => q.elim h3 h4))
                exact bad _ _ (by rw [tS2, if_neg gd, if_neg h0, if_neg hn]) rfl
  · have sh : (s = 3 ∧ a = 3) ∨ (s = 4 ∧ g = nI (6 - a) ∧ a ≤ 5) := by
      rcases hs with ⟨u1, u2⟩ | ⟨u1, u2, u3, u4⟩
      · have e3 : a = 3 := by omega
        subst e3
        exact Or.inl ⟨u2, rfl⟩
      · exact Or.inr ⟨u3, u4, u2⟩
    have n0 : ¬ s = 0 := by rcases sh with ⟨rfl, _⟩ | ⟨rfl, _⟩ <;> decide
    have n1 : ¬ s = 1 := by rcases sh with ⟨rfl, _⟩ | ⟨rfl, _⟩ <;> decide
    have n2 : ¬ s = 2 := by rcases sh with ⟨rfl, _⟩ | ⟨rfl, _⟩ <;> decide
    have n3 : ¬ s ≤ 2 := by rcases sh with ⟨rfl, _⟩ | ⟨rfl, _⟩ <;> decide
    rw [if_pos n0, hi s n1 n2]
    by_cases gd : 48 ≤ x ∧ x ≤ 57
    · have e1 : ¬ (x = 43 ∨ x = 45 ∨ x = 42) := fun q => q.elim (not_dig gd (by decide)) (fun q => q.elim (not_dig gd (by decide)) (not_dig gd (by decide)))
      have e2 : ¬ (x = 41 ∧ ¬ d ≤ 0) := fun q => not_dig gd (by decide) q.1
      have e3 : ¬ ((x = 60 ∨ x = 61 ∨ x = 62) ∧ d = 0 ∧ m = 0) := fun q => q.1.elim (not_dig gd (by decide)) (fun q => q.elim (not_dig gd (by decide)) (not_dig gd (by decide)))
      have stop : R_readText_p193 N kb r s (nI d) g (cmp m) (nI k) 1 x = kb r s (nI d) g (cmp m) (nI k) 0 := by
        rw [ahi a3 s n3 hs, if_neg e1, if_neg e2, if_neg e3]
      unfold R_readText_p172
      rw [stop, p281_go, nI_1]
      rcases sh with ⟨rfl, rfl⟩ | ⟨rfl, rfl, h5⟩
      · rw [if_pos (by decide)]
        exact bad _ _ (by rw [tS3 a3, if_pos gd, if_neg (by decide)]) rfl
      · have z6 : ((3 : Int32) ≤ nI (6 - a)) = (3 ≤ 6 - a) := propext (nI_leI (a := 3) (by omega) (by omega))
        rw [if_neg (by decide), if_neg (fun q => bz_z.mp q gd)]
        simp only [z6]
        by_cases h3 : a = 3
        · rw [if_pos (show 3 ≤ 6 - a by omega)]
          exact bad _ _ (by rw [tS3 a3, if_pos gd, if_neg (show ¬ 3 < a by omega)]) rfl
        · rw [if_neg (show ¬ 3 ≤ 6 - a by omega)]
          refine one _ _ (a - 1, d, m) 4 (nI (6 - a) + 1) (by rw [tS3 a3, if_pos gd, if_pos (show 3 < a by omega)]) (Or.inr ⟨?_, ?_, rfl, ?_⟩) rfl
          · show 3 ≤ a - 1; omega
          · show a - 1 ≤ 5; omega
          · show _ = nI (6 - (a - 1)); rw [nI_1]; congr 1; omega
    · have go : R_readText_p172 N kb r s (nI d) g (cmp m) (nI k) 1 x (bz (48 ≤ x ∧ x ≤ 57)) = R_readText_p193 N kb r s (nI d) g (cmp m) (nI k) 1 x := by
        unfold R_readText_p172
        by_cases q : s = 4
        · rw [if_neg (fun z => z q), if_pos (bz_z.mpr gd)]
        · rw [if_pos q]
      rw [go, ahi a3 s n3 hs]
      by_cases g1 : x = 43 ∨ x = 45 ∨ x = 42
      · rw [if_pos g1]
        exact one _ _ (2, d, m) 2 g (by rw [tS3 a3, if_neg gd, if_pos g1]) (Rst_k2 g) rfl
      · rw [if_neg g1]
        by_cases g2 : x = 41 ∧ 0 < d
        · rw [if_pos (show x = 41 ∧ ¬ d ≤ 0 from ⟨g2.1, by omega⟩)]
          refine one _ _ (3, d - 1, m) 3 g (by rw [tS3 a3, if_neg gd, if_neg g1, if_pos g2]) (Rst_k3 g) ?_
          show _ = kb r 3 (nI (d - 1)) g (cmp m) (nI (k + 1)) 1
          rw [show nI d + (-1) = nI (d - 1) from by
            have := nI_pred (d - 1)
            rw [show d - 1 + 1 = d by omega, Int32.sub_eq_add_neg] at this
            exact this]
        · have e2 : ¬ (x = 41 ∧ ¬ d ≤ 0) := fun q => g2 ⟨q.1, by omega⟩
          rw [if_neg e2]
          by_cases g3 : (x = 60 ∨ x = 61 ∨ x = 62) ∧ d = 0 ∧ m = 0
          · rw [if_pos g3]
            exact one _ _ (2, d, k + 1) 2 g (by rw [tS3 a3, if_neg gd, if_neg g1, if_neg g2, if_pos g3]) (Rst_k2 g) rfl
          · rw [if_neg g3]
            exact bad _ _ (by rw [tS3 a3, if_neg gd, if_neg g1, if_neg g2, if_neg g3]) rfl
theorem tStep_bnd {a d m : Nat} {q : Nat × Nat × Nat} (ha : a ≤ 5) (hd : d ≤ k) (hm : m ≤ k) (h : tStep x k (a, d, m) = some q) : q.1 ≤ 5 ∧ q.2.1 ≤ k + 1 ∧ q.2.2 ≤ k + 1 := by
  unfold tStep at h
  dsimp only at h
  repeat' split at h
  all_goals first
    | (cases h; done)
    | (cases h; exact ⟨by dsimp only; omega, by dsimp only; omega, by dsimp only; omega⟩)
theorem tRun_succ (l : List Int32) (k : Nat) : tRun l (k + 1) = (tRun l k).bind (tStep (l.getD k 0) k) := rfl
theorem tRun_bnd {l : List Int32} : ∀ k q, tRun l k = some q → q.1 ≤ 5 ∧ q.2.1 ≤ k ∧ q.2.2 ≤ k := by
  intro k
  induction k with
  | zero => intro q h; cases h; exact ⟨by decide, by decide, by decide⟩
  | succ k ih =>
    intro q h
    rw [tRun_succ] at h
    cases e : tRun l k with
    | none => rw [e] at h; cases h
    | some p =>
      obtain ⟨h1, h2, h3⟩ := ih p e
      rw [e, Option.bind_some] at h
      exact tStep_bnd (a := p.1) (d := p.2.1) (m := p.2.2) h1 h2 h3 h
theorem nI_ne_m1 {a : Nat} (h : a ≤ 1000) : ¬ nI a = (-1 : Int32) := fun q => by
  have e := congrArg Int32.toInt q
  rw [nI_toInt (by omega)] at e
  have : (-1 : Int32).toInt = -1 := rfl
  omega
theorem p299_ok {a d m p : Nat} {s g : Int32} (hs : Rst a s g) (hd : d ≤ 60) (hn : n ≤ 60) (hp : p ≤ 60) (e8 : gI r 8 = nI n) : R_readText_p299 N r s (nI d) (cmp m) (nI p) = some (sI (sI r 30 (nI p)) 31 (bz (p = n ∧ 3 ≤ a ∧ d = 0 ∧ ¬ m = 0))) := by
  have z0 : (nI p = nI n) = (p = n) := propext (nI_eq (by omega) (by omega))
  have z5 : (nI d = (0 : Int32)) = (d = 0) := propext (nI_eq (b := 0) (by omega) (by omega))
  have zs : (s ≤ 2) = (¬ 3 ≤ a) := by
    rcases hs with ⟨h1, rfl⟩ | ⟨h1, h2, rfl, _⟩
    · exact propext ((nI_leI (b := 2) (by omega) (by omega)).trans (by omega))
    · exact propext ⟨fun q => absurd q (by decide), fun q => by omega⟩
  have o0 : R_readText_p333 N (sI r 30 (nI p)) = some (sI (sI r 30 (nI p)) 31 0) := rfl
  have o1 : R_readText_p334 N (sI r 30 (nI p)) 1 = some (sI (sI r 30 (nI p)) 31 1) := rfl
  have e8' : gI (sI r 30 (nI p)) 8 = nI n := e8
  unfold R_readText_p299
  rw [e8', o0, o1]
  simp only [z0, z5, zs, cmp_0]
  by_cases h : p = n ∧ 3 ≤ a ∧ d = 0 ∧ ¬ m = 0
  · rw [if_neg (fun q => q h.1), if_neg (fun q => q h.2.1), if_neg (fun q => q h.2.2.1), if_neg h.2.2.2]
    unfold bz
    rw [if_pos h]
  · unfold bz
    rw [if_neg h]
    by_cases h1 : p = n
    · rw [if_neg (fun q => q h1)]
      by_cases h2 : 3 ≤ a
      · rw [if_neg (fun q => q h2)]
        by_cases h3 : d = 0
        · rw [if_neg (fun q => q h3)]
          by_cases h4 : m = 0
          · rw [if_pos h4]
          · exact absurd ⟨h1, h2, h3, h4⟩ h
        · rw [if_pos h3]
      · rw [if_pos h2]
    · rw [if_pos h1]
theorem scan_same (hN : 100 < N) (hn : n ≤ 60) (e6 : gI c 6 = nI n) (e8 : gI r 8 = nI n) (hp : gA c 34 = gA r 10) (l34 : (gA c 34).length = 60) : ∃ p c1 r1, Texts_scan N c = some (nI p, c1) ∧ R_readText N r = some r1 ∧ Fm scI scA c c1 ∧ Fm srI srA r r1 ∧ gI r1 30 = nI p ∧ p ≤ n ∧ ((p = n ∧ ∃ a d m, tRun (gA c 34) n = some (a, d, m) ∧ gI c1 12 = nI a ∧ gI c1 13 = nI d ∧ gI c1 14 = nI m - 1 ∧ gI r1 31 = bz (3 ≤ a ∧ d = 0 ∧ ¬ m = 0)) ∨ (p < n ∧ gI r1 31 = 0)) := by
  unfold Texts_scan R_readText
  have main : ∀ (f k : Nat), k ≤ n → n - k < f → (n + 1 - k < f → ∀ (c2 : St) (s g : Int32) (a d m : Nat), Fm scI scA c c2 → tRun (gA c 34) k = some (a, d, m) → gI c2 12 = nI a → gI c2 13 = nI d → gI c2 14 = nI m - 1 → Rst a s g → ∃ p c1 r1, Texts_scan_p17 N f c2 (nI k) = some (nI p, c1) ∧ R_readText_p15 N f r s (nI d) g (cmp m) (nI k) 1 = some r1 ∧ Fm scI scA c c1 ∧ Fm srI srA r r1 ∧ gI r1 30 = nI p ∧ p ≤ n ∧ ((p = n ∧ ∃ a d m, tRun (gA c 34) n = some (a, d, m) ∧ gI c1 12 = nI a ∧ gI c1 13 = nI d ∧ gI c1 14 = nI m - 1 ∧ gI r1 31 = bz (3 ≤ a ∧ d = 0 ∧ ¬ m = 0)) ∨ (p < n ∧ gI r1 31 = 0))) := by
    refine for_up (P := fun f k => n + 1 - k < f → ∀ (c2 : St) (s g : Int32) (a d m : Nat), Fm scI scA c c2 → tRun (gA c 34) k = some (a, d, m) → gI c2 12 = nI a → gI c2 13 = nI d → gI c2 14 = nI m - 1 → Rst a s g → ∃ p c1 r1, Texts_scan_p17 N f c2 (nI k) = some (nI p, c1) ∧ R_readText_p15 N f r s (nI d) g (cmp m) (nI k) 1 = some r1 ∧ Fm scI scA c c1 ∧ Fm srI srA r r1 ∧ gI r1 30 = nI p ∧ p ≤ n ∧ ((p = n ∧ ∃ a d m, tRun (gA c 34) n = some (a, d, m) ∧ gI c1 12 = nI a ∧ gI c1 13 = nI d ∧ gI c1 14 = nI m - 1 ∧ gI r1 31 = bz (3 ≤ a ∧ d = 0 ∧ ¬ m = 0)) ∨ (p < n ∧ gI r1 31 = 0))) ?_ ?_
    · intro f _ c2 s g a d m fc ht h12 h13 h14 hs
      obtain ⟨b1, b2, b3⟩ := tRun_bnd _ _ ht
      dsimp only at b1 b2 b3
      have e6' : gI c2 6 = nI n := (fc.1 6 rfl).trans e6
      refine ⟨n, c2, sI (sI r 30 (nI n)) 31 (bz (n = n ∧ 3 ≤ a ∧ d = 0 ∧ ¬ m = 0)), ?_, ?_, fc, ((Fm.refl _ _ r).sI rfl).sI rfl, rfl, Nat.le_refl n, Or.inl ⟨rfl, a, d, m, ht, h12, h13, h14, ?_⟩⟩
      · show Texts_scan_p17b _ _ _ _ = _
        unfold Texts_scan_p17b
        rw [e6', if_pos (nI_stop n)]
      · show R_readText_p15b _ _ _ _ _ _ _ _ _ = _
        unfold R_readText_p15b
        rw [e8, if_pos (nI_stop n), p299_ok hs (by omega) hn hn e8]
      · rw [gI_sI_same]
        unfold bz
        by_cases q : 3 ≤ a ∧ d = 0 ∧ ¬ m = 0
        · rw [if_pos q, if_pos ⟨rfl, q⟩]
        · rw [if_neg q, if_neg (fun z => q z.2)]
    · intro f k hk ih hf c2 s g a d m fc ht h12 h13 h14 hs
      obtain ⟨b1, b2, b3⟩ := tRun_bnd _ _ ht
      dsimp only at b1 b2 b3
      have e6' : gI c2 6 = nI n := (fc.1 6 rfl).trans e6
      have e34 : gA c2 34 = gA c 34 := fc.2.1 34 rfl
      have hx : ld (gA r 10) (nI k) = some ((gA c 34).getD k 0) := by rw [← hp]; exact ld_nI (by omega) (by omega)
      obtain ⟨v, c3, u1, u2, u3, u4⟩ := aft_ok (N := N) (x := (gA c 34).getD k 0) (k := k) b1 (by omega) (by omega) (by omega) h12 h13 h14
      obtain ⟨w1, w2⟩ := rstep (N := N) (n := n) (k := k) (m := m) hs (d := d) (by omega) hn hk e8 hx (R_readText_p15 N f)
      have fc3 : Fm scI scA c c3 := fc.trans (u2.mono (mks_le (by decide)) (mks_le (by decide)))
      have sc : Texts_scan_p17 N (f + 1) c2 (nI k) = if ¬ v = -1 then Texts_scan_p17 N f (sI c3 12 v) (nI (k + 1)) else some (nI k, sI c3 12 v) := by
        show Texts_scan_p17b _ _ _ _ = _
        unfold Texts_scan_p17b
        rw [e6', if_neg (nI_on hk (by omega)), e34, ld_nI (by omega) (by omega), Option.bind_some, u1, Option.bind_some, nI_1]
        rfl
      rw [sc]
      cases hst : tStep ((gA c 34).getD k 0) k (a, d, m) with
      | none =>
        have hv := u3 hst
        refine ⟨k, sI c3 12 v, sI (sI r 30 (nI k)) 31 0, ?_, ?_, fc3.sI rfl, ((Fm.refl _ _ r).sI rfl).sI rfl, rfl, by omega, Or.inr ⟨hk, rfl⟩⟩
        · rw [if_neg (fun q => q hv)]
        · show R_readText_p15b _ _ _ _ _ _ _ _ _ = _
          rw [w1 hst]
          cases f with
          | zero => omega
          | succ f =>
            show R_readText_p15b _ _ _ _ _ _ _ _ _ = _
            unfold R_readText_p15b
            rw [e8, if_neg (nI_on hk (by omega)), if_pos rfl, p299_ok hs (by omega) hn (by omega) e8]
            unfold bz
            rw [if_neg (fun q => by omega)]
      | some q =>
        obtain ⟨s2, g2, w3, w4⟩ := w2 q hst
        obtain ⟨v1, v2, v3⟩ := u4 q hst
        have hb := tStep_bnd b1 b2 b3 hst
        have ht2 : tRun (gA c 34) (k + 1) = some (q.1, q.2.1, q.2.2) := by rw [tRun_succ, ht, Option.bind_some, hst]
        have hv : ¬ v = -1 := by rw [v1]; exact nI_ne_m1 (by omega)
        rw [if_pos hv]
        obtain ⟨p, c1, r1, y1, y2, y3⟩ := ih (by omega) (sI c3 12 v) s2 g2 q.1 q.2.1 q.2.2 (fc3.sI rfl) ht2 (by rw [gI_sI_same]; exact v1) ((gI_sI_ne _ _ (by decide)).trans v2) ((gI_sI_ne _ _ (by decide)).trans v3) w3
        exact ⟨p, c1, r1, y1, w4.trans y2, y3⟩
  exact main N 0 (by omega) (by omega) (by omega) _ 0 0 0 0 0 (((Fm.refl scI scA c).sI rfl).sI rfl |>.sI rfl) rfl rfl rfl (by rw [gI_sI_same]; rfl) (Or.inl ⟨by decide, rfl⟩)
theorem S_fault (h : Rel c r) (hN : 100 < N) : Sim (C_fault N c) (R_fault N r) := by
  obtain ⟨n, m, q1, q2, q3, q4, q5, q6, q7, -⟩ := h.rText
  obtain ⟨p, c1, r1, y1, y2, y3, y4, y5, -⟩ := scan_same (N := N) hN q1 q3 q4 q7 (h.lenC.1 34)
  unfold C_fault R_fault
  rw [y1, y2, Option.bind_some, Option.bind_some, y5]
  exact ⟨_, c1, r1, rfl, rfl, h.fr y3 y4⟩
theorem whole_same (hN : 100 < N) (hn : n ≤ 60) (e6 : gI c 6 = nI n) (e8 : gI r 8 = nI n) (hp : gA c 34 = gA r 10) (l34 : (gA c 34).length = 60) : ∃ (w : Bool) (c1 r1 : St), Texts_isWhole N c = some (if w = true then 1 else 0, c1) ∧ R_readText N r = some r1 ∧ Fm scI scA c c1 ∧ Fm srI srA r r1 ∧ gI r1 31 = (if w = true then 1 else 0) ∧ (w = true → ∃ a s, 3 ≤ a ∧ tRun (gA c 34) n = some (a, 0, s + 1) ∧ gI c1 14 = nI s) := by
  obtain ⟨p, c1, r1, y1, y2, y3, y4, y5, y6, y7⟩ := scan_same (N := N) hN hn e6 e8 hp l34
  have e6' : gI c1 6 = nI n := (y3.1 6 rfl).trans e6
  unfold Texts_isWhole Texts_isWhole_p38
  rw [y1, y2, Option.bind_some]
  dsimp only
  rw [e6']
  have z0 : (nI p = nI n) = (p = n) := propext (nI_eq (by omega) (by omega))
  simp only [z0]
  rcases y7 with ⟨rfl, a, d, m, ht, h12, h13, h14, h31⟩ | ⟨hlt, h31⟩
  · obtain ⟨b1, b2, b3⟩ := tRun_bnd _ _ ht
    dsimp only at b1 b2 b3
    have z3 : (nI a < (3 : Int32)) = (a < 3) := propext (nI_ltI (b := 3) (by omega) (by omega))
    have z5 : (nI d = (0 : Int32)) = (d = 0) := propext (nI_eq (b := 0) (by omega) (by omega))
    rw [if_neg (fun q => q rfl), h12, h13, h14]
    simp only [z3, z5, mk_none (show m ≤ 60 by omega)]
    by_cases w : 3 ≤ a ∧ d = 0 ∧ ¬ m = 0
    · refine ⟨true, c1, r1, ?_, rfl, y3, y4, ?_, fun _ => ⟨a, m - 1, w.1, ?_, ?_⟩⟩
      · rw [if_neg (by omega), if_neg (fun q => q w.2.1), if_neg w.2.2, if_pos rfl]
      · rw [h31, if_pos rfl]; unfold bz; rw [if_pos w]
      · rw [ht, w.2.1, show m - 1 + 1 = m by omega]
      · rw [h14, show m = m - 1 + 1 by omega, nI_pred]; rfl
    · refine ⟨false, c1, r1, ?_, rfl, y3, y4, ?_, fun z => by cases z⟩
      · rw [if_neg (show ¬ false = true by decide)]
        by_cases h3 : a < 3
        · rw [if_pos h3]
        · rw [if_neg h3]
          by_cases h4 : d = 0
          · rw [if_neg (fun q => q h4)]
            by_cases h5 : m = 0
            · rw [if_pos h5]
            · exact absurd ⟨by omega, h4, h5⟩ w
          · rw [if_pos h4]
      · rw [h31, if_neg (show ¬ false = true by decide)]; unfold bz; rw [if_neg w]
  · refine ⟨false, c1, r1, ?_, rfl, y3, y4, by rw [h31]; rfl, fun z => by cases z⟩
    rw [if_pos (by omega)]
    rfl
theorem cpy_n {f g : List Int32} {n : Nat} (hf : n ≤ f.length) (hg : n ≤ g.length) (hn : n < 2 ^ 31) : cpy f g 0 0 (nI n) = some (f.take n ++ g.drop n) := by
  unfold cpy
  have e0 : (0 : Int32).toNatClampNeg = 0 := rfl
  rw [nI_clamp hn, e0, if_neg]
  · rw [List.take_zero, List.drop_zero, Nat.zero_add, List.nil_append]
  · rintro (((h | h) | h) | h | h)
    · exact absurd h (by decide)
    · exact absurd h (by decide)
    · exact nI_pos hn h
    · omega
    · omega
theorem cpy_get {f g : List Int32} {n : Nat} (hf : n ≤ f.length) (i : Nat) : (f.take n ++ g.drop n).getD i 0 = if i < n then f.getD i 0 else g.getD i 0 := by
  simp only [List.getD_eq_getElem?_getD, List.getElem?_append, List.length_take, Nat.min_eq_left hf]
  by_cases h : i < n
  · rw [if_pos h, if_pos h, List.getElem?_take_of_lt h]
  · rw [if_neg h, if_neg h, List.getElem?_drop, show n + (i - n) = i by omega]
theorem cpy_len {f g : List Int32} {n : Nat} (hf : n ≤ f.length) (hg : n ≤ g.length) : (f.take n ++ g.drop n).length = g.length := by
  rw [List.length_append, List.length_take, List.length_drop, Nat.min_eq_left hf]
  omega
theorem tRun_congr {l l2 : List Int32} : ∀ k, (∀ i, i < k → l.getD i 0 = l2.getD i 0) → tRun l k = tRun l2 k := by
  intro k
  induction k with
  | zero => intro _; rfl
  | succ k ih => intro h; rw [tRun_succ, tRun_succ, ih (fun i hi => h i (by omega)), h k (by omega)]
theorem byte_idt : ∀ n, n < 127 → (nI n).toInt8.toInt32 = nI n := by decide +kernel
theorem byte_id {x : Int32} (h : ib x 0 126) : x.toInt8.toInt32 = x := by
  obtain ⟨e, e2⟩ := nat_of h.1
  rw [e]
  have := h.2
  exact byte_idt _ (by omega)
theorem keepR_ok {m : Nat} (hN : 100 < N) (hn : n ≤ 60) (hm : m < 12) (e8 : gI r 8 = nI n) (e9 : gI r 9 = nI m) (l10 : (gA r 10).length = 60) (l11 : (gA r 11).length = 720) (l12 : (gA r 12).length = 12) (hb : bnd (gA r 10) 60 0 126) : ∃ r1, R_text_p28 N N r 0 = some (nI m, r1) ∧ Fm (mks [8, 9]) (mks [11, 12]) r r1 ∧ gI r1 8 = 0 ∧ gI r1 9 = nI (m + 1) ∧ gA r1 12 = (gA r 12).set m (nI n) ∧ ∀ i, (gA r1 11).getD i 0 = if 60 * m ≤ i ∧ i < 60 * m + n then (gA r 10).getD (i - 60 * m) 0 else (gA r 11).getD i 0 := by
  refine for_up (P := fun f k => ∀ r2, Fm (mks []) (mks [11]) r r2 → (∀ i, (gA r2 11).getD i 0 = if 60 * m ≤ i ∧ i < 60 * m + k then (gA r 10).getD (i - 60 * m) 0 else (gA r 11).getD i 0) → ∃ r1, R_text_p28 N f r2 (nI k) = some (nI m, r1) ∧ Fm (mks [8, 9]) (mks [11, 12]) r r1 ∧ gI r1 8 = 0 ∧ gI r1 9 = nI (m + 1) ∧ gA r1 12 = (gA r 12).set m (nI n) ∧ ∀ i, (gA r1 11).getD i 0 = if 60 * m ≤ i ∧ i < 60 * m + n then (gA r 10).getD (i - 60 * m) 0 else (gA r 11).getD i 0) (m := n) ?_ ?_ N 0 (by omega) (by omega) r (Fm.refl _ _ r) (fun i => by rw [if_neg (by omega)])
  · intro f r2 fr h11
    have g8 : gI r2 8 = nI n := (fr.1 8 rfl).trans e8
    have g9 : gI r2 9 = nI m := (fr.1 9 rfl).trans e9
    have g12 : gA r2 12 = gA r 12 := fr.2.1 12 rfl
    have fr' : Fm (mks [8, 9]) (mks [11, 12]) r r2 := fr.mono (mks_le (by decide)) (mks_le (by decide))
    refine ⟨sI (sI (sA r2 12 ((gA r 12).set m (nI n))) 9 (nI (m + 1))) 8 0, ?_, ((fr'.sA rfl (by rw [List.length_set, g12])).sI rfl).sI rfl, rfl, rfl, rfl, h11⟩
    show R_text_p28b _ _ _ _ = _
    unfold R_text_p28b
    rw [g8, if_pos (nI_stop n), g9, g12, sto_nI (by omega) (by omega), Option.bind_some]
    have a9 : gI (sA r2 12 ((gA r 12).set m (nI n))) 9 = nI m := g9
    rw [a9, nI_1, gI_sI_ne _ _ (by decide), gI_sI_same, nI_pred]
  · intro f k hk ih r2 fr h11
    have g8 : gI r2 8 = nI n := (fr.1 8 rfl).trans e8
    have g9 : gI r2 9 = nI m := (fr.1 9 rfl).trans e9
    have g10 : gA r2 10 = gA r 10 := fr.2.1 10 rfl
    have g11 : (gA r2 11).length = 720 := (fr.len 11).trans l11
    have ei : (60 : Int32) * nI m + nI k = nI (60 * m + k) := by rw [show (60 : Int32) = nI 60 from rfl, pk_mul, nI_add]
    show ∃ r1, R_text_p28b _ _ _ _ = _ ∧ _
    unfold R_text_p28b
    rw [g8, if_neg (nI_on hk (by omega)), g10, ld_nI (by omega) (by omega), Option.bind_some, g9, ei, sto_nI (by omega) (by omega), Option.bind_some, nI_1, byte_id (hb k (by omega))]
    refine ih _ (fr.sA rfl List.length_set) (fun i => ?_)
    rw [gA_sA_same, getD_set (by omega), h11 i]
    by_cases q : i = 60 * m + k
    · subst q
      rw [if_pos rfl, if_pos (by omega), show 60 * m + k - 60 * m = k by omega]
    · rw [if_neg q]
      by_cases q2 : 60 * m ≤ i ∧ i < 60 * m + k
      · rw [if_pos q2, if_pos (by omega)]
      · rw [if_neg q2, if_neg (by omega)]
theorem keep_same {a s : Nat} (h : Rel c r) (hN : 100 < N) (hn : n ≤ 60) (e6 : gI c 6 = nI n) (ht : tRun (gA c 34) n = some (a, 0, s + 1)) (ha : 3 ≤ a) (e14 : gI c 14 = nI s) : Sim (Texts_keepPage N c) (if ¬ gI r 9 = 12 then R_text_p28 N N r 0 else some (-104, r)) := by
  obtain ⟨n2, m, q1, q2, q3, q4, q5, q6, q7, q8, q9, q10, q11⟩ := h.rText
  have en : n2 = n := (nI_eq (by omega) (by omega)).mp (q3.symm.trans e6)
  subst en
  have hlt : (nI m < (12 : Int32)) = (m < 12) := lt_nI (m := 12) (by omega) (by omega)
  have hne : (¬ nI m = (12 : Int32)) = (m < 12) := ne_nI (m := 12) (by omega) (by omega)
  unfold Texts_keepPage
  rw [q5, q6]
  simp only [hlt, hne]
  refine Sim.ite (fun hm => ?_) (fun _ => Sim.ret h)
  have l34 : (gA c 34).length = 60 := h.lenC.1 34
  have l47 : (gA c 47).length = 12 := h.lenC.1 47
  have l48 : (gA c 48).length = 12 := h.lenC.1 48
  have lrow : (gA c (35 + m)).length = 60 := (h.lenC.1 _).trans ((by decide : ∀ i, i < 12 → LAc (35 + i) = 60) m hm)
  obtain ⟨r1, d1, d2, d3, d4, d5, d6⟩ := keepR_ok (N := N) hN q1 hm q4 q6 (h.lenR.1 10) (h.lenR.1 11) (h.lenR.1 12) (by rw [← q7]; exact q8)
  rw [d1, rwi_nI hm (by omega), Option.bind_some, q3, cpy_n (by omega) (by omega) (by omega), Option.bind_some]
  have g47 : ∀ W, gA (sA c (35 + m) W) 47 = gA c 47 := fun W => gA_sA_ne c W (by omega)
  have g48 : ∀ W V, gA (sA (sA c (35 + m) W) 47 V) 48 = gA c 48 := fun W V => (gA_sA_ne _ V (by decide)).trans (gA_sA_ne c W (by omega))
  have s47 : ∀ x, sto (gA c 47) (nI m) x = some ((gA c 47).set m x) := fun x => sto_nI (by omega) (by omega)
  have s48 : ∀ x, sto (gA c 48) (nI m) x = some ((gA c 48).set m x) := fun x => sto_nI (by omega) (by omega)
  simp only [gI_sA, q3, q5, e14, g47, g48, s47, s48, Option.bind_some]
  have hlen := cpy_len (f := gA c 34) (g := gA c (35 + m)) (n := n2) (by omega) (by omega)
  generalize hW : (gA c 34).take n2 ++ (gA c (35 + m)).drop n2 = W at hlen
  have hWg : ∀ i, W.getD i 0 = if i < n2 then (gA c 34).getD i 0 else (gA c (35 + m)).getD i 0 := fun i => by rw [← hW]; exact cpy_get (by omega) i
  have fc : Fm txI txA c (sI (sI (sA (sA (sA c (35 + m) W) 47 ((gA c 47).set m (nI n2))) 48 ((gA c 48).set m (nI s))) 6 0) 7 (nI (m + 1))) := by
    refine Fm.sI (Fm.sI (Fm.sA (Fm.sA (Fm.sA (Fm.refl _ _ c) ?_ hlen) rfl ?_) rfl ?_) rfl) rfl
    · exact (by decide : ∀ i, i < 12 → txA (35 + i) = true) m hm
    · rw [List.length_set, g47]
    · rw [List.length_set, g48]
  have e7 : ∀ (u v : List Int32), gI (sI (sA (sA (sA c (35 + m) W) 47 u) 48 v) 6 0) 7 = nI m := fun u v => q5
  refine ⟨nI m, _, r1, ?_, rfl, h.text fc (d2.mono (mks_le (by decide)) (mks_le (by decide))) ?_⟩
  · rw [e7, nI_1, gI_sI_same, nI_pred]
  · have hrow : ∀ i, i < 12 → gA (sI (sI (sA (sA (sA c (35 + m) W) 47 ((gA c 47).set m (nI n2))) 48 ((gA c 48).set m (nI s))) 6 0) 7 (nI (m + 1))) (35 + i) = if i = m then W else gA c (35 + i) := by
      intro i hi
      rw [gA_sI, gA_sI, gA_sA_ne _ _ (by omega), gA_sA_ne _ _ (by omega), gA_sA]
      by_cases q : i = m
      · rw [if_pos q, if_pos (by omega)]
      · rw [if_neg q, if_neg (by omega)]
    refine ⟨0, m + 1, by omega, by omega, rfl, d3, rfl, d4, ?_, ?_, ?_, ?_, ?_⟩
    · rw [d2.2.1 10 rfl]
      show gA (sA (sA (sA c (35 + m) W) 47 _) 48 _) 34 = _
      rw [gA_sA_ne _ _ (by decide), gA_sA_ne _ _ (by decide), gA_sA_ne _ _ (by omega)]
      exact q7
    · show bnd (gA (sA (sA (sA c (35 + m) W) 47 _) 48 _) 34) 60 0 126
      rw [gA_sA_ne _ _ (by decide), gA_sA_ne _ _ (by decide), gA_sA_ne _ _ (by omega)]
      exact q8
    · intro i j hi hj
      dsimp only
      rw [hrow i hi, d6]
      by_cases q : i = m
      · subst q
        rw [if_pos rfl, hWg j]
        by_cases q2 : j < n2
        · rw [if_pos (by omega), if_pos q2, ← q7, show 60 * i + j - 60 * i = j by omega]
        · rw [if_neg (by omega), if_neg q2]
          exact q9 i j hi hj
      · rw [if_neg q, if_neg (by omega)]
        exact q9 i j hi hj
    · rw [d5, ← q10]
      show gA (sA (sA (sA c (35 + m) W) 47 _) 48 _) 47 = _
      rw [gA_sA_ne _ _ (by decide), gA_sA_same]
    · intro t htm
      have e47 : gA (sI (sI (sA (sA (sA c (35 + m) W) 47 ((gA c 47).set m (nI n2))) 48 ((gA c 48).set m (nI s))) 6 0) 7 (nI (m + 1))) 47 = (gA c 47).set m (nI n2) := by
        rw [gA_sI, gA_sI, gA_sA_ne _ _ (by decide), gA_sA_same]
      have e48 : gA (sI (sI (sA (sA (sA c (35 + m) W) 47 ((gA c 47).set m (nI n2))) 48 ((gA c 48).set m (nI s))) 6 0) 7 (nI (m + 1))) 48 = (gA c 48).set m (nI s) := by
        rw [gA_sI, gA_sI, gA_sA_same]
      rw [e47, e48, getD_set (by omega), getD_set (by omega)]
      dsimp only
      rw [hrow t (by omega)]
      by_cases q : t = m
      · rw [if_pos q, if_pos q, if_pos q]
        refine ⟨n2, s, a, q1, rfl, rfl, ha, ?_⟩
        rw [← ht]
        exact tRun_congr n2 (fun i hi => by rw [hWg i, if_pos hi])
      · rw [if_neg q, if_neg q, if_neg q]
        exact q11 t (by omega)
theorem S_text (h : Rel c r) (hN : 100 < N) : Sim (C_text N c) (R_text N r) := by
  obtain ⟨n, m, q1, q2, q3, q4, q5, q6, q7, -⟩ := h.rText
  obtain ⟨w, c1, r1, y1, y2, y3, y4, y5, y6⟩ := whole_same (N := N) hN q1 q3 q4 q7 (h.lenC.1 34)
  have h1 : Rel c1 r1 := h.fr y3 y4
  unfold C_text R_text
  rw [y1, y2, Option.bind_some, Option.bind_some]
  dsimp only
  rw [y5]
  cases w with
  | false =>
    rw [if_pos (show (if false = true then (1 : Int32) else 0) = 0 from rfl), if_neg (fun q => q rfl)]
    exact Sim.ret h1
  | true =>
    rw [if_neg (show ¬ (if true = true then (1 : Int32) else 0) = 0 by decide), if_pos (show ¬ (if true = true then (1 : Int32) else 0) = 0 by decide)]
    obtain ⟨a, s, u1, u2, u3⟩ := y6 rfl
    have := keep_same (N := N) h1 hN q1 ((y3.1 6 rfl).trans q3) (by rw [y3.2.1 34 rfl]; exact u2) u1 u3
    rw [bind_eta]
    exact this
end SC
