/-! PURE: what a sum of a text is -/
def nL (n : Nat) : Int64 := Int64.ofNat n
abbrev isM (x : Int32) : Prop := x = 60 ∨ x = 61 ∨ x = 62
abbrev isD (x : Int32) : Prop := 48 ≤ x ∧ x ≤ 57
theorem getD_setL {l : List Int64} {i k : Nat} {x : Int64} (h : i < l.length) : (l.set i x).getD k 0 = if k = i then x else l.getD k 0 := by
  simp only [List.getD_eq_getElem?_getD, List.getElem?_set]
  by_cases hj : i = k
  · subst hj
    simp [h]
  · simp [hj, Ne.symm hj]
theorem dig_nat {x : Int32} (h : isD x) : ∃ g, g < 10 ∧ x = nI (48 + g) := by
  have h1 := ib_of h
  have e1 : (48 : Int32).toInt = 48 := rfl
  have e2 : (57 : Int32).toInt = 57 := rfl
  obtain ⟨q, e⟩ := nat_of (x := x) (by omega)
  refine ⟨x.toNatClampNeg - 48, by omega, ?_⟩
  rw [show 48 + (x.toNatClampNeg - 48) = x.toNatClampNeg by omega]
  exact q
set_option maxRecDepth 20000 in
theorem dg_t1 : ∀ u, u < 1000 → (nI u).toInt64 = nL u := by decide +kernel
theorem dg_t2 : ∀ g, g < 10 → (nI (48 + g) - 48).toInt64 = nL g := by decide +kernel
theorem dg_t3 : ∀ u, u < 100 → ∀ g, g < 10 → (10 * nL u + (nI (48 + g)).toInt64) - 48 = nL (10 * u + g) := by decide +kernel
theorem dg_t4 (u g : Nat) : (10 * nI u + nI (48 + g)) - 48 = nI (10 * u + g) := by
  rw [show (10 : Int32) = nI 10 from rfl, pk_mul, nI_add, show (48 : Int32) = nI 48 from rfl, pk_sub (by omega), show 10 * u + (48 + g) - 48 = 10 * u + g by omega]
theorem tS_dig {x : Int32} {k a d m : Nat} {q : Nat × Nat × Nat} (h : tStep x k (a, d, m) = some q) (hx : isD x) (ha : 2 ≤ a) : (a = 2 ∧ q = (5, d, m)) ∨ (3 < a ∧ q = (a - 1, d, m)) := by
  unfold tStep at h
  dsimp only at h
  rw [if_neg (by omega), if_neg (by omega)] at h
  by_cases a2 : a = 2
  · rw [if_pos a2, if_pos (show 48 ≤ x ∧ x ≤ 57 from hx)] at h
    cases h
    exact Or.inl ⟨a2, rfl⟩
  · rw [if_neg a2, if_pos (show 48 ≤ x ∧ x ≤ 57 from hx)] at h
    split at h
    · rename_i g
      cases h
      exact Or.inr ⟨g, rfl⟩
    · cases h
theorem tS_non {x : Int32} {k a d m : Nat} {q : Nat × Nat × Nat} (h : tStep x k (a, d, m) = some q) (hx : ¬ isD x) (hm : ¬ isM x) (ha : 2 ≤ a) : (a = 2 ∧ x = 40 ∧ q = (2, d + 1, m)) ∨ (a = 2 ∧ (x = 114 ∨ x = 116 ∨ x = 104 ∨ x = 107) ∧ q = (3, d, m)) ∨ (3 ≤ a ∧ (x = 43 ∨ x = 45 ∨ x = 42) ∧ q = (2, d, m)) ∨ (3 ≤ a ∧ x = 41 ∧ 0 < d ∧ q = (3, d - 1, m)) := by
  unfold tStep at h
  dsimp only at h
  rw [if_neg (by omega), if_neg (by omega)] at h
  by_cases a2 : a = 2
  · rw [if_pos a2, if_neg (show ¬ (48 ≤ x ∧ x ≤ 57) from hx)] at h
    split at h
    · rename_i g
      cases h
      exact Or.inl ⟨a2, g, rfl⟩
    · split at h
      · rename_i g
        cases h
        exact Or.inr (Or.inl ⟨a2, g, rfl⟩)
      · cases h
  · rw [if_neg a2, if_neg (show ¬ (48 ≤ x ∧ x ≤ 57) from hx)] at h
    split at h
    · rename_i g
      cases h
      exact Or.inr (Or.inr (Or.inl ⟨by omega, g, rfl⟩))
    · split at h
      · rename_i g
        cases h
        exact Or.inr (Or.inr (Or.inr ⟨by omega, g.1, g.2, rfl⟩))
      · split at h
        · rename_i g
          exact absurd g.1 hm
        · cases h
/-- what summing changes of the reference -/
def Fr (r r2 : St) : Prop := Fm (mks [32]) (mks []) r r2 ∧ gL r2 0 = gL r 0
theorem Fr.refl (r : St) : Fr r r := ⟨Fm.refl _ _ r, rfl⟩
theorem Fr.sI {r r2 : St} {k : Nat} {v : Int32} (h : Fr r r2) (hk : mks [32] k = true) : Fr r (sI r2 k v) := ⟨h.1.sI hk, h.2⟩
theorem Fr.sB {r r2 : St} {k : Nat} {v : List Int64} (h : Fr r r2) (hl : v.length = (gB r2 k).length) : Fr r (sB r2 k v) := ⟨h.1.sB hl, h.2⟩
/-- both come to one value -/
def Jn (A B : Option (Int64 × St)) (c r : St) : Prop := ∃ v c1 r1, A = some (v, c1) ∧ B = some (v, r1) ∧ Fm (mks []) (mks []) c c1 ∧ Fr r r1
/-- the stacks of sums and products are alike up to d -/
def Ag (d : Nat) (c r : St) : Prop := ∀ i, i ≤ d → (gB c 0).getD i 0 = (gB r 0).getD i 0 ∧ (gB c 1).getD i 0 = (gB r 1).getD i 0
theorem Ag.le {d d2 : Nat} {c r : St} (h : Ag d c r) (hd : d2 ≤ d) : Ag d2 c r := fun i hi => h i (by omega)
theorem Ag.s1 {d j : Nat} {c r : St} {x y : Int64} (h : Ag d c r) (hc : j < (gB c 1).length) (hr : j < (gB r 1).length) (e : x = y) : Ag d (sB c 1 ((gB c 1).set j x)) (sB r 1 ((gB r 1).set j y)) := fun i hi => by
  have a1 : gB (sB c 1 ((gB c 1).set j x)) 0 = gB c 0 := gB_sB_ne _ _ (by decide)
  have a2 : gB (sB r 1 ((gB r 1).set j y)) 0 = gB r 0 := gB_sB_ne _ _ (by decide)
  rw [a1, a2, gB_sB_same, gB_sB_same, getD_setL hc, getD_setL hr]
  refine ⟨(h i hi).1, ?_⟩
  split
  · exact e
  · exact (h i hi).2
theorem Ag.s0 {d j : Nat} {c r : St} {x y : Int64} (h : Ag d c r) (hc : j < (gB c 0).length) (hr : j < (gB r 0).length) (e : x = y) : Ag d (sB c 0 ((gB c 0).set j x)) (sB r 0 ((gB r 0).set j y)) := fun i hi => by
  have a1 : gB (sB c 0 ((gB c 0).set j x)) 1 = gB c 1 := gB_sB_ne _ _ (by decide)
  have a2 : gB (sB r 0 ((gB r 0).set j y)) 1 = gB r 1 := gB_sB_ne _ _ (by decide)
  rw [a1, a2, gB_sB_same, gB_sB_same, getD_setL hc, getD_setL hr]
  refine ⟨?_, (h i hi).2⟩
  split
  · exact e
  · exact (h i hi).1
theorem Ag.push {d : Nat} {c r : St} {x y : Int64} (h : Ag d c r) (c0 : d + 1 < (gB c 0).length) (c1 : d + 1 < (gB c 1).length) (r0 : d + 1 < (gB r 0).length) (r1 : d + 1 < (gB r 1).length) : Ag (d + 1) (sB (sB c 0 ((gB c 0).set (d + 1) x)) 1 ((gB c 1).set (d + 1) y)) (sB (sB r 0 ((gB r 0).set (d + 1) x)) 1 ((gB r 1).set (d + 1) y)) := fun i hi => by
  have a1 : gB (sB (sB c 0 ((gB c 0).set (d + 1) x)) 1 ((gB c 1).set (d + 1) y)) 0 = (gB c 0).set (d + 1) x := (gB_sB_ne _ _ (by decide)).trans (gB_sB_same _ _ _)
  have a2 : gB (sB (sB r 0 ((gB r 0).set (d + 1) x)) 1 ((gB r 1).set (d + 1) y)) 0 = (gB r 0).set (d + 1) x := (gB_sB_ne _ _ (by decide)).trans (gB_sB_same _ _ _)
  rw [a1, a2, gB_sB_same, gB_sB_same, getD_setL c0, getD_setL r0, getD_setL c1, getD_setL r1]
  by_cases q : i = d + 1
  · rw [if_pos q, if_pos q, if_pos q, if_pos q]; exact ⟨rfl, rfl⟩
  · rw [if_neg q, if_neg q, if_neg q, if_neg q]; exact h i (by omega)
/-- what summing rests on -/
def Sx (t lot L e b : Nat) (l : List Int32) (c r : St) : Prop := (gA c (35 + t) = l ∧ l.length = 60 ∧ e ≤ 60 ∧ L ≤ 60 ∧ (∀ j, j < 60 → ld (gA r 11) (60 * nI t + nI j) = some (l.getD j 0)) ∧ ld (gA r 12) (nI t) = some (nI L)) ∧ ((gB c 0).length = 60 ∧ (gB c 1).length = 60 ∧ (gB r 0).length = 61 ∧ (gB r 1).length = 61) ∧ (ld (gA r 7) (nI lot) = some (gI c 8) ∧ (∃ y, ld (gA r 6) (nI lot) = some y ∧ ld (gA r 0) y = some (gI c 9)) ∧ (∃ y, ld (gA r 8) (nI lot) = some y ∧ gI r 4 - y = gI c 10) ∧ ld (gA r 5) (nI lot) = some (gI c 11)) ∧ ((L ≤ e ∨ isM (l.getD e 0)) ∧ (∀ k, b ≤ k → k < e → k < L ∧ ¬ isM (l.getD k 0)) ∧ (∀ k, k ≤ e → ∃ q, tRun l k = some q) ∧ ∀ a d m, tRun l e = some (a, d, m) → d = 0)
theorem Sx.fr {t lot L e b : Nat} {l : List Int32} {c r c2 r2 : St} (h : Sx t lot L e b l c r) (hc : Fm (mks []) (mks []) c c2) (hr : Fr r r2) : Sx t lot L e b l c2 r2 := by
  have hr := hr.1
  obtain ⟨⟨a1, a2, a3, a4, a5, a6⟩, ⟨b1, b2, b3, b4⟩, ⟨d1, d2, d3, d4⟩, h4⟩ := h
  refine ⟨⟨(hc.2.1 _ rfl).trans a1, a2, a3, a4, ?_, ?_⟩, ⟨(hc.2.2.2 0).trans b1, (hc.2.2.2 1).trans b2, (hr.2.2.2 0).trans b3, (hr.2.2.2 1).trans b4⟩, ⟨?_, ?_, ?_, ?_⟩, h4⟩
  · rw [hr.2.1 11 rfl]; exact a5
  · rw [hr.2.1 12 rfl]; exact a6
  · rw [hr.2.1 7 rfl, hc.1 8 rfl]; exact d1
  · rw [hr.2.1 6 rfl, hr.2.1 0 rfl, hc.1 9 rfl]; exact d2
  · rw [hr.2.1 8 rfl, hr.1 4 rfl, hc.1 10 rfl]; exact d3
  · rw [hr.2.1 5 rfl, hc.1 11 rfl]; exact d4
section SU
variable {N t lot L e b k : Nat} {l : List Int32} {c r c2 r2 : St}
def Bnd (N t lot e : Nat) (l : List Int32) (c r : St) (k : Nat) : Prop := ∀ (fc fr : Nat) (c2 r2 : St) (a d m : Nat), e - k < fc → e - k < fr → Fm (mks []) (mks []) c c2 → Fr r r2 → tRun l k = some (a, d, m) → 2 ≤ a → d + 2 ≤ k → gI r2 32 = nI d → Ag d c2 r2 → (k < e → isD (l.getD k 0) → a = 2) → Jn (Texts_value_p14 N (35 + t) fc c2 (nI e) (nI d) 0 (nI k)) (R_sumFrom_p12 N fr r2 (nI t) (nI lot) (nI k)) c r
def Mid (N t lot e : Nat) (l : List Int32) (c r : St) (k : Nat) : Prop := ∀ (fc fr fd : Nat) (c2 r2 : St) (a d m u : Nat), e - k < fc → e - k < fr → e - k + 1 < fd → Fm (mks []) (mks []) c c2 → Fr r r2 → tRun l k = some (a, d, m) → 3 ≤ a → a ≤ 5 → u < 10 ^ (6 - a) → d + 2 ≤ k → gI r2 32 = nI d → Ag d c2 r2 → k < e → isD (l.getD k 0) → Jn (Texts_value_p14 N (35 + t) fc c2 (nI e) (nI d) (nI u) (nI k)) (R_sumFrom_p183 N (R_sumFrom_p12 N fr) fd r2 (nI t) (nI lot) (nI k) (nL u)) c r
theorem pow6 {a : Nat} (h3 : 3 ≤ a) (h5 : a ≤ 5) : 10 ^ (6 - a) ≤ 1000 := Nat.pow_le_pow_right (n := 10) (by decide) (show 6 - a ≤ 3 by omega)
theorem isD_bz {x : Int32} : Texts_isDigit N x = some (bz (48 ≤ x ∧ x ≤ 57)) := by
  unfold Texts_isDigit
  rw [C_within_eq, Option.bind_some]
/-- a digit has been read by the reference, with u2 in all; the class reads it -/
theorem dig_step (hX : Sx t lot L e b l c r) (hB : Bnd N t lot e l c r (k + 1)) (hM : Mid N t lot e l c r (k + 1)) {fc fr fd a d m u g : Nat} (hk : k < e) (h1 : e - k < fc + 1) (h2 : e - (k + 1) < fr) (h3 : e - k < fd) (hc : Fm (mks []) (mks []) c c2) (hr : Fr r r2) (ht : tRun l (k + 1) = some (a, d, m)) (ha : 3 ≤ a) (ha5 : a ≤ 5) (hg : g < 10) (hx : l.getD k 0 = nI (48 + g)) (hu : 10 * u + g < 10 ^ (6 - a)) (hd : d + 2 ≤ k) (e32 : gI r2 32 = nI d) (hag : Ag d c2 r2) : Jn (Texts_value_p14 N (35 + t) (fc + 1) c2 (nI e) (nI d) (nI u) (nI k)) (R_sumFrom_p183 N (R_sumFrom_p12 N fr) fd r2 (nI t) (nI lot) (nI (k + 1)) (nL (10 * u + g))) c r := by
  obtain ⟨fd, rfl⟩ : ∃ f, fd = f + 1 := ⟨fd - 1, by omega⟩
  obtain ⟨⟨a1, a2, a3, a4, a5, a6⟩, ⟨b1, b2, b3, b4⟩, -, ⟨w1, w2, w3, w4⟩⟩ := hX.fr hc hr
  have hp := pow6 ha ha5
  have hxd : isD (l.getD k 0) := by rw [hx]; exact (by decide : ∀ g, g < 10 → 48 ≤ nI (48 + g) ∧ nI (48 + g) ≤ 57) g hg
  have comp : Texts_value_p14 N (35 + t) (fc + 1) c2 (nI e) (nI d) (nI u) (nI k) = if k + 1 < e ∧ isD (l.getD (k + 1) 0) then Texts_value_p14 N (35 + t) fc c2 (nI e) (nI d) (nI (10 * u + g)) (nI (k + 1)) else Texts_value_p14 N (35 + t) fc (sB c2 1 ((gB c2 1).set d ((gB c2 1).getD d 0 * nL (10 * u + g)))) (nI e) (nI d) 0 (nI (k + 1)) := by
    show Texts_value_p14b _ _ _ _ _ _ _ _ = _
    unfold Texts_value_p14b Texts_value_p67 Texts_value_p238
    rw [if_neg (nI_on hk (by omega)), a1, ld_nI (by omega) (by omega), Option.bind_some, isD_bz, Option.bind_some, if_bz, if_pos (show 48 ≤ l.getD k 0 ∧ l.getD k 0 ≤ 57 from hxd), hx, dg_t4, nI_1, ldl_nI (by omega) (by omega), Option.bind_some, stl_nI (by omega) (by omega), Option.bind_some, dg_t1 _ (by omega)]
    by_cases q : k + 1 < e
    · rw [if_neg (nI_on q (by omega)), ld_nI (by omega) (by omega), Option.bind_some, isD_bz, Option.bind_some, if_nbz]
      by_cases q2 : isD (l.getD (k + 1) 0)
      · rw [if_pos (show 48 ≤ l.getD (k + 1) 0 ∧ l.getD (k + 1) 0 ≤ 57 from q2), if_pos ⟨q, q2⟩]
      · rw [if_neg (show ¬ (48 ≤ l.getD (k + 1) 0 ∧ l.getD (k + 1) 0 ≤ 57) from q2), if_neg (fun z => q2 z.2)]
    · rw [if_pos (by rw [nI_leI (by omega) (by omega)]; omega), if_neg (fun z => q z.1)]
  rw [comp]
  by_cases q : k + 1 < e ∧ isD (l.getD (k + 1) 0)
  · rw [if_pos q]
    exact hM fc fr (fd + 1) c2 r2 a d m _ (by omega) h2 (by omega) hc hr ht ha ha5 hu (by omega) e32 hag q.1 q.2
  · rw [if_neg q]
    have ref : R_sumFrom_p183 N (R_sumFrom_p12 N fr) (fd + 1) r2 (nI t) (nI lot) (nI (k + 1)) (nL (10 * u + g)) = R_sumFrom_p12 N fr (sB r2 1 ((gB r2 1).set d ((gB r2 1).getD d 0 * nL (10 * u + g)))) (nI t) (nI lot) (nI (k + 1)) := by
      have fin : R_sumFrom_p248 N (R_sumFrom_p12 N fr) r2 (nI t) (nI lot) (nI (k + 1)) (nL (10 * u + g)) = R_sumFrom_p12 N fr (sB r2 1 ((gB r2 1).set d ((gB r2 1).getD d 0 * nL (10 * u + g)))) (nI t) (nI lot) (nI (k + 1)) := by
        unfold R_sumFrom_p248 R_sumFrom_p352
        rw [e32, ldl_nI (by omega) (by omega), Option.bind_some, stl_nI (by omega) (by omega), Option.bind_some]
      show R_sumFrom_p183b _ _ _ _ _ _ _ _ = _
      unfold R_sumFrom_p183b
      rw [a6, Option.bind_some]
      by_cases q3 : L ≤ k + 1
      · rw [if_pos ((nI_leI (by omega) (by omega)).mpr q3), fin]
      · rw [if_neg (fun z => q3 ((nI_leI (by omega) (by omega)).mp z)), a5 _ (by omega), Option.bind_some, R_in_eq, Option.bind_some, if_bz]
        have nd : ¬ isD (l.getD (k + 1) 0) := by
          intro z
          by_cases q4 : k + 1 < e
          · exact q ⟨q4, z⟩
          · have : k + 1 = e := by omega
            rw [this] at z q3
            rcases w1 with w | w
            · exact q3 w
            · unfold isM at w
              unfold isD at z
              rcases w with w | w | w <;> (rw [w] at z; exact absurd z (by decide))
        rw [if_neg (show ¬ (48 ≤ l.getD (k + 1) 0 ∧ l.getD (k + 1) 0 ≤ 57) from nd), fin]
    rw [ref]
    refine hB fc fr _ _ a d m (by omega) h2 (hc.sB (by rw [List.length_set])) (hr.sB (by rw [List.length_set])) ht (by omega) (by omega) e32 (hag.s1 (by omega) (by omega) (by rw [(hag d (Nat.le_refl d)).2])) (fun z1 z2 => absurd ⟨z1, z2⟩ q)
theorem close_ok {d : Nat} (e32 : gI r2 32 = nI d) (b3 : (gB r2 0).length = 61) (b4 : (gB r2 1).length = 61) (hd : d ≤ 60) : R_closeSum N r2 = some ((gB r2 0).getD d 0 + (gB r2 1).getD d 0, sI r2 32 (nI d - 1)) := by
  unfold R_closeSum
  rw [e32, gI_sI_same, Int32.sub_add_cancel, gB_sI, ldl_nI (by omega) (by omega), Option.bind_some, gB_sI, ldl_nI (by omega) (by omega), Option.bind_some]
theorem open_ok {d : Nat} (e32 : gI r2 32 + 1 = nI d) (b3 : (gB r2 0).length = 61) (b4 : (gB r2 1).length = 61) (hd : d ≤ 60) : R_openSum N r2 = some (sB (sB (sI r2 32 (nI d)) 0 ((gB r2 0).set d 0)) 1 ((gB r2 1).set d 1)) := by
  unfold R_openSum
  rw [e32, gI_sI_same, gB_sI, stl_nI (by omega) (by omega), Option.bind_some]
  have e : gI (sB (sI r2 32 (nI d)) 0 ((gB r2 0).set d 0)) 32 = nI d := rfl
  have e2 : gB (sB (sI r2 32 (nI d)) 0 ((gB r2 0).set d 0)) 1 = gB r2 1 := rfl
  rw [e, e2, stl_nI (by omega) (by omega), Option.bind_some]
theorem begin_ok {d : Nat} (b1 : (gB c2 0).length = 60) (b2 : (gB c2 1).length = 60) (hd : d < 60) : Texts_begin N c2 (nI d) = some (sB (sB c2 0 ((gB c2 0).set d 0)) 1 ((gB c2 1).set d 1)) := by
  unfold Texts_begin
  rw [stl_nI (by omega) (by omega), Option.bind_some]
  have e2 : gB (sB c2 0 ((gB c2 0).set d 0)) 1 = gB c2 1 := rfl
  rw [e2, stl_nI (by omega) (by omega), Option.bind_some]
theorem bnd_end (hX : Sx t lot L e b l c r) : Bnd N t lot e l c r e := by
  intro fc fr c2 r2 a d m h1 h2 hc hr ht ha hd e32 hag _
  obtain ⟨⟨a1, a2, a3, a4, a5, a6⟩, ⟨b1, b2, b3, b4⟩, -, ⟨w1, w2, w3, w4⟩⟩ := hX.fr hc hr
  have d0 := w4 a d m ht
  subst d0
  obtain ⟨fc, rfl⟩ : ∃ f, fc = f + 1 := ⟨fc - 1, by omega⟩
  obtain ⟨fr, rfl⟩ : ∃ f, fr = f + 1 := ⟨fr - 1, by omega⟩
  have z0 : ldl (gB c2 0) 0 = some ((gB c2 0).getD 0 0) := ldl_nI (k := 0) (by omega) (by omega)
  have z1 : ldl (gB c2 1) 0 = some ((gB c2 1).getD 0 0) := ldl_nI (k := 0) (by omega) (by omega)
  have fin : R_sumFrom_p355 N r2 = some ((gB r2 0).getD 0 0 + (gB r2 1).getD 0 0, sI r2 32 (nI 0 - 1)) := by
    unfold R_sumFrom_p355
    rw [close_ok e32 b3 b4 (by omega), Option.bind_some]
  refine ⟨(gB c2 0).getD 0 0 + (gB c2 1).getD 0 0, c2, sI r2 32 (nI 0 - 1), ?_, ?_, hc, hr.sI rfl⟩
  · show Texts_value_p14b _ _ _ _ _ _ _ _ = _
    unfold Texts_value_p14b
    rw [if_pos (nI_stop e), z0, z1, Option.bind_some, Option.bind_some]
  · rw [(hag 0 (Nat.le_refl 0)).1, (hag 0 (Nat.le_refl 0)).2, ← fin]
    show R_sumFrom_p12b _ _ _ _ _ _ = _
    unfold R_sumFrom_p12b
    rw [a6, Option.bind_some]
    by_cases q : L ≤ e
    · rw [if_pos ((nI_leI (by omega) (by omega)).mpr q)]
    · rw [if_neg (fun z => q ((nI_leI (by omega) (by omega)).mp z)), a5 _ (by omega), Option.bind_some, isMark_eq, Option.bind_some, if_nbz, if_pos (show _ ∨ _ ∨ _ from w1.resolve_left q)]
theorem bnd_step (hX : Sx t lot L e b l c r) (hN : 100 < N) (hbk : b ≤ k) (hk : k < e) (hB : Bnd N t lot e l c r (k + 1)) (hM : Mid N t lot e l c r (k + 1)) : Bnd N t lot e l c r k := by
  intro fc fr c2 r2 a d m h1 h2 hc hr ht ha hd e32 hag hdg
  have hX2 := hX.fr hc hr
  obtain ⟨⟨a1, a2, a3, a4, a5, a6⟩, ⟨b1, b2, b3, b4⟩, ⟨n1, n2, n3, n4⟩, ⟨w1, w2, w3, w4⟩⟩ := hX2
  obtain ⟨fc, rfl⟩ : ∃ f, fc = f + 1 := ⟨fc - 1, by omega⟩
  obtain ⟨fr, rfl⟩ : ∃ f, fr = f + 1 := ⟨fr - 1, by omega⟩
  obtain ⟨hkL, hnm⟩ := w2 k hbk hk
  obtain ⟨q, hq⟩ := w3 (k + 1) (by omega)
  have hst : tStep (l.getD k 0) k (a, d, m) = some q := by rw [tRun_succ, ht, Option.bind_some] at hq; exact hq
  have nL' : ¬ nI L ≤ nI k := nI_on hkL (by omega)
  have hnm' : ¬ (l.getD k 0 = 60 ∨ l.getD k 0 = 61 ∨ l.getD k 0 = 62) := hnm
  by_cases hx : isD (l.getD k 0)
  · obtain ⟨g, hg, hxg⟩ := dig_nat hx
    have a2' := hdg hk hx
    subst a2'
    rcases tS_dig hst hx (by omega) with ⟨-, rfl⟩ | ⟨q1, -⟩
    · have := dig_step hX (N := N) hB hM (fc := fc) (fr := fr) (fd := N) (a := 5) (d := d) (m := m) (u := 0) (g := g) (c2 := c2) (r2 := r2) hk (by omega) (by omega) (by omega) hc hr hq (by omega) (by omega) hg hxg (by show 10 * 0 + g < 10 ^ 1; omega) hd e32 hag
      have e : R_sumFrom_p12 N (fr + 1) r2 (nI t) (nI lot) (nI k) = R_sumFrom_p183 N (R_sumFrom_p12 N fr) N r2 (nI t) (nI lot) (nI (k + 1)) (nL (10 * 0 + g)) := by
        show R_sumFrom_p12b _ _ _ _ _ _ = _
        unfold R_sumFrom_p12b
        rw [a6, Option.bind_some, if_neg nL', a5 _ (by omega), Option.bind_some, isMark_eq, Option.bind_some, if_nbz, if_neg hnm', Option.bind_some, if_pos (not_dig hx (by decide)), if_pos (not_dig hx (by decide)), if_neg (not_dig hx (by decide)), if_pos (not_dig hx (by decide)), R_in_eq, Option.bind_some, if_bz, if_pos (show 48 ≤ l.getD k 0 ∧ l.getD k 0 ≤ 57 from hx), nI_1, hxg, dg_t2 g hg, Nat.mul_zero, Nat.zero_add]
      rw [e]
      exact this
    · omega
  · have hx' : ¬ (48 ≤ l.getD k 0 ∧ l.getD k 0 ≤ 57) := hx
    have nxt : q.1 ≤ 3 → 2 ≤ q.1 → (k + 1 < e → isD (l.getD (k + 1) 0) → q.1 = 2) := by
      intro g1 g2 g3 g4
      obtain ⟨q2, hq2⟩ := w3 (k + 2) (by omega)
      rw [tRun_succ, hq, Option.bind_some] at hq2
      rcases tS_dig (a := q.1) (d := q.2.1) (m := q.2.2) hq2 g4 g2 with ⟨z, -⟩ | ⟨z, -⟩
      · exact z
      · omega
    have comp0 : ∀ T : Option (Int64 × St), (if ¬ l.getD k 0 = 40 then Texts_value_p112 N (Texts_value_p14 N (35 + t) fc) (35 + t) c2 (nI e) (nI d) 0 (nI k) (l.getD k 0) else if 59 ≤ nI d then Texts_value_p112 N (Texts_value_p14 N (35 + t) fc) (35 + t) c2 (nI e) (nI d) 0 (nI k) (l.getD k 0) else (Texts_begin N c2 (nI d + 1)).bind fun p27 => Texts_value_p238 N (Texts_value_p14 N (35 + t) fc) (35 + t) p27 (nI e) (nI d + 1) 0 (nI k)) = T → Texts_value_p14 N (35 + t) (fc + 1) c2 (nI e) (nI d) 0 (nI k) = T := by
      intro T hT
      show Texts_value_p14b _ _ _ _ _ _ _ _ = _
      unfold Texts_value_p14b
      rw [if_neg (nI_on hk (by omega)), a1, ld_nI (by omega) (by omega), Option.bind_some, isD_bz, Option.bind_some, if_bz, if_neg hx']
      exact hT
    rcases tS_non hst hx hnm ha with ⟨z1, z2, rfl⟩ | ⟨z1, z2, rfl⟩ | ⟨z1, z2, rfl⟩ | ⟨z1, z2, z3, rfl⟩
    · -- (
      have e1 := comp0 (Texts_value_p14 N (35 + t) fc (sB (sB c2 0 ((gB c2 0).set (d + 1) 0)) 1 ((gB c2 1).set (d + 1) 1)) (nI e) (nI (d + 1)) 0 (nI (k + 1))) (by
        rw [if_neg (fun z => z z2), if_neg (show ¬ (59 : Int32) ≤ nI d from nI_on (m := 59) (by omega) (by decide)), nI_1, begin_ok b1 b2 (by omega), Option.bind_some]
        unfold Texts_value_p238
        rw [nI_1])
      have e2 : R_sumFrom_p12 N (fr + 1) r2 (nI t) (nI lot) (nI k) = R_sumFrom_p12 N fr (sB (sB (sI r2 32 (nI (d + 1))) 0 ((gB r2 0).set (d + 1) 0)) 1 ((gB r2 1).set (d + 1) 1)) (nI t) (nI lot) (nI (k + 1)) := by
        show R_sumFrom_p12b _ _ _ _ _ _ = _
        unfold R_sumFrom_p12b R_sumFrom_p352
        rw [a6, Option.bind_some, if_neg nL', a5 _ (by omega), Option.bind_some, isMark_eq, Option.bind_some, if_nbz, if_neg hnm', Option.bind_some, if_neg (fun z => z z2), open_ok (d := d + 1) (by rw [e32, nI_1]) b3 b4 (by omega), Option.bind_some, nI_1]
      rw [e1, e2]
      refine hB fc fr _ _ 2 (d + 1) m (by omega) (by omega) ((hc.sB (by rw [List.length_set])).sB (by rw [List.length_set]; rfl)) (((hr.sI rfl).sB (by rw [List.length_set]; rfl)).sB (by rw [List.length_set]; rfl)) hq (by omega) (by omega) rfl ?_ (nxt (by dsimp only; omega) (by dsimp only; omega))
      have := hag.push (x := 0) (y := 1) (by omega) (by omega) (by omega) (by omega)
      exact this
    · -- a letter
      have v41 : ¬ l.getD k 0 = 41 := by rcases z2 with z | z | z | z <;> (rw [z]; decide)
      have v40 : ¬ l.getD k 0 = 40 := by rcases z2 with z | z | z | z <;> (rw [z]; decide)
      have v43 : ¬ l.getD k 0 = 43 := by rcases z2 with z | z | z | z <;> (rw [z]; decide)
      have v45 : ¬ l.getD k 0 = 45 := by rcases z2 with z | z | z | z <;> (rw [z]; decide)
      have v42 : ¬ l.getD k 0 = 42 := by rcases z2 with z | z | z | z <;> (rw [z]; decide)
      obtain ⟨y6, n2, n2'⟩ := n2
      obtain ⟨y8, n3, n3'⟩ := n3
      have hv : ∃ v : Int32, Texts_named N c2 (l.getD k 0) = some v ∧ (if ¬ l.getD k 0 = 114 then (if ¬ l.getD k 0 = 116 then (if ¬ l.getD k 0 = 104 then (ld (gA r2 5) (nI lot)).bind fun y25 => R_sumFrom_p350 N (R_sumFrom_p12 N fr) r2 (nI t) (nI lot) (nI (k + 1)) (gI r2 32) ((gB r2 1).getD d 0) y25.toInt64 else (ld (gA r2 8) (nI lot)).bind fun y27 => R_sumFrom_p350 N (R_sumFrom_p12 N fr) r2 (nI t) (nI lot) (nI (k + 1)) (gI r2 32) ((gB r2 1).getD d 0) (((gI r2 4) - y27).toInt64)) else (ld (gA r2 6) (nI lot)).bind fun y28 => (ld (gA r2 0) y28).bind fun y29 => R_sumFrom_p350 N (R_sumFrom_p12 N fr) r2 (nI t) (nI lot) (nI (k + 1)) (gI r2 32) ((gB r2 1).getD d 0) y29.toInt64) else (ld (gA r2 7) (nI lot)).bind fun y30 => R_sumFrom_p350 N (R_sumFrom_p12 N fr) r2 (nI t) (nI lot) (nI (k + 1)) (gI r2 32) ((gB r2 1).getD d 0) y30.toInt64) = R_sumFrom_p350 N (R_sumFrom_p12 N fr) r2 (nI t) (nI lot) (nI (k + 1)) (gI r2 32) ((gB r2 1).getD d 0) v.toInt64 := by
        unfold Texts_named
        rcases z2 with z | z | z | z
        · refine ⟨gI c2 8, ?_, ?_⟩
          · rw [z, if_neg (by decide), if_pos rfl]
          · rw [z, if_neg (fun z => z rfl), n1, Option.bind_some]
        · refine ⟨gI c2 9, ?_, ?_⟩
          · rw [z, if_neg (by decide), if_neg (by decide), if_pos rfl]
          · rw [z, if_pos (by decide), if_neg (fun z => z rfl), n2, Option.bind_some, n2', Option.bind_some]
        · refine ⟨gI c2 10, ?_, ?_⟩
          · rw [z, if_pos rfl]
          · rw [z, if_pos (by decide), if_pos (by decide), if_neg (fun z => z rfl), n3, Option.bind_some, n3']
        · refine ⟨gI c2 11, ?_, ?_⟩
          · rw [z, if_neg (by decide), if_neg (by decide), if_neg (by decide)]
          · rw [z, if_pos (by decide), if_pos (by decide), if_pos (by decide), n4, Option.bind_some]
      obtain ⟨v, hv1, hv2⟩ := hv
      have e1 := comp0 (Texts_value_p14 N (35 + t) fc (sB c2 1 ((gB c2 1).set d ((gB c2 1).getD d 0 * v.toInt64))) (nI e) (nI d) 0 (nI (k + 1))) (by
        rw [if_pos v40]
        unfold Texts_value_p112 Texts_value_p159 Texts_value_p238
        rw [if_pos v41, if_neg v43, if_pos v45, if_neg v42, ldl_nI (by omega) (by omega), Option.bind_some, hv1, Option.bind_some, stl_nI (by omega) (by omega), Option.bind_some, nI_1])
      have e2 : R_sumFrom_p12 N (fr + 1) r2 (nI t) (nI lot) (nI k) = R_sumFrom_p12 N fr (sB r2 1 ((gB r2 1).set d ((gB r2 1).getD d 0 * v.toInt64))) (nI t) (nI lot) (nI (k + 1)) := by
        have g1 : R_sumFrom_p350 N (R_sumFrom_p12 N fr) r2 (nI t) (nI lot) (nI (k + 1)) (gI r2 32) ((gB r2 1).getD d 0) v.toInt64 = R_sumFrom_p12 N fr (sB r2 1 ((gB r2 1).set d ((gB r2 1).getD d 0 * v.toInt64))) (nI t) (nI lot) (nI (k + 1)) := by
          unfold R_sumFrom_p350 R_sumFrom_p352
          rw [e32, stl_nI (by omega) (by omega), Option.bind_some]
        rw [← g1, ← hv2]
        show R_sumFrom_p12b _ _ _ _ _ _ = _
        unfold R_sumFrom_p12b
        rw [a6, Option.bind_some, if_neg nL', a5 _ (by omega), Option.bind_some, isMark_eq, Option.bind_some, if_nbz, if_neg hnm', Option.bind_some, if_pos v40, if_pos v41, if_neg v43, if_pos v45, R_in_eq, Option.bind_some, if_bz, if_neg hx', if_neg v42, nI_1]
        have z9 : ldl (gB r2 1) (gI r2 32) = some ((gB r2 1).getD d 0) := by rw [e32]; exact ldl_nI (by omega) (by omega)
        rw [z9, Option.bind_some]
      rw [e1, e2]
      exact hB fc fr _ _ 3 d m (by omega) (by omega) (hc.sB (by rw [List.length_set])) (hr.sB (by rw [List.length_set])) hq (by omega) (by omega) e32 (hag.s1 (by omega) (by omega) (by rw [(hag d (Nat.le_refl d)).2])) (nxt (by dsimp only; omega) (by dsimp only; omega))
    · -- + - *
      have v41 : ¬ l.getD k 0 = 41 := by rcases z2 with z | z | z <;> (rw [z]; decide)
      have v40 : ¬ l.getD k 0 = 40 := by rcases z2 with z | z | z <;> (rw [z]; decide)
      have pm : ∀ s : Int64, (∀ kb : St → Int32 → Int32 → Int32 → Int32 → Option (Int64 × St), Texts_value_p159 N kb (35 + t) c2 (nI e) (nI d) 0 (nI k) (l.getD k 0) = kb (sB (sB c2 0 ((gB c2 0).set d ((gB c2 0).getD d 0 + (gB c2 1).getD d 0))) 1 ((gB c2 1).set d s)) (nI e) (nI d) 0 (nI (k + 1))) → (∀ kb : St → Int32 → Int32 → Int32 → Option (Int64 × St), R_sumFrom_p12b N kb r2 (nI t) (nI lot) (nI k) = kb (sB (sB r2 0 ((gB r2 0).set d ((gB r2 0).getD d 0 + (gB r2 1).getD d 0))) 1 ((gB r2 1).set d s)) (nI t) (nI lot) (nI (k + 1))) → Jn (Texts_value_p14 N (35 + t) (fc + 1) c2 (nI e) (nI d) 0 (nI k)) (R_sumFrom_p12 N (fr + 1) r2 (nI t) (nI lot) (nI k)) c r := by
        intro s k1 k2
        have e1 := comp0 (Texts_value_p14 N (35 + t) fc (sB (sB c2 0 ((gB c2 0).set d ((gB c2 0).getD d 0 + (gB c2 1).getD d 0))) 1 ((gB c2 1).set d s)) (nI e) (nI d) 0 (nI (k + 1))) (by
          rw [if_pos v40]
          unfold Texts_value_p112
          rw [if_pos v41]
          exact k1 _)
        have e2 : R_sumFrom_p12 N (fr + 1) r2 (nI t) (nI lot) (nI k) = R_sumFrom_p12 N fr (sB (sB r2 0 ((gB r2 0).set d ((gB r2 0).getD d 0 + (gB r2 1).getD d 0))) 1 ((gB r2 1).set d s)) (nI t) (nI lot) (nI (k + 1)) := k2 _
        rw [e1, e2]
        have g0 := hag.s0 (j := d) (x := (gB c2 0).getD d 0 + (gB c2 1).getD d 0) (y := (gB r2 0).getD d 0 + (gB r2 1).getD d 0) (by omega) (by omega) (by rw [(hag d (Nat.le_refl d)).1, (hag d (Nat.le_refl d)).2])
        exact hB fc fr _ _ 2 d m (by omega) (by omega) ((hc.sB (by rw [List.length_set])).sB (by rw [List.length_set]; rfl)) ((hr.sB (by rw [List.length_set])).sB (by rw [List.length_set]; rfl)) hq (by omega) (by omega) e32 (g0.s1 (j := d) (x := s) (y := s) (show d < (gB c2 1).length by omega) (show d < (gB r2 1).length by omega) rfl) (nxt (by dsimp only; omega) (by dsimp only; omega))
      have cs : ∀ (s : Int64) (kb : St → Int32 → Int32 → Int32 → Int32 → Option (Int64 × St)), Texts_value_p210 N kb (35 + t) (sB c2 0 ((gB c2 0).set d ((gB c2 0).getD d 0 + (gB c2 1).getD d 0))) (nI e) (nI d) 0 (nI k) (nI d) s = kb (sB (sB c2 0 ((gB c2 0).set d ((gB c2 0).getD d 0 + (gB c2 1).getD d 0))) 1 ((gB c2 1).set d s)) (nI e) (nI d) 0 (nI (k + 1)) := by
        intro s kb
        unfold Texts_value_p210 Texts_value_p238
        have g1 : gB (sB c2 0 ((gB c2 0).set d ((gB c2 0).getD d 0 + (gB c2 1).getD d 0))) 1 = gB c2 1 := rfl
        rw [g1, stl_nI (by omega) (by omega), Option.bind_some, nI_1]
      have rs : ∀ (s : Int64) (kb : St → Int32 → Int32 → Int32 → Option (Int64 × St)), R_sumFrom_p159 N kb (sB r2 0 ((gB r2 0).set d ((gB r2 0).getD d 0 + (gB r2 1).getD d 0))) (nI t) (nI lot) (nI (k + 1)) (gI (sB r2 0 ((gB r2 0).set d ((gB r2 0).getD d 0 + (gB r2 1).getD d 0))) 32) s = kb (sB (sB r2 0 ((gB r2 0).set d ((gB r2 0).getD d 0 + (gB r2 1).getD d 0))) 1 ((gB r2 1).set d s)) (nI t) (nI lot) (nI (k + 1)) := by
        intro s kb
        unfold R_sumFrom_p159 R_sumFrom_p352
        have g1 : gB (sB r2 0 ((gB r2 0).set d ((gB r2 0).getD d 0 + (gB r2 1).getD d 0))) 1 = gB r2 1 := rfl
        have g2 : gI (sB r2 0 ((gB r2 0).set d ((gB r2 0).getD d 0 + (gB r2 1).getD d 0))) 32 = nI d := e32
        rw [g1, g2, stl_nI (by omega) (by omega), Option.bind_some]
      rcases z2 with z | z | z
      · refine pm 1 (fun kb => ?_) (fun kb => ?_)
        · unfold Texts_value_p159 Texts_value_p173
          rw [z, if_pos rfl, ldl_nI (by omega) (by omega), ldl_nI (by omega) (by omega), Option.bind_some, Option.bind_some, stl_nI (by omega) (by omega), Option.bind_some, if_neg (fun z => z rfl), cs]
        · unfold R_sumFrom_p12b R_sumFrom_p116
          rw [a6, Option.bind_some, if_neg nL', a5 _ (by omega), Option.bind_some, isMark_eq, Option.bind_some, if_nbz, if_neg hnm', Option.bind_some, if_pos v40, if_pos v41, z, if_pos rfl, nI_1, e32, ldl_nI (by omega) (by omega), ldl_nI (by omega) (by omega), Option.bind_some, Option.bind_some, stl_nI (by omega) (by omega), Option.bind_some, if_neg (fun z => z rfl), rs]
      · refine pm (-1) (fun kb => ?_) (fun kb => ?_)
        · unfold Texts_value_p159 Texts_value_p173
          rw [z, if_neg (by decide), if_neg (fun z => z rfl), ldl_nI (by omega) (by omega), ldl_nI (by omega) (by omega), Option.bind_some, Option.bind_some, stl_nI (by omega) (by omega), Option.bind_some, if_pos (by decide), cs]
        · unfold R_sumFrom_p12b R_sumFrom_p116
          rw [a6, Option.bind_some, if_neg nL', a5 _ (by omega), Option.bind_some, isMark_eq, Option.bind_some, if_nbz, if_neg hnm', Option.bind_some, if_pos v40, if_pos v41, z, if_neg (by decide), if_neg (fun z => z rfl), nI_1, e32, ldl_nI (by omega) (by omega), ldl_nI (by omega) (by omega), Option.bind_some, Option.bind_some, stl_nI (by omega) (by omega), Option.bind_some, if_pos (by decide), rs]
      · have e1 := comp0 (Texts_value_p14 N (35 + t) fc c2 (nI e) (nI d) 0 (nI (k + 1))) (by
          rw [if_pos v40]
          unfold Texts_value_p112 Texts_value_p159 Texts_value_p238
          rw [if_pos v41, z, if_neg (by decide), if_pos (by decide), if_pos rfl, nI_1])
        have e2 : R_sumFrom_p12 N (fr + 1) r2 (nI t) (nI lot) (nI k) = R_sumFrom_p12 N fr r2 (nI t) (nI lot) (nI (k + 1)) := by
          show R_sumFrom_p12b _ _ _ _ _ _ = _
          unfold R_sumFrom_p12b R_sumFrom_p352
          rw [a6, Option.bind_some, if_neg nL', a5 _ (by omega), Option.bind_some, isMark_eq, Option.bind_some, if_nbz, if_neg hnm', Option.bind_some, if_pos v40, if_pos v41, z, if_neg (by decide), if_pos (by decide), R_in_eq, Option.bind_some, if_bz, if_neg (by decide), if_pos rfl, nI_1]
        rw [e1, e2]
        exact hB fc fr _ _ 2 d m (by omega) (by omega) hc hr hq (by omega) (by omega) e32 hag (nxt (by dsimp only; omega) (by dsimp only; omega))
    · -- )
      have ed : nI d + (-1) = nI (d - 1) := by
        have := nI_pred (d - 1)
        rw [show d - 1 + 1 = d by omega, Int32.sub_eq_add_neg] at this
        exact this
      have e1 := comp0 (Texts_value_p14 N (35 + t) fc (sB c2 1 ((gB c2 1).set (d - 1) ((gB c2 1).getD (d - 1) 0 * ((gB c2 0).getD d 0 + (gB c2 1).getD d 0)))) (nI e) (nI (d - 1)) 0 (nI (k + 1))) (by
        rw [if_pos (by rw [z2]; decide)]
        unfold Texts_value_p112 Texts_value_p238
        rw [if_neg (fun z => z z2), if_neg (show ¬ nI d ≤ 0 from fun z => absurd ((nI_leI (b := 0) (by omega) (by omega)).mp z) (by omega)), ed, nI_1, show d - 1 + 1 = d by omega, ldl_nI (by omega) (by omega), Option.bind_some, ldl_nI (by omega) (by omega), Option.bind_some, ldl_nI (by omega) (by omega), Option.bind_some, stl_nI (by omega) (by omega), Option.bind_some, nI_1])
      have e2 : R_sumFrom_p12 N (fr + 1) r2 (nI t) (nI lot) (nI k) = R_sumFrom_p12 N fr (sB (sI r2 32 (nI (d - 1))) 1 ((gB r2 1).set (d - 1) ((gB r2 1).getD (d - 1) 0 * ((gB r2 0).getD d 0 + (gB r2 1).getD d 0)))) (nI t) (nI lot) (nI (k + 1)) := by
        show R_sumFrom_p12b _ _ _ _ _ _ = _
        unfold R_sumFrom_p12b R_sumFrom_p352
        rw [a6, Option.bind_some, if_neg nL', a5 _ (by omega), Option.bind_some, isMark_eq, Option.bind_some, if_nbz, if_neg hnm', Option.bind_some, z2, if_pos (by decide), if_neg (fun z => z rfl), close_ok e32 b3 b4 (by omega), Option.bind_some]
        dsimp only
        rw [gI_sI_same, gB_sI, Int32.sub_eq_add_neg, ed, ldl_nI (by omega) (by omega), Option.bind_some, stl_nI (by omega) (by omega), Option.bind_some, nI_1]
      rw [e1, e2]
      refine hB fc fr _ _ 3 (d - 1) m (by omega) (by omega) (hc.sB (by rw [List.length_set])) ((hr.sI rfl).sB (by rw [List.length_set]; rfl)) hq (by omega) (by omega) rfl ?_ (nxt (by dsimp only; omega) (by dsimp only; omega))
      have g1 := hag d (Nat.le_refl d)
      have g2 := hag (d - 1) (by omega)
      exact (hag.le (d2 := d - 1) (by omega)).s1 (j := d - 1) (by omega) (by omega) (by rw [g1.1, g1.2, g2.2])
theorem mid_step (hX : Sx t lot L e b l c r) (hN : 100 < N) (hbk : b ≤ k) (hk : k < e) (hB : Bnd N t lot e l c r (k + 1)) (hM : Mid N t lot e l c r (k + 1)) : Mid N t lot e l c r k := by
  intro fc fr fd c2 r2 a d m u h1 h2 h3 hc hr ht ha ha5 hu hd e32 hag _ hx
  have hX2 := hX.fr hc hr
  obtain ⟨⟨a1, a2, a3, a4, a5, a6⟩, ⟨b1, b2, b3, b4⟩, ⟨n1, n2, n3, n4⟩, ⟨w1, w2, w3, w4⟩⟩ := hX2
  obtain ⟨fc, rfl⟩ : ∃ f, fc = f + 1 := ⟨fc - 1, by omega⟩
  obtain ⟨fd, rfl⟩ : ∃ f, fd = f + 1 := ⟨fd - 1, by omega⟩
  obtain ⟨hkL, hnm⟩ := w2 k hbk hk
  obtain ⟨q, hq⟩ := w3 (k + 1) (by omega)
  have hst : tStep (l.getD k 0) k (a, d, m) = some q := by rw [tRun_succ, ht, Option.bind_some] at hq; exact hq
  obtain ⟨g, hg, hxg⟩ := dig_nat hx
  rcases tS_dig hst hx (by omega) with ⟨q1, -⟩ | ⟨q1, rfl⟩
  · omega
  · have hu2 : 10 * u + g < 10 ^ (6 - (a - 1)) := by
      rw [show 6 - (a - 1) = 6 - a + 1 by omega, Nat.pow_succ]
      omega
    have hu3 : u < 100 := by
      have : 10 ^ (6 - a) ≤ 10 ^ 2 := Nat.pow_le_pow_right (by decide) (by omega)
      omega
    have e : R_sumFrom_p183 N (R_sumFrom_p12 N fr) (fd + 1) r2 (nI t) (nI lot) (nI k) (nL u) = R_sumFrom_p183 N (R_sumFrom_p12 N fr) fd r2 (nI t) (nI lot) (nI (k + 1)) (nL (10 * u + g)) := by
      show R_sumFrom_p183b _ _ _ _ _ _ _ _ = _
      unfold R_sumFrom_p183b
      rw [a6, Option.bind_some, if_neg (nI_on hkL (by omega)), a5 _ (by omega), Option.bind_some, R_in_eq, Option.bind_some, if_bz, if_pos (show 48 ≤ l.getD k 0 ∧ l.getD k 0 ≤ 57 from hx), Option.bind_some, hxg, dg_t3 u hu3 g hg, nI_1]
    rw [e]
    exact dig_step hX (N := N) hB hM (a := a - 1) (d := d) (m := m) hk (by omega) (by omega) (by omega) hc hr hq (by omega) (by omega) hg hxg hu2 hd e32 hag
theorem sum_main (hX : Sx t lot L e b l c r) (hN : 100 < N) : ∀ j k, b ≤ k → k ≤ e → e - k ≤ j → Bnd N t lot e l c r k ∧ Mid N t lot e l c r k := by
  intro j
  induction j with
  | zero =>
    intro k h0 h1 h2
    have : k = e := by omega
    subst this
    exact ⟨bnd_end hX, fun fc fr fd c2 r2 a d m u _ _ _ _ _ _ _ _ _ _ _ _ hk _ => absurd hk (Nat.lt_irrefl _)⟩
  | succ j ih =>
    intro k h0 h1 h2
    by_cases hk : k = e
    · subst hk
      exact ⟨bnd_end hX, fun fc fr fd c2 r2 a d m u _ _ _ _ _ _ _ _ _ _ _ _ hk _ => absurd hk (Nat.lt_irrefl _)⟩
    · obtain ⟨hB, hM⟩ := ih (k + 1) (by omega) (by omega) (by omega)
      exact ⟨bnd_step hX hN h0 (by omega) hB hM, mid_step hX hN h0 (by omega) hB hM⟩
end SU
