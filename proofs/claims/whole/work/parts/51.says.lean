/-! PURE: sum, says -/
theorem tS_mark {x : Int32} {k a d m : Nat} {q : Nat × Nat × Nat} (h : tStep x k (a, d, m) = some q) : (q.2.2 = m ∧ ¬ isM x) ∨ (m = 0 ∧ q = (2, 0, k + 1) ∧ isM x ∧ d = 0 ∧ 3 ≤ a) := by
  have no : ∀ y : Int32, ¬ isM y → x = y → ¬ isM x := fun y hy e => e ▸ hy
  have nd : (48 ≤ x ∧ x ≤ 57) → ¬ isM x := by
    rintro g (e | e | e) <;> (rw [e] at g; exact absurd g (by decide))
  unfold tStep at h
  dsimp only at h
  by_cases a0 : a = 0
  · rw [if_pos a0] at h
    split at h
    · rename_i g
      cases h
      refine Or.inl ⟨rfl, ?_⟩
      rcases g with e | e | e <;> (rw [e]; unfold isM; decide)
    · cases h
  · rw [if_neg a0] at h
    by_cases a1 : a = 1
    · rw [if_pos a1] at h
      split at h
      · rename_i e
        cases h
        refine Or.inl ⟨rfl, ?_⟩
        rw [e]; unfold isM; decide
      · cases h
    · rw [if_neg a1] at h
      by_cases a2 : a = 2
      · rw [if_pos a2] at h
        split at h
        · rename_i g
          cases h
          exact Or.inl ⟨rfl, nd g⟩
        · split at h
          · rename_i e
            cases h
            refine Or.inl ⟨rfl, ?_⟩
            rw [e]; unfold isM; decide
          · split at h
            · rename_i g
              cases h
              refine Or.inl ⟨rfl, ?_⟩
              rcases g with e | e | e | e <;> (rw [e]; unfold isM; decide)
            · cases h
      · rw [if_neg a2] at h
        split at h
        · rename_i g
          split at h
          · cases h
            exact Or.inl ⟨rfl, nd g⟩
          · cases h
        · split at h
          · rename_i g
            cases h
            refine Or.inl ⟨rfl, ?_⟩
            rcases g with e | e | e <;> (rw [e]; unfold isM; decide)
          · split at h
            · rename_i g
              cases h
              refine Or.inl ⟨rfl, ?_⟩
              rw [g.1]; unfold isM; decide
            · split at h
              · rename_i g
                cases h
                refine Or.inr ⟨g.2.2, ?_, g.1, g.2.1, by omega⟩
                rw [g.2.1]
              · cases h
/-- where the mark of a text stands -/
theorem tRun_mark {l : List Int32} : ∀ k q, tRun l k = some q → (q.2.2 = 0 ∧ ∀ j, j < k → ¬ isM (l.getD j 0)) ∨ ∃ s, s < k ∧ q.2.2 = s + 1 ∧ isM (l.getD s 0) ∧ tRun l (s + 1) = some (2, 0, s + 1) ∧ (∃ a, 3 ≤ a ∧ tRun l s = some (a, 0, 0)) ∧ ∀ j, j < k → j ≠ s → ¬ isM (l.getD j 0) := by
  intro k
  induction k with
  | zero => intro q h; cases h; exact Or.inl ⟨rfl, fun j hj => absurd hj (Nat.not_lt_zero j)⟩
  | succ k ih =>
    intro q h
    have h0 := h
    rw [tRun_succ] at h
    cases e : tRun l k with
    | none => rw [e] at h; cases h
    | some p =>
      rw [e, Option.bind_some] at h
      rcases tS_mark (a := p.1) (d := p.2.1) (m := p.2.2) h with ⟨g1, g2⟩ | ⟨g1, g2, g3, g4, g5⟩
      · rcases ih p e with ⟨i1, i2⟩ | ⟨s, i1, i2, i3, i4, i5, i6⟩
        · refine Or.inl ⟨g1.trans i1, fun j hj => ?_⟩
          by_cases z : j = k
          · subst z; exact g2
          · exact i2 j (by omega)
        · refine Or.inr ⟨s, by omega, g1.trans i2, i3, i4, i5, fun j hj hjs => ?_⟩
          by_cases z : j = k
          · subst z; exact g2
          · exact i6 j (by omega) hjs
      · rcases ih p e with ⟨i1, i2⟩ | ⟨s, i1, i2, -⟩
        · refine Or.inr ⟨k, by omega, by rw [g2], g3, by rw [h0, g2], ⟨p.1, g5, ?_⟩, fun j hj hjs => i2 j (by omega)⟩
          rw [e]
          show some (p.1, p.2.1, p.2.2) = _
          rw [g4, g1]
        · omega
theorem tRun_pre {l : List Int32} {n : Nat} {q : Nat × Nat × Nat} (h : tRun l n = some q) : ∀ k, k ≤ n → ∃ p, tRun l k = some p := by
  have main : ∀ j n q, tRun l n = some q → j ≤ n → ∃ p, tRun l (n - j) = some p := by
    intro j
    induction j with
    | zero => intro n q h _; exact ⟨q, h⟩
    | succ j ih =>
      intro n q h hj
      cases n with
      | zero => omega
      | succ n =>
        rw [tRun_succ] at h
        cases e : tRun l n with
        | none => rw [e] at h; cases h
        | some p =>
          rw [show n + 1 - (j + 1) = n - j by omega]
          exact ih n p e (by omega)
  intro k hk
  have := main (n - k) n q h (by omega)
  rw [show n - (n - k) = k by omega] at this
  exact this
theorem tRun_1 {l : List Int32} {q : Nat × Nat × Nat} (h : tRun l 1 = some q) : q = (1, 0, 0) := by
  change (some (0, 0, 0)).bind (tStep (l.getD 0 0) 0) = some q at h
  rw [Option.bind_some] at h
  unfold tStep at h
  dsimp only at h
  rw [if_pos rfl] at h
  split at h
  · cases h; rfl
  · cases h
theorem tRun_2 {l : List Int32} {q : Nat × Nat × Nat} (h : tRun l 2 = some q) : q = (2, 0, 0) := by
  rw [tRun_succ] at h
  cases e : tRun l 1 with
  | none => rw [e] at h; cases h
  | some p =>
    have := tRun_1 e
    subst this
    rw [e, Option.bind_some] at h
    unfold tStep at h
    dsimp only at h
    rw [if_neg (by decide), if_pos rfl] at h
    split at h
    · cases h; rfl
    · cases h
section SY
variable {N : Nat} {c r : St}
theorem run_same {t lot L e k m : Nat} {l : List Int32} (hN : 100 < N) (hX : Sx t lot L e k l c r) (hk : k ≤ e) (ht : tRun l k = some (2, 0, m)) (h2 : 2 ≤ k) : ∃ v c1 r1, Texts_value N (35 + t) c (nI k) (nI e) = some (v, c1) ∧ R_sumFrom N r (nI t) (nI lot) (nI k) = some (v, r1) ∧ Fm (mks []) (mks []) c c1 ∧ Fr r r1 := by
  have hX0 := hX
  obtain ⟨⟨a1, a2, a3, a4, a5, a6⟩, ⟨b1, b2, b3, b4⟩, -, -⟩ := hX0
  have b : Texts_begin N c 0 = some (sB (sB c 0 ((gB c 0).set 0 0)) 1 ((gB c 1).set 0 1)) := begin_ok (d := 0) b1 b2 (by omega)
  have o : R_openSum N (sI r 32 (-1)) = some (sB (sB (sI (sI r 32 (-1)) 32 (nI 0)) 0 ((gB r 0).set 0 0)) 1 ((gB r 1).set 0 1)) := open_ok (r2 := sI r 32 (-1)) (d := 0) (by rw [gI_sI_same]; rfl) b3 b4 (by omega)
  unfold Texts_value R_sumFrom
  rw [b, o, Option.bind_some, Option.bind_some]
  have fc : Fm (mks []) (mks []) c (sB (sB c 0 ((gB c 0).set 0 0)) 1 ((gB c 1).set 0 1)) := ((Fm.refl _ _ c).sB List.length_set).sB (by rw [List.length_set]; rfl)
  have fr : Fr r (sB (sB (sI (sI r 32 (-1)) 32 (nI 0)) 0 ((gB r 0).set 0 0)) 1 ((gB r 1).set 0 1)) := ((((Fr.refl r).sI rfl).sI rfl).sB (by rw [List.length_set]; rfl)).sB (by rw [List.length_set]; rfl)
  have hag : Ag 0 (sB (sB c 0 ((gB c 0).set 0 0)) 1 ((gB c 1).set 0 1)) (sB (sB (sI (sI r 32 (-1)) 32 (nI 0)) 0 ((gB r 0).set 0 0)) 1 ((gB r 1).set 0 1)) := by
    intro i hi
    have hi0 : i = 0 := by omega
    subst hi0
    have u1 : gB (sB (sB c 0 ((gB c 0).set 0 0)) 1 ((gB c 1).set 0 1)) 0 = (gB c 0).set 0 0 := (gB_sB_ne _ _ (by decide)).trans (gB_sB_same _ _ _)
    have u2 : gB (sB (sB (sI (sI r 32 (-1)) 32 (nI 0)) 0 ((gB r 0).set 0 0)) 1 ((gB r 1).set 0 1)) 0 = (gB r 0).set 0 0 := (gB_sB_ne _ _ (by decide)).trans (gB_sB_same _ _ _)
    rw [u1, u2, gB_sB_same, gB_sB_same, getD_setL (by omega), getD_setL (by omega), getD_setL (by omega), getD_setL (by omega)]
    exact ⟨rfl, rfl⟩
  exact (sum_main hX hN (e - k) k (Nat.le_refl k) hk (Nat.le_refl _)).1 N N _ _ 2 0 m (by omega) (by omega) fc fr ht (by omega) (by omega) rfl hag (fun _ _ => rfl)
/-- what is known of a text -/
theorem Rel.tx {m : Nat} (h : Rel c r) (e7 : gI c 7 = nI m) (hm : m ≤ 12) {t : Nat} (ht : t < m) : ∃ L s a, L ≤ 60 ∧ (gA c 47).getD t 0 = nI L ∧ (gA c 48).getD t 0 = nI s ∧ 3 ≤ a ∧ tRun (gA c (35 + t)) L = some (a, 0, s + 1) ∧ s < L ∧ 3 ≤ s ∧ isM ((gA c (35 + t)).getD s 0) ∧ tRun (gA c (35 + t)) (s + 1) = some (2, 0, s + 1) ∧ (∃ b, tRun (gA c (35 + t)) s = some (b, 0, 0)) ∧ (∀ j, j < L → j ≠ s → ¬ isM ((gA c (35 + t)).getD j 0)) ∧ (∀ k, k ≤ L → ∃ q, tRun (gA c (35 + t)) k = some q) := by
  obtain ⟨n, m2, q1, q2, q3, q4, q5, q6, q7, q8, q9, q10, q11⟩ := h.rText
  have em : m2 = m := (nI_eq (by omega) (by omega)).mp (q5.symm.trans e7)
  subst em
  obtain ⟨L, s, a, w1, w2, w3, w4, w5⟩ := q11 t ht
  rcases tRun_mark L _ w5 with ⟨z, -⟩ | ⟨s2, z1, z2, z3, z4, ⟨b, z5, z6⟩, z7⟩
  · cases z
  · have es : s2 = s := by simpa using z2.symm
    subst es
    refine ⟨L, s2, a, w1, w2, w3, w4, w5, z1, ?_, z3, z4, ⟨b, z6⟩, z7, tRun_pre w5⟩
    refine Nat.not_lt.mp (fun hlt => ?_)
    rcases (show s2 = 0 ∨ s2 = 1 ∨ s2 = 2 by omega) with e | e | e
    · subst e; cases z6; omega
    · subst e; have := tRun_1 z6; cases this; omega
    · subst e; have := tRun_2 z6; cases this; omega
theorem mark_ok {m t L s : Nat} (h : Rel c r) (hN : 100 < N) (ht : t < 12) (hL : L ≤ 60) (hs : s < L) (hs2 : 2 ≤ s) (hm : isM ((gA c (35 + t)).getD s 0)) (hn : ∀ j, j < L → j ≠ s → ¬ isM ((gA c (35 + t)).getD j 0)) : R_markOf N r (nI t) = some (nI s) := by
  obtain ⟨n, m2, q1, q2, q3, q4, q5, q6, q7, q8, q9, q10, q11⟩ := h.rText
  have l11 : (gA r 11).length = 720 := h.lenR.1 11
  have hld : ∀ j, j < 60 → ld (gA r 11) (60 * nI t + nI j) = some ((gA c (35 + t)).getD j 0) := by
    intro j hj
    rw [show (60 : Int32) = nI 60 from rfl, pk_mul, nI_add, ld_nI (by omega) (by omega), q9 t j ht hj]
  unfold R_markOf
  refine for_up (P := fun f k => 2 ≤ k → R_markOf_p2 N r f (nI t) (nI k) = some (nI s)) (m := s) ?_ ?_ N 2 hs2 (by omega) (Nat.le_refl 2)
  · intro f _
    show R_markOf_p2b _ _ _ _ _ = _
    unfold R_markOf_p2b
    rw [hld s (by omega), Option.bind_some, isMark_eq, Option.bind_some, if_nbz, if_pos (show _ ∨ _ ∨ _ from hm)]
  · intro f k hk ih h2
    show R_markOf_p2b _ _ _ _ _ = _
    unfold R_markOf_p2b
    rw [hld k (by omega), Option.bind_some, isMark_eq, Option.bind_some, if_nbz, if_neg (show ¬ (_ ∨ _ ∨ _) from hn k (by omega) (by omega)), nI_1]
    exact ih (by omega)
theorem sumOf_same {n m t lot : Nat} (h : Rel c r) (hN : 100 < N) (e5 : gI c 5 = nI n) (hn : n ≤ 20) (e7 : gI c 7 = nI m) (hm : m ≤ 12) (ht : t < m) (hl : lot < n) (x : Int32) : ∃ v c1 r1, C_sumOf N c (nI t) (nI lot) x = some (v, c1) ∧ R_sumOf N r (nI t) (nI lot) x = some (v, r1) ∧ Fm scI scA c c1 ∧ Fm srI srA r r1 ∧ gL r1 0 = gL r 0 := by
  obtain ⟨n2, p1, p2, p3, p4, p5, p6, p7, p8, p9, p10, p11⟩ := h.rLots
  have en : n2 = n := (nI_eq (by omega) (by omega)).mp (p2.symm.trans e5)
  subst en
  obtain ⟨L, s, a, w1, w2, w3, w4, w5, w6, w7, w8, w9, ⟨b, w10⟩, w11, w12⟩ := h.tx e7 hm ht
  have mo := mark_ok (N := N) (m := m) h hN (by omega) w1 w6 (by omega) w8 w11
  obtain ⟨nn, m2, q1, q2, q3, q4, q5, q6, q7, q8, q9, q10, q11⟩ := h.rText
  obtain ⟨t1, t2, t3, t4⟩ := h.rNow
  obtain ⟨u1, u2, u3, u4, u5, u6⟩ := h.rCell
  have l6 : (gA c 6).length = 20 := h.lenC.1 6
  have l12 : (gA c 12).length = 20 := h.lenC.1 12
  have l13 : (gA c 13).length = 20 := h.lenC.1 13
  have l11 : (gA c 11).length = 20 := h.lenC.1 11
  have l5 : (gA c 5).length = 12 := h.lenC.1 5
  have l47 : (gA c 47).length = 12 := h.lenC.1 47
  have l48 : (gA c 48).length = 12 := h.lenC.1 48
  have lrow : (gA c (35 + t)).length = 60 := (h.lenC.1 _).trans ((by decide : ∀ i, i < 12 → LAc (35 + i) = 60) t (by omega))
  have r11 : (gA r 11).length = 720 := h.lenR.1 11
  have r12 : (gA r 12).length = 12 := h.lenR.1 12
  have hcell := p9 lot hl
  obtain ⟨ec, ec2⟩ := nat_of hcell.1
  generalize hq : ((gA c 12).getD lot 0).toNatClampNeg = cell at ec ec2
  have hc12 : cell < 12 := by omega
  generalize hc' : sI (sI (sI (sI c 8 ((gA c 6).getD lot 0)) 9 ((gA c 5).getD cell 0)) 10 (gI c 1 - (gA c 13).getD lot 0)) 11 ((gA c 11).getD lot 0) = c'
  have fc : Fm scI scA c c' := by rw [← hc']; exact ((((Fm.refl _ _ c).sI rfl).sI rfl).sI rfl).sI rfl
  have eC : C_sumOf N c (nI t) (nI lot) x = Texts_valueOf N c' (nI t) x := by
    unfold C_sumOf
    rw [ld_nI (by omega) (by omega), Option.bind_some, gA_sI, ld_nI (by omega) (by omega), Option.bind_some, ec, gA_sI, ld_nI (by omega) (by omega), Option.bind_some, gA_sI, gA_sI, ld_nI (by omega) (by omega), Option.bind_some]
    rw [gA_sI, gA_sI, gA_sI, ld_nI (by omega) (by omega), Option.bind_some, bind_eta]
    rw [← hc']
    rfl
  have sx : ∀ e, e ≤ L → (L ≤ e ∨ isM ((gA c (35 + t)).getD e 0)) → (∀ a d m, tRun (gA c (35 + t)) e = some (a, d, m) → d = 0) → (gA c' (35 + t) = gA c (35 + t) ∧ (gA c (35 + t)).length = 60 ∧ e ≤ 60 ∧ L ≤ 60 ∧ (∀ j, j < 60 → ld (gA r 11) (60 * nI t + nI j) = some ((gA c (35 + t)).getD j 0)) ∧ ld (gA r 12) (nI t) = some (nI L)) ∧ ((gB c' 0).length = 60 ∧ (gB c' 1).length = 60 ∧ (gB r 0).length = 61 ∧ (gB r 1).length = 61) ∧ (ld (gA r 7) (nI lot) = some (gI c' 8) ∧ (∃ y, ld (gA r 6) (nI lot) = some y ∧ ld (gA r 0) y = some (gI c' 9)) ∧ (∃ y, ld (gA r 8) (nI lot) = some y ∧ gI r 4 - y = gI c' 10) ∧ ld (gA r 5) (nI lot) = some (gI c' 11)) := by
    intro e he _ _
    refine ⟨⟨?_, lrow, by omega, w1, ?_, ?_⟩, ⟨(fc.2.2.2 0).trans (h.lenC.2 0), (fc.2.2.2 1).trans (h.lenC.2 1), h.lenR.2 0, h.lenR.2 1⟩, ?_, ⟨(gA c 12).getD lot 0, ?_, ?_⟩, ⟨(gA c 13).getD lot 0, ?_, ?_⟩, ?_⟩
    · rw [← hc']; rfl
    · intro j hj
      rw [show (60 : Int32) = nI 60 from rfl, pk_mul, nI_add, ld_nI (by omega) (by omega), q9 t j (by omega) hj]
    · rw [← q10, ld_nI (by omega) (by omega), w2]
    · rw [← p7, ld_nI (by omega) (by omega), ← hc']; rfl
    · rw [← p5, ld_nI (by omega) (by omega)]
    · rw [ec, ← u5, ld_nI (by omega) (by omega), ← hc']; rfl
    · rw [← p6, ld_nI (by omega) (by omega)]
    · rw [← t1, ← hc']; rfl
    · rw [← p4, ld_nI (by omega) (by omega), ← hc']; rfl
  have e48 : ld (gA c' 48) (nI t) = some (nI s) := by rw [fc.2.1 48 rfl, ld_nI (by omega) (by omega), w3]
  have e47 : ld (gA c' 47) (nI t) = some (nI L) := by rw [fc.2.1 47 rfl, ld_nI (by omega) (by omega), w2]
  rw [eC]
  unfold Texts_valueOf R_sumOf R_sumOf_p18
  rw [rwi_nI (show t < 12 by omega) (by omega), e48, e47, mo]
  simp only [Option.bind_some, bind_eta, nI_1]
  by_cases hx : x = 0
  · rw [if_neg (fun z => z hx), if_neg (fun z => z hx)]
    obtain ⟨q2', hq2⟩ := w12 2 (by omega)
    have := tRun_2 hq2
    subst this
    have X : Sx t lot L s 2 (gA c (35 + t)) c' r := by
      obtain ⟨g1, g2, g3⟩ := sx s (by omega) (Or.inr w8) (fun a d m z => by rw [w10] at z; cases z; rfl)
      exact ⟨g1, g2, g3, Or.inr w8, fun k _ hk => ⟨by omega, w11 k (by omega) (by omega)⟩, fun k hk => w12 k (by omega), fun a d m z => by rw [w10] at z; cases z; rfl⟩
    obtain ⟨v, c1, r1, y1, y2, y3, y4⟩ := run_same (N := N) hN X (k := 2) (by omega) hq2 (by omega)
    exact ⟨v, c1, r1, y1, y2, fc.trans (y3.mono (mks_le (by decide)) (mks_le (by decide))), y4.1.mono (mks_le (by decide)) (mks_le (by decide)), y4.2⟩
  · rw [if_pos hx, if_pos hx]
    have X : Sx t lot L L (s + 1) (gA c (35 + t)) c' r := by
      obtain ⟨g1, g2, g3⟩ := sx L (Nat.le_refl L) (Or.inl (Nat.le_refl L)) (fun a d m z => by rw [w5] at z; cases z; rfl)
      exact ⟨g1, g2, g3, Or.inl (Nat.le_refl L), fun k hb hk => ⟨hk, w11 k hk (by omega)⟩, fun k hk => w12 k hk, fun a d m z => by rw [w5] at z; cases z; rfl⟩
    obtain ⟨v, c1, r1, y1, y2, y3, y4⟩ := run_same (N := N) hN X (k := s + 1) (by omega) w9 (by omega)
    exact ⟨v, c1, r1, y1, y2, fc.trans (y3.mono (mks_le (by decide)) (mks_le (by decide))), y4.1.mono (mks_le (by decide)) (mks_le (by decide)), y4.2⟩
theorem S_sum (h : Rel c r) (hN : 100 < N) (x1 x2 x3 : Int32) : Sim (C_sum N c x1 x2 x3) (R_sum N r x1 x2 x3) := by
  obtain ⟨n, p1, p2, p3, -⟩ := h.rLots
  obtain ⟨nn, m, q1, q2, q3, q4, q5, q6, -⟩ := h.rText
  unfold C_sum C_sum_p37 R_sum R_sum_p41 Lots_isOne R_isLot
  rw [q5, q6, p2, p3]
  simp only [C_within_eq, R_in_eq, Option.bind_some, if_bz, if_nbz, bind_eta]
  refine Sim.ite (fun g1 => Sim.ite (fun g2 => Sim.ite (fun g3 => ?_) (fun _ => Sim.ret h)) (fun _ => Sim.ret h)) (fun _ => Sim.ret h)
  obtain ⟨t, rfl, ht⟩ := ix_in (by omega) g1
  obtain ⟨lot, rfl, hl⟩ := ix_in (by omega) g2
  obtain ⟨v, c1, r1, y1, y2, y3, y4, -⟩ := sumOf_same (N := N) h hN p2 p1 q5 q2 ht hl x3
  exact ⟨v, c1, r1, y1, y2, h.fr y3 y4⟩
/-- the last text below j with this head -/
def lasT (hd : Nat → Int32) (code : Int32) : Nat → Option Nat
  | 0 => none
  | j + 1 => if hd j = code then some j else lasT hd code j
theorem lasT_lt {hd : Nat → Int32} {code : Int32} : ∀ j t, lasT hd code j = some t → t < j := by
  intro j
  induction j with
  | zero => intro t h; cases h
  | succ j ih =>
    intro t h
    unfold lasT at h
    split at h
    · cases h; omega
    · have := ih t h; omega
theorem lnum_is {x : Int32} {k : Nat} (hk : k ≤ 2) {code : Int32} (hc : code = if k = 0 then 87 else if k = 1 then 83 else 67) : ∃ v, Texts_letterNumber N x = some v ∧ (v = nI k) = (x = code) := by
  have cases3 : k = 0 ∨ k = 1 ∨ k = 2 := by omega
  unfold Texts_letterNumber
  by_cases h1 : x = 67
  · refine ⟨2, by rw [if_pos h1], ?_⟩
    rcases cases3 with rfl | rfl | rfl
    · rw [hc, h1]; exact propext ⟨fun z => absurd z (by decide), fun z => absurd z (by decide)⟩
    · rw [hc, h1]; exact propext ⟨fun z => absurd z (by decide), fun z => absurd z (by decide)⟩
    · rw [hc, h1]; exact propext ⟨fun _ => rfl, fun _ => rfl⟩
  · by_cases h2 : x = 83
    · refine ⟨1, by rw [if_neg h1, if_pos h2], ?_⟩
      rcases cases3 with rfl | rfl | rfl
      · rw [hc, h2]; exact propext ⟨fun z => absurd z (by decide), fun z => absurd z (by decide)⟩
      · rw [hc, h2]; exact propext ⟨fun _ => rfl, fun _ => rfl⟩
      · rw [hc, h2]; exact propext ⟨fun z => absurd z (by decide), fun z => absurd z (by decide)⟩
    · by_cases h3 : x = 87
      · refine ⟨0, by rw [if_neg h1, if_neg h2, if_pos h3], ?_⟩
        rcases cases3 with rfl | rfl | rfl
        · rw [hc, h3]; exact propext ⟨fun _ => rfl, fun _ => rfl⟩
        · rw [hc, h3]; exact propext ⟨fun z => absurd z (by decide), fun z => absurd z (by decide)⟩
        · rw [hc, h3]; exact propext ⟨fun z => absurd z (by decide), fun z => absurd z (by decide)⟩
      · refine ⟨-1, by rw [if_neg h1, if_neg h2, if_neg h3], ?_⟩
        rcases cases3 with rfl | rfl | rfl
        · rw [hc]; exact propext ⟨fun z => absurd z (by decide), fun z => absurd z h3⟩
        · rw [hc]; exact propext ⟨fun z => absurd z (by decide), fun z => absurd z h2⟩
        · rw [hc]; exact propext ⟨fun z => absurd z (by decide), fun z => absurd z h1⟩
theorem lastC_ok {k : Nat} (h : Rel c r) (hk : k ≤ 2) {code : Int32} (hc : code = if k = 0 then 87 else if k = 1 then 83 else 67) : ∀ (j f : Nat), j ≤ 12 → j < f → Texts_lastOf_p7 N c f (nI k) (nI j - 1) = some (match lasT (fun t => (gA c (35 + t)).getD 0 0) code j with | none => -1 | some t => nI t) := by
  intro j
  induction j with
  | zero =>
    intro f _ hf
    obtain ⟨f, rfl⟩ : ∃ g, f = g + 1 := ⟨f - 1, by omega⟩
    show Texts_lastOf_p7b _ _ _ _ _ = _
    unfold Texts_lastOf_p7b
    rw [if_pos (show nI 0 - 1 < 0 by decide)]
    rfl
  | succ j ih =>
    intro f hj hf
    obtain ⟨f, rfl⟩ : ∃ g, f = g + 1 := ⟨f - 1, by omega⟩
    have lrow : (gA c (35 + j)).length = 60 := (h.lenC.1 _).trans ((by decide : ∀ i, i < 12 → LAc (35 + i) = 60) j (by omega))
    obtain ⟨v, hv1, hv2⟩ := lnum_is (N := N) (x := (gA c (35 + j)).getD 0 0) hk hc
    have z0 : ld (gA c (35 + j)) 0 = some ((gA c (35 + j)).getD 0 0) := ld_nI (k := 0) (by omega) (by omega)
    show Texts_lastOf_p7b _ _ _ _ _ = _
    unfold Texts_lastOf_p7b
    rw [nI_pred, if_neg (nI_pos (by omega)), rwi_nI (show j < 12 by omega) (by omega), Option.bind_some, z0, Option.bind_some, hv1, Option.bind_some]
    simp only [hv2]
    unfold lasT
    by_cases g : (gA c (35 + j)).getD 0 0 = code
    · rw [if_neg (fun z => z g), if_pos g]
    · rw [if_pos g, if_neg g, ← Int32.sub_eq_add_neg]
      exact ih f (by omega) (by omega)
/-- what the reference does with the text found -/
def saF (N : Nat) (r : St) (x2 x4 : Int32) : Option (Int32 × St) := (R_sumOf N r x4 x2 0).bind fun p10 => (R_sumOf N p10.2 x4 x2 1).bind fun p11 => (R_markOf N p11.2 x4).bind fun p12 => (ld (gA p11.2 11) ((60 * x4) + p12)).bind fun y13 => (if ¬ y13 = 60 then (if ¬ y13 = 61 then (if (mLc p10.1 p11.1) ≤ 0 then R_says_p156 N p11.2 else R_says_p152 N p11.2) else (if ¬ (mLc p10.1 p11.1) = 0 then R_says_p156 N p11.2 else R_says_p152 N p11.2)) else (if 0 ≤ (mLc p10.1 p11.1) then R_says_p156 N p11.2 else R_says_p152 N p11.2))
theorem lastR_ok (h : Rel c r) (x2 : Int32) {code : Int32} : ∀ (j f : Nat), j ≤ 12 → j < f → R_says_p50 N f r x2 code (nI j - 1) = match lasT (fun t => (gA c (35 + t)).getD 0 0) code j with | none => some (-1, r) | some t => saF N r x2 (nI t) := by
  obtain ⟨nn, m2, q1, q2, q3, q4, q5, q6, q7, q8, q9, q10, q11⟩ := h.rText
  have r11 : (gA r 11).length = 720 := h.lenR.1 11
  intro j
  induction j with
  | zero =>
    intro f _ hf
    obtain ⟨f, rfl⟩ : ∃ g, f = g + 1 := ⟨f - 1, by omega⟩
    show R_says_p50b _ _ _ _ _ _ = _
    unfold R_says_p50b
    rw [if_pos (show nI 0 - 1 < 0 by decide)]
    rfl
  | succ j ih =>
    intro f hj hf
    obtain ⟨f, rfl⟩ : ∃ g, f = g + 1 := ⟨f - 1, by omega⟩
    have z0 : ld (gA r 11) (60 * nI j) = some ((gA c (35 + j)).getD 0 0) := by
      rw [show (60 : Int32) = nI 60 from rfl, pk_mul, ld_nI (by omega) (by omega)]
      have := q9 j 0 (by omega) (by omega)
      rw [Nat.add_zero] at this
      rw [this]
    show R_says_p50b _ _ _ _ _ _ = _
    unfold R_says_p50b
    rw [nI_pred, if_neg (nI_pos (by omega)), z0, Option.bind_some]
    unfold lasT
    by_cases g : (gA c (35 + j)).getD 0 0 = code
    · rw [if_neg (fun z => z g), if_pos g]
      rfl
    · rw [if_pos g, if_neg g, ← Int32.sub_eq_add_neg]
      exact ih f (by omega) (by omega)
theorem S_says (h : Rel c r) (hN : 100 < N) (x1 x2 : Int32) : Sim (C_says N c x1 x2) (R_says N r x1 x2) := by
  obtain ⟨n, p1, p2, p3, -⟩ := h.rLots
  obtain ⟨nn, m, q1, q2, q3, q4, q5, q6, -⟩ := h.rText
  unfold C_says C_says_p20 R_says R_says_p17 Lots_isOne R_isLot
  rw [p2, p3]
  simp only [C_within_eq, R_in_eq, Option.bind_some, if_bz, if_nbz]
  refine Sim.ite (fun g1 => Sim.ite (fun g2 => ?_) (fun _ => Sim.ret h)) (fun _ => Sim.ret h)
  obtain ⟨k, rfl, hk⟩ := nat_in g1
  have e2 : (2 : Int32).toInt = 2 := rfl
  obtain ⟨lot, rfl, hl⟩ := ix_in (by omega) g2
  have z0 : (nI k = (0 : Int32)) = (k = 0) := propext (nI_eq (b := 0) (by omega) (by omega))
  have z1 : (nI k = (1 : Int32)) = (k = 1) := propext (nI_eq (b := 1) (by omega) (by omega))
  have eR : (if ¬ nI k = 0 then (if ¬ nI k = 1 then R_says_p41 N r (nI lot) 67 else R_says_p41 N r (nI lot) 83) else R_says_p41 N r (nI lot) 87) = R_says_p50 N N r (nI lot) (if k = 0 then 87 else if k = 1 then 83 else 67) (nI m - 1) := by
    simp only [z0, z1]
    unfold R_says_p41
    rw [q6]
    by_cases k0 : k = 0
    · rw [if_neg (fun z => z k0), if_pos k0]
    · rw [if_pos k0, if_neg k0]
      by_cases k1 : k = 1
      · rw [if_neg (fun z => z k1), if_pos k1]
      · rw [if_pos k1, if_neg k1]
  rw [eR]
  unfold Texts_lastOf
  rw [q5, lastC_ok (N := N) h (by omega) rfl m N q2 (by omega), lastR_ok (N := N) h (nI lot) m N q2 (by omega), Option.bind_some]
  generalize hlast : lasT (fun t => (gA c (35 + t)).getD 0 0) (if k = 0 then 87 else if k = 1 then 83 else 67) m = o
  cases o with
  | none =>
    dsimp only
    rw [if_neg (fun z => z rfl)]
    exact Sim.ret h
  | some t =>
    have htm := lasT_lt m t hlast
    dsimp only
    rw [if_pos (nI_ne_m1 (by omega))]
    obtain ⟨v, c1, r1, y1, y2, y3, y4, -⟩ := sumOf_same (N := N) h hN p2 p1 q5 q2 htm hl 0
    have h1 : Rel c1 r1 := h.fr y3 y4
    obtain ⟨v2, c2, r2, u1, u2, u3, u4, -⟩ := sumOf_same (N := N) h1 hN ((y3.1 5 rfl).trans p2) p1 ((y3.1 7 rfl).trans q5) q2 htm hl 1
    have h2 : Rel c2 r2 := h1.fr u3 u4
    obtain ⟨L, s, a, w1, w2, w3, w4, w5, w6, w7, w8, w9, -, w11, w12⟩ := h2.tx ((u3.1 7 rfl).trans ((y3.1 7 rfl).trans q5)) q2 htm
    have mo := mark_ok (N := N) (m := m) h2 hN (by omega) w1 w6 (by omega) w8 w11
    obtain ⟨nn', m', -, -, -, -, -, -, -, -, q9, -⟩ := h2.rText
    have l48 : (gA c2 48).length = 12 := h2.lenC.1 48
    have lrow : (gA c2 (35 + t)).length = 60 := (h2.lenC.1 _).trans ((by decide : ∀ i, i < 12 → LAc (35 + i) = 60) t (by omega))
    have r11 : (gA r2 11).length = 720 := h2.lenR.1 11
    have er : ld (gA r2 11) (60 * nI t + nI s) = some ((gA c2 (35 + t)).getD s 0) := by
      rw [show (60 : Int32) = nI 60 from rfl, pk_mul, nI_add, ld_nI (by omega) (by omega), q9 t s (by omega) (by omega)]
    unfold saF Texts_holds R_says_p156 R_says_p152
    rw [y1, y2, Option.bind_some, Option.bind_some]
    dsimp only
    rw [u1, u2, Option.bind_some, Option.bind_some]
    dsimp only
    rw [mo, Option.bind_some, er, Option.bind_some, rwi_nI (show t < 12 by omega) (by omega), Option.bind_some, ld_nI (l := gA c2 48) (by omega) (by omega), Option.bind_some, w3, ld_nI (by omega) (by omega), Option.bind_some]
    have fin0 : Sim ((some (0 : Int32)).bind fun p9 => if p9 = 0 then some ((0 : Int32), c2) else some (1, c2)) (some (0, r2)) := Sim.ret h2
    have fin1 : Sim ((some (1 : Int32)).bind fun p9 => if p9 = 0 then some ((0 : Int32), c2) else some (1, c2)) (some (1, r2)) := Sim.ret h2
    by_cases g60 : (gA c2 (35 + t)).getD s 0 = 60
    · rw [if_pos g60, if_neg (show ¬ ¬ (gA c2 (35 + t)).getD s 0 = 60 from fun z => z g60)]
      by_cases g : 0 ≤ mLc v v2
      · rw [if_pos g, if_pos g]; exact fin0
      · rw [if_neg g, if_neg g]; exact fin1
    · rw [if_neg g60, if_pos g60]
      by_cases g61 : (gA c2 (35 + t)).getD s 0 = 61
      · rw [if_pos g61, if_neg (show ¬ ¬ (gA c2 (35 + t)).getD s 0 = 61 from fun z => z g61)]
        by_cases g : mLc v v2 = 0
        · rw [if_neg (show ¬ ¬ mLc v v2 = 0 from fun z => z g), if_neg (show ¬ ¬ mLc v v2 = 0 from fun z => z g)]; exact fin1
        · rw [if_pos g, if_pos g]; exact fin0
      · rw [if_neg g61, if_pos g61]
        by_cases g : mLc v v2 ≤ 0
        · rw [if_pos g, if_pos g]; exact fin0
        · rw [if_neg g, if_neg g]; exact fin1
end SY
