/-! PURE: the digest (written by gen52.py) -/
theorem sL_sL (r : St) (a b : Int64) : sL (sL r 0 a) 0 b = sL r 0 b := by
  unfold sL
  refine Prod.ext rfl (Prod.ext (funext fun j => ?_) rfl)
  show (bif Nat.beq j 0 then b else (bif Nat.beq j 0 then a else r.2.1 j)) = bif Nat.beq j 0 then b else r.2.1 j
  cases Nat.beq j 0 <;> rfl
theorem sL_same (r : St) (a : Int64) : gL (sL r 0 a) 0 = a := rfl
theorem mixR (N : Nat) (r : St) (h v : Int64) : R_mix N (sL r 0 h) v = some (sL r 0 (31 * h + v)) := by
  unfold R_mix
  rw [sL_same, sL_sL]
theorem mixG (N : Nat) (r : St) (v : Int64) : R_mix N r v = some (sL r 0 (31 * gL r 0 + v)) := rfl
theorem mixC (N : Nat) (h v : Int64) : C_mix N h v = some (31 * h + v) := rfl
theorem sL_gL (r : St) : sL r 0 (gL r 0) = r := by
  unfold sL gL
  refine Prod.ext rfl (Prod.ext (funext fun j => ?_) rfl)
  show (bif Nat.beq j 0 then r.2.1 0 else r.2.1 j) = r.2.1 j
  cases e : Nat.beq j 0
  · rfl
  · have := Nat.eq_of_beq_eq_true e
    subst this
    rfl
section DG
variable {N : Nat} {c r : St}
theorem row_1_loop : ∀ f, C_mixRow_p3 N c f = C_mixRow_3_p3 N c 34 f := by
  intro f
  induction f with
  | zero => rfl
  | succ f ih =>
    show C_mixRow_p3b N (C_mixRow_p3 N c f) c = C_mixRow_3_p3b N (C_mixRow_3_p3 N c 34 f) c 34
    rw [ih]
    rfl
theorem row_1 (h : Int64) (x : Int32) : C_mixRow N c h x = C_mixRow_3 N c 34 h x := by
  unfold C_mixRow C_mixRow_3
  rw [row_1_loop]
theorem row_2_loop : ∀ f, C_mixRow_2_p3 N c f = C_mixRow_3_p3 N c 51 f := by
  intro f
  induction f with
  | zero => rfl
  | succ f ih =>
    show C_mixRow_2_p3b N (C_mixRow_2_p3 N c f) c = C_mixRow_3_p3b N (C_mixRow_3_p3 N c 51 f) c 51
    rw [ih]
    rfl
theorem row_2 (h : Int64) (x : Int32) : C_mixRow_2 N c h x = C_mixRow_3 N c 51 h x := by
  unfold C_mixRow_2 C_mixRow_3
  rw [row_2_loop]
theorem row_4_loop : ∀ f, C_mixRow_4_p3 N c f = C_mixRow_3_p3 N c 55 f := by
  intro f
  induction f with
  | zero => rfl
  | succ f ih =>
    show C_mixRow_4_p3b N (C_mixRow_4_p3 N c f) c = C_mixRow_3_p3b N (C_mixRow_3_p3 N c 55 f) c 55
    rw [ih]
    rfl
theorem row_4 (h : Int64) (x : Int32) : C_mixRow_4 N c h x = C_mixRow_3 N c 55 h x := by
  unfold C_mixRow_4 C_mixRow_3
  rw [row_4_loop]
theorem row_5_loop : ∀ f, C_mixRow_5_p3 N c f = C_mixRow_3_p3 N c 2 f := by
  intro f
  induction f with
  | zero => rfl
  | succ f ih =>
    show C_mixRow_5_p3b N (C_mixRow_5_p3 N c f) c = C_mixRow_3_p3b N (C_mixRow_3_p3 N c 2 f) c 2
    rw [ih]
    rfl
theorem row_5 (h : Int64) (x : Int32) : C_mixRow_5 N c h x = C_mixRow_3 N c 2 h x := by
  unfold C_mixRow_5 C_mixRow_3
  rw [row_5_loop]
theorem row_6_loop : ∀ f, C_mixRow_6_p3 N c f = C_mixRow_3_p3 N c 68 f := by
  intro f
  induction f with
  | zero => rfl
  | succ f ih =>
    show C_mixRow_6_p3b N (C_mixRow_6_p3 N c f) c = C_mixRow_3_p3b N (C_mixRow_3_p3 N c 68 f) c 68
    rw [ih]
    rfl
theorem row_6 (h : Int64) (x : Int32) : C_mixRow_6 N c h x = C_mixRow_3 N c 68 h x := by
  unfold C_mixRow_6 C_mixRow_3
  rw [row_6_loop]
theorem row_7_loop : ∀ f, C_mixRow_7_p3 N c f = C_mixRow_3_p3 N c 83 f := by
  intro f
  induction f with
  | zero => rfl
  | succ f ih =>
    show C_mixRow_7_p3b N (C_mixRow_7_p3 N c f) c = C_mixRow_3_p3b N (C_mixRow_3_p3 N c 83 f) c 83
    rw [ih]
    rfl
theorem row_7 (h : Int64) (x : Int32) : C_mixRow_7 N c h x = C_mixRow_3 N c 83 h x := by
  unfold C_mixRow_7 C_mixRow_3
  rw [row_7_loop]
/-- a row mixed in -/
def mf (g : Nat → Int64) : Nat → Int64 → Int64
  | 0, h => h
  | k + 1, h => 31 * mf g k h + g k
theorem mixRow_ok {j n : Nat} (hn : n ≤ (gA c j).length) (hs : n < 1000) (hN : 1000 < N) (h : Int64) : C_mixRow_3 N c j h (nI n) = some (mf (fun k => ((gA c j).getD k 0).toInt64) n h) := by
  unfold C_mixRow_3
  refine for_up (P := fun f k => C_mixRow_3_p3 N c j f (mf (fun k => ((gA c j).getD k 0).toInt64) k h) (nI n) (nI k) = some (mf (fun k => ((gA c j).getD k 0).toInt64) n h)) (m := n) ?_ ?_ N 0 (by omega) (by omega)
  · intro f
    show C_mixRow_3_p3b _ _ _ _ _ _ _ = _
    unfold C_mixRow_3_p3b
    rw [if_pos (nI_stop n)]
  · intro f k hk ih
    show C_mixRow_3_p3b _ _ _ _ _ _ _ = _
    unfold C_mixRow_3_p3b
    rw [if_neg (nI_on hk (by omega)), ld_nI (by omega) (by omega), Option.bind_some, mixC, Option.bind_some, nI_1]
    exact ih
theorem d_cells (h : Rel c r) (hN : 2000 < N) (h0 : Int64) : ∃ v, Hold_mixed_p3 N c N h0 0 = (C_mixRow_5 N c v 3).bind (fun p2 => Hold_mixed_p65 N c N p2 0) ∧ R_mixHold_p2 N N (sL r 0 h0) 0 = R_mixHold_p83 N N (sL r 0 (31 * (31 * (31 * v + (gI r 0).toInt64) + (gI r 1).toInt64) + (gI r 2).toInt64)) 0 := by
  obtain ⟨u1, u2, u3, u4, u5, u6⟩ := h.rCell
  have l5 : (gA c 5).length = 12 := h.lenC.1 5
  have l0 : (gA c 0).length = 12 := h.lenC.1 0
  have l1 : (gA c 1).length = 12 := h.lenC.1 1
  refine for_up (P := fun f k => ∀ h0, ∃ v, Hold_mixed_p3 N c f h0 (nI k) = (C_mixRow_5 N c v 3).bind (fun p2 => Hold_mixed_p65 N c N p2 0) ∧ R_mixHold_p2 N f (sL r 0 h0) (nI k) = R_mixHold_p83 N N (sL r 0 (31 * (31 * (31 * v + (gI r 0).toInt64) + (gI r 1).toInt64) + (gI r 2).toInt64)) 0) (m := 12) ?_ ?_ N 0 (by omega) (by omega) h0
  · intro f h0
    refine ⟨h0, ?_, ?_⟩
    · show Hold_mixed_p3b _ _ _ _ _ = _
      unfold Hold_mixed_p3b
      rw [if_pos (show (12 : Int32) ≤ nI 12 from nI_stop 12)]
    · show R_mixHold_p2b _ _ _ _ = _
      unfold R_mixHold_p2b
      rw [if_pos (show (12 : Int32) ≤ nI 12 from nI_stop 12)]
      simp only [mixR, gI_sL, Option.bind_some]
  · intro f k hk ih h0
    have n12 : ¬ (12 : Int32) ≤ nI k := nI_on (m := 12) hk (by omega)
    have d5 : ld (gA c 5) (nI k) = some ((gA c 5).getD k 0) := ld_nI (by omega) (by omega)
    have d0 : ld (gA c 0) (nI k) = some ((gA c 0).getD k 0) := ld_nI (by omega) (by omega)
    have d1 : ld (gA c 1) (nI k) = some ((gA c 1).getD k 0) := ld_nI (by omega) (by omega)
    show ∃ v, Hold_mixed_p3b _ _ _ _ _ = _ ∧ R_mixHold_p2b _ _ _ _ = _
    unfold Hold_mixed_p3b R_mixHold_p2b R_mixHold_p45
    rw [if_neg n12, if_neg n12]
    simp only [gA_sL, ← u1, ← u3, ← u5, d5, d0, d1, mixR, mixC, Option.bind_some, nI_1]
    have hb := u4 k hk
    obtain ⟨q, e⟩ := nat_of hb.1
    have hz : ((gA c 1).getD k 0) = 0 ∨ ((gA c 1).getD k 0) = 1 := by
      rcases (show ((gA c 1).getD k 0).toNatClampNeg = 0 ∨ ((gA c 1).getD k 0).toNatClampNeg = 1 by omega) with z | z
      · exact Or.inl (by rw [q, z]; rfl)
      · exact Or.inr (by rw [q, z]; rfl)
    rcases hz with z | z
    · rw [z, if_pos rfl]
      exact ih _
    · rw [z, if_neg (by decide)]
      exact ih _
theorem d_seas (h : Rel c r) (hN : 2000 < N) (h0 : Int64) : ∃ v, Hold_mixed_p65 N c N h0 0 = some v ∧ R_mixHold_p83 N N (sL r 0 h0) 0 = R_mixHold_p108 N N (sL r 0 v) 0 := by
  refine for_up (P := fun f k => ∀ h0, ∃ v, Hold_mixed_p65 N c f h0 (nI (100 * k)) = some v ∧ R_mixHold_p83 N f (sL r 0 h0) (nI (100 * k)) = R_mixHold_p108 N N (sL r 0 v) 0) (m := 13) ?_ ?_ N 0 (by omega) (by omega) h0
  · intro f h0
    refine ⟨h0, ?_, ?_⟩
    · show Hold_mixed_p65b _ _ _ _ _ = _
      unfold Hold_mixed_p65b
      rw [if_pos (by decide)]
    · show R_mixHold_p83b _ _ _ _ = _
      unfold R_mixHold_p83b
      rw [if_pos (by decide)]
  · intro f k hk ih h0
    have n12 : ¬ (1200 : Int32) < nI (100 * k) := fun z => by
      have := (nI_ltI (a := 1200) (by omega) (by omega)).mp z
      omega
    obtain ⟨v, a1, a2, -⟩ := sea_same (N := N) (c := c) (r := sL r 0 h0) h.rHold (h.lenC.1 3) (h.lenC.1 4) (by omega) (nI (100 * k)) (by rw [nI_toInt (by omega)]; omega)
    show ∃ v, Hold_mixed_p65b _ _ _ _ _ = _ ∧ R_mixHold_p83b _ _ _ _ = _
    unfold Hold_mixed_p65b R_mixHold_p83b
    have e100 : nI (100 * k) + 100 = nI (100 * (k + 1)) := nI_add (100 * k) 100
    rw [if_neg n12, if_neg n12, a1, a2]
    simp only [mixR, mixC, Option.bind_some, e100]
    exact ih _
theorem d_lots (h : Rel c r) (hN : 2000 < N) (h0 : Int64) : ∃ v, C_mixLots N c h0 = some v ∧ R_mixHold_p108 N N (sL r 0 h0) 0 = R_mixHold_p149 N N (sL r 0 v) 0 := by
  obtain ⟨n, p1, p2, p3, -⟩ := h.rLots
  unfold C_mixLots
  refine for_up (P := fun f k => ∀ h0, ∃ v, C_mixLots_p2 N c f h0 (nI k) = some v ∧ R_mixHold_p108 N f (sL r 0 h0) (nI k) = R_mixHold_p149 N N (sL r 0 v) 0) (m := n) ?_ ?_ N 0 (by omega) (by omega) h0
  · intro f h0
    refine ⟨h0, ?_, ?_⟩
    · show C_mixLots_p2b _ _ _ _ _ = _
      unfold C_mixLots_p2b
      rw [p2, if_pos (nI_stop n)]
    · show R_mixHold_p108b _ _ _ _ = _
      unfold R_mixHold_p108b
      rw [gI_sL, p3, if_pos (nI_stop n)]
  · intro f l hl ih h0
    have inner : ∃ v, (∀ kb, C_mixLots_p16 N kb c N h0 (nI l) 0 = kb v (nI (l + 1))) ∧ ∀ kb, R_mixHold_p118 N kb N (sL r 0 h0) (nI l) 0 = kb (sL r 0 v) (nI (l + 1)) := by
      refine for_up (P := fun f w => ∀ h0, ∃ v, (∀ kb, C_mixLots_p16 N kb c f h0 (nI l) (nI w) = kb v (nI (l + 1))) ∧ ∀ kb, R_mixHold_p118 N kb f (sL r 0 h0) (nI l) (nI w) = kb (sL r 0 v) (nI (l + 1))) (m := 9) ?_ ?_ N 0 (by omega) (by omega) h0
      · intro f h0
        refine ⟨h0, fun kb => ?_, fun kb => ?_⟩
        · show C_mixLots_p16b _ _ _ _ _ _ _ = _
          unfold C_mixLots_p16b
          rw [if_pos (by decide), nI_1]
        · show R_mixHold_p118b _ _ _ _ _ _ = _
          unfold R_mixHold_p118b
          rw [if_pos (by decide), nI_1]
      · intro f w hw ih2 h0
        obtain ⟨v, a1, a2⟩ := tell_same (N := N) (c := c) (r := sL r 0 h0) (l := l) (w := w) h (by rw [p2]; exact nI_lt hl (by omega)) hw (by omega)
        obtain ⟨v2, b1, b2⟩ := ih2 (31 * h0 + v.toInt64)
        have n8 : ¬ (8 : Int32) < nI w := fun z => by
          have := (nI_ltI (a := 8) (by omega) (by omega)).mp z
          omega
        refine ⟨v2, fun kb => ?_, fun kb => ?_⟩
        · rw [← b1 kb]
          show C_mixLots_p16b _ _ _ _ _ _ _ = _
          unfold C_mixLots_p16b
          rw [if_neg n8, a1, Option.bind_some, mixC, Option.bind_some, nI_1]
        · rw [← b2 kb]
          show R_mixHold_p118b _ _ _ _ _ _ = _
          unfold R_mixHold_p118b
          rw [if_neg (show ¬ (9 : Int32) ≤ nI w from nI_on (m := 9) hw (by omega)), a2, Option.bind_some, mixR, Option.bind_some, nI_1]
    obtain ⟨v, b1, b2⟩ := inner
    obtain ⟨v2, d1, d2⟩ := ih v
    refine ⟨v2, ?_, ?_⟩
    · rw [← d1, ← b1 (C_mixLots_p2 N c f)]
      show C_mixLots_p2b _ _ _ _ _ = _
      unfold C_mixLots_p2b
      rw [p2, if_neg (nI_on hl (by omega))]
    · rw [← d2, ← b2 (R_mixHold_p108 N f)]
      show R_mixHold_p108b _ _ _ _ = _
      unfold R_mixHold_p108b
      rw [gI_sL, p3, if_neg (nI_on hl (by omega))]
theorem d_sums (h : Rel c r) (hN : 2000 < N) : ∃ v c1 r1, C_mixSums N c (gL r 0) = some (v, c1) ∧ R_mixHold_p149 N N r 0 = R_mixHold_p212 N N (sL r1 0 (31 * v + (gI r1 11).toInt64)) 0 ∧ gL r1 0 = v ∧ Rel c1 r1 := by
  obtain ⟨n, p1, p2, p3, -⟩ := h.rLots
  obtain ⟨nn, m, q1, q2, q3, q4, q5, q6, -⟩ := h.rText
  unfold C_mixSums
  have rel : ∀ c2 r2 : St, Rel c2 r2 → gI c2 5 = nI n → gI c2 7 = nI m → gI r2 7 = nI n ∧ gI r2 9 = nI m := by
    intro c2 r2 h2 e5 e7
    obtain ⟨n', -, p2', p3', -⟩ := h2.rLots
    obtain ⟨nn', m', -, -, -, -, q5', q6', -⟩ := h2.rText
    exact ⟨p3'.trans (p2'.symm.trans e5), q6'.trans (q5'.symm.trans e7)⟩
  refine for_up (P := fun f t => ∀ (c2 r2 : St) (h0 : Int64), Rel c2 r2 → gI c2 5 = nI n → gI c2 7 = nI m → gL r2 0 = h0 → ∃ v c1 r1, C_mixSums_p2 N f c2 h0 (nI t) = some (v, c1) ∧ R_mixHold_p149 N f r2 (nI t) = R_mixHold_p212 N N (sL r1 0 (31 * v + (gI r1 11).toInt64)) 0 ∧ gL r1 0 = v ∧ Rel c1 r1) (m := m) ?_ ?_ N 0 (by omega) (by omega) c r _ h p2 q5 rfl
  · intro f c2 r2 h0 h2 e5 e7 eh
    refine ⟨h0, c2, r2, ?_, ?_, eh, h2⟩
    · show C_mixSums_p2b _ _ _ _ _ = _
      unfold C_mixSums_p2b
      rw [e7, if_pos (nI_stop m)]
    · show R_mixHold_p149b _ _ _ _ = _
      unfold R_mixHold_p149b
      rw [(rel c2 r2 h2 e5 e7).2, if_pos (nI_stop m), mixG, Option.bind_some, eh]
  · intro f t ht ih c2 r2 h0 h2 e5 e7 eh
    have inner : ∃ v c1 r1, (∀ kb, C_mixSums_p16 N kb N c2 h0 (nI t) 0 = kb c1 v (nI (t + 1))) ∧ (∀ kb, R_mixHold_p159 N kb N r2 (nI t) 0 = kb r1 (nI (t + 1))) ∧ gL r1 0 = v ∧ Rel c1 r1 ∧ gI c1 5 = nI n ∧ gI c1 7 = nI m := by
      refine for_up (P := fun f l => ∀ (c2 r2 : St) (h0 : Int64), Rel c2 r2 → gI c2 5 = nI n → gI c2 7 = nI m → gL r2 0 = h0 → ∃ v c1 r1, (∀ kb, C_mixSums_p16 N kb f c2 h0 (nI t) (nI l) = kb c1 v (nI (t + 1))) ∧ (∀ kb, R_mixHold_p159 N kb f r2 (nI t) (nI l) = kb r1 (nI (t + 1))) ∧ gL r1 0 = v ∧ Rel c1 r1 ∧ gI c1 5 = nI n ∧ gI c1 7 = nI m) (m := n) ?_ ?_ N 0 (by omega) (by omega) c2 r2 h0 h2 e5 e7 eh
      · intro f c2 r2 h0 h2 e5 e7 eh
        refine ⟨h0, c2, r2, fun kb => ?_, fun kb => ?_, eh, h2, e5, e7⟩
        · show C_mixSums_p16b _ _ _ _ _ _ _ = _
          unfold C_mixSums_p16b
          rw [e5, if_pos (nI_stop n), nI_1]
        · show R_mixHold_p159b _ _ _ _ _ _ = _
          unfold R_mixHold_p159b
          rw [(rel c2 r2 h2 e5 e7).1, if_pos (nI_stop n), nI_1]
      · intro f l hl ih2 c2 r2 h0 h2 e5 e7 eh
        obtain ⟨v1, c3, r3, a1, a2, a3, a4, a5⟩ := sumOf_same (N := N) h2 (by omega) e5 p1 e7 q2 ht hl 0
        have h3 : Rel c3 (sL r3 0 (31 * h0 + v1)) := h2.fr a3 a4
        have e53 : gI c3 5 = nI n := (a3.1 5 rfl).trans e5
        have e73 : gI c3 7 = nI m := (a3.1 7 rfl).trans e7
        obtain ⟨v2, c4, r4, b1, b2, b3, b4, b5⟩ := sumOf_same (N := N) h3 (by omega) e53 p1 e73 q2 ht hl 1
        have h4 : Rel c4 (sL r4 0 (31 * (31 * h0 + v1) + v2)) := h3.fr b3 b4
        obtain ⟨v, c1, r1, d1, d2, d3⟩ := ih2 c4 (sL r4 0 (31 * (31 * h0 + v1) + v2)) _ h4 ((b3.1 5 rfl).trans e53) ((b3.1 7 rfl).trans e73) rfl
        refine ⟨v, c1, r1, fun kb => ?_, fun kb => ?_, d3⟩
        · rw [← d1 kb]
          show C_mixSums_p16b _ _ _ _ _ _ _ = _
          unfold C_mixSums_p16b
          rw [e5, if_neg (nI_on hl (by omega)), a1, Option.bind_some]
          dsimp only
          rw [mixC, Option.bind_some, b1, Option.bind_some]
          dsimp only
          rw [mixC, Option.bind_some, nI_1]
          rfl
        · rw [← d2 kb]
          show R_mixHold_p159b _ _ _ _ _ _ = _
          unfold R_mixHold_p159b
          rw [(rel c2 r2 h2 e5 e7).1, if_neg (nI_on hl (by omega)), a2, Option.bind_some]
          dsimp only
          rw [mixG, a5, eh, Option.bind_some, b2, Option.bind_some]
          dsimp only
          rw [mixG, b5, Option.bind_some, nI_1]
          rfl
    obtain ⟨v1, c3, r3, b1, b2, b3, b4, b5, b6⟩ := inner
    obtain ⟨v, c1, r1, d1, d2, d3⟩ := ih c3 r3 v1 b4 b5 b6 b3
    refine ⟨v, c1, r1, ?_, ?_, d3⟩
    · rw [← d1, ← b1 (C_mixSums_p2 N f)]
      show C_mixSums_p2b _ _ _ _ _ = _
      unfold C_mixSums_p2b
      rw [e7, if_neg (nI_on ht (by omega))]
    · rw [← d2, ← b2 (R_mixHold_p149 N f)]
      show R_mixHold_p149b _ _ _ _ = _
      unfold R_mixHold_p149b
      rw [(rel c2 r2 h2 e5 e7).2, if_neg (nI_on ht (by omega))]
theorem d_read (h : Rel c r) (hN : 2000 < N) (h0 : Int64) : ∃ v, Readings_mixed_p12 N c N h0 0 = some v ∧ R_mixHold_p212 N N (sL r 0 h0) 0 = some (sL r 0 v) := by
  obtain ⟨n, q1, e1, e2, q2, q3, q4, q5, -⟩ := h.rRead
  have la : (gA c 49).length = 24 := h.lenC.1 49
  have lb : (gA c 50).length = 24 := h.lenC.1 50
  refine for_up (P := fun f k => ∀ h0, ∃ v, Readings_mixed_p12 N c f h0 (nI k) = some v ∧ R_mixHold_p212 N f (sL r 0 h0) (nI k) = some (sL r 0 v)) (m := n) ?_ ?_ N 0 (by omega) (by omega) h0
  · intro f h0
    refine ⟨h0, ?_, ?_⟩
    · show Readings_mixed_p12b _ _ _ _ _ = _
      unfold Readings_mixed_p12b
      rw [e1, if_pos (nI_stop n)]
    · show R_mixHold_p212b _ _ _ _ = _
      unfold R_mixHold_p212b
      rw [gI_sL, e2, if_pos (nI_stop n)]
  · intro f k hk ih h0
    have da : ld (gA c 49) (nI k) = some ((gA c 49).getD k 0) := ld_nI (by omega) (by omega)
    have db : ld (gA c 50) (nI k) = some ((gA c 50).getD k 0) := ld_nI (by omega) (by omega)
    show ∃ v, Readings_mixed_p12b _ _ _ _ _ = _ ∧ R_mixHold_p212b _ _ _ _ = _
    unfold Readings_mixed_p12b R_mixHold_p212b
    rw [gI_sL, e1, e2, if_neg (nI_on hk (by omega)), if_neg (nI_on hk (by omega))]
    simp only [gA_sL, ← q4, ← q5, da, db, mixR, mixC, Option.bind_some, nI_1]
    exact ih _
theorem d_mkt (h : Rel c r) (hN : 2000 < N) (h0 : Int64) : ∃ v, Market_mixed_p12 N c N h0 0 = some v ∧ R_mixLand_p164 N N (sL r 0 h0) 0 = R_mixLand_p202 N N (sL r 0 v) 0 := by
  obtain ⟨n, q1, e1, e2, q4, q5, -⟩ := h.rMkt
  have la : (gA c 69).length = 5 := h.lenC.1 69
  have lb : (gA c 70).length = 5 := h.lenC.1 70
  refine for_up (P := fun f k => ∀ h0, ∃ v, Market_mixed_p12 N c f h0 (nI k) = some v ∧ R_mixLand_p164 N f (sL r 0 h0) (nI k) = R_mixLand_p202 N N (sL r 0 v) 0) (m := n) ?_ ?_ N 0 (by omega) (by omega) h0
  · intro f h0
    refine ⟨h0, ?_, ?_⟩
    · show Market_mixed_p12b _ _ _ _ _ = _
      unfold Market_mixed_p12b
      rw [e1, if_pos (nI_stop n)]
    · show R_mixLand_p164b _ _ _ _ = _
      unfold R_mixLand_p164b
      rw [gI_sL, e2, if_pos (nI_stop n)]
  · intro f k hk ih h0
    have da : ld (gA c 69) (nI k) = some ((gA c 69).getD k 0) := ld_nI (by omega) (by omega)
    have db : ld (gA c 70) (nI k) = some ((gA c 70).getD k 0) := ld_nI (by omega) (by omega)
    show ∃ v, Market_mixed_p12b _ _ _ _ _ = _ ∧ R_mixLand_p164b _ _ _ _ = _
    unfold Market_mixed_p12b R_mixLand_p164b
    rw [gI_sL, e1, e2, if_neg (nI_on hk (by omega)), if_neg (nI_on hk (by omega))]
    simp only [gA_sL, ← q4, ← q5, da, db, mixR, mixC, Option.bind_some, nI_1]
    exact ih _
theorem d_ring (h : Rel c r) (hN : 2000 < N) (h0 : Int64) : ∃ v, Ring_mixed_p2 N c N h0 0 = (C_mixRow_7 N c v 4).bind (fun p2 => some p2) ∧ R_digest_p17 N N (sL r 0 h0) 0 = R_digest_p91 N N (sL r 0 (31 * (31 * (31 * (31 * v + (gI r 22).toInt64) + (gI r 23).toInt64) + (gI r 24).toInt64) + (gI r 25).toInt64)) 0 := by
  obtain ⟨n, q1, e1, e2, q4, q5, -⟩ := h.rRing
  have la : (gA c 84).length = 5 := h.lenC.1 84
  have lb : (gA c 85).length = 5 := h.lenC.1 85
  refine for_up (P := fun f k => ∀ h0, ∃ v, Ring_mixed_p2 N c f h0 (nI k) = (C_mixRow_7 N c v 4).bind (fun p2 => some p2) ∧ R_digest_p17 N f (sL r 0 h0) (nI k) = R_digest_p91 N N (sL r 0 (31 * (31 * (31 * (31 * v + (gI r 22).toInt64) + (gI r 23).toInt64) + (gI r 24).toInt64) + (gI r 25).toInt64)) 0) (m := n) ?_ ?_ N 0 (by omega) (by omega) h0
  · intro f h0
    refine ⟨h0, ?_, ?_⟩
    · show Ring_mixed_p2b _ _ _ _ _ = _
      unfold Ring_mixed_p2b
      rw [e1, if_pos (nI_stop n)]
    · show R_digest_p17b _ _ _ _ = _
      unfold R_digest_p17b
      rw [gI_sL, e2, if_pos (nI_stop n)]
      simp only [mixR, gI_sL, Option.bind_some]
  · intro f k hk ih h0
    have da : ld (gA c 84) (nI k) = some ((gA c 84).getD k 0) := ld_nI (by omega) (by omega)
    have db : ld (gA c 85) (nI k) = some ((gA c 85).getD k 0) := ld_nI (by omega) (by omega)
    show ∃ v, Ring_mixed_p2b _ _ _ _ _ = _ ∧ R_digest_p17b _ _ _ _ = _
    unfold Ring_mixed_p2b R_digest_p17b
    rw [gI_sL, e1, e2, if_neg (nI_on hk (by omega)), if_neg (nI_on hk (by omega))]
    simp only [gA_sL, ← q4, ← q5, da, db, mixR, mixC, Option.bind_some, nI_1]
    exact ih _
theorem d_arr (h : Rel c r) (hN : 2000 < N) (h0 : Int64) : ∃ v, C_mixRow_2 N c h0 (gI c 17) = some v ∧ R_mixLand N (sL r 0 h0) = R_mixLand_p29 N N (sL r 0 v) 0 := by
  obtain ⟨n, q1, e1, e2, q4, -⟩ := h.rStk
  have la : (gA c 51).length = 8 := h.lenC.1 51
  refine ⟨mf (fun k => ((gA c 51).getD k 0).toInt64) n h0, ?_, ?_⟩
  · rw [row_2, e1, mixRow_ok (by omega) (by omega) (by omega)]
  · unfold R_mixLand
    refine for_up (P := fun f k => R_mixLand_p2 N f (sL r 0 (mf (fun k => ((gA c 51).getD k 0).toInt64) k h0)) (nI k) = R_mixLand_p29 N N (sL r 0 (mf (fun k => ((gA c 51).getD k 0).toInt64) n h0)) 0) (m := n) ?_ ?_ N 0 (by omega) (by omega)
    · intro f
      show R_mixLand_p2b _ _ _ _ = _
      unfold R_mixLand_p2b
      rw [gI_sL, e2, if_pos (nI_stop n)]
    · intro f k hk ih
      show R_mixLand_p2b _ _ _ _ = _
      unfold R_mixLand_p2b
      rw [gI_sL, e2, if_neg (nI_on hk (by omega)), gA_sL, ← q4, ld_nI (by omega) (by omega), Option.bind_some, mixR, Option.bind_some, nI_1]
      exact ih
theorem d_page (h : Rel c r) (hN : 2000 < N) (h0 : Int64) : ∃ v, C_mixRow N c h0 (gI c 6) = some v ∧ R_digest_p146 N N (sL r 0 h0) 0 = R_digest_p173 N N (sL r 0 v) 0 := by
  obtain ⟨n, m, q1, q2, e1, e2, q5, q6, q4, -⟩ := h.rText
  have la : (gA c 34).length = 60 := h.lenC.1 34
  refine ⟨mf (fun k => ((gA c 34).getD k 0).toInt64) n h0, ?_, ?_⟩
  · rw [row_1, e1, mixRow_ok (by omega) (by omega) (by omega)]
  · refine for_up (P := fun f k => R_digest_p146 N f (sL r 0 (mf (fun k => ((gA c 34).getD k 0).toInt64) k h0)) (nI k) = R_digest_p173 N N (sL r 0 (mf (fun k => ((gA c 34).getD k 0).toInt64) n h0)) 0) (m := n) ?_ ?_ N 0 (by omega) (by omega)
    · intro f
      show R_digest_p146b _ _ _ _ = _
      unfold R_digest_p146b
      rw [gI_sL, e2, if_pos (nI_stop n)]
    · intro f k hk ih
      show R_digest_p146b _ _ _ _ = _
      unfold R_digest_p146b
      rw [gI_sL, e2, if_neg (nI_on hk (by omega)), gA_sL, ← q4, ld_nI (by omega) (by omega), Option.bind_some, mixR, Option.bind_some, nI_1]
      exact ih
theorem d_takes (h : Rel c r) (hN : 2000 < N) (h0 : Int64) : ∃ v, C_mixRow_4 N c h0 4 = some v ∧ R_mixLand_p95 N N (sL r 0 h0) 0 = R_mixLand_p164 N N (sL r 0 (31 * (31 * (31 * (31 * (31 * v + (gI r 14).toInt64) + (gI r 15).toInt64) + (gI r 16).toInt64) + (gI r 17).toInt64) + (gI r 18).toInt64)) 0 := by
  obtain ⟨n, q1, e1, e2, q4, q5, q6, q7, q8, q9, q10, -⟩ := h.rDrv
  have la : (gA c 55).length = 4 := h.lenC.1 55
  refine ⟨mf (fun k => ((gA c 55).getD k 0).toInt64) 4 h0, ?_, ?_⟩
  · rw [row_4]
    exact mixRow_ok (n := 4) (by omega) (by omega) (by omega) h0
  · refine for_up (P := fun f k => R_mixLand_p95 N f (sL r 0 (mf (fun k => ((gA c 55).getD k 0).toInt64) k h0)) (nI k) = R_mixLand_p164 N N (sL r 0 (31 * (31 * (31 * (31 * (31 * mf (fun k => ((gA c 55).getD k 0).toInt64) 4 h0 + (gI r 14).toInt64) + (gI r 15).toInt64) + (gI r 16).toInt64) + (gI r 17).toInt64) + (gI r 18).toInt64)) 0) (m := 4) ?_ ?_ N 0 (by omega) (by omega)
    · intro f
      show R_mixLand_p95b _ _ _ _ = _
      unfold R_mixLand_p95b
      rw [if_pos (show (4 : Int32) ≤ nI 4 from nI_stop 4)]
      simp only [mixR, gI_sL, Option.bind_some]
    · intro f k hk ih
      show R_mixLand_p95b _ _ _ _ = _
      unfold R_mixLand_p95b
      rw [if_neg (show ¬ (4 : Int32) ≤ nI k from nI_on (m := 4) hk (by omega)), gA_sL, ← q10, ld_nI (by omega) (by omega), Option.bind_some, mixR, Option.bind_some, nI_1]
      exact ih
theorem d_drv (h : Rel c r) (hN : 2000 < N) (h0 : Int64) : ∃ v, Drive_mixed_p2 N c N h0 0 = (C_mixRow_4 N c v 4).bind (fun p2 => (C_mix N p2 ((gI c 22).toInt64)).bind fun p3 => some p3) ∧ R_mixLand_p29 N N (sL r 0 h0) 0 = R_mixLand_p95 N N (sL r 0 v) 0 := by
  obtain ⟨n, q1, e1, e2, q4, q5, q6, q7, q8, -⟩ := h.rDrv
  have la : (gA c 62).length = 6 := h.lenC.1 62
  have lb : (gA c 63).length = 6 := h.lenC.1 63
  have lr : (gA r 18).length = 24 := h.lenR.1 18
  refine for_up (P := fun f k => ∀ h0, ∃ v, Drive_mixed_p2 N c f h0 (nI k) = (C_mixRow_4 N c v 4).bind (fun p2 => (C_mix N p2 ((gI c 22).toInt64)).bind fun p3 => some p3) ∧ R_mixLand_p29 N f (sL r 0 h0) (nI k) = R_mixLand_p95 N N (sL r 0 v) 0) (m := n) ?_ ?_ N 0 (by omega) (by omega) h0
  · intro f h0
    refine ⟨h0, ?_, ?_⟩
    · show Drive_mixed_p2b _ _ _ _ _ = _
      unfold Drive_mixed_p2b
      rw [e1, if_pos (nI_stop n)]
    · show R_mixLand_p29b _ _ _ _ = _
      unfold R_mixLand_p29b
      rw [gI_sL, e2, if_pos (nI_stop n)]
  · intro f k hk ih h0
    have da : ld (gA c 62) (nI k) = some ((gA c 62).getD k 0) := ld_nI (by omega) (by omega)
    have db : ld (gA c 63) (nI k) = some ((gA c 63).getD k 0) := ld_nI (by omega) (by omega)
    have lw : (gA c (56 + k)).length = 4 := (h.lenC.1 _).trans ((by decide : ∀ i, i < 6 → LAc (56 + i) = 4) k (by omega))
    have inner : ∀ (kb : St → Int32 → Option St), R_mixLand_p61 N kb N (sL r 0 (31 * (31 * h0 + ((gA c 62).getD k 0).toInt64) + ((gA c 63).getD k 0).toInt64)) (nI k) 0 = kb (sL r 0 (mf (fun j => ((gA c (56 + k)).getD j 0).toInt64) 4 (31 * (31 * h0 + ((gA c 62).getD k 0).toInt64) + ((gA c 63).getD k 0).toInt64))) (nI (k + 1)) := by
      intro kb
      refine for_up (P := fun f j => R_mixLand_p61 N kb f (sL r 0 (mf (fun j => ((gA c (56 + k)).getD j 0).toInt64) j (31 * (31 * h0 + ((gA c 62).getD k 0).toInt64) + ((gA c 63).getD k 0).toInt64))) (nI k) (nI j) = kb (sL r 0 (mf (fun j => ((gA c (56 + k)).getD j 0).toInt64) 4 (31 * (31 * h0 + ((gA c 62).getD k 0).toInt64) + ((gA c 63).getD k 0).toInt64))) (nI (k + 1))) (m := 4) ?_ ?_ N 0 (by omega) (by omega)
      · intro f
        show R_mixLand_p61b _ _ _ _ _ _ = _
        unfold R_mixLand_p61b
        rw [if_pos (show (4 : Int32) ≤ nI 4 from nI_stop 4), nI_1]
      · intro f j hj ih2
        have ei : (4 : Int32) * nI k + nI j = nI (4 * k + j) := by rw [show (4 : Int32) = nI 4 from rfl, pk_mul, nI_add]
        show R_mixLand_p61b _ _ _ _ _ _ = _
        unfold R_mixLand_p61b
        rw [if_neg (show ¬ (4 : Int32) ≤ nI j from nI_on (m := 4) hj (by omega)), gA_sL, ei, ld_nI (by omega) (by omega), q8 k j (by omega) (by omega), Option.bind_some, mixR, Option.bind_some, nI_1]
        exact ih2
    obtain ⟨v, b1, b2⟩ := ih (mf (fun j => ((gA c (56 + k)).getD j 0).toInt64) 4 (31 * (31 * h0 + ((gA c 62).getD k 0).toInt64) + ((gA c 63).getD k 0).toInt64))
    refine ⟨v, ?_, ?_⟩
    · rw [← b1]
      show Drive_mixed_p2b _ _ _ _ _ = _
      unfold Drive_mixed_p2b
      have er := mixRow_ok (N := N) (c := c) (j := 56 + k) (n := 4) (by omega) (by omega) (by omega) (31 * (31 * h0 + ((gA c 62).getD k 0).toInt64) + ((gA c 63).getD k 0).toInt64)
      rw [e1, if_neg (nI_on hk (by omega)), rwi_nI (show k < 6 by omega) (by omega)]
      simp only [da, db, mixC, Option.bind_some, nI_1]
      change (C_mixRow_3 N c (56 + k) _ (nI 4)).bind _ = _
      rw [er, Option.bind_some]
    · rw [← b2, ← inner (R_mixLand_p29 N f)]
      show R_mixLand_p29b _ _ _ _ = _
      unfold R_mixLand_p29b
      rw [gI_sL, e2, if_neg (nI_on hk (by omega))]
      simp only [gA_sL, ← q4, ← q5, da, db, mixR, Option.bind_some]
theorem d_farm (h : Rel c r) (hN : 2000 < N) (h0 : Int64) : ∃ v, Farms_mixed_p2 N c N h0 0 = some v ∧ R_mixLand_p202 N N (sL r 0 h0) 0 = some (sL r 0 v) := by
  obtain ⟨n, q1, e1, e2, q4, q5, q6, q7, q8, -⟩ := h.rFarm
  have la : (gA c 81).length = 8 := h.lenC.1 81
  have lb : (gA c 82).length = 8 := h.lenC.1 82
  have lr : (gA r 24).length = 64 := h.lenR.1 24
  refine for_up (P := fun f k => ∀ h0, ∃ v, Farms_mixed_p2 N c f h0 (nI k) = some v ∧ R_mixLand_p202 N f (sL r 0 h0) (nI k) = some (sL r 0 v)) (m := n) ?_ ?_ N 0 (by omega) (by omega) h0
  · intro f h0
    refine ⟨h0, ?_, ?_⟩
    · show Farms_mixed_p2b _ _ _ _ _ = _
      unfold Farms_mixed_p2b
      rw [e1, if_pos (nI_stop n)]
    · show R_mixLand_p202b _ _ _ _ = _
      unfold R_mixLand_p202b
      rw [gI_sL, e2, if_pos (nI_stop n)]
  · intro f k hk ih h0
    have da : ld (gA c 81) (nI k) = some ((gA c 81).getD k 0) := ld_nI (by omega) (by omega)
    have db : ld (gA c 82) (nI k) = some ((gA c 82).getD k 0) := ld_nI (by omega) (by omega)
    have lw : (gA c (73 + k)).length = 8 := (h.lenC.1 _).trans ((by decide : ∀ i, i < 8 → LAc (73 + i) = 8) k (by omega))
    have inner : ∀ (kb : St → Int32 → Option St), R_mixLand_p234 N kb N (sL r 0 (31 * (31 * h0 + ((gA c 81).getD k 0).toInt64) + ((gA c 82).getD k 0).toInt64)) (nI k) 0 = kb (sL r 0 (mf (fun j => ((gA c (73 + k)).getD j 0).toInt64) n (31 * (31 * h0 + ((gA c 81).getD k 0).toInt64) + ((gA c 82).getD k 0).toInt64))) (nI (k + 1)) := by
      intro kb
      refine for_up (P := fun f j => R_mixLand_p234 N kb f (sL r 0 (mf (fun j => ((gA c (73 + k)).getD j 0).toInt64) j (31 * (31 * h0 + ((gA c 81).getD k 0).toInt64) + ((gA c 82).getD k 0).toInt64))) (nI k) (nI j) = kb (sL r 0 (mf (fun j => ((gA c (73 + k)).getD j 0).toInt64) n (31 * (31 * h0 + ((gA c 81).getD k 0).toInt64) + ((gA c 82).getD k 0).toInt64))) (nI (k + 1))) (m := n) ?_ ?_ N 0 (by omega) (by omega)
      · intro f
        show R_mixLand_p234b _ _ _ _ _ _ = _
        unfold R_mixLand_p234b
        rw [gI_sL, e2, if_pos (nI_stop n), nI_1]
      · intro f j hj ih2
        have ei : (8 : Int32) * nI k + nI j = nI (8 * k + j) := by rw [show (8 : Int32) = nI 8 from rfl, pk_mul, nI_add]
        show R_mixLand_p234b _ _ _ _ _ _ = _
        unfold R_mixLand_p234b
        rw [gI_sL, e2, if_neg (nI_on hj (by omega)), gA_sL, ei, ld_nI (by omega) (by omega), q8 k j (by omega) (by omega), Option.bind_some, mixR, Option.bind_some, nI_1]
        exact ih2
    obtain ⟨v, b1, b2⟩ := ih (mf (fun j => ((gA c (73 + k)).getD j 0).toInt64) n (31 * (31 * h0 + ((gA c 81).getD k 0).toInt64) + ((gA c 82).getD k 0).toInt64))
    refine ⟨v, ?_, ?_⟩
    · rw [← b1]
      show Farms_mixed_p2b _ _ _ _ _ = _
      unfold Farms_mixed_p2b
      have er := mixRow_ok (N := N) (c := c) (j := 73 + k) (n := n) (by omega) (by omega) (by omega) (31 * (31 * h0 + ((gA c 81).getD k 0).toInt64) + ((gA c 82).getD k 0).toInt64)
      rw [e1, if_neg (nI_on hk (by omega)), rwi_nI (show k < 8 by omega) (by omega)]
      simp only [da, db, mixC, Option.bind_some, nI_1]
      skip
      rw [er, Option.bind_some]
    · rw [← b2, ← inner (R_mixLand_p202 N f)]
      show R_mixLand_p202b _ _ _ _ = _
      unfold R_mixLand_p202b
      rw [gI_sL, e2, if_neg (nI_on hk (by omega))]
      simp only [gA_sL, ← q4, ← q5, da, db, mixR, Option.bind_some]
theorem d_ch (h : Rel c r) (hN : 2000 < N) (h0 : Int64) : ∃ v, Choices_mixed_p2 N c N h0 0 = some v ∧ R_digest_p91 N N (sL r 0 h0) 0 = R_digest_p146 N N (sL r 0 v) 0 := by
  obtain ⟨n, q1, e1, e2, q4, q5, q8, -⟩ := h.rCh
  have la : (gA c 94).length = 8 := h.lenC.1 94
  have lr : (gA r 28).length = 40 := h.lenR.1 28
  refine for_up (P := fun f k => ∀ h0, ∃ v, Choices_mixed_p2 N c f h0 (nI k) = some v ∧ R_digest_p91 N f (sL r 0 h0) (nI k) = R_digest_p146 N N (sL r 0 v) 0) (m := n) ?_ ?_ N 0 (by omega) (by omega) h0
  · intro f h0
    refine ⟨h0, ?_, ?_⟩
    · show Choices_mixed_p2b _ _ _ _ _ = _
      unfold Choices_mixed_p2b
      rw [e1, if_pos (nI_stop n)]
    · show R_digest_p91b _ _ _ _ = _
      unfold R_digest_p91b
      rw [gI_sL, e2, if_pos (nI_stop n)]
  · intro f k hk ih h0
    have da : ld (gA c 94) (nI k) = some ((gA c 94).getD k 0) := ld_nI (by omega) (by omega)
    have lw : (gA c (86 + k)).length = 5 := (h.lenC.1 _).trans ((by decide : ∀ i, i < 8 → LAc (86 + i) = 5) k (by omega))
    have inner : ∀ (kb : St → Int32 → Option (Int64 × St)), R_digest_p112 N kb N (sL r 0 (31 * h0 + ((gA c 94).getD k 0).toInt64)) (nI k) 0 = kb (sL r 0 (mf (fun j => ((gA c (86 + k)).getD j 0).toInt64) 5 (31 * h0 + ((gA c 94).getD k 0).toInt64))) (nI (k + 1)) := by
      intro kb
      refine for_up (P := fun f j => R_digest_p112 N kb f (sL r 0 (mf (fun j => ((gA c (86 + k)).getD j 0).toInt64) j (31 * h0 + ((gA c 94).getD k 0).toInt64))) (nI k) (nI j) = kb (sL r 0 (mf (fun j => ((gA c (86 + k)).getD j 0).toInt64) 5 (31 * h0 + ((gA c 94).getD k 0).toInt64))) (nI (k + 1))) (m := 5) ?_ ?_ N 0 (by omega) (by omega)
      · intro f
        show R_digest_p112b _ _ _ _ _ _ = _
        unfold R_digest_p112b
        rw [if_pos (show (5 : Int32) ≤ nI 5 from nI_stop 5), nI_1]
      · intro f j hj ih2
        have ei : (5 : Int32) * nI k + nI j = nI (5 * k + j) := by rw [show (5 : Int32) = nI 5 from rfl, pk_mul, nI_add]
        show R_digest_p112b _ _ _ _ _ _ = _
        unfold R_digest_p112b
        rw [if_neg (show ¬ (5 : Int32) ≤ nI j from nI_on (m := 5) hj (by omega)), gA_sL, ei, ld_nI (by omega) (by omega), q8 k j (by omega) (by omega), Option.bind_some, mixR, Option.bind_some, nI_1]
        exact ih2
    obtain ⟨v, b1, b2⟩ := ih (mf (fun j => ((gA c (86 + k)).getD j 0).toInt64) 5 (31 * h0 + ((gA c 94).getD k 0).toInt64))
    refine ⟨v, ?_, ?_⟩
    · rw [← b1]
      show Choices_mixed_p2b _ _ _ _ _ = _
      unfold Choices_mixed_p2b
      have er := mixRow_ok (N := N) (c := c) (j := 86 + k) (n := 5) (by omega) (by omega) (by omega) (31 * h0 + ((gA c 94).getD k 0).toInt64)
      rw [e1, if_neg (nI_on hk (by omega)), rwi_nI (show k < 8 by omega) (by omega)]
      simp only [da, mixC, Option.bind_some, nI_1]
      change (C_mixRow_3 N c (86 + k) _ (nI 5)).bind _ = _
      rw [er, Option.bind_some]
    · rw [← b2, ← inner (R_digest_p91 N f)]
      show R_digest_p91b _ _ _ _ = _
      unfold R_digest_p91b
      rw [gI_sL, e2, if_neg (nI_on hk (by omega))]
      simp only [gA_sL, ← q4, da, mixR, Option.bind_some]
theorem d_cnt (h : Rel c r) (hN : 2000 < N) (h0 : Int64) : ∃ v, C_digest_p124 N N c h0 0 = some (v, c) ∧ R_digest_p173 N N (sL r 0 h0) 0 = some (v, sL r 0 v) := by
  refine for_up (P := fun f k => ∀ h0, ∃ v, C_digest_p124 N f c h0 (nI k) = some (v, c) ∧ R_digest_p173 N f (sL r 0 h0) (nI k) = some (v, sL r 0 v)) (m := 13) ?_ ?_ N 0 (by omega) (by omega) h0
  · intro f h0
    refine ⟨h0, ?_, ?_⟩
    · show C_digest_p124b _ _ _ _ _ = _
      unfold C_digest_p124b
      rw [if_pos (by decide)]
    · show R_digest_p173b _ _ _ _ = _
      unfold R_digest_p173b
      rw [if_pos (by decide)]
      rfl
  · intro f k hk ih h0
    obtain ⟨v, a1, a2⟩ := many_same (N := N) (c := c) (r := sL r 0 h0) (w := k) h hk
    have n12 : ¬ (12 : Int32) < nI k := fun z => by
      have := (nI_ltI (a := 12) (by omega) (by omega)).mp z
      omega
    show ∃ v, C_digest_p124b _ _ _ _ _ = _ ∧ R_digest_p173b _ _ _ _ = _
    unfold C_digest_p124b R_digest_p173b
    rw [if_neg n12, if_neg (show ¬ (13 : Int32) ≤ nI k from nI_on (m := 13) hk (by omega)), a1, a2]
    simp only [mixR, mixC, Option.bind_some, nI_1]
    exact ih _
theorem S_digest (h : Rel c r) (hN : 2000 < N) : Sim (C_digest N c) (R_digest N r) := by
  obtain ⟨v1, a1, b1⟩ := d_cells (N := N) h hN 257
  obtain ⟨g1, g2, g3, g4, -⟩ := h.rEng
  have l2 : (gA c 2).length = 3 := h.lenC.1 2
  have m3 := mixRow_ok (N := N) (c := c) (j := 2) (n := 3) (by omega) (by omega) (by omega) v1
  have e3 : mf (fun k => ((gA c 2).getD k 0).toInt64) 3 v1 = 31 * (31 * (31 * v1 + (gI r 0).toInt64) + (gI r 1).toInt64) + (gI r 2).toInt64 := by rw [g1]; rfl
  obtain ⟨v2, a2, b2⟩ := d_seas (N := N) h hN (31 * (31 * (31 * v1 + (gI r 0).toInt64) + (gI r 1).toInt64) + (gI r 2).toInt64)
  obtain ⟨v3, a3, b3⟩ := d_lots (N := N) h hN v2
  obtain ⟨v4, c1, r1, a4, b4, d4, h1⟩ := d_sums (N := N) (c := c) (r := sL r 0 v3) h hN
  obtain ⟨w1, w2, w3, w4, w5⟩ := h1.rRead
  obtain ⟨v5, a5, b5⟩ := d_read (N := N) h1 hN (31 * v4 + (gI r1 11).toInt64)
  obtain ⟨v6, a6, b6⟩ := d_arr (N := N) h1 hN v5
  obtain ⟨v7, a7, b7⟩ := d_drv (N := N) h1 hN v6
  obtain ⟨v8, a8, b8⟩ := d_takes (N := N) h1 hN v7
  obtain ⟨y1, y2, y3, y4, y5, y6, y7, y8, y9, y10, y11, y12, y13, -⟩ := h1.rDrv
  obtain ⟨z1, z2, z3, z4, z5, z6, z7, z8, z9, -⟩ := h1.rMkt
  have l68 : (gA c1 68).length = 4 := h1.lenC.1 68
  have m4 := mixRow_ok (N := N) (c := c1) (j := 68) (n := 4) (by omega) (by omega) (by omega) (31 * v8 + (gI c1 22).toInt64)
  have e4 : mf (fun k => ((gA c1 68).getD k 0).toInt64) 4 (31 * v8 + (gI c1 22).toInt64) = 31 * (31 * (31 * (31 * (31 * v8 + (gI r1 14).toInt64) + (gI r1 15).toInt64) + (gI r1 16).toInt64) + (gI r1 17).toInt64) + (gI r1 18).toInt64 := by rw [z9, y13]; rfl
  obtain ⟨v9, a9, b9⟩ := d_mkt (N := N) h1 hN (31 * (31 * (31 * (31 * (31 * v8 + (gI r1 14).toInt64) + (gI r1 15).toInt64) + (gI r1 16).toInt64) + (gI r1 17).toInt64) + (gI r1 18).toInt64)
  obtain ⟨v10, a10, b10⟩ := d_farm (N := N) h1 hN v9
  obtain ⟨v11, a11, b11⟩ := d_ring (N := N) h1 hN v10
  obtain ⟨o1, o2, o3, o4, o5, o6, o7, o8, o9, -⟩ := h1.rRing
  have l83 : (gA c1 83).length = 4 := h1.lenC.1 83
  have m5 := mixRow_ok (N := N) (c := c1) (j := 83) (n := 4) (by omega) (by omega) (by omega) v11
  have e5 : mf (fun k => ((gA c1 83).getD k 0).toInt64) 4 v11 = 31 * (31 * (31 * (31 * v11 + (gI r1 22).toInt64) + (gI r1 23).toInt64) + (gI r1 24).toInt64) + (gI r1 25).toInt64 := by rw [o9]; rfl
  obtain ⟨v12, a12, b12⟩ := d_ch (N := N) h1 hN (31 * (31 * (31 * (31 * v11 + (gI r1 22).toInt64) + (gI r1 23).toInt64) + (gI r1 24).toInt64) + (gI r1 25).toInt64)
  obtain ⟨v13, a13, b13⟩ := d_page (N := N) h1 hN v12
  obtain ⟨v14, a14, b14⟩ := d_cnt (N := N) h1 hN v13
  have hC : C_digest N c = some (v14, c1) := by
    unfold C_digest Hold_mixed Readings_mixed Drive_mixed Market_mixed Farms_mixed Ring_mixed Choices_mixed
    rw [a1, row_5]
    have m3' : C_mixRow_3 N c 2 v1 3 = _ := m3
    rw [m3', Option.bind_some, e3, a2, Option.bind_some, a3, Option.bind_some]
    have a4' : C_mixSums N c v3 = some (v4, c1) := a4
    rw [a4', Option.bind_some]
    dsimp only
    rw [mixC, Option.bind_some, w5.1, a5, Option.bind_some, a6, Option.bind_some, a7, a8, Option.bind_some, mixC, Option.bind_some, Option.bind_some, row_6]
    have m4' : C_mixRow_3 N c1 68 (31 * v8 + (gI c1 22).toInt64) 4 = _ := m4
    rw [m4', Option.bind_some, e4, a9, Option.bind_some, a10, Option.bind_some, a11, row_7]
    have m5' : C_mixRow_3 N c1 83 v11 4 = _ := m5
    rw [m5', Option.bind_some, Option.bind_some, e5, a12, Option.bind_some, a13, Option.bind_some, a14]
  have hR : R_digest N r = some (v14, sL r1 0 v14) := by
    unfold R_digest R_mixHold
    rw [b1, b2, b3, b4, b5, Option.bind_some, b6, b7, b8, b9, b10, Option.bind_some, b11, b12, b13, b14]
  exact ⟨v14, c1, sL r1 0 v14, hC, hR, h1⟩
end DG
