/-! PURE: letters -/
def txI (j : Nat) : Bool := scI j || Nat.beq j 6 || Nat.beq j 7
def txA (j : Nat) : Bool := scA j || (Nat.ble 34 j && Nat.ble j 48)
def trI (j : Nat) : Bool := srI j || Nat.beq j 8 || Nat.beq j 9
def trA (j : Nat) : Bool := srA j || (Nat.ble 10 j && Nat.ble j 12)
theorem Rel.text {c r c1 r1 : St} (h : Rel c r) (hc : Fm txI txA c c1) (hr : Fm trI trA r r1) (ht : RText c1 r1) : Rel c1 r1 := ⟨LenC_fr h.lenC hc, LenR_fr h.lenR hr, h.rHold.frg hc hr (by decide), h.rNow.frg hc hr (by decide), h.rCell.frg hc hr (by decide), h.rEng.frg hc hr (by decide), h.rLots.frg hc hr (by decide), ht, h.rRead.frg hc hr (by decide), h.rStk.frg hc hr (by decide), h.rDrv.frg hc hr (by decide), h.rMkt.frg hc hr (by decide), h.rFarm.frg hc hr (by decide), h.rRing.frg hc hr (by decide), h.rCh.frg hc hr (by decide)⟩
theorem mks_le {l : List Nat} {u : Nat → Bool} (h : ∀ k, k ∈ l → u k = true) : ∀ j, u j = false → mks l j = false := by
  intro j hj
  unfold mks
  rw [List.any_eq_false]
  intro k hk q
  have e : j = k := Nat.eq_of_beq_eq_true q
  subst e
  rw [h j hk] at hj
  cases hj
theorem sh_u : ∀ k, k < 8 → (((8 * nI k).toInt64.toUInt64 &&& Int64.toUInt64 63).toBitVec % 64).toNat = 8 * k := by decide +kernel
theorem sh_s : ∀ k, k < 8 → (((8 * nI k).toInt64 &&& 63).toBitVec.smod 64).toNat = 8 * k := by decide +kernel
def byv (w : Int64) (k : Nat) : BitVec 8 := (w.toBitVec >>> (8 * k)).setWidth 8
def byt (w : Int64) (k : Nat) : Nat := (byv w k).toNat
theorem byt_lt (w : Int64) (k : Nat) : byt w k < 256 := (byv w k).isLt
theorem sx_ (x : BitVec 64) {k : Nat} (hk : k < 8) : (x.sshiftRight (8 * k)).setWidth 8 = (x >>> (8 * k)).setWidth 8 := by
  apply BitVec.eq_of_getLsbD_eq
  intro i hi
  rw [BitVec.getLsbD_setWidth, BitVec.getLsbD_setWidth, BitVec.getLsbD_sshiftRight, BitVec.getLsbD_ushiftRight, if_pos (by omega), decide_eq_false (show ¬ 64 ≤ i by omega)]
  simp
theorem code_ok (N : Nat) (w : Int64) {k : Nat} (hk : k < 8) : Texts_code N w (nI k) = some (nI (byt w k)) := by
  unfold Texts_code
  refine congrArg some (Int32.toBitVec_inj.mp ?_)
  rw [Int32.toBitVec_and, Int64.toBitVec_toInt32, UInt64.toBitVec_toInt64, UInt64.toBitVec_shiftRight, BitVec.ushiftRight_eq', sh_u k hk, BitVec.signExtend_eq_setWidth_of_le _ (by omega)]
  apply BitVec.eq_of_toNat_eq
  have e : (w.toBitVec >>> (8 * k)).toNat % 2 ^ 8 = byt w k := by
    unfold byt byv
    rw [BitVec.toNat_setWidth]
  rw [BitVec.toNat_and, BitVec.toNat_setWidth]
  show ((w.toBitVec >>> (8 * k)).toNat % 2 ^ 32) &&& (2 ^ 8 - 1) = byt w k % 2 ^ 32
  rw [Nat.and_two_pow_sub_one_eq_mod, Nat.mod_mod_of_dvd _ (by decide), e, Nat.mod_eq_of_lt (Nat.lt_trans (byt_lt w k) (by decide))]
theorem codeR_ok (w : Int64) {k : Nat} (hk : k < 8) : ((w >>> ((8 * nI k).toInt64 &&& 63)) &&& 255).toInt32 = nI (byt w k) := by
  apply Int32.toBitVec_inj.mp
  rw [Int64.toBitVec_toInt32, Int64.toBitVec_and, Int64.toBitVec_shiftRight, BitVec.sshiftRight_eq', sh_s k hk, BitVec.signExtend_eq_setWidth_of_le _ (by omega)]
  apply BitVec.eq_of_toNat_eq
  have e : (w.toBitVec.sshiftRight (8 * k)).toNat % 2 ^ 8 = byt w k := by
    have := congrArg BitVec.toNat (sx_ w.toBitVec hk)
    rw [BitVec.toNat_setWidth] at this
    exact this
  rw [BitVec.toNat_setWidth, BitVec.toNat_and]
  show ((w.toBitVec.sshiftRight (8 * k)).toNat &&& (2 ^ 8 - 1)) % 2 ^ 32 = byt w k % 2 ^ 32
  rw [Nat.and_two_pow_sub_one_eq_mod, e]
theorem byte_tab : ∀ n, n < 127 → (Int8.ofBitVec (BitVec.ofNat 8 n)).toInt32 = nI n := by decide +kernel
theorem byteR_ok (w : Int64) {k : Nat} (hk : k < 8) (hb : byt w k ≤ 126) : ((w >>> ((8 * nI k).toInt64 &&& 63)).toInt32.toInt8.toInt32).toInt8.toInt32 = nI (byt w k) := by
  rw [Int8.toInt8_toInt32, Int64.toInt8_toInt32]
  have e : (w >>> ((8 * nI k).toInt64 &&& 63)).toInt8 = Int8.ofBitVec (BitVec.ofNat 8 (byt w k)) := by
    apply Int8.toBitVec_inj.mp
    rw [Int64.toBitVec_toInt8, Int64.toBitVec_shiftRight, BitVec.sshiftRight_eq', sh_s k hk, BitVec.signExtend_eq_setWidth_of_le _ (by omega), sx_ _ hk]
    show byv w k = BitVec.ofNat 8 (byt w k)
    exact ((BitVec.ofNat_toNat 8 (byv w k)).trans (BitVec.setWidth_eq _)).symm
  rw [e]
  exact byte_tab _ (by omega)
/-- how many letters w tells, and whether a 0 came -/
def lst (w : Int64) : Nat → Option (Nat × Bool)
  | 0 => some (0, false)
  | k + 1 => (lst w k).bind fun q => if 126 < byt w k ∨ (q.2 = true ∧ ¬ byt w k = 0) then none else some (if byt w k = 0 then (q.1, true) else (q.1 + 1, q.2))
theorem lst_none {w : Int64} {k : Nat} (h : lst w k = none) : ∀ j, lst w (k + j) = none := by
  intro j
  induction j with
  | zero => exact h
  | succ j ih => show (lst w (k + j)).bind _ = none; rw [ih]; rfl
theorem lst_ok {w : Int64} : ∀ k q, lst w k = some q → q.1 ≤ k ∧ ∀ j, j < k → byt w j ≤ 126 := by
  intro k
  induction k with
  | zero => intro q h; cases h; exact ⟨Nat.le_refl _, fun j hj => absurd hj (Nat.not_lt_zero j)⟩
  | succ k ih =>
    intro q h
    change (lst w k).bind _ = _ at h
    cases e : lst w k with
    | none => rw [e] at h; cases h
    | some p =>
      obtain ⟨h1, h2⟩ := ih p e
      rw [e, Option.bind_some] at h
      split at h
      · cases h
      · rename_i g
        cases h
        refine ⟨?_, fun j hj => ?_⟩
        · split
          · exact Nat.le_succ_of_le h1
          · exact Nat.succ_le_succ h1
        · by_cases q : j = k
          · subst q; exact Nat.not_lt.mp (fun z => g (Or.inl z))
          · exact h2 j (by omega)
section LE
variable {N n : Nat} {c r : St}
def lres (o : Option (Nat × Bool)) : Int32 := match o with | none => -1 | some q => nI q.1
theorem b_126 (w : Int64) (k : Nat) : ((126 : Int32) < nI (byt w k)) = (126 < byt w k) := propext (nI_ltI (a := 126) (by omega) (by have := byt_lt w k; omega))
theorem b_0 (w : Int64) (k : Nat) : (nI (byt w k) = (0 : Int32)) = (byt w k = 0) := propext (nI_eq (b := 0) (by have := byt_lt w k; omega) (by omega))
theorem on8 {k : Nat} (hk : k < 8) : ¬ (8 : Int32) ≤ nI k := nI_on (m := 8) hk (by omega)
theorem lst_step {w : Int64} {k m : Nat} {e : Bool} (h : lst w k = some (m, e)) : lst w (k + 1) = if 126 < byt w k ∨ (e = true ∧ ¬ byt w k = 0) then none else some (if byt w k = 0 then (m, true) else (m + 1, e)) := by
  show (lst w k).bind _ = _
  rw [h]
  rfl
theorem lst_stop {w : Int64} {k : Nat} (hk : k < 8) (h : lst w (k + 1) = none) : lst w 8 = none := by
  have := lst_none h (7 - k)
  rw [show k + 1 + (7 - k) = 8 by omega] at this
  exact this
theorem lettersIn_ok (hN : 100 < N) (w : Int64) : Texts_lettersIn N w = some (lres (lst w 8)) := by
  unfold Texts_lettersIn
  have main : ∀ f k, k ≤ 8 → 8 - k < f → ∀ m e, lst w k = some (m, e) → Texts_lettersIn_p7 N f w (nI m) (if e = true then 1 else 0) (nI k) = some (lres (lst w 8)) := by
    refine for_up (P := fun f k => ∀ m e, lst w k = some (m, e) → Texts_lettersIn_p7 N f w (nI m) (if e = true then 1 else 0) (nI k) = some (lres (lst w 8))) ?_ ?_
    · intro f m e h
      show Texts_lettersIn_p7b _ _ _ _ _ _ = _
      unfold Texts_lettersIn_p7b
      rw [if_pos (show (8 : Int32) ≤ nI 8 from nI_stop 8), h]
      rfl
    · intro f k hk ih m e h
      have hs := lst_step h
      show Texts_lettersIn_p7b _ _ _ _ _ _ = _
      unfold Texts_lettersIn_p7b Texts_lettersIn_p40 Texts_lettersIn_p53 Texts_lettersIn_p38
      rw [if_neg (on8 hk), code_ok N w hk, Option.bind_some]
      simp only [b_126, b_0, nI_1]
      by_cases q1 : 126 < byt w k
      · rw [if_pos q1, lst_stop hk (by rw [hs, if_pos (Or.inl q1)])]
        rfl
      · rw [if_neg q1]
        by_cases q2 : byt w k = 0
        · have := ih m true (by rw [hs, if_neg (by rintro (a | a); exact q1 a; exact a.2 q2), if_pos q2])
          rw [if_pos rfl] at this
          simp only [if_pos q2, if_neg (fun a : ¬ byt w k = 0 => a q2)]
          cases e with
          | false => exact this
          | true => exact this
        · cases e with
          | false =>
            have := ih (m + 1) false (by rw [hs, if_neg (by rintro (a | a); exact q1 a; exact absurd a.1 (by decide)), if_neg q2])
            rw [if_neg (by decide)] at this
            rw [if_neg (show ¬ false = true by decide), if_pos rfl, if_pos q2]
            exact this
          | true =>
            rw [if_pos rfl, if_neg (by decide), if_neg q2, lst_stop hk (by rw [hs, if_pos (Or.inr ⟨rfl, q2⟩)])]
            rfl
  exact main N 0 (by omega) (by omega) 0 false rfl
theorem lettersR_ok (hN : 100 < N) (w : Int64) : R_letters N r w = match lst w 8 with | none => some (-102, r) | some q => if gI r 8 + nI q.1 ≤ 60 then R_letters_p102 N N r w (nI q.1) 0 else some (-104, r) := by
  unfold R_letters
  have main : ∀ f k, k ≤ 8 → 8 - k < f → ∀ m e, lst w k = some (m, e) → R_letters_p8 N f r w (nI m) (if e = true then 1 else 0) (nI k) = match lst w 8 with | none => some (-102, r) | some q => if gI r 8 + nI q.1 ≤ 60 then R_letters_p102 N N r w (nI q.1) 0 else some (-104, r) := by
    refine for_up (P := fun f k => ∀ m e, lst w k = some (m, e) → R_letters_p8 N f r w (nI m) (if e = true then 1 else 0) (nI k) = match lst w 8 with | none => some (-102, r) | some q => if gI r 8 + nI q.1 ≤ 60 then R_letters_p102 N N r w (nI q.1) 0 else some (-104, r)) ?_ ?_
    · intro f m e h
      show R_letters_p8b _ _ _ _ _ _ _ = _
      unfold R_letters_p8b
      rw [if_pos (show (8 : Int32) ≤ nI 8 from nI_stop 8), h]
    · intro f k hk ih m e h
      have hs := lst_step h
      show R_letters_p8b _ _ _ _ _ _ _ = _
      unfold R_letters_p8b R_letters_p49 R_letters_p59 R_letters_p64 R_letters_p77 R_letters_p46
      rw [if_neg (on8 hk), codeR_ok w hk]
      simp only [b_126, b_0, nI_1]
      by_cases q1 : 126 < byt w k
      · rw [if_pos q1, lst_stop hk (by rw [hs, if_pos (Or.inl q1)])]
      · rw [if_neg q1]
        by_cases q2 : byt w k = 0
        · have := ih m true (by rw [hs, if_neg (by rintro (a | a); exact q1 a; exact a.2 q2), if_pos q2])
          rw [if_pos rfl] at this
          simp only [if_pos q2, if_neg (fun a : ¬ byt w k = 0 => a q2), Int32.add_zero]
          cases e with
          | false => exact this
          | true => exact this
        · cases e with
          | false =>
            have := ih (m + 1) false (by rw [hs, if_neg (by rintro (a | a); exact q1 a; exact absurd a.1 (by decide)), if_neg q2])
            simp only [if_neg q2, if_pos q2, nI_1]
            exact this
          | true =>
            rw [if_pos rfl, if_neg (by decide), if_neg q2, lst_stop hk (by rw [hs, if_pos (Or.inr ⟨rfl, q2⟩)])]
  exact main N 0 (by omega) (by omega) 0 false rfl
theorem append_ok {m : Nat} (hN : 100 < N) (w : Int64) (e6 : gI c 6 = nI n) (hnm : n + m ≤ 60) (hm : m ≤ 8) (l34 : (gA c 34).length = 60) : ∃ c1, Texts_append_p17 N N c w (nI m) 0 = some (nI (n + m), c1) ∧ Fm (mks [6]) (mks [34]) c c1 ∧ gI c1 6 = nI (n + m) ∧ ∀ i, (gA c1 34).getD i 0 = if n ≤ i ∧ i < n + m then nI (byt w (i - n)) else (gA c 34).getD i 0 := by
  refine for_up (P := fun f k => ∀ c2, Fm (mks [6]) (mks [34]) c c2 → gI c2 6 = nI (n + k) → (∀ i, (gA c2 34).getD i 0 = if n ≤ i ∧ i < n + k then nI (byt w (i - n)) else (gA c 34).getD i 0) → ∃ c1, Texts_append_p17 N f c2 w (nI m) (nI k) = some (nI (n + m), c1) ∧ Fm (mks [6]) (mks [34]) c c1 ∧ gI c1 6 = nI (n + m) ∧ ∀ i, (gA c1 34).getD i 0 = if n ≤ i ∧ i < n + m then nI (byt w (i - n)) else (gA c 34).getD i 0) (m := m) ?_ ?_ N 0 (by omega) (by omega) c (Fm.refl _ _ c) e6 (fun i => by rw [if_neg (by omega)])
  · intro f c2 fc g6 g34
    refine ⟨c2, ?_, fc, g6, g34⟩
    show Texts_append_p17b _ _ _ _ _ _ = _
    unfold Texts_append_p17b
    rw [if_pos (nI_stop m), g6]
  · intro f k hk ih c2 fc g6 g34
    have l2 : (gA c2 34).length = 60 := (fc.len 34).trans l34
    show ∃ c1, Texts_append_p17b _ _ _ _ _ _ = _ ∧ _
    unfold Texts_append_p17b
    rw [if_neg (nI_on hk (by omega)), code_ok N w (by omega), Option.bind_some, g6, sto_nI (by omega) (by omega), Option.bind_some, gI_sA, g6, nI_1, nI_1]
    refine ih _ ((fc.sA rfl List.length_set).sI rfl) rfl (fun i => ?_)
    rw [gA_sI, gA_sA_same, getD_set (by omega), g34 i]
    by_cases q : i = n + k
    · subst q
      rw [if_pos rfl, if_pos (by omega), show n + k - n = k by omega]
    · rw [if_neg q]
      by_cases q2 : n ≤ i ∧ i < n + k
      · rw [if_pos q2, if_pos (by omega)]
      · rw [if_neg q2, if_neg (by omega)]
theorem appendR_ok {m : Nat} (hN : 100 < N) (w : Int64) (hw : ∀ j, j < 8 → byt w j ≤ 126) (e8 : gI r 8 = nI n) (hnm : n + m ≤ 60) (hm : m ≤ 8) (l10 : (gA r 10).length = 60) : ∃ r1, R_letters_p102 N N r w (nI m) 0 = some (nI (n + m), r1) ∧ Fm (mks [8]) (mks [10]) r r1 ∧ gI r1 8 = nI (n + m) ∧ ∀ i, (gA r1 10).getD i 0 = if n ≤ i ∧ i < n + m then nI (byt w (i - n)) else (gA r 10).getD i 0 := by
  refine for_up (P := fun f k => ∀ r2, Fm (mks [8]) (mks [10]) r r2 → gI r2 8 = nI n → (∀ i, (gA r2 10).getD i 0 = if n ≤ i ∧ i < n + k then nI (byt w (i - n)) else (gA r 10).getD i 0) → ∃ r1, R_letters_p102 N f r2 w (nI m) (nI k) = some (nI (n + m), r1) ∧ Fm (mks [8]) (mks [10]) r r1 ∧ gI r1 8 = nI (n + m) ∧ ∀ i, (gA r1 10).getD i 0 = if n ≤ i ∧ i < n + m then nI (byt w (i - n)) else (gA r 10).getD i 0) (m := m) ?_ ?_ N 0 (by omega) (by omega) r (Fm.refl _ _ r) e8 (fun i => by rw [if_neg (by omega)])
  · intro f r2 fr g8 g10
    refine ⟨sI r2 8 (nI (n + m)), ?_, fr.sI rfl, rfl, g10⟩
    show R_letters_p102b _ _ _ _ _ _ = _
    unfold R_letters_p102b
    rw [if_pos (nI_stop m), g8, nI_add]
    rfl
  · intro f k hk ih r2 fr g8 g10
    have l2 : (gA r2 10).length = 60 := (fr.len 10).trans l10
    show ∃ r1, R_letters_p102b _ _ _ _ _ _ = _ ∧ _
    unfold R_letters_p102b
    rw [if_neg (nI_on hk (by omega)), byteR_ok w (by omega) (hw k (by omega)), g8, nI_add, sto_nI (by omega) (by omega), Option.bind_some, nI_1]
    refine ih _ (fr.sA rfl List.length_set) g8 (fun i => ?_)
    rw [gA_sA_same, getD_set (by omega), g10 i]
    by_cases q : i = n + k
    · subst q
      rw [if_pos rfl, if_pos (by omega), show n + k - n = k by omega]
    · rw [if_neg q]
      by_cases q2 : n ≤ i ∧ i < n + k
      · rw [if_pos q2, if_pos (by omega)]
      · rw [if_neg q2, if_neg (by omega)]
theorem S_letters (h : Rel c r) (hN : 100 < N) (x1 : Int64) : Sim (C_letters N c x1) (R_letters N r x1) := by
  obtain ⟨n, m, q1, q2, q3, q4, q5, q6, q7, q8, q9, q10, q11⟩ := h.rText
  have l34 : (gA c 34).length = 60 := h.lenC.1 34
  have l10 : (gA r 10).length = 60 := h.lenR.1 10
  unfold C_letters
  cases e : lst x1 8 with
  | none =>
    have e1 : Texts_lettersIn N x1 = some (-1) := by rw [lettersIn_ok hN, e]; rfl
    have e2 : R_letters N r x1 = some (-102, r) := by rw [lettersR_ok hN, e]
    rw [e1, e2, Option.bind_some, if_neg (by decide)]
    exact Sim.ret h
  | some q =>
    obtain ⟨b1, b2⟩ := lst_ok 8 q e
    have e1 : Texts_lettersIn N x1 = some (nI q.1) := by rw [lettersIn_ok hN, e]; rfl
    have e2 : R_letters N r x1 = if gI r 8 + nI q.1 ≤ 60 then R_letters_p102 N N r x1 (nI q.1) 0 else some (-104, r) := by rw [lettersR_ok hN, e]
    rw [e1, e2, Option.bind_some, if_pos (nI_pos' (by omega)), bind_eta]
    unfold Texts_append
    rw [q3, q4, nI_add]
    have hle : (nI (n + q.1) ≤ (60 : Int32)) = (n + q.1 ≤ 60) := propext (nI_leI (b := 60) (by omega) (by omega))
    simp only [hle]
    by_cases g : n + q.1 ≤ 60
    · rw [if_pos g, if_pos g]
      obtain ⟨c1, a1, a2, a3, a4⟩ := append_ok (N := N) hN x1 q3 g b1 l34
      obtain ⟨r1, d1, d2, d3, d4⟩ := appendR_ok (N := N) hN x1 b2 q4 g b1 l10
      rw [a1, d1]
      refine ⟨_, c1, r1, rfl, rfl, h.text (a2.mono (mks_le (by decide)) (mks_le (by decide))) (d2.mono (mks_le (by decide)) (mks_le (by decide))) ?_⟩
      have hf : ∀ i, i < 12 → gA c1 (35 + i) = gA c (35 + i) := fun i hi => a2.2.1 _ (by
        unfold mks
        rw [List.any_eq_false]
        intro k hk z
        have := Nat.eq_of_beq_eq_true z
        simp only [List.mem_singleton] at hk
        omega)
      refine ⟨n + q.1, m, g, q2, a3, d3, (a2.1 7 rfl).trans q5, (d2.1 9 rfl).trans q6, ?_, ?_, ?_, ?_, ?_⟩
      · refine list_ext (by rw [a2.len 34, d2.len 10, l34, l10]) (fun i _ => ?_)
        rw [a4 i, d4 i, q7]
      · intro i hi
        rw [a4 i]
        split
        · have := b2 (i - n) (by omega)
          rw [nI_toInt (by omega)]
          omega
        · exact q8 i hi
      · rw [d2.2.1 11 rfl]
        exact flat_eq q9 hf
      · rw [a2.2.1 47 rfl, d2.2.1 12 rfl]
        exact q10
      · rw [a2.2.1 47 rfl, a2.2.1 48 rfl]
        exact RTw_eq q2 q11 hf
    · rw [if_neg g, if_neg g]
      exact Sim.ret h
end LE
