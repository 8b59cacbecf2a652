/-! PURE: the market -/
section MK
variable {N n : Nat} {c r : St}
def shv (l : List Int32) (w W : Nat) : Int32 := if W ≤ w then l.getD (w - W) 0 else 0
def prv (l : List Int32) (bs : Int32) (w L : Nat) : Int32 := if L ≤ w then l.getD (w - L) 0 else bs
theorem sub_le0 {a b : Nat} (ha : a < 2 ^ 30) (hb : b < 2 ^ 30) : ((0 : Int32) ≤ nI a - nI b) = (b ≤ a) := by
  refine propext ?_
  rw [Int32.le_iff_toInt_le, pk_sub_toInt ha hb, show (0 : Int32).toInt = 0 from rfl]
  omega
/-- what the calls on the market rest on -/
def Mk (n L W : Nat) (c r : St) : Prop := n ≤ 5 ∧ gI c 24 = nI n ∧ gI r 19 = nI n ∧ gA c 69 = gA r 20 ∧ gA c 70 = gA r 21 ∧ gA c 68 = [gI r 15, gI r 16, nI L, nI W] ∧ gI r 17 = nI L ∧ gI r 18 = nI W ∧ L ≤ 6 ∧ 1 ≤ W ∧ W ≤ 6 ∧ LenC c ∧ LenR r
theorem Rel.mk (h : Rel c r) : ∃ n L W, Mk n L W c r := by
  obtain ⟨n, q1, q2, q3, q4, q5, q6, q7, eq, b0, b1, b2, b3⟩ := h.rMkt
  obtain ⟨e1, f1⟩ := nat_of (x := gI r 17) b2.1
  obtain ⟨e2, f2⟩ := nat_of (x := gI r 18) (by omega)
  refine ⟨n, (gI r 17).toNatClampNeg, (gI r 18).toNatClampNeg, q1, q2, q3, q4, q5, ?_, e1, e2, by omega, by omega, by omega, h.lenC, h.lenR⟩
  rw [← e1, ← e2]
  exact eq
theorem Mk.fr {L W : Nat} {c1 r1 : St} (h : Mk n L W c r) (hc : Fm scI scA c c1) (hr : Fm srI srA r r1) : Mk n L W c1 r1 := by
  obtain ⟨a1, a2, a3, a4, a5, a6, a7, a8, a9, a10, a11, a12, a13⟩ := h
  refine ⟨a1, (hc.1 24 rfl).trans a2, (hr.1 19 rfl).trans a3, ?_, ?_, ?_, (hr.1 17 rfl).trans a7, (hr.1 18 rfl).trans a8, a9, a10, a11, LenC_fr a12 hc, LenR_fr a13 hr⟩
  · rw [hc.2.1 69 rfl, hr.2.1 20 rfl]; exact a4
  · rw [hc.2.1 70 rfl, hr.2.1 21 rfl]; exact a5
  · rw [hc.2.1 68 rfl, hr.1 15 rfl, hr.1 16 rfl]; exact a6
theorem C_shipped_ok (hl : (gA c 72).length = 200) {w W : Nat} (hw : w < 200) (hW : W < 1000) : Market_shippedIn N c (nI w - nI W) = some (shv (gA c 72) w W) := by
  unfold Market_shippedIn shv
  simp only [sub_le0 (show w < 2 ^ 30 by omega) (show W < 2 ^ 30 by omega)]
  by_cases g : W ≤ w
  · rw [if_pos g, if_pos g, pk_sub g, ld_nI (by omega) (by omega)]; rfl
  · rw [if_neg g, if_neg g]
theorem R_shipped_ok (hl : (gA r 39).length = 200) {w W : Nat} (hw : w < 200) (hW : W < 1000) : R_shippedAt N r (nI w - nI W) = some (shv (gA r 39) w W) := by
  unfold R_shippedAt shv
  simp only [sub_le0 (show w < 2 ^ 30 by omega) (show W < 2 ^ 30 by omega)]
  by_cases g : W ≤ w
  · rw [if_pos g, if_pos g, pk_sub g, ld_nI (by omega) (by omega)]; rfl
  · rw [if_neg g, if_neg g]
theorem C_price_ok (hl : (gA c 71).length = 200) {a b d e : Int32} (h68 : gA c 68 = [a, b, d, e]) {w L : Nat} (hw : w < 200) (hL : L < 1000) : Market_priceIn N c (nI w - nI L) = some (prv (gA c 71) a w L) := by
  unfold Market_priceIn prv
  simp only [sub_le0 (show w < 2 ^ 30 by omega) (show L < 2 ^ 30 by omega), h68, ld_c0]
  by_cases g : L ≤ w
  · rw [if_pos g, if_pos g, pk_sub g, ld_nI (by omega) (by omega)]; rfl
  · rw [if_neg g, if_neg g]; rfl
theorem R_price_ok (hl : (gA r 38).length = 200) {w L : Nat} (hw : w < 200) (hL : L < 1000) : R_priceAt N r (nI w - nI L) = some (prv (gA r 38) (gI r 15) w L) := by
  unfold R_priceAt prv
  simp only [sub_le0 (show w < 2 ^ 30 by omega) (show L < 2 ^ 30 by omega)]
  by_cases g : L ≤ w
  · rw [if_pos g, if_pos g, pk_sub g, ld_nI (by omega) (by omega)]; rfl
  · rw [if_neg g, if_neg g]
/-- who ships at a price -/
def shb (l : List Int32) (p : Int32) (k : Nat) : Bool := decide (l.getD k 0 ≤ p)
theorem sellersAt_ok (hN : 100 < N) (hn : n ≤ 5) (e24 : gI c 24 = nI n) (hl : (gA c 70).length = 5) (p : Int32) : Market_sellersAt N c p = some (nI (mkN (shb (gA c 70) p) n)) := by
  unfold Market_sellersAt
  refine for_up (P := fun f k => Market_sellersAt_p4 N c f p (nI (mkN (shb (gA c 70) p) k)) (nI k) = some (nI (mkN (shb (gA c 70) p) n))) (m := n) ?_ ?_ N 0 (by omega) (by omega)
  · intro f
    show Market_sellersAt_p4b _ _ _ _ _ _ = _
    unfold Market_sellersAt_p4b
    rw [e24, if_pos (nI_stop n)]
  · intro f k hk ih
    show Market_sellersAt_p4b _ _ _ _ _ _ = _
    unfold Market_sellersAt_p4b Market_sellersAt_p28
    rw [mk_or (by omega)] at ih
    rw [e24, if_neg (nI_on hk (by omega)), ld_nI (by omega) (by omega), Option.bind_some, nI_1]
    by_cases g : p < (gA c 70).getD k 0
    · rw [if_pos g]
      rw [if_neg (by unfold shb; rw [decide_eq_true_eq]; exact Int32.not_le.mpr g)] at ih
      exact ih
    · rw [if_neg g]
      rw [if_pos (by unfold shb; rw [decide_eq_true_eq]; exact Int32.not_lt.mp g)] at ih
      exact ih
def lsm (b : Nat → Bool) (f : Nat → Int32) : Nat → Int32
  | 0 => 0
  | k + 1 => if b k then lsm b f k + f k else lsm b f k
theorem lsm_succ (b : Nat → Bool) (f : Nat → Int32) (k : Nat) : lsm b f (k + 1) = if b k then lsm b f k + f k else lsm b f k := rfl
theorem loadOf_ok (hN : 100 < N) (hn : n ≤ 5) (e24 : gI c 24 = nI n) (hl : (gA c 69).length = 5) (b : Nat → Bool) : Market_loadOf N c (nI (mkN b n)) = some (lsm b (fun k => (gA c 69).getD k 0) n) := by
  unfold Market_loadOf
  refine for_up (P := fun f k => Market_loadOf_p4 N c f (nI (mkN b n)) (lsm b (fun k => (gA c 69).getD k 0) k) (nI k) = some (lsm b (fun k => (gA c 69).getD k 0) n)) (m := n) ?_ ?_ N 0 (by omega) (by omega)
  · intro f
    show Market_loadOf_p4b _ _ _ _ _ _ = _
    unfold Market_loadOf_p4b
    rw [e24, if_pos (nI_stop n)]
  · intro f k hk ih
    show Market_loadOf_p4b _ _ _ _ _ _ = _
    unfold Market_loadOf_p4b Market_loadOf_p30
    rw [lsm_succ] at ih
    rw [e24, if_neg (nI_on hk (by omega)), ld_nI (by omega) (by omega), Option.bind_some, nI_1]
    simp only [mk_bit (b := b) (show n ≤ 8 by omega) hk]
    by_cases g : b k = true
    · rw [if_neg (fun q => q g)]; rw [if_pos g] at ih; exact ih
    · rw [if_pos g]; rw [if_neg g] at ih; exact ih
theorem weeks_same {L W : Nat} (hN : 1000 < N) (hM : Mk n L W c r) : ∃ c1 r1, Market_run N c = some c1 ∧ R_goWeeks N r = some r1 ∧ Fm scI scA c c1 ∧ Fm srI srA r r1 ∧ gA c1 71 = gA r1 38 ∧ gA c1 72 = gA r1 39 := by
  unfold Market_run R_goWeeks
  refine for_up (P := fun f w => ∀ c2 r2, Fm scI scA c c2 → Fm srI srA r r2 → (∀ j, j < w → (gA c2 71).getD j 0 = (gA r2 38).getD j 0 ∧ (gA c2 72).getD j 0 = (gA r2 39).getD j 0) → ∃ c1 r1, Market_run_p2 N f c2 (nI w) = some c1 ∧ R_goWeeks_p2 N f r2 (nI w) = some r1 ∧ Fm scI scA c c1 ∧ Fm srI srA r r1 ∧ gA c1 71 = gA r1 38 ∧ gA c1 72 = gA r1 39) (m := 200) ?_ ?_ N 0 (by omega) (by omega) c r (Fm.refl _ _ c) (Fm.refl _ _ r) (fun j hj => absurd hj (Nat.not_lt_zero j))
  · intro f c2 r2 fc fr h2
    obtain ⟨a1, a2, a3, a4, a5, a6, a7, a8, a9, a10, a11, a12, a13⟩ := hM.fr fc fr
    have l71 : (gA c2 71).length = 200 := a12.1 71
    have l72 : (gA c2 72).length = 200 := a12.1 72
    have l38 : (gA r2 38).length = 200 := a13.1 38
    have l39 : (gA r2 39).length = 200 := a13.1 39
    refine ⟨c2, r2, ?_, ?_, fc, fr, list_ext (by omega) (fun k hk => (h2 k (by omega)).1), list_ext (by omega) (fun k hk => (h2 k (by omega)).2)⟩
    · show Market_run_p2b _ _ _ _ = _
      unfold Market_run_p2b
      rw [if_pos (show (200 : Int32) ≤ nI 200 by decide)]
    · show R_goWeeks_p2b _ _ _ _ = _
      unfold R_goWeeks_p2b
      rw [if_pos (show (200 : Int32) ≤ nI 200 by decide)]
  · intro f w hw ih c2 r2 fc fr h2
    have hM2 := hM.fr fc fr
    obtain ⟨a1, a2, a3, a4, a5, a6, a7, a8, a9, a10, a11, a12, a13⟩ := hM2
    have l71 : (gA c2 71).length = 200 := a12.1 71
    have l72 : (gA c2 72).length = 200 := a12.1 72
    have l69 : (gA c2 69).length = 5 := a12.1 69
    have l70 : (gA c2 70).length = 5 := a12.1 70
    have l38 : (gA r2 38).length = 200 := a13.1 38
    have l39 : (gA r2 39).length = 200 := a13.1 39
    have hsh : shv (gA r2 39) w W = shv (gA c2 72) w W := by
      unfold shv
      split
      · exact (h2 (w - W) (by omega)).2.symm
      · rfl
    have hz : ∀ v : Int32, (if (0 : Int32) < v then v else 0) = if 0 ≤ v then v else 0 := fun v => by
      by_cases g : (0 : Int32) ≤ v
      · rw [if_pos g]
        by_cases g2 : (0 : Int32) < v
        · rw [if_pos g2]
        · rw [if_neg g2]; exact Int32.le_antisymm g (Int32.not_lt.mp g2)
      · rw [if_neg g, if_neg (fun q => g (Int32.le_of_lt q))]
    -- the price of this week
    have step : ∀ p : Int32, p = (if 0 ≤ gI r2 15 - gI r2 16 * shv (gA c2 72) w W then gI r2 15 - gI r2 16 * shv (gA c2 72) w W else 0) → ∃ c1 r1, Market_run_p2 N (f + 1) c2 (nI w) = some c1 ∧ R_goWeeks_p44 N (R_goWeeks_p2 N f) r2 (nI w) (nI w) p = some r1 ∧ Fm scI scA c c1 ∧ Fm srI srA r r1 ∧ gA c1 71 = gA r1 38 ∧ gA c1 72 = gA r1 39 := by
      intro p hp
      have hpv : prv ((gA c2 71).set w p) (gI r2 15) w L = prv ((gA r2 38).set w p) (gI r2 15) w L := by
        unfold prv
        split
        · rw [getD_set (by omega), getD_set (by omega)]
          split
          · rfl
          · exact (h2 (w - L) (by omega)).1
        · rfl
      -- the reference's sum
      have inner : ∀ (f2 k : Nat), k ≤ n → n - k < f2 → ∀ r3, Fm (mks []) (mks [38, 39]) r2 r3 → gA r3 38 = (gA r2 38).set w p → (∀ j, (gA r3 39).getD j 0 = if j = w then lsm (shb (gA c2 70) (prv ((gA c2 71).set w p) (gI r2 15) w L)) (fun k => (gA c2 69).getD k 0) k else (gA r2 39).getD j 0) → ∃ r4, R_goWeeks_p54 N (R_goWeeks_p2 N f) f2 r3 (nI w) (nI k) = R_goWeeks_p2 N f r4 (nI (w + 1)) ∧ Fm (mks []) (mks [38, 39]) r2 r4 ∧ gA r4 38 = (gA r2 38).set w p ∧ ∀ j, (gA r4 39).getD j 0 = if j = w then lsm (shb (gA c2 70) (prv ((gA c2 71).set w p) (gI r2 15) w L)) (fun k => (gA c2 69).getD k 0) n else (gA r2 39).getD j 0 := by
        refine for_up (P := fun f2 k => ∀ r3, Fm (mks []) (mks [38, 39]) r2 r3 → gA r3 38 = (gA r2 38).set w p → (∀ j, (gA r3 39).getD j 0 = if j = w then lsm (shb (gA c2 70) (prv ((gA c2 71).set w p) (gI r2 15) w L)) (fun k => (gA c2 69).getD k 0) k else (gA r2 39).getD j 0) → ∃ r4, R_goWeeks_p54 N (R_goWeeks_p2 N f) f2 r3 (nI w) (nI k) = R_goWeeks_p2 N f r4 (nI (w + 1)) ∧ Fm (mks []) (mks [38, 39]) r2 r4 ∧ gA r4 38 = (gA r2 38).set w p ∧ ∀ j, (gA r4 39).getD j 0 = if j = w then lsm (shb (gA c2 70) (prv ((gA c2 71).set w p) (gI r2 15) w L)) (fun k => (gA c2 69).getD k 0) n else (gA r2 39).getD j 0) ?_ ?_
        · intro f2 r3 f3 k3 h3
          refine ⟨r3, ?_, f3, k3, h3⟩
          show R_goWeeks_p54b _ _ _ _ _ _ = _
          unfold R_goWeeks_p54b
          rw [f3.1 19 rfl, a3, if_pos (nI_stop n), nI_1]
        · intro f2 k hk ih2 r3 f3 k3 h3
          have m38 : (gA r3 38).length = 200 := (f3.len _).trans l38
          have m39 : (gA r3 39).length = 200 := (f3.len _).trans l39
          have e17 : gI r3 17 = nI L := (f3.1 17 rfl).trans a7
          have e21 : gA r3 21 = gA c2 70 := (f3.2.1 21 rfl).trans a5.symm
          have e20 : gA r3 20 = gA c2 69 := (f3.2.1 20 rfl).trans a4.symm
          show ∃ r4, R_goWeeks_p54b _ _ _ _ _ _ = _ ∧ _
          unfold R_goWeeks_p54b R_goWeeks_p98
          rw [f3.1 19 rfl, a3, if_neg (nI_on hk (by omega)), e17, R_price_ok m38 (by omega) (by omega), e21, e20, ld_nI (by omega) (by omega), ld_nI (by omega) (by omega), ld_nI (by omega) (by omega), k3, f3.1 15 rfl, ← hpv, h3 w, if_pos rfl]
          simp only [Option.bind_some, nI_1, sto_nI (show w < (gA r3 39).length by omega) (show w < 2 ^ 31 by omega)]
          have hgo : ∀ v, v = lsm (shb (gA c2 70) (prv ((gA c2 71).set w p) (gI r2 15) w L)) (fun k => (gA c2 69).getD k 0) (k + 1) → ∃ r4, R_goWeeks_p54 N (R_goWeeks_p2 N f) f2 (sA r3 39 ((gA r3 39).set w v)) (nI w) (nI (k + 1)) = R_goWeeks_p2 N f r4 (nI (w + 1)) ∧ Fm (mks []) (mks [38, 39]) r2 r4 ∧ gA r4 38 = (gA r2 38).set w p ∧ ∀ j, (gA r4 39).getD j 0 = if j = w then lsm (shb (gA c2 70) (prv ((gA c2 71).set w p) (gI r2 15) w L)) (fun k => (gA c2 69).getD k 0) n else (gA r2 39).getD j 0 := by
            intro v hv
            refine ih2 _ (f3.sA rfl List.length_set) k3 (fun j => ?_)
            rw [gA_sA_same, getD_set (by omega)]
            by_cases q : j = w
            · rw [if_pos q, if_pos q, hv]
            · rw [if_neg q, if_neg q, h3 j, if_neg q]
          by_cases g : prv ((gA c2 71).set w p) (gI r2 15) w L < (gA c2 70).getD k 0
          · rw [if_pos g]
            refine hgo _ ?_
            rw [lsm_succ, if_neg (by unfold shb; rw [decide_eq_true_eq]; exact Int32.not_le.mpr g), Int32.add_zero]
          · rw [if_neg g]
            refine hgo _ ?_
            rw [lsm_succ, if_pos (by unfold shb; rw [decide_eq_true_eq]; exact Int32.not_lt.mp g)]
      obtain ⟨r4, b1, b2, b3, b4⟩ := inner N 0 (by omega) (by omega) (sA (sA r2 38 ((gA r2 38).set w p)) 39 ((gA r2 39).set w 0)) (Fm.sA (k := 39) (Fm.sA (k := 38) (Fm.refl _ _ r2) rfl List.length_set) rfl List.length_set) rfl (fun j => by
        show ((gA r2 39).set w 0).getD j 0 = _
        rw [getD_set (by omega)]
        rfl)
      have hc71 : (gA (sA c2 71 ((gA c2 71).set w p)) 71).length = 200 := by rw [gA_sA_same, List.length_set]; exact l71
      have fc1 : Fm scI scA c (sA (sA c2 71 ((gA c2 71).set w p)) 72 ((gA c2 72).set w (lsm (shb (gA c2 70) (prv ((gA c2 71).set w p) (gI r2 15) w L)) (fun k => (gA c2 69).getD k 0) n))) := Fm.sA (k := 72) (Fm.sA (k := 71) fc rfl List.length_set) rfl List.length_set
      have fr1 : Fm srI srA r r4 := fr.trans (b2.mono (fun _ _ => rfl) (mks_u (by decide)))
      obtain ⟨c5, r5, d1, d2, d3⟩ := ih _ r4 fc1 fr1 (fun j hj => by
        show ((gA c2 71).set w p).getD j 0 = _ ∧ ((gA c2 72).set w _).getD j 0 = _
        rw [b3, b4 j, getD_set (by omega), getD_set (by omega), getD_set (by omega)]
        by_cases q : j = w
        · rw [if_pos q, if_pos q, if_pos q, if_pos q]; exact ⟨rfl, rfl⟩
        · rw [if_neg q, if_neg q, if_neg q, if_neg q]; exact h2 j (by omega))
      refine ⟨c5, r5, ?_, ?_, d3⟩
      · show Market_run_p2b _ _ _ _ = _
        unfold Market_run_p2b J_max
        have hs : Market_sellersAt N (sA c2 71 ((gA c2 71).set w p)) (prv ((gA c2 71).set w p) (gI r2 15) w L) = some (nI (mkN (shb (gA c2 70) (prv ((gA c2 71).set w p) (gI r2 15) w L)) n)) := sellersAt_ok (N := N) (c := sA c2 71 ((gA c2 71).set w p)) (by omega) a1 a2 l70 (prv ((gA c2 71).set w p) (gI r2 15) w L)
        have hld : Market_loadOf N (sA c2 71 ((gA c2 71).set w p)) (nI (mkN (shb (gA c2 70) (prv ((gA c2 71).set w p) (gI r2 15) w L)) n)) = some (lsm (shb (gA c2 70) (prv ((gA c2 71).set w p) (gI r2 15) w L)) (fun k => (gA c2 69).getD k 0) n) := loadOf_ok (N := N) (c := sA c2 71 ((gA c2 71).set w p)) (by omega) a1 a2 l69 (shb (gA c2 70) (prv ((gA c2 71).set w p) (gI r2 15) w L))
        have hpr := C_price_ok (N := N) (c := sA c2 71 ((gA c2 71).set w p)) hc71 a6 (w := w) (L := L) hw (by omega)
        have hj : (if (0 : Int32) < gI r2 15 - gI r2 16 * shv (gA c2 72) w W then some (gI r2 15 - gI r2 16 * shv (gA c2 72) w W) else some 0) = some p := by
          rw [hp, ← hz]; split <;> rfl
        have e68 : gA (sA c2 71 ((gA c2 71).set w p)) 68 = [gI r2 15, gI r2 16, nI L, nI W] := a6
        rw [if_neg (show ¬ (200 : Int32) ≤ nI w from nI_on (m := 200) hw (by decide)), a6, ld_c0, ld_c1, ld_c3, Option.bind_some, Option.bind_some, Option.bind_some, C_shipped_ok l72 hw (by omega), Option.bind_some, hj, Option.bind_some, sto_nI (by omega) (by omega), Option.bind_some, e68, ld_c2, Option.bind_some, hpr, Option.bind_some]
        rw [show gA (sA c2 71 ((gA c2 71).set w p)) 71 = (gA c2 71).set w p from rfl, hs, Option.bind_some, hld, Option.bind_some, sto_nI (by show w < (gA c2 72).length; omega) (by omega), Option.bind_some, nI_1]
        exact d1
      · unfold R_goWeeks_p44
        rw [sto_nI (by omega) (by omega), Option.bind_some, sto_nI (by show w < (gA r2 39).length; omega) (by omega), Option.bind_some]
        exact b1.trans d2
    obtain ⟨c1, r1, s1, s2, s3⟩ := step _ rfl
    refine ⟨c1, r1, s1, ?_, s3⟩
    show R_goWeeks_p2b _ _ _ _ = _
    unfold R_goWeeks_p2b
    rw [if_neg (show ¬ (200 : Int32) ≤ nI w from nI_on (m := 200) hw (by decide)), a8, R_shipped_ok l39 hw (by omega), Option.bind_some, hsh]
    split
    · rename_i q; rw [if_pos q] at s2; exact s2
    · rename_i q; rw [if_neg q] at s2; exact s2
theorem bsf_succ (g : Nat → Bool) (k : Nat) : bsf g (k + 1) = bsf g k + if g k then 1 else 0 := rfl
theorem S_week (h : Rel c r) (hN : 1000 < N) (x1 x2 : Int32) : Sim (C_week N c x1 x2) (R_week N r x1 x2) := by
  obtain ⟨n, L, W, hM⟩ := h.mk
  obtain ⟨c1, r1, y1, y2, y3, y4, y5, y6⟩ := weeks_same (N := N) hN hM
  have hR : Rel c1 r1 := h.fr y3 y4
  obtain ⟨a1, a2, a3, a4, a5, a6, a7, a8, a9, a10, a11, a12, a13⟩ := hM.fr y3 y4
  have l71 : (gA c1 71).length = 200 := a12.1 71
  have l72 : (gA c1 72).length = 200 := a12.1 72
  have l70 : (gA c1 70).length = 5 := a12.1 70
  have l38 : (gA r1 38).length = 200 := a13.1 38
  unfold C_week C_week_p20 R_week R_week_p20
  simp only [C_within_eq, R_in_eq, Option.bind_some, if_bz, if_nbz, y1, y2]
  refine Sim.ite (fun g1 => Sim.ite (fun g2 => ?_) (fun _ => Sim.ret h)) (fun _ => Sim.ret h)
  obtain ⟨w, rfl, hw⟩ := nat_in g1
  have hw : w < 200 := by have : (199 : Int32).toInt = 199 := rfl; omega
  -- whoever ships, on both
  have main : ∀ (f k : Nat), k ≤ n → n - k < f → R_week_p35 N f r1 (nI w) x2 (nI (mkN (shb (gA c1 70) (prv (gA c1 71) (gI r1 15) w L)) k)) (nI (bsf (fun k => shb (gA c1 70) (prv (gA c1 71) (gI r1 15) w L) k != shb (gA c1 70) ((gA c1 71).getD w 0) k) k)) (nI k) = (if ¬ x2 = 0 then (if ¬ x2 = 1 then (if ¬ x2 = 2 then some (nI (mkN (shb (gA c1 70) (prv (gA c1 71) (gI r1 15) w L)) n), r1) else some (nI (bsf (fun k => shb (gA c1 70) (prv (gA c1 71) (gI r1 15) w L) k != shb (gA c1 70) ((gA c1 71).getD w 0) k) n), r1)) else some ((gA c1 72).getD w 0, r1)) else some ((gA c1 71).getD w 0, r1)) := by
    refine for_up (P := fun f k => R_week_p35 N f r1 (nI w) x2 (nI (mkN (shb (gA c1 70) (prv (gA c1 71) (gI r1 15) w L)) k)) (nI (bsf (fun k => shb (gA c1 70) (prv (gA c1 71) (gI r1 15) w L) k != shb (gA c1 70) ((gA c1 71).getD w 0) k) k)) (nI k) = (if ¬ x2 = 0 then (if ¬ x2 = 1 then (if ¬ x2 = 2 then some (nI (mkN (shb (gA c1 70) (prv (gA c1 71) (gI r1 15) w L)) n), r1) else some (nI (bsf (fun k => shb (gA c1 70) (prv (gA c1 71) (gI r1 15) w L) k != shb (gA c1 70) ((gA c1 71).getD w 0) k) n), r1)) else some ((gA c1 72).getD w 0, r1)) else some ((gA c1 71).getD w 0, r1))) ?_ ?_
    · intro f
      show R_week_p35b _ _ _ _ _ _ _ _ = _
      unfold R_week_p35b
      rw [a3, if_pos (nI_stop n), ← y5, ← y6, ld_nI (by omega) (by omega), ld_nI (by omega) (by omega)]
      rfl
    · intro f k hk ih
      show R_week_p35b _ _ _ _ _ _ _ _ = _
      unfold R_week_p35b R_week_p69 R_week_p85 R_week_p112 R_week_p120
      rw [a3, if_neg (nI_on hk (by omega)), a7, R_price_ok l38 hw (by omega), ← y5, ← a5, Option.bind_some, ld_nI (by omega) (by omega), Option.bind_some, ld_nI (by omega) (by omega)]
      simp only [Option.bind_some, nI_1]
      rw [← y5] at *
      rw [mk_or (by omega), bsf_succ] at ih
      have z0 : (1 : Int32) ≠ 0 := by decide
      by_cases p1 : prv (gA c1 71) (gI r1 15) w L < (gA c1 70).getD k 0
      · have b1 : shb (gA c1 70) (prv (gA c1 71) (gI r1 15) w L) k = false := decide_eq_false (Int32.not_le.mpr p1)
        rw [if_pos p1]
        rw [b1] at ih
        by_cases p2 : (gA c1 71).getD w 0 < (gA c1 70).getD k 0
        · have b2 : shb (gA c1 70) ((gA c1 71).getD w 0) k = false := decide_eq_false (Int32.not_le.mpr p2)
          rw [b2] at ih
          simp only [if_pos p2, if_true, not_true, if_false, Int32.or_zero, Int32.add_zero]
          exact ih
        · have b2 : shb (gA c1 70) ((gA c1 71).getD w 0) k = true := decide_eq_true (Int32.not_lt.mp p2)
          rw [b2] at ih
          simp only [if_neg p2, if_true, if_pos (show ¬ (0 : Int32) = 1 by decide), Int32.or_zero, nI_1]
          exact ih
      · have b1 : shb (gA c1 70) (prv (gA c1 71) (gI r1 15) w L) k = true := decide_eq_true (Int32.not_lt.mp p1)
        rw [if_neg p1]
        rw [b1] at ih
        by_cases p2 : (gA c1 71).getD w 0 < (gA c1 70).getD k 0
        · have b2 : shb (gA c1 70) ((gA c1 71).getD w 0) k = false := decide_eq_false (Int32.not_le.mpr p2)
          rw [b2] at ih
          simp only [if_pos p2, if_neg (show ¬ (1 : Int32) = 0 by decide), if_pos (show ¬ (1 : Int32) = 0 by decide), nI_1]
          exact ih
        · have b2 : shb (gA c1 70) ((gA c1 71).getD w 0) k = true := decide_eq_true (Int32.not_lt.mp p2)
          rw [b2] at ih
          simp only [if_neg p2, if_neg (show ¬ (1 : Int32) = 0 by decide), not_true, if_false, Int32.add_zero]
          exact ih
  have hmain : R_week_p35 N N r1 (nI w) x2 0 0 0 = _ := main N 0 (by omega) (by omega)
  rw [hmain]
  unfold Market_tell
  rw [a6, ld_c2, Option.bind_some, C_price_ok l71 a6 hw (by omega), Option.bind_some, sellersAt_ok (by omega) a1 a2 l70, Option.bind_some, ld_nI (by omega) (by omega), ld_nI (by omega) (by omega)]
  simp only [Option.bind_some]
  rw [sellersAt_ok (by omega) a1 a2 l70, Option.bind_some, cnt_xor N a1]
  by_cases h0 : x2 = 0
  · simp only [if_pos h0, if_neg (fun q : ¬ x2 = 0 => q h0)]; exact Sim.ret hR
  · simp only [if_neg h0, if_pos h0]
    by_cases h1 : x2 = 1
    · simp only [if_pos h1, if_neg (fun q : ¬ x2 = 1 => q h1)]; exact Sim.ret hR
    · simp only [if_neg h1, if_pos h1]
      by_cases h2 : x2 = 2
      · simp only [if_pos h2, if_neg (fun q : ¬ x2 = 2 => q h2)]; exact Sim.ret hR
      · simp only [if_neg h2, if_pos h2]; exact Sim.ret hR
/-- two weeks are alike -/
def AL (lp ls : List Int32) (bs : Int32) (L W f g : Nat) : Prop := (∀ k, 1 ≤ k → k ≤ W → shv ls f k = shv ls g k) ∧ ∀ k, 1 ≤ k → k ≤ L → prv lp bs f k = prv lp bs g k
theorem alike_ok {L W : Nat} (hN : 1000 < N) (hM : Mk n L W c r) {f g : Nat} (hf : f < 200) (hg : g < 200) : Res (Market_alike N c (nI f) (nI g)) (AL (gA c 71) (gA c 72) (gI r 15) L W f g) := by
  obtain ⟨a1, a2, a3, a4, a5, a6, a7, a8, a9, a10, a11, a12, a13⟩ := hM
  have l71 : (gA c 71).length = 200 := a12.1 71
  have l72 : (gA c 72).length = 200 := a12.1 72
  unfold Market_alike
  refine for_up (P := fun fu k => 1 ≤ k → (∀ j, 1 ≤ j → j < k → shv (gA c 72) f j = shv (gA c 72) g j) → Res (Market_alike_p2 N c fu (nI f) (nI g) (nI k)) (AL (gA c 71) (gA c 72) (gI r 15) L W f g)) (m := W + 1) ?_ ?_ N 1 (by omega) (by omega) (by omega) (fun j h1 h2 => by omega)
  · intro fu _ h1
    show Res (Market_alike_p2b _ _ _ _ _ _) _
    unfold Market_alike_p2b
    rw [a6, ld_c3, Option.bind_some, if_pos (nI_lt (by omega) (by omega))]
    refine for_up (P := fun fu k => 1 ≤ k → (∀ j, 1 ≤ j → j < k → prv (gA c 71) (gI r 15) f j = prv (gA c 71) (gI r 15) g j) → Res (Market_alike_p39 N c fu (nI f) (nI g) (nI k)) (AL (gA c 71) (gA c 72) (gI r 15) L W f g)) (m := L + 1) ?_ ?_ N 1 (by omega) (by omega) (by omega) (fun j h1 h2 => by omega)
    · intro fu _ h2
      show Res (Market_alike_p39b _ _ _ _ _ _) _
      unfold Market_alike_p39b
      rw [a6, ld_c2, Option.bind_some, if_pos (nI_lt (by omega) (by omega))]
      exact Or.inl ⟨rfl, fun k q1 q2 => h1 k q1 (by omega), fun k q1 q2 => h2 k q1 (by omega)⟩
    · intro fu k hk ih k1 h2
      show Res (Market_alike_p39b _ _ _ _ _ _) _
      unfold Market_alike_p39b
      rw [a6, ld_c2, Option.bind_some, if_neg (nI_nlt (by omega) (by omega)), C_price_ok l71 a6 hf (by omega), C_price_ok l71 a6 hg (by omega), Option.bind_some, Option.bind_some, nI_1]
      by_cases q : prv (gA c 71) (gI r 15) f k = prv (gA c 71) (gI r 15) g k
      · rw [if_pos q]
        refine ih (by omega) (fun j j1 j2 => ?_)
        by_cases e : j = k
        · subst e; exact q
        · exact h2 j j1 (by omega)
      · rw [if_neg q]
        exact Or.inr ⟨rfl, fun hA => q (hA.2 k k1 (by omega))⟩
  · intro fu k hk ih k1 h1
    show Res (Market_alike_p2b _ _ _ _ _ _) _
    unfold Market_alike_p2b
    rw [a6, ld_c3, Option.bind_some, if_neg (nI_nlt (by omega) (by omega)), C_shipped_ok l72 hf (by omega), C_shipped_ok l72 hg (by omega), Option.bind_some, Option.bind_some, nI_1]
    by_cases q : shv (gA c 72) f k = shv (gA c 72) g k
    · rw [if_pos q]
      refine ih (by omega) (fun j j1 j2 => ?_)
      by_cases e : j = k
      · subst e; exact q
      · exact h1 j j1 (by omega)
    · rw [if_neg q]
      exact Or.inr ⟨rfl, fun hA => q (hA.1 k k1 (by omega))⟩
theorem isAgain_ok {L W : Nat} (hN : 1000 < N) (hM : Mk n L W c r) {f p : Nat} (hg : f + p < 200) : Res (R_isAgain N r (nI f) (nI p)) (AL (gA r 38) (gA r 39) (gI r 15) L W f (f + p)) := by
  obtain ⟨a1, a2, a3, a4, a5, a6, a7, a8, a9, a10, a11, a12, a13⟩ := hM
  have l38 : (gA r 38).length = 200 := a13.1 38
  have l39 : (gA r 39).length = 200 := a13.1 39
  have second : ∀ (fu k : Nat), k ≤ L + 1 → L + 1 - k < fu → ∀ x : Int32, 1 ≤ k → ((x = 1 ∧ (∀ j, 1 ≤ j → j ≤ W → shv (gA r 39) f j = shv (gA r 39) (f + p) j) ∧ ∀ j, 1 ≤ j → j < k → prv (gA r 38) (gI r 15) f j = prv (gA r 38) (gI r 15) (f + p) j) ∨ (x = 0 ∧ ¬ AL (gA r 38) (gA r 39) (gI r 15) L W f (f + p))) → Res (R_isAgain_p54 N r fu (nI f) (nI p) x (nI k)) (AL (gA r 38) (gA r 39) (gI r 15) L W f (f + p)) := by
    refine for_up (P := fun fu k => ∀ x : Int32, 1 ≤ k → ((x = 1 ∧ (∀ j, 1 ≤ j → j ≤ W → shv (gA r 39) f j = shv (gA r 39) (f + p) j) ∧ ∀ j, 1 ≤ j → j < k → prv (gA r 38) (gI r 15) f j = prv (gA r 38) (gI r 15) (f + p) j) ∨ (x = 0 ∧ ¬ AL (gA r 38) (gA r 39) (gI r 15) L W f (f + p))) → Res (R_isAgain_p54 N r fu (nI f) (nI p) x (nI k)) (AL (gA r 38) (gA r 39) (gI r 15) L W f (f + p))) ?_ ?_
    · intro fu x _ hx
      show Res (R_isAgain_p54b _ _ _ _ _ _ _) _
      unfold R_isAgain_p54b
      rw [a7, if_pos (nI_lt (by omega) (by omega))]
      rcases hx with ⟨rfl, h1, h2⟩ | ⟨rfl, h1⟩
      · exact Or.inl ⟨rfl, h1, fun j q1 q2 => h2 j q1 (by omega)⟩
      · exact Or.inr ⟨rfl, h1⟩
    · intro fu k hk ih x k1 hx
      show Res (R_isAgain_p54b _ _ _ _ _ _ _) _
      unfold R_isAgain_p54b R_isAgain_p92 R_isAgain_p93
      rw [a7, if_neg (nI_nlt (by omega) (by omega)), nI_add, R_price_ok l38 (show f < 200 by omega) (by omega), R_price_ok l38 hg (by omega), Option.bind_some, Option.bind_some, nI_1]
      rcases hx with ⟨rfl, h1, h2⟩ | ⟨rfl, h1⟩
      · rw [if_neg (by decide)]
        by_cases q : prv (gA r 38) (gI r 15) f k = prv (gA r 38) (gI r 15) (f + p) k
        · rw [if_neg (fun z => z q)]
          refine ih 1 (by omega) (Or.inl ⟨rfl, h1, fun j j1 j2 => ?_⟩)
          by_cases e : j = k
          · subst e; exact q
          · exact h2 j j1 (by omega)
        · rw [if_pos q]
          exact ih 0 (by omega) (Or.inr ⟨rfl, fun hA => q (hA.2 k k1 (by omega))⟩)
      · rw [if_pos rfl]
        exact ih 0 (by omega) (Or.inr ⟨rfl, h1⟩)
  unfold R_isAgain
  refine for_up (P := fun fu k => ∀ x : Int32, 1 ≤ k → ((x = 1 ∧ ∀ j, 1 ≤ j → j < k → shv (gA r 39) f j = shv (gA r 39) (f + p) j) ∨ (x = 0 ∧ ¬ AL (gA r 38) (gA r 39) (gI r 15) L W f (f + p))) → Res (R_isAgain_p5 N r fu (nI f) (nI p) x (nI k)) (AL (gA r 38) (gA r 39) (gI r 15) L W f (f + p))) (m := W + 1) ?_ ?_ N 1 (by omega) (by omega) 1 (by omega) (Or.inl ⟨rfl, fun j h1 h2 => by omega⟩)
  · intro fu x _ hx
    show Res (R_isAgain_p5b _ _ _ _ _ _ _) _
    unfold R_isAgain_p5b
    rw [a8, if_pos (nI_lt (by omega) (by omega))]
    refine second N 1 (by omega) (by omega) x (by omega) ?_
    rcases hx with ⟨rfl, h1⟩ | ⟨rfl, h1⟩
    · exact Or.inl ⟨rfl, fun j q1 q2 => h1 j q1 (by omega), fun j q1 q2 => by omega⟩
    · exact Or.inr ⟨rfl, h1⟩
  · intro fu k hk ih x k1 hx
    show Res (R_isAgain_p5b _ _ _ _ _ _ _) _
    unfold R_isAgain_p5b R_isAgain_p43 R_isAgain_p44
    rw [a8, if_neg (nI_nlt (by omega) (by omega)), nI_add, R_shipped_ok l39 (show f < 200 by omega) (by omega), R_shipped_ok l39 hg (by omega), Option.bind_some, Option.bind_some, nI_1]
    rcases hx with ⟨rfl, h1⟩ | ⟨rfl, h1⟩
    · rw [if_neg (by decide)]
      by_cases q : shv (gA r 39) f k = shv (gA r 39) (f + p) k
      · rw [if_neg (fun z => z q)]
        refine ih 1 (by omega) (Or.inl ⟨rfl, fun j j1 j2 => ?_⟩)
        by_cases e : j = k
        · subst e; exact q
        · exact h1 j j1 (by omega)
      · rw [if_pos q]
        exact ih 0 (by omega) (Or.inr ⟨rfl, fun hA => q (hA.1 k k1 (by omega))⟩)
    · rw [if_pos rfl]
      exact ih 0 (by omega) (Or.inr ⟨rfl, h1⟩)
theorem S_turns (h : Rel c r) (hN : 1000 < N) (x1 : Int32) : Sim (C_turns N c x1) (R_turns N r x1) := by
  obtain ⟨n, L, W, hM⟩ := h.mk
  obtain ⟨c1, r1, y1, y2, y3, y4, y5, y6⟩ := weeks_same (N := N) hN hM
  have hR : Rel c1 r1 := h.fr y3 y4
  have hM1 := hM.fr y3 y4
  unfold C_turns R_turns
  simp only [C_within_eq, R_in_eq, Option.bind_some, if_bz, if_nbz, y1, y2]
  refine Sim.ite (fun g1 => ?_) (fun _ => Sim.ret h)
  have same : ∀ f p, f + p < 200 → ∃ v, Market_alike N c1 (nI f) (nI (f + p)) = some v ∧ R_isAgain N r1 (nI f) (nI p) = some v := by
    intro f p hfp
    have u := isAgain_ok (N := N) hN hM1 (f := f) (p := p) hfp
    rw [← y5, ← y6] at u
    rcases alike_ok (N := N) hN hM1 (f := f) (g := f + p) (by omega) hfp with ⟨k1, k2⟩ | ⟨k1, k2⟩
    · rcases u with ⟨u1, u2⟩ | ⟨u1, u2⟩
      · exact ⟨1, k1, u1⟩
      · exact absurd k2 u2
    · rcases u with ⟨u1, u2⟩ | ⟨u1, u2⟩
      · exact absurd u2 k2
      · exact ⟨0, k1, u1⟩
  have main : ∀ (fu f : Nat), f ≤ 200 → 200 - f < fu → ∃ v, Market_turn_p2 N c1 fu x1 (nI f) = some v ∧ R_turns_p18 N fu r1 x1 (nI f) = some (v, r1) := by
    refine for_up (P := fun fu f => ∃ v, Market_turn_p2 N c1 fu x1 (nI f) = some v ∧ R_turns_p18 N fu r1 x1 (nI f) = some (v, r1)) ?_ ?_
    · intro fu
      refine ⟨-1, ?_, ?_⟩
      · show Market_turn_p2b _ _ _ _ _ = _
        unfold Market_turn_p2b
        rw [if_pos (show (200 : Int32) ≤ nI 200 by decide)]
      · show R_turns_p18b _ _ _ _ _ = _
        unfold R_turns_p18b
        rw [if_pos (show (200 : Int32) ≤ nI 200 by decide)]
    · intro fu f hf ih
      show ∃ v, Market_turn_p2b _ _ _ _ _ = _ ∧ R_turns_p18b _ _ _ _ _ = _
      unfold Market_turn_p2b R_turns_p18b
      rw [if_neg (show ¬ (200 : Int32) ≤ nI f from nI_on (m := 200) hf (by decide)), if_neg (show ¬ (200 : Int32) ≤ nI f from nI_on (m := 200) hf (by decide)), nI_1]
      refine for_up (P := fun f2 g => f < g → ∃ v, Market_turn_p13 N (Market_turn_p2 N c1 fu) c1 f2 x1 (nI f) (nI g) = some v ∧ R_turns_p27 N (R_turns_p18 N fu) f2 r1 x1 (nI f) (nI (g - f)) = some (v, r1)) (m := 200) ?_ ?_ N (f + 1) (by omega) (by omega) (by omega) |> fun t => by rw [show f + 1 - f = 1 by omega] at t; exact t
      · intro f2 hg
        have e200 : nI f + nI (200 - f) = nI 200 := by rw [nI_add]; exact congrArg nI (by omega)
        show ∃ v, Market_turn_p13b _ _ _ _ _ _ _ = _ ∧ R_turns_p27b _ _ _ _ _ _ _ = _
        unfold Market_turn_p13b R_turns_p27b
        rw [if_pos (show (200 : Int32) ≤ nI 200 by decide), e200, if_pos (show (200 : Int32) ≤ nI 200 by decide), nI_1]
        exact ih
      · intro f2 g hg ih2 hfg
        have eg : nI f + nI (g - f) = nI g := by rw [nI_add]; exact congrArg nI (by omega)
        obtain ⟨v, k1, k2⟩ := same f (g - f) (by omega)
        rw [show f + (g - f) = g by omega] at k1
        show ∃ v, Market_turn_p13b _ _ _ _ _ _ _ = _ ∧ R_turns_p27b _ _ _ _ _ _ _ = _
        unfold Market_turn_p13b R_turns_p27b
        rw [if_neg (show ¬ (200 : Int32) ≤ nI g from nI_on (m := 200) hg (by decide)), eg, if_neg (show ¬ (200 : Int32) ≤ nI g from nI_on (m := 200) hg (by decide)), k1, k2, Option.bind_some, Option.bind_some, nI_1, nI_1]
        by_cases hv : v = 0
        · rw [if_pos hv, if_pos hv]
          have := ih2 (by omega)
          rw [show g + 1 - f = g - f + 1 by omega] at this
          exact this
        · rw [if_neg hv, if_neg hv]
          by_cases h0 : x1 = 0
          · rw [if_neg (fun q => q h0), if_neg (fun q => q h0)]; exact ⟨_, rfl, rfl⟩
          · rw [if_pos h0, if_pos h0, pk_sub (by omega)]; exact ⟨_, rfl, rfl⟩
  obtain ⟨v, k1, k2⟩ := main N 0 (by omega) (by omega)
  have k2 : R_turns_p18 N N r1 x1 0 = _ := k2
  have k1 : Market_turn N c1 x1 = _ := k1
  rw [k1, k2, Option.bind_some]
  exact Sim.ret hR
end MK
