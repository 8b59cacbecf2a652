/-! PURE: laying: the class and the reference -/
section LB
variable {N n B H : Nat} {D : List Int32} {c r : St}
def cval (D : List Int32) (n : Nat) (o : Option (Nat → Nat)) : Nat := match o with | none => n + 1 | some b => sco D b n
def rval (D : List Int32) (n : Nat) (o : Option (Nat → Nat)) : Int32 := match o with | none => -1 | some b => nI (sco D b n)
def LC (n B H : Nat) (D : List Int32) (c : St) : Prop := LenC c ∧ gI c 17 = nI n ∧ gI c 19 = nI B ∧ gI c 20 = nI H ∧ gA c 51 = D
theorem LC.fr {c1 : St} (h : LC n B H D c) (hc : Fm (mks [18]) (mks [52, 53, 54]) c c1) : LC n B H D c1 := ⟨LenC_fr h.1 hc, (hc.1 17 rfl).trans h.2.1, (hc.1 19 rfl).trans h.2.2.1, (hc.1 20 rfl).trans h.2.2.2.1, (hc.2.1 51 rfl).trans h.2.2.2.2⟩
/-- the class on its way: f are laid as g says, the best so far o -/
def Ls (n B H : Nat) (D : List Int32) (g : Nat → Nat) (f : Nat) (o : Option (Nat → Nat)) (c : St) : Prop := LC n B H D c ∧ (∀ s, s < 4 → (gA c 52).getD s 0 = nI (ht g s f)) ∧ (∀ j, j < f → (gA c 53).getD j 0 = nI (g j)) ∧ gI c 18 = nI (cval D n o) ∧ ∀ b, o = some b → ∀ j, j < n → (gA c 54).getD j 0 = nI (b j)
theorem mk_false (n : Nat) : mkN (fun _ => false) n = 0 := by
  apply Nat.eq_of_testBit_eq
  intro i
  rw [mkN_bit]
  simp
theorem dug_ok (hN : 100 < N) (hn : n ≤ 8) (hD : gA c 51 = D) (hL : LenC c) {g : Nat → Nat} {i : Nat} (hi : i < n) (hg : ∀ j, j ≤ i → (gA c 53).getD j 0 = nI (g j) ∧ g j < 4) : Stacks_dugFrom N c (nI i) = some (nI (mkN (fun k => decide (k < i) && du D g i k) n)) := by
  have l51 : D.length = 8 := by rw [← hD]; exact hL.1 51
  have l53 : (gA c 53).length = 8 := hL.1 53
  unfold Stacks_dugFrom
  have h0 : (0 : Int32) = nI (mkN (fun k => decide (k < 0) && du D g i k) n) := by
    rw [show mkN (fun k => decide (k < 0) && du D g i k) n = mkN (fun _ => false) n from mkN_congr (fun k _ => by simp), mk_false]
    rfl
  have main : ∀ f j, j ≤ i → i - j < f → Stacks_dugFrom_p4 N c f (nI i) (nI (mkN (fun k => decide (k < j) && du D g i k) n)) (nI j) = some (nI (mkN (fun k => decide (k < i) && du D g i k) n)) := by
    refine for_up (P := fun f j => Stacks_dugFrom_p4 N c f (nI i) (nI (mkN (fun k => decide (k < j) && du D g i k) n)) (nI j) = some (nI (mkN (fun k => decide (k < i) && du D g i k) n))) ?_ ?_
    · intro f
      show Stacks_dugFrom_p4b _ _ _ _ _ _ = _
      unfold Stacks_dugFrom_p4b
      rw [if_pos (nI_stop i)]
    · intro f j hj ih
      have g1 := hg j (by omega)
      have g2 := hg i (Nat.le_refl i)
      have z1 : (nI (g j) = nI (g i)) = (g j = g i) := propext (nI_eq (by omega) (by omega))
      show Stacks_dugFrom_p4b _ _ _ _ _ _ = _
      unfold Stacks_dugFrom_p4b Stacks_dugFrom_p45
      rw [if_neg (nI_on hj (by omega)), ld_nI (by omega) (by omega), Option.bind_some, ld_nI (by omega) (by omega), Option.bind_some, g1.1, g2.1, hD, ld_nI (by omega) (by omega), Option.bind_some, ld_nI (by omega) (by omega), Option.bind_some, nI_1, mk_or1 (n := n) hn (by omega)]
      simp only [z1]
      have same : du D g i j = false → mkN (fun k => decide (k < j) && du D g i k) n = mkN (fun k => decide (k < j + 1) && du D g i k) n := by
        intro hd
        refine mkN_congr (fun k _ => ?_)
        by_cases e : k = j
        · subst e; rw [hd, Bool.and_false, Bool.and_false]
        · rw [show decide (k < j + 1) = decide (k < j) by rw [decide_eq_decide]; omega]
      by_cases e1 : g j = g i
      · rw [if_neg (fun z => z e1)]
        by_cases e2 : D.getD i 0 ≤ D.getD j 0
        · rw [if_pos e2, same]
          · exact ih
          · unfold du
            rw [decide_eq_false (Int32.not_lt.mpr e2), Bool.and_false]
        · rw [if_neg e2]
          have hm : mkN (fun k => (decide (k < j) && du D g i k) || decide (k = j)) n = mkN (fun k => decide (k < j + 1) && du D g i k) n := by
            refine mkN_congr (fun k _ => ?_)
            by_cases e : k = j
            · subst e
              have : du D g i k = true := by unfold du; rw [decide_eq_true e1, decide_eq_true (Int32.not_le.mp e2)]; rfl
              rw [this]; simp
            · rw [show decide (k < j + 1) = decide (k < j) by rw [decide_eq_decide]; omega, decide_eq_false e, Bool.or_false]
          rw [hm]
          exact ih
      · rw [if_pos e1, same]
        · exact ih
        · unfold du
          rw [decide_eq_false e1, Bool.false_and]
  exact (congrArg (fun x => Stacks_dugFrom_p4 N c N (nI i) x 0) h0).trans (main N 0 (Nat.zero_le _) (by omega))
/-- the mask of one more -/
theorem mask_kid (hn : n ≤ 8) {g : Nat → Nat} {f s : Nat} : mkN (fun k => db D g f k || (decide (k < f) && du D (lyu g f s) f k)) n = mkN (db D (lyu g f s) (f + 1)) n := by
  refine mkN_congr (fun k _ => ?_)
  rw [db_succ, db_congr f (lyu_lt g)]
theorem ht_kid {g : Nat → Nat} {f s v : Nat} : ht (lyu g f s) v (f + 1) = ht g v f + if s = v then 1 else 0 := by
  show ht (lyu g f s) v f + (if lyu g f s f = v then 1 else 0) = _
  rw [ht_congr f (lyu_lt g), lyu_same]
theorem fe_kid {g : Nat → Nat} {f s : Nat} (h : fe B H g f) (hs : s < B) (hh : ht g s f < H) : fe B H (lyu g f s) (f + 1) := by
  intro j hj
  by_cases q : j = f
  · subst q
    rw [lyu_same, ht_congr j (lyu_lt g)]
    exact ⟨hs, hh⟩
  · have := fe_congr (h := lyu g f s) (fun i hi => (lyu_lt g i hi).symm) h j (by omega)
    exact this
def PlOk (N n B H : Nat) (D : List Int32) (d f : Nat) : Prop := ∀ (c : St) (g : Nat → Nat) (o : Option (Nat → Nat)) (used : Nat), Ls n B H D g f o c → fe B H g f → (∀ j, j < f → g j < used) → used ≤ B → Bst B H D n (below g f) o → ∃ c1 o1, Stacks_place N d c (nI f) (nI used) (nI (mkN (db D g f) n)) = some c1 ∧ Fm (mks [18]) (mks [52, 53, 54]) c c1 ∧ Bst B H D n (Af g f) o1 ∧ Ls n B H D g f o1 c1
theorem cval_le (hn : n ≤ 8) (o : Option (Nat → Nat)) : cval D n o ≤ 9 := by
  cases o with
  | none => show n + 1 ≤ 9; omega
  | some b => have := bsf_le (db D b n) n; show sco D b n ≤ 9; unfold sco; omega
theorem cut_ex (hn : n ≤ 8) {o : Option (Nat → Nat)} {g : Nat → Nat} {f : Nat} (h : ¬ bsf (db D g f) n < cval D n o) : ∃ b, o = some b ∧ sco D b n ≤ bsf (db D g f) n := by
  have hb := bsf_le (db D g f) n
  cases o with
  | none => exact absurd (show bsf (db D g f) n < n + 1 by omega) h
  | some b => exact ⟨b, rfl, Nat.not_lt.mp h⟩
theorem place_leaf (hn : n ≤ 8) (d : Nat) : PlOk N n B H D (d + 1) n := by
  intro c g o used hS hfe _ _ hB
  have hS0 := hS
  obtain ⟨a1, a2, a3, a4, a5⟩ := hS
  have l53 : (gA c 53).length = 8 := a1.1.1 53
  have l54 : (gA c 54).length = 8 := a1.1.1 54
  have hb := bsf_le (db D g n) n
  have hcv := cval_le (D := D) hn o
  have z : (nI (bsf (db D g n) n) < nI (cval D n o)) = (bsf (db D g n) n < cval D n o) := propext (nI_ltI (by omega) (by omega))
  have un : Stacks_place N (d + 1) c (nI n) (nI used) (nI (mkN (db D g n) n)) = if bsf (db D g n) n < cval D n o then some (sA (sI c 18 (nI (bsf (db D g n) n))) 54 ((gA c 53).take n ++ (gA c 54).drop n)) else some c := by
    show Stacks_place_p0 _ _ _ _ _ _ = _
    unfold Stacks_place_p0
    rw [cnt_mk N hn, Option.bind_some, a4, a1.2.1, if_neg (show ¬ nI n < nI n from Int32.lt_irrefl), Option.bind_some]
    simp only [z]
    have ec : cpy (gA (sI c 18 (nI (bsf (db D g n) n))) 53) (gA (sI c 18 (nI (bsf (db D g n) n))) 54) 0 0 (gI (sI c 18 (nI (bsf (db D g n) n))) 17) = some ((gA c 53).take n ++ (gA c 54).drop n) := by
      rw [gA_sI, gA_sI, gI_sI_ne _ _ (by decide), a1.2.1]
      exact cpy_n (by omega) (by omega) (by omega)
    rw [ec, Option.bind_some]
  rw [un]
  by_cases hc : bsf (db D g n) n < cval D n o
  · rw [if_pos hc]
    have fc : Fm (mks [18]) (mks [52, 53, 54]) c (sA (sI c 18 (nI (bsf (db D g n) n))) 54 ((gA c 53).take n ++ (gA c 54).drop n)) := ((Fm.refl _ _ c).sI rfl).sA rfl (cpy_len (f := gA c 53) (g := gA c 54) (by omega) (by omega))
    refine ⟨_, some g, rfl, fc, Bst_take hB hfe (fun b e => ?_), a1.fr fc, ?_, ?_, rfl, ?_⟩
    · subst e; exact hc
    · rw [gA_sA_ne _ _ (by decide)]; exact a2
    · rw [gA_sA_ne _ _ (by decide)]; exact a3
    · intro b e j hj
      cases e
      rw [gA_sA_same, cpy_get (by omega), if_pos hj]
      exact a3 j hj
  · rw [if_neg hc]
    exact ⟨c, o, rfl, Fm.refl _ _ c, Bst_cut (Nat.le_refl n) hB (cut_ex hn hc), hS0⟩
theorem place_node (hN : 100 < N) (hn : n ≤ 8) (hB4 : B ≤ 4) (hH : H ≤ 8) {d f : Nat} (hf : f < n) (hR : PlOk N n B H D d (f + 1)) : PlOk N n B H D (d + 1) f := by
  intro c g o used hS hfe hus hub hB
  have hS0 := hS
  obtain ⟨a1, a2, a3, a4, a5⟩ := hS
  have hb := bsf_le (db D g f) n
  have hcv := cval_le (D := D) hn o
  have z : (nI (bsf (db D g f) n) < nI (cval D n o)) = (bsf (db D g f) n < cval D n o) := propext (nI_ltI (by omega) (by omega))
  have em : J_min N (nI used + 1) (nI B) = some (nI (min (used + 1) B)) := by
    unfold J_min
    rw [nI_1]
    by_cases q : B < used + 1
    · rw [if_pos ((nI_ltI (by omega) (by omega)).mpr q), Nat.min_eq_right (by omega)]
    · rw [if_neg (fun w => q ((nI_ltI (by omega) (by omega)).mp w)), Nat.min_eq_left (by omega)]
  generalize hT : min (used + 1) B = T at em
  have hTB : T ≤ B := by rw [← hT]; exact Nat.min_le_right _ _
  have un : Stacks_place N (d + 1) c (nI f) (nI used) (nI (mkN (db D g f) n)) = if bsf (db D g f) n < cval D n o then Stacks_place_p61 N (Stacks_place N d) N c (nI f) (nI used) (nI (mkN (db D g f) n)) (nI T) 0 else some c := by
    show Stacks_place_p0 _ _ _ _ _ _ = _
    unfold Stacks_place_p0
    rw [cnt_mk N hn, Option.bind_some, a4, a1.2.1, if_pos ((nI_ltI (by omega) (by omega)).mpr hf), a1.2.2.1, em, Option.bind_some]
    simp only [z]
  rw [un]
  by_cases hc : bsf (db D g f) n < cval D n o
  · rw [if_pos hc]
    have loop : ∀ fu s, s ≤ T → T - s < fu → ∀ (c2 : St) (o2 : Option (Nat → Nat)), Fm (mks [18]) (mks [52, 53, 54]) c c2 → Ls n B H D g f o2 c2 → Bst B H D n (Sq g f s) o2 → ∃ c1 o1, Stacks_place_p61 N (Stacks_place N d) fu c2 (nI f) (nI used) (nI (mkN (db D g f) n)) (nI T) (nI s) = some c1 ∧ Fm (mks [18]) (mks [52, 53, 54]) c c1 ∧ Bst B H D n (Af g f) o1 ∧ Ls n B H D g f o1 c1 := by
      refine for_up (P := fun fu s => ∀ (c2 : St) (o2 : Option (Nat → Nat)), Fm (mks [18]) (mks [52, 53, 54]) c c2 → Ls n B H D g f o2 c2 → Bst B H D n (Sq g f s) o2 → ∃ c1 o1, Stacks_place_p61 N (Stacks_place N d) fu c2 (nI f) (nI used) (nI (mkN (db D g f) n)) (nI T) (nI s) = some c1 ∧ Fm (mks [18]) (mks [52, 53, 54]) c c1 ∧ Bst B H D n (Af g f) o1 ∧ Ls n B H D g f o1 c1) ?_ ?_
      · intro fu c2 o2 fc hS2 hB2
        refine ⟨c2, o2, ?_, fc, Bst_sym hB2 hT.symm hus hf, hS2⟩
        show Stacks_place_p61b _ _ _ _ _ _ _ _ _ = _
        unfold Stacks_place_p61b
        rw [if_pos (nI_stop T)]
      · intro fu s hs ih c2 o2 fc hS2 hB2
        have hS20 := hS2
        obtain ⟨b1, b2, b3, b4, b5⟩ := hS2
        have l52 : (gA c2 52).length = 4 := b1.1.1 52
        have l53 : (gA c2 53).length = 8 := b1.1.1 53
        have d52 : ld (gA c2 52) (nI s) = some (nI (ht g s f)) := by rw [ld_nI (by omega) (by omega), b2 s (by omega)]
        have hhl := ht_le (s := s) f hfe
        have zH : (nI H ≤ nI (ht g s f)) = (H ≤ ht g s f) := propext (nI_leI (by omega) (by omega))
        by_cases hh : H ≤ ht g s f
        · have hsk : Bst B H D n (Sq g f (s + 1)) o2 := by
            refine Bst_skip hB2 (Or.inl (fun a h1 h2 h3 => ?_))
            have h4 := (h3 f hf).2
            rw [h2, ht_congr f h1] at h4
            omega
          obtain ⟨c1, o1, y⟩ := ih c2 o2 fc hS20 hsk
          refine ⟨c1, o1, ?_, y.2⟩
          rw [← y.1]
          show Stacks_place_p61b _ _ _ _ _ _ _ _ _ = _
          unfold Stacks_place_p61b Stacks_place_p134
          rw [if_neg (nI_on hs (by omega)), d52, Option.bind_some, b1.2.2.2.1]
          simp only [zH]
          rw [if_pos hh, nI_1]
        · have fc2 : Fm (mks [18]) (mks [52, 53, 54]) c2 (sA (sA c2 52 ((gA c2 52).set s (nI (ht g s f + 1)))) 53 ((gA c2 53).set f (nI s))) := ((Fm.refl _ _ c2).sA rfl List.length_set).sA rfl (by rw [List.length_set, gA_sA_ne _ _ (by decide)])
          generalize hc3 : sA (sA c2 52 ((gA c2 52).set s (nI (ht g s f + 1)))) 53 ((gA c2 53).set f (nI s)) = c3 at fc2
          have g53 : ∀ j, j < f + 1 → (gA c3 53).getD j 0 = nI (lyu g f s j) := by
            intro j hj
            rw [← hc3, gA_sA_same, getD_set (by omega)]
            by_cases q : j = f
            · rw [if_pos q, q, lyu_same]
            · rw [if_neg q, lyu_ne g q]; exact b3 j (by omega)
          have hS3 : Ls n B H D (lyu g f s) (f + 1) o2 c3 := by
            refine ⟨b1.fr fc2, ?_, g53, ?_, ?_⟩
            · intro v hv
              rw [← hc3, gA_sA_ne _ _ (by decide), gA_sA_same, getD_set (by omega), ht_kid]
              by_cases q : v = s
              · rw [if_pos q, if_pos q.symm, q]
              · rw [if_neg q, if_neg (fun w => q w.symm), Nat.add_zero]; exact b2 v hv
            · rw [← hc3]; exact b4
            · rw [← hc3, gA_sA_ne _ _ (by decide), gA_sA_ne _ _ (by decide)]; exact b5
          have hfe3 := fe_kid hfe (show s < B by omega) (Nat.not_le.mp hh)
          have hus3 : ∀ j, j < f + 1 → lyu g f s j < max used (s + 1) := by
            intro j hj
            by_cases q : j = f
            · rw [q, lyu_same]; exact Nat.lt_of_lt_of_le (Nat.lt_succ_self s) (Nat.le_max_right _ _)
            · rw [lyu_ne g q]; exact Nat.lt_of_lt_of_le (hus j (by omega)) (Nat.le_max_left _ _)
          have hub3 : max used (s + 1) ≤ B := Nat.max_le.mpr ⟨hub, by omega⟩
          obtain ⟨c4, o4, y1, y2, y3, y4⟩ := hR c3 (lyu g f s) o2 (max used (s + 1)) hS3 hfe3 hus3 hub3 (Bst_iff hB2 (fun a => kidB.symm))
          have y3' : Bst B H D n (Sq g f (s + 1)) o4 := Bst_iff y3 (fun a => kidA)
          obtain ⟨e1, e2, e3, e4, e5⟩ := y4
          have l52' : (gA c4 52).length = 4 := e1.1.1 52
          have h52 : ld (gA c4 52) (nI s) = some (nI (ht g s f + 1)) := by rw [ld_nI (by omega) (by omega), e2 s (by omega), ht_kid, if_pos rfl]
          have fc5 : Fm (mks [18]) (mks [52, 53, 54]) c4 (sA c4 52 ((gA c4 52).set s (nI (ht g s f)))) := (Fm.refl _ _ c4).sA rfl List.length_set
          have hS5 : Ls n B H D g f o4 (sA c4 52 ((gA c4 52).set s (nI (ht g s f)))) := by
            refine ⟨e1.fr fc5, ?_, ?_, e4, ?_⟩
            · intro v hv
              rw [gA_sA_same, getD_set (by omega)]
              by_cases q : v = s
              · rw [if_pos q, q]
              · rw [if_neg q, e2 v hv, ht_kid, if_neg (fun w => q w.symm), Nat.add_zero]
            · intro j hj
              rw [gA_sA_ne _ _ (by decide), e3 j (by omega), lyu_lt g j hj]
            · rw [gA_sA_ne _ _ (by decide)]; exact e5
          obtain ⟨c1, o1, w1, w2⟩ := ih _ o4 (fc.trans (fc2.trans (y2.trans fc5))) hS5 y3'
          refine ⟨c1, o1, ?_, w2⟩
          rw [← w1]
          have hdug := dug_ok (N := N) (c := c3) (g := lyu g f s) (i := f) hN hn (b1.fr fc2).2.2.2.2 (b1.fr fc2).1 hf (fun j hj => ⟨g53 j (by omega), by
            have := (hfe3 j (by omega)).1
            omega⟩)
          have g52 : gA (sA c2 52 ((gA c2 52).set s (nI (ht g s f + 1)))) 53 = gA c2 53 := gA_sA_ne _ _ (by decide)
          show Stacks_place_p61b _ _ _ _ _ _ _ _ _ = _
          unfold Stacks_place_p61b Stacks_place_p134
          rw [if_neg (nI_on hs (by omega)), d52, Option.bind_some, b1.2.2.2.1]
          simp only [zH]
          rw [if_neg hh, Option.bind_some, nI_1, sto_nI (by omega) (by omega), Option.bind_some, g52, sto_nI (by omega) (by omega), Option.bind_some, hc3, nI_1, maxn_ok (by omega) (by omega), Option.bind_some, hdug, Option.bind_some, or_nI, mkN_or, mask_kid hn, nI_1, y1, Option.bind_some, h52, Option.bind_some, nI_pred, sto_nI (by omega) (by omega), Option.bind_some]
    exact loop N 0 (Nat.zero_le _) (by omega) c o (Fm.refl _ _ c) hS0 (Bst_zero hB)
  · rw [if_neg hc]
    exact ⟨c, o, rfl, Fm.refl _ _ c, Bst_cut (by omega) hB (cut_ex hn hc), hS0⟩
theorem place_all (hN : 100 < N) (hn : n ≤ 8) (hB4 : B ≤ 4) (hH : H ≤ 8) : ∀ k d f, n - f = k → f ≤ n → k < d → PlOk N n B H D d f := by
  intro k
  induction k with
  | zero =>
    intro d f h1 h2 h3
    obtain ⟨d, rfl⟩ : ∃ E, d = E + 1 := ⟨d - 1, by omega⟩
    have : f = n := by omega
    subst this
    exact place_leaf hn d
  | succ k ih =>
    intro d f h1 h2 h3
    obtain ⟨d, rfl⟩ : ∃ E, d = E + 1 := ⟨d - 1, by omega⟩
    exact place_node hN hn hB4 hH (by omega) (ih d (f + 1) (by omega) (by omega) (by omega))
theorem Bst_start (g : Nat → Nat) : Bst B H D n (below g 0) none := ⟨fun b hb => (by cases hb), fun a ha => by
  obtain ⟨j, hj, -⟩ := ha
  exact absurd hj (Nat.not_lt_zero j)⟩
theorem layBest_ok (hN : 100 < N) (hn : n ≤ 8) (hB4 : B ≤ 4) (hH : H ≤ 8) (hL : LenC c) (e17 : gI c 17 = nI n) (hD : gA c 51 = D) (h52 : gA c 52 = [0, 0, 0, 0]) : ∃ c1 o, Stacks_layBest N c (nI B) (nI H) = some (if n < cval D n o then 0 else 1, c1) ∧ Fm (mks [18, 19, 20]) (mks [52, 53, 54]) c c1 ∧ Bst B H D n (Af (fun _ => 0) 0) o ∧ gI c1 18 = nI (cval D n o) ∧ (∀ b, o = some b → ∀ j, j < n → (gA c1 54).getD j 0 = nI (b j)) ∧ gA c1 52 = [0, 0, 0, 0] := by
  have f0 : Fm (mks [18, 19, 20]) (mks [52, 53, 54]) c (sI (sI (sI c 19 (nI B)) 20 (nI H)) 18 (nI (n + 1))) := (((Fm.refl _ _ c).sI rfl).sI rfl).sI rfl
  have hS : Ls n B H D (fun _ => 0) 0 none (sI (sI (sI c 19 (nI B)) 20 (nI H)) 18 (nI (n + 1))) := by
    refine ⟨⟨LenC_fr hL f0, e17, rfl, rfl, hD⟩, fun s hs => ?_, fun j hj => absurd hj (Nat.not_lt_zero j), rfl, fun b hb => by cases hb⟩
    rw [gA_sI, gA_sI, gA_sI, h52]
    have : s = 0 ∨ s = 1 ∨ s = 2 ∨ s = 3 := by omega
    rcases this with rfl | rfl | rfl | rfl <;> rfl
  obtain ⟨c1, o, y1, y2, y3, y4⟩ := place_all (N := N) (D := D) hN hn hB4 hH n 10 0 (by omega) (Nat.zero_le _) (by omega) _ (fun _ => 0) none 0 hS (fun j hj => absurd hj (Nat.not_lt_zero j)) (fun j hj => absurd hj (Nat.not_lt_zero j)) (Nat.zero_le _) (Bst_start _)
  have em : mkN (db D (fun _ => 0) 0) n = 0 := mk_false n
  rw [em] at y1
  have hcv := cval_le (D := D) hn o
  have f1 : Fm (mks [18, 19, 20]) (mks [52, 53, 54]) c c1 := f0.trans (y2.mono (mks_le (by decide)) (mks_le (by decide)))
  obtain ⟨a1, a2, a3, a4, a5⟩ := y4
  refine ⟨c1, o, ?_, f1, y3, a4, a5, ?_⟩
  · unfold Stacks_layBest
    have e1 : gI (sI (sI c 19 (nI B)) 20 (nI H)) 17 = nI n := e17
    have y1' : Stacks_place N 10 (sI (sI (sI c 19 (nI B)) 20 (nI H)) 18 (nI (n + 1))) 0 0 0 = some c1 := y1
    have z : (nI n < nI (cval D n o)) = (n < cval D n o) := propext (nI_ltI (by omega) (by omega))
    rw [e1, nI_1, y1', Option.bind_some, a1.2.1, a4]
    simp only [z]
    by_cases q : n < cval D n o
    · rw [if_pos q, if_pos q]
    · rw [if_neg q, if_neg q]
  · refine list_ext (a1.1.1 52) (fun k hk => ?_)
    have l : (gA c1 52).length = 4 := a1.1.1 52
    rw [a2 k (by omega)]
    have : k = 0 ∨ k = 1 ∨ k = 2 ∨ k = 3 := by omega
    rcases this with rfl | rfl | rfl | rfl <;> rfl
set_option maxRecDepth 10000 in
theorem ones_tab : ∀ x, x < 256 → x ≠ 0 → nI x &&& (nI x - 1) = nI (x &&& (x - 1)) ∧ bsf (x &&& (x - 1)).testBit 8 + 1 = bsf x.testBit 8 := by decide +kernel
theorem ones_loop : ∀ f x acc, x < 256 → bsf x.testBit 8 < f → R_ones_p4 N f (nI acc) (nI x) = some (nI (acc + bsf x.testBit 8)) := by
  intro f
  induction f with
  | zero => intro x acc _ h; omega
  | succ f ih =>
    intro x acc hx h
    show R_ones_p4b _ _ _ _ = _
    unfold R_ones_p4b
    by_cases q : x = 0
    · subst q
      rw [if_pos nI_0]
      rfl
    · obtain ⟨t1, t2⟩ := ones_tab x hx q
      rw [if_neg (nI_ne0 (by omega) (by omega)), t1, nI_1, ih _ _ (Nat.lt_of_le_of_lt Nat.and_le_left hx) (by omega)]
      exact congrArg (fun z => some (nI z)) (by omega)
theorem ones_mk (hN : 100 < N) {b : Nat → Bool} (hn : n ≤ 8) : R_ones N (nI (mkN b n)) = some (nI (bsf b n)) := by
  have h1 := cnt_mk N (b := b) hn
  rw [cnt_ok N (mk_lt8 hn)] at h1
  have h2 := bsf_le (mkN b n).testBit 8
  have := ones_loop (N := N) N (mkN b n) 0 (mk_lt8 hn) (by omega)
  unfold R_ones
  rw [← h1, ← Nat.zero_add (bsf (mkN b n).testBit 8)]
  exact this
def RC (n : Nat) (D : List Int32) (r : St) : Prop := LenR r ∧ gI r 12 = nI n ∧ gA r 15 = D
theorem RC.fr {r1 : St} (h : RC n D r) (hr : Fm (mks [33]) (mks [32, 33, 34, 35]) r r1) : RC n D r1 := ⟨LenR_fr h.1 hr, (hr.1 12 rfl).trans h.2.1, (hr.2.1 15 rfl).trans h.2.2⟩
/-- the reference on its way -/
def Rs (n B H : Nat) (D : List Int32) (g : Nat → Nat) (i : Nat) (o : Option (Nat → Nat)) (r : St) : Prop := RC n D r ∧ (∀ s, s < 4 → (gA r 33).getD s 0 = nI (ht g s i)) ∧ (∀ j, j < i → (gA r 32).getD j 0 = nI (g j)) ∧ (∀ j, j ≤ i → (gA r 34).getD j 0 = nI (mkN (db D g j) n)) ∧ gI r 33 = rval D n o ∧ ∀ b, o = some b → ∀ j, j < n → (gA r 35).getD j 0 = nI (b j)
theorem dugR_ok (hN : 100 < N) (hn : n ≤ 8) {g : Nat → Nat} {i s : Nat} {o : Option (Nat → Nat)} (hS : Rs n B H D g i o r) (hi : i < n) (hg : ∀ j, j < i → g j < 4) (hs : s < 4) : R_dugWith N r (nI i) (nI s) = some (nI (mkN (db D (lyu g i s) (i + 1)) n)) := by
  obtain ⟨⟨a1, a2, a3⟩, b2, b3, b4, -⟩ := hS
  have l15 : D.length = 8 := by rw [← a3]; exact a1.1 15
  have l32 : (gA r 32).length = 9 := a1.1 32
  have l34 : (gA r 34).length = 9 := a1.1 34
  unfold R_dugWith
  rw [ld_nI (by omega) (by omega), Option.bind_some, b4 i (Nat.le_refl i), ← mask_kid hn]
  have h0 : mkN (db D g i) n = mkN (fun k => db D g i k || (decide (k < 0) && du D (lyu g i s) i k)) n := mkN_congr (fun k _ => by simp)
  rw [h0]
  have main : ∀ f j, j ≤ i → i - j < f → R_dugWith_p10 N r f (nI i) (nI s) (nI (mkN (fun k => db D g i k || (decide (k < j) && du D (lyu g i s) i k)) n)) (nI j) = some (nI (mkN (fun k => db D g i k || (decide (k < i) && du D (lyu g i s) i k)) n)) := by
    refine for_up (P := fun f j => R_dugWith_p10 N r f (nI i) (nI s) (nI (mkN (fun k => db D g i k || (decide (k < j) && du D (lyu g i s) i k)) n)) (nI j) = some (nI (mkN (fun k => db D g i k || (decide (k < i) && du D (lyu g i s) i k)) n))) ?_ ?_
    · intro f
      show R_dugWith_p10b _ _ _ _ _ _ _ = _
      unfold R_dugWith_p10b
      rw [if_pos (nI_stop i)]
    · intro f j hj ih
      have g1 := hg j hj
      have z1 : (nI (g j) = nI s) = (g j = s) := propext (nI_eq (by omega) (by omega))
      have hdu : du D (lyu g i s) i j = (decide (g j = s) && decide (D.getD j 0 < D.getD i 0)) := by
        unfold du
        rw [lyu_same, lyu_lt g j hj]
      show R_dugWith_p10b _ _ _ _ _ _ _ = _
      unfold R_dugWith_p10b R_dugWith_p51 R_dugWith_p52
      rw [if_neg (nI_on hj (by omega)), ld_nI (by omega) (by omega), Option.bind_some, b3 j hj, a3, ld_nI (by omega) (by omega), Option.bind_some, ld_nI (by omega) (by omega), Option.bind_some, nI_1, mk_or1 (n := n) hn (by omega), Int32.or_zero]
      simp only [z1]
      have same : du D (lyu g i s) i j = false → mkN (fun k => db D g i k || (decide (k < j) && du D (lyu g i s) i k)) n = mkN (fun k => db D g i k || (decide (k < j + 1) && du D (lyu g i s) i k)) n := by
        intro hd
        refine mkN_congr (fun k _ => ?_)
        by_cases e : k = j
        · subst e; rw [hd, Bool.and_false, Bool.and_false]
        · rw [show decide (k < j + 1) = decide (k < j) by rw [decide_eq_decide]; omega]
      by_cases e1 : g j = s
      · rw [if_neg (fun z => z e1)]
        by_cases e2 : D.getD i 0 ≤ D.getD j 0
        · rw [if_pos e2, same]
          · exact ih
          · rw [hdu, decide_eq_false (Int32.not_lt.mpr e2), Bool.and_false]
        · rw [if_neg e2]
          have hm : mkN (fun k => (db D g i k || (decide (k < j) && du D (lyu g i s) i k)) || decide (k = j)) n = mkN (fun k => db D g i k || (decide (k < j + 1) && du D (lyu g i s) i k)) n := by
            refine mkN_congr (fun k _ => ?_)
            by_cases e : k = j
            · subst e
              have : du D (lyu g i s) i k = true := by rw [hdu, decide_eq_true e1, decide_eq_true (Int32.not_le.mp e2)]; rfl
              rw [this]; simp
            · rw [show decide (k < j + 1) = decide (k < j) by rw [decide_eq_decide]; omega, decide_eq_false e, Bool.or_false]
          rw [hm]
          exact ih
      · rw [if_pos e1, same]
        · exact ih
        · rw [hdu, decide_eq_false e1, Bool.false_and]
  exact main N 0 (Nat.zero_le _) (by omega)
theorem nI_m1 (i : Nat) : nI (i + 1) + (-1) = nI i := by
  rw [← Int32.sub_eq_add_neg]
  exact nI_pred i
/-- what the reference's search below depth i is to do, in at most C rounds -/
def SkOk (N n B H : Nat) (D : List Int32) (i C : Nat) : Prop := ∀ (r : St) (g : Nat → Nat) (o : Option (Nat → Nat)), Rs n B H D g i o r → (gA r 32).getD i 0 = -1 → fe B H g i → (∀ b, o = some b → bsf (db D g i) n < sco D b n) → Bst B H D n (below g i) o → ∃ t r1 o1, t ≤ C ∧ (∀ fu, R_seekLaid_p41 N (fu + t) r (nI B) (nI H) (nI i) = R_seekLaid_p41 N fu r1 (nI B) (nI H) (nI i + (-1))) ∧ Fm (mks [33]) (mks [32, 33, 34, 35]) r r1 ∧ Rs n B H D g i o1 r1 ∧ Bst B H D n (Af g i) o1
theorem seek_leaf (hN : 100 < N) (hn : n ≤ 8) : SkOk N n B H D n 1 := by
  intro r g o hS _ hfe hbet hB
  obtain ⟨a1, b2, b3, b4, b5, b6⟩ := hS
  have l32 : (gA r 32).length = 9 := a1.1.1 32
  have l34 : (gA r 34).length = 9 := a1.1.1 34
  have l35 : (gA r 35).length = 8 := a1.1.1 35
  have fr0 : Fm (mks [33]) (mks [32, 33, 34, 35]) r (sI r 33 (nI (bsf (db D g n) n))) := (Fm.refl _ _ r).sI rfl
  have cp : ∃ r1, (∀ kb, R_seekLaid_p69 N kb N (sI r 33 (nI (bsf (db D g n) n))) (nI B) (nI H) (nI n) 0 = kb r1 (nI B) (nI H) (nI n + (-1))) ∧ Fm (mks []) (mks [35]) (sI r 33 (nI (bsf (db D g n) n))) r1 ∧ ∀ j, j < n → (gA r1 35).getD j 0 = nI (g j) := by
    refine for_up (P := fun f j => ∀ r2, Fm (mks []) (mks [35]) (sI r 33 (nI (bsf (db D g n) n))) r2 → (∀ i, i < j → (gA r2 35).getD i 0 = nI (g i)) → ∃ r1, (∀ kb, R_seekLaid_p69 N kb f r2 (nI B) (nI H) (nI n) (nI j) = kb r1 (nI B) (nI H) (nI n + (-1))) ∧ Fm (mks []) (mks [35]) (sI r 33 (nI (bsf (db D g n) n))) r1 ∧ ∀ j, j < n → (gA r1 35).getD j 0 = nI (g j)) (m := n) ?_ ?_ N 0 (Nat.zero_le _) (by omega) _ (Fm.refl _ _ _) (fun i hi => absurd hi (Nat.not_lt_zero i))
    · intro f r2 f2 h2
      refine ⟨r2, fun kb => ?_, f2, h2⟩
      show R_seekLaid_p69b _ _ _ _ _ _ _ _ = _
      unfold R_seekLaid_p69b
      have e12 : gI r2 12 = nI n := (f2.1 12 rfl).trans a1.2.1
      rw [e12, if_pos (nI_stop n)]
    · intro f j hj ih r2 f2 h2
      have e12 : gI r2 12 = nI n := (f2.1 12 rfl).trans a1.2.1
      have e32 : gA r2 32 = gA r 32 := f2.2.1 32 rfl
      have l2 : (gA r2 35).length = 8 := (f2.len 35).trans l35
      obtain ⟨r1, y1, y2⟩ := ih (sA r2 35 ((gA r2 35).set j (nI (g j)))) (f2.sA rfl List.length_set) (fun i hi => by
        rw [gA_sA_same, getD_set (by omega)]
        by_cases q : i = j
        · rw [if_pos q, q]
        · rw [if_neg q]; exact h2 i (by omega))
      refine ⟨r1, fun kb => ?_, y2⟩
      rw [← y1 kb]
      show R_seekLaid_p69b _ _ _ _ _ _ _ _ = _
      unfold R_seekLaid_p69b
      rw [e12, if_neg (nI_on hj (by omega)), e32, ld_nI (by omega) (by omega), Option.bind_some, b3 j hj, sto_nI (by omega) (by omega), Option.bind_some, nI_1]
  obtain ⟨r1, y1, y2, y3⟩ := cp
  have fr1 : Fm (mks [33]) (mks [32, 33, 34, 35]) r r1 := fr0.trans (y2.mono (mks_le (by decide)) (mks_le (by decide)))
  refine ⟨1, r1, some g, Nat.le_refl 1, fun fu => ?_, fr1, ⟨a1.fr fr1, ?_, ?_, ?_, ?_, ?_⟩, Bst_take hB hfe hbet⟩
  · show R_seekLaid_p41b _ _ _ _ _ _ = _
    unfold R_seekLaid_p41b
    rw [if_neg (nI_pos (by omega)), a1.2.1, if_neg (fun z => z rfl), ld_nI (by omega) (by omega), Option.bind_some, b4 n (Nat.le_refl n), ones_mk hN hn, Option.bind_some]
    exact y1 _
  · rw [y2.2.1 33 rfl]; exact b2
  · rw [y2.2.1 32 rfl]; exact b3
  · rw [y2.2.1 34 rfl]; exact b4
  · exact y2.1 33 rfl
  · intro b e j hj
    cases e
    exact y3 j hj
theorem rval_m1 (hn : n ≤ 8) {o : Option (Nat → Nat)} : (rval D n o = (-1 : Int32)) = (o = none) := by
  cases o with
  | none => exact propext ⟨fun _ => rfl, fun _ => rfl⟩
  | some b =>
    have := bsf_le (db D b n) n
    exact propext ⟨fun z => absurd z (nI_ne_m1 (by unfold sco; omega)), fun z => by cases z⟩
theorem seek_loop (hN : 100 < N) (hn : n ≤ 8) (hB4 : B ≤ 4) (hH : H ≤ 8) {i C : Nat} (hi : i < n) (hR : SkOk N n B H D (i + 1) C) : ∀ k s, B - s = k → s ≤ B → ∀ (r : St) (g : Nat → Nat) (o : Option (Nat → Nat)), Rs n B H D g i o r → fe B H g i → Bst B H D n (Sq g i s) o → ∃ t r1 o1, t ≤ k * (C + 1) ∧ (∀ fu fi, k < fi → R_seekLaid_p139 N (R_seekLaid_p41 N (fu + t)) fi r (nI B) (nI H) (nI i) (nI s) = R_seekLaid_p41 N fu r1 (nI B) (nI H) (nI i + (-1))) ∧ Fm (mks [33]) (mks [32, 33, 34, 35]) r r1 ∧ Rs n B H D g i o1 r1 ∧ Bst B H D n (Af g i) o1 := by
  intro k
  induction k with
  | zero =>
    intro s h1 h2 r g o hS hfe hB
    have hs : s = B := by omega
    subst hs
    obtain ⟨a1, b2, b3, b4, b5, b6⟩ := hS
    have l32 : (gA r 32).length = 9 := a1.1.1 32
    have fr1 : Fm (mks [33]) (mks [32, 33, 34, 35]) r (sA r 32 ((gA r 32).set i (-1))) := (Fm.refl _ _ r).sA rfl List.length_set
    refine ⟨0, sA r 32 ((gA r 32).set i (-1)), o, Nat.zero_le _, fun fu fi hfi => ?_, fr1, ⟨a1.fr fr1, ?_, ?_, ?_, b5, ?_⟩, ?_⟩
    · obtain ⟨fi, rfl⟩ : ∃ x, fi = x + 1 := ⟨fi - 1, by omega⟩
      show R_seekLaid_p139b _ _ _ _ _ _ _ _ = _
      unfold R_seekLaid_p139b R_seekLaid_p187 R_seekLaid_p250
      rw [if_pos (nI_stop s), if_neg (fun z => z rfl), sto_nI (by omega) (by omega), Option.bind_some]
      rfl
    · rw [gA_sA_ne _ _ (by decide)]; exact b2
    · intro j hj
      rw [gA_sA_same, getD_set (by omega), if_neg (by omega)]
      exact b3 j hj
    · rw [gA_sA_ne _ _ (by decide)]; exact b4
    · rw [gA_sA_ne _ _ (by decide)]; exact b6
    · refine Bst_mono hB (fun a ha => ?_) (fun a ha hfe2 => Or.inl ?_)
      · rcases ha with ha | ⟨z1, -⟩
        · exact Or.inl ha
        · exact Or.inr z1
      · rcases ha with ha | ha
        · exact Or.inl ha
        · exact Or.inr ⟨ha, (hfe2 i hi).1⟩
  | succ k ih =>
    intro s h1 h2 r g o hS hfe hB
    have hsB : s < B := by omega
    have hS0 := hS
    obtain ⟨a1, b2, b3, b4, b5, b6⟩ := hS
    have l32 : (gA r 32).length = 9 := a1.1.1 32
    have l33 : (gA r 33).length = 4 := a1.1.1 33
    have l34 : (gA r 34).length = 9 := a1.1.1 34
    have hhl := ht_le (s := s) i hfe
    have d33 : ld (gA r 33) (nI s) = some (nI (ht g s i)) := by rw [ld_nI (by omega) (by omega), b2 s (by omega)]
    have zH : (nI (ht g s i) = nI H) = (ht g s i = H) := propext (nI_eq (by omega) (by omega))
    have hdug := dugR_ok (N := N) hN hn hS0 hi (fun j hj => by have := (hfe j hj).1; omega) (show s < 4 by omega)
    have hbl := bsf_le (db D (lyu g i s) (i + 1)) n
    have skip : (∀ a, under g i a → a i = s → ¬ fe B H a n) ∨ (∃ b, o = some b ∧ ∀ a, under g i a → a i = s → sco D b n ≤ sco D a n) → (∀ kb139 kb41, R_seekLaid_p139b N kb41 kb139 r (nI B) (nI H) (nI i) (nI s) = kb139 r (nI B) (nI H) (nI i) (nI (s + 1))) → ∃ t r1 o1, t ≤ (k + 1) * (C + 1) ∧ (∀ fu fi, k + 1 < fi → R_seekLaid_p139 N (R_seekLaid_p41 N (fu + t)) fi r (nI B) (nI H) (nI i) (nI s) = R_seekLaid_p41 N fu r1 (nI B) (nI H) (nI i + (-1))) ∧ Fm (mks [33]) (mks [32, 33, 34, 35]) r r1 ∧ Rs n B H D g i o1 r1 ∧ Bst B H D n (Af g i) o1 := by
      intro hno hun
      obtain ⟨t, r1, o1, y1, y2, y3⟩ := ih (s + 1) (by omega) (by omega) r g o hS0 hfe (Bst_skip hB hno)
      refine ⟨t, r1, o1, Nat.le_trans y1 (Nat.mul_le_mul_right _ (by omega)), fun fu fi hfi => ?_, y3⟩
      obtain ⟨fi, rfl⟩ : ∃ x, fi = x + 1 := ⟨fi - 1, by omega⟩
      rw [← y2 fu fi (by omega)]
      exact hun _ _
    by_cases hh : ht g s i = H
    · refine skip (Or.inl (fun a z1 z2 z3 => ?_)) (fun kb139 kb41 => ?_)
      · have h4 := (z3 i hi).2
        rw [z2, ht_congr i z1] at h4
        omega
      · unfold R_seekLaid_p139b R_seekLaid_p181
        rw [if_neg (nI_on hsB (by omega)), d33, Option.bind_some, if_pos ((nI_eq (by omega) (by omega)).mpr hh), nI_1]
    · by_cases hcut : ∃ b, o = some b ∧ sco D b n ≤ bsf (db D (lyu g i s) (i + 1)) n
      · obtain ⟨b, eb, hle⟩ := hcut
        have hsb := bsf_le (db D b n) n
        refine skip (Or.inr ⟨b, eb, fun a z1 z2 => ?_⟩) (fun kb139 kb41 => ?_)
        · have hu : under (lyu g i s) (i + 1) a := by
            intro j hj
            by_cases q : j = i
            · rw [q, lyu_same]; exact z2
            · rw [lyu_ne g q]; exact z1 j (by omega)
          have := sco_low (D := D) (show i + 1 ≤ n by omega) hu
          omega
        · have e5 : gI r 33 = nI (sco D b n) := by rw [b5, eb]; rfl
          have z6 : ¬ nI (bsf (db D (lyu g i s) (i + 1)) n) < nI (sco D b n) := fun z => by
            have := (nI_ltI (by omega) (by unfold sco; omega)).mp z
            omega
          unfold R_seekLaid_p139b R_seekLaid_p181
          rw [if_neg (nI_on hsB (by omega)), d33, Option.bind_some, if_neg (fun z => hh ((nI_eq (by omega) (by omega)).mp z)), e5, if_neg (nI_ne_m1 (by unfold sco; omega)), hdug, Option.bind_some, ones_mk hN hn, Option.bind_some, if_neg z6, nI_1]
      · have hbet : ∀ b, o = some b → bsf (db D (lyu g i s) (i + 1)) n < sco D b n := fun b eb => Nat.not_le.mp (fun z => hcut ⟨b, eb, z⟩)
        have fe1 := fe_kid hfe hsB (show ht g s i < H by omega)
        -- the next one is laid on s
        have frA : Fm (mks [33]) (mks [32, 33, 34, 35]) r (sA (sA (sA (sA r 34 ((gA r 34).set (i + 1) (nI (mkN (db D (lyu g i s) (i + 1)) n)))) 32 ((gA r 32).set i (nI s))) 33 ((gA r 33).set s (nI (ht g s i + 1)))) 32 (((gA r 32).set i (nI s)).set (i + 1) (-1))) := by
          refine Fm.sA (Fm.sA (Fm.sA (Fm.sA (Fm.refl _ _ r) rfl List.length_set) rfl ?_) rfl ?_) rfl ?_
          · rw [List.length_set, gA_sA_ne _ _ (by decide)]
          · rw [List.length_set, gA_sA_ne _ _ (by decide), gA_sA_ne _ _ (by decide)]
          · rw [List.length_set, gA_sA_ne _ _ (by decide), gA_sA_same]
        have u34 : gA (sA (sA (sA (sA r 34 ((gA r 34).set (i + 1) (nI (mkN (db D (lyu g i s) (i + 1)) n)))) 32 ((gA r 32).set i (nI s))) 33 ((gA r 33).set s (nI (ht g s i + 1)))) 32 (((gA r 32).set i (nI s)).set (i + 1) (-1))) 34 = (gA r 34).set (i + 1) (nI (mkN (db D (lyu g i s) (i + 1)) n)) := by
          rw [gA_sA_ne _ _ (by decide), gA_sA_ne _ _ (by decide), gA_sA_ne _ _ (by decide), gA_sA_same]
        have u33 : gA (sA (sA (sA (sA r 34 ((gA r 34).set (i + 1) (nI (mkN (db D (lyu g i s) (i + 1)) n)))) 32 ((gA r 32).set i (nI s))) 33 ((gA r 33).set s (nI (ht g s i + 1)))) 32 (((gA r 32).set i (nI s)).set (i + 1) (-1))) 33 = (gA r 33).set s (nI (ht g s i + 1)) := by
          rw [gA_sA_ne _ _ (by decide), gA_sA_same]
        have u32 : gA (sA (sA (sA (sA r 34 ((gA r 34).set (i + 1) (nI (mkN (db D (lyu g i s) (i + 1)) n)))) 32 ((gA r 32).set i (nI s))) 33 ((gA r 33).set s (nI (ht g s i + 1)))) 32 (((gA r 32).set i (nI s)).set (i + 1) (-1))) 32 = ((gA r 32).set i (nI s)).set (i + 1) (-1) := gA_sA_same _ _ _
        have uI : gI (sA (sA (sA (sA r 34 ((gA r 34).set (i + 1) (nI (mkN (db D (lyu g i s) (i + 1)) n)))) 32 ((gA r 32).set i (nI s))) 33 ((gA r 33).set s (nI (ht g s i + 1)))) 32 (((gA r 32).set i (nI s)).set (i + 1) (-1))) 33 = gI r 33 := rfl
        have u35 : gA (sA (sA (sA (sA r 34 ((gA r 34).set (i + 1) (nI (mkN (db D (lyu g i s) (i + 1)) n)))) 32 ((gA r 32).set i (nI s))) 33 ((gA r 33).set s (nI (ht g s i + 1)))) 32 (((gA r 32).set i (nI s)).set (i + 1) (-1))) 35 = gA r 35 := by
          rw [gA_sA_ne _ _ (by decide), gA_sA_ne _ _ (by decide), gA_sA_ne _ _ (by decide), gA_sA_ne _ _ (by decide)]
        have goA : ∀ kb, R_seekLaid_p187 N kb r (nI B) (nI H) (nI i) (nI s) = kb (sA (sA (sA (sA r 34 ((gA r 34).set (i + 1) (nI (mkN (db D (lyu g i s) (i + 1)) n)))) 32 ((gA r 32).set i (nI s))) 33 ((gA r 33).set s (nI (ht g s i + 1)))) 32 (((gA r 32).set i (nI s)).set (i + 1) (-1))) (nI B) (nI H) (nI (i + 1)) := by
          intro kb
          have m32 : gA (sA r 34 ((gA r 34).set (i + 1) (nI (mkN (db D (lyu g i s) (i + 1)) n)))) 32 = gA r 32 := gA_sA_ne _ _ (by decide)
          have m33 : gA (sA (sA r 34 ((gA r 34).set (i + 1) (nI (mkN (db D (lyu g i s) (i + 1)) n)))) 32 ((gA r 32).set i (nI s))) 33 = gA r 33 := (gA_sA_ne _ _ (by decide)).trans (gA_sA_ne _ _ (by decide))
          have m32' : gA (sA (sA (sA r 34 ((gA r 34).set (i + 1) (nI (mkN (db D (lyu g i s) (i + 1)) n)))) 32 ((gA r 32).set i (nI s))) 33 ((gA r 33).set s (nI (ht g s i + 1)))) 32 = (gA r 32).set i (nI s) := (gA_sA_ne _ _ (by decide)).trans (gA_sA_same _ _ _)
          unfold R_seekLaid_p187 R_seekLaid_p250
          rw [if_pos (show ¬ nI s = nI B from fun z => by have := (nI_eq (by omega) (by omega)).mp z; omega), hdug, Option.bind_some, nI_1, sto_nI (by omega) (by omega), Option.bind_some, m32, sto_nI (by omega) (by omega), Option.bind_some, m33, d33, Option.bind_some, nI_1, sto_nI (by omega) (by omega), Option.bind_some, m32', sto_nI (by rw [List.length_set]; omega) (by omega), Option.bind_some]
        generalize hrA : sA (sA (sA (sA r 34 ((gA r 34).set (i + 1) (nI (mkN (db D (lyu g i s) (i + 1)) n)))) 32 ((gA r 32).set i (nI s))) 33 ((gA r 33).set s (nI (ht g s i + 1)))) 32 (((gA r 32).set i (nI s)).set (i + 1) (-1)) = rA at frA u34 u33 u32 uI u35 goA
        have hSA : Rs n B H D (lyu g i s) (i + 1) o rA := by
          refine ⟨a1.fr frA, ?_, ?_, ?_, uI.trans b5, ?_⟩
          · intro v hv
            rw [u33, getD_set (by omega), ht_kid]
            by_cases q : v = s
            · rw [if_pos q, if_pos q.symm, q]
            · rw [if_neg q, if_neg (fun w => q w.symm), Nat.add_zero]; exact b2 v hv
          · intro j hj
            rw [u32, getD_set (by rw [List.length_set]; omega), if_neg (by omega), getD_set (by omega)]
            by_cases q : j = i
            · rw [if_pos q, q, lyu_same]
            · rw [if_neg q, lyu_ne g q]; exact b3 j (by omega)
          · intro j hj
            rw [u34, getD_set (by omega)]
            by_cases q : j = i + 1
            · rw [if_pos q, q]
            · rw [if_neg q, b4 j (by omega), show mkN (db D g j) n = mkN (db D (lyu g i s) j) n from mkN_congr (fun v _ => db_congr j (fun w hw => (lyu_lt g w (by omega)).symm) v)]
          · rw [u35]; exact b6
        obtain ⟨t1, r1, o1, y1, y2, y3, y4, y5⟩ := hR rA (lyu g i s) o hSA (by rw [u32, getD_set (by rw [List.length_set]; omega), if_pos rfl]) fe1 hbet (Bst_iff hB (fun a => kidB.symm))
        have y5' : Bst B H D n (Sq g i (s + 1)) o1 := Bst_iff y5 (fun a => kidA)
        obtain ⟨d1, e2, e3, e4, e5, e6⟩ := y4
        have l32' : (gA r1 32).length = 9 := d1.1.1 32
        have l33' : (gA r1 33).length = 4 := d1.1.1 33
        have fr2 : Fm (mks [33]) (mks [32, 33, 34, 35]) r1 (sA r1 33 ((gA r1 33).set s (nI (ht g s i)))) := (Fm.refl _ _ r1).sA rfl List.length_set
        have h32 : ld (gA r1 32) (nI i) = some (nI s) := by rw [ld_nI (by omega) (by omega), e3 i (by omega), lyu_same]
        have h33 : ld (gA r1 33) (nI s) = some (nI (ht g s i + 1)) := by rw [ld_nI (by omega) (by omega), e2 s (by omega), ht_kid, if_pos rfl]
        have hS2 : Rs n B H D g i o1 (sA r1 33 ((gA r1 33).set s (nI (ht g s i)))) := by
          refine ⟨d1.fr fr2, ?_, ?_, ?_, e5, ?_⟩
          · intro v hv
            rw [gA_sA_same, getD_set (by omega)]
            by_cases q : v = s
            · rw [if_pos q, q]
            · rw [if_neg q, e2 v hv, ht_kid, if_neg (fun w => q w.symm), Nat.add_zero]
          · intro j hj
            rw [gA_sA_ne _ _ (by decide), e3 j (by omega), lyu_lt g j hj]
          · intro j hj
            rw [gA_sA_ne _ _ (by decide), e4 j (by omega), show mkN (db D (lyu g i s) j) n = mkN (db D g j) n from mkN_congr (fun v _ => db_congr j (fun w hw => lyu_lt g w (by omega)) v)]
          · rw [gA_sA_ne _ _ (by decide)]; exact e6
        obtain ⟨t2, r3, o3, w1, w2, w3⟩ := ih (s + 1) (by omega) (by omega) _ g o1 hS2 hfe y5'
        have hm : (k + 1) * (C + 1) = k * (C + 1) + (C + 1) := by rw [Nat.add_mul, Nat.one_mul]
        refine ⟨t2 + 1 + t1, r3, o3, by omega, fun fu fi hfi => ?_, frA.trans (y3.trans (fr2.trans w3.1)), w3.2⟩
        obtain ⟨fi, rfl⟩ : ∃ x, fi = x + 1 := ⟨fi - 1, by omega⟩
        have go : R_seekLaid_p139b N (R_seekLaid_p41 N (fu + (t2 + 1 + t1))) (R_seekLaid_p139 N (R_seekLaid_p41 N (fu + (t2 + 1 + t1))) fi) r (nI B) (nI H) (nI i) (nI s) = R_seekLaid_p41 N (fu + (t2 + 1 + t1)) rA (nI B) (nI H) (nI (i + 1)) := by
          unfold R_seekLaid_p139b
          rw [if_neg (nI_on hsB (by omega)), d33, Option.bind_some, if_neg (fun z => hh ((nI_eq (by omega) (by omega)).mp z)), b5]
          simp only [rval_m1 hn]
          by_cases ho : o = none
          · rw [if_pos ho, goA]
          · rw [if_neg ho, hdug, Option.bind_some, ones_mk hN hn, Option.bind_some]
            cases o with
            | none => exact absurd rfl ho
            | some b =>
              have hsb := bsf_le (db D b n) n
              have er : rval D n (some b) = nI (sco D b n) := rfl
              rw [er, if_pos (show nI _ < nI (sco D b n) from (nI_ltI (by omega) (by unfold sco; omega)).mpr (hbet b rfl)), goA]
        have back : ∀ fu2, R_seekLaid_p41 N (fu2 + 1) r1 (nI B) (nI H) (nI i) = R_seekLaid_p139 N (R_seekLaid_p41 N fu2) N (sA r1 33 ((gA r1 33).set s (nI (ht g s i)))) (nI B) (nI H) (nI i) (nI (s + 1)) := by
          intro fu2
          show R_seekLaid_p41b _ _ _ _ _ _ = _
          unfold R_seekLaid_p41b R_seekLaid_p129
          have g32 : gA (sA r1 33 ((gA r1 33).set s (nI (ht g s i)))) 32 = gA r1 32 := gA_sA_ne _ _ (by decide)
          rw [if_neg (nI_pos (by omega)), d1.2.1, if_pos (show ¬ nI i = nI n from fun z => by have := (nI_eq (by omega) (by omega)).mp z; omega), h32, Option.bind_some, if_neg (nI_ne_m1 (by omega)), Option.bind_some, h33, Option.bind_some, nI_pred, sto_nI (by omega) (by omega), Option.bind_some, g32, h32, Option.bind_some, nI_1]
        show R_seekLaid_p139b _ _ _ _ _ _ _ _ = _
        rw [go, show fu + (t2 + 1 + t1) = (fu + t2 + 1) + t1 by omega, y2, nI_m1, back, w2 fu N (by omega)]
theorem seek_node (hN : 100 < N) (hn : n ≤ 8) (hB4 : B ≤ 4) (hH : H ≤ 8) {i C : Nat} (hi : i < n) (hR : SkOk N n B H D (i + 1) C) : SkOk N n B H D i (1 + 4 * (C + 1)) := by
  intro r g o hS hm1 hfe _ hB
  obtain ⟨t, r1, o1, y1, y2, y3⟩ := seek_loop hN hn hB4 hH hi hR B 0 (by omega) (Nat.zero_le _) r g o hS hfe (Bst_zero hB)
  obtain ⟨a1, -⟩ := hS
  have l32 : (gA r 32).length = 9 := a1.1.1 32
  have h4 : B * (C + 1) ≤ 4 * (C + 1) := Nat.mul_le_mul_right _ hB4
  refine ⟨1 + t, r1, o1, by omega, fun fu => ?_, y3⟩
  rw [show fu + (1 + t) = fu + t + 1 by omega]
  show R_seekLaid_p41b _ _ _ _ _ _ = _
  have e0 : (-1 : Int32) + 1 = nI 0 := rfl
  unfold R_seekLaid_p41b R_seekLaid_p129
  rw [if_neg (nI_pos (by omega)), a1.2.1, if_pos (show ¬ nI i = nI n from fun z => by have := (nI_eq (by omega) (by omega)).mp z; omega), ld_nI (by omega) (by omega), Option.bind_some, hm1, if_pos rfl, Option.bind_some, e0]
  exact y2 fu N (by omega)
def CC : Nat → Nat
  | 0 => 1
  | m + 1 => 1 + 4 * (CC m + 1)
theorem seek_all (hN : 100 < N) (hn : n ≤ 8) (hB4 : B ≤ 4) (hH : H ≤ 8) : ∀ m i, n - i = m → i ≤ n → SkOk N n B H D i (CC m) := by
  intro m
  induction m with
  | zero =>
    intro i h1 h2
    have : i = n := by omega
    subst this
    exact seek_leaf hN hn
  | succ m ih =>
    intro i h1 h2
    exact seek_node hN hn hB4 hH (by omega) (ih (i + 1) (by omega) (by omega))
theorem CC_le : ∀ m, m ≤ 8 → CC m ≤ 200000 := by decide
theorem seekLaid_ok (hN : 300000 < N) (hn : n ≤ 8) (hB4 : B ≤ 4) (hH : H ≤ 8) (hL : LenR r) (e12 : gI r 12 = nI n) (hD : gA r 15 = D) : ∃ r1 o, R_seekLaid N r (nI B) (nI H) = some r1 ∧ Fm (mks [33]) (mks [32, 33, 34, 35]) r r1 ∧ Bst B H D n (Af (fun _ => 0) 0) o ∧ gI r1 33 = rval D n o ∧ ∀ b, o = some b → ∀ j, j < n → (gA r1 35).getD j 0 = nI (b j) := by
  have l33 : (gA r 33).length = 4 := hL.1 33
  have l32 : (gA r 32).length = 9 := hL.1 32
  have l34 : (gA r 34).length = 9 := hL.1 34
  unfold R_seekLaid
  have main : ∀ f s, s ≤ 4 → 4 - s < f → ∀ r2, Fm (mks [33]) (mks [32, 33, 34, 35]) r r2 → gI r2 33 = -1 → (∀ v, v < s → (gA r2 33).getD v 0 = 0) → ∃ r1 o, R_seekLaid_p7 N f r2 (nI B) (nI H) (nI s) = some r1 ∧ Fm (mks [33]) (mks [32, 33, 34, 35]) r r1 ∧ Bst B H D n (Af (fun _ => 0) 0) o ∧ gI r1 33 = rval D n o ∧ ∀ b, o = some b → ∀ j, j < n → (gA r1 35).getD j 0 = nI (b j) := by
    refine for_up (P := fun f s => ∀ r2, Fm (mks [33]) (mks [32, 33, 34, 35]) r r2 → gI r2 33 = -1 → (∀ v, v < s → (gA r2 33).getD v 0 = 0) → ∃ r1 o, R_seekLaid_p7 N f r2 (nI B) (nI H) (nI s) = some r1 ∧ Fm (mks [33]) (mks [32, 33, 34, 35]) r r1 ∧ Bst B H D n (Af (fun _ => 0) 0) o ∧ gI r1 33 = rval D n o ∧ ∀ b, o = some b → ∀ j, j < n → (gA r1 35).getD j 0 = nI (b j)) ?_ ?_
    · intro f r2 fr e33 h0
      have l32' : (gA r2 32).length = 9 := (fr.len 32).trans l32
      have l34' : (gA r2 34).length = 9 := (fr.len 34).trans l34
      have m32 : gA (sA r2 34 ((gA r2 34).set 0 0)) 32 = gA r2 32 := gA_sA_ne _ _ (by decide)
      have fr3 : Fm (mks [33]) (mks [32, 33, 34, 35]) r2 (sA (sA r2 34 ((gA r2 34).set 0 0)) 32 ((gA r2 32).set 0 (-1))) := ((Fm.refl _ _ r2).sA rfl List.length_set).sA rfl (by rw [List.length_set, m32])
      have hS : Rs n B H D (fun _ => 0) 0 none (sA (sA r2 34 ((gA r2 34).set 0 0)) 32 ((gA r2 32).set 0 (-1))) := by
        refine ⟨⟨LenR_fr (LenR_fr hL fr) fr3, (fr.1 12 rfl).trans e12, ((fr.trans fr3).2.1 15 rfl).trans hD⟩, ?_, fun j hj => absurd hj (Nat.not_lt_zero j), ?_, e33, fun b hb => by cases hb⟩
        · intro s hs
          rw [gA_sA_ne _ _ (by decide), gA_sA_ne _ _ (by decide)]
          exact h0 s hs
        · intro j hj
          rw [gA_sA_ne _ _ (by decide), gA_sA_same, getD_set (by omega), if_pos (by omega), show j = 0 by omega]
          exact congrArg nI (mk_false n).symm
      obtain ⟨t, r1, o1, y1, y2, y3, y4, y5⟩ := seek_all (N := N) (D := D) (by omega) hn hB4 hH n 0 (by omega) (Nat.zero_le _) _ (fun _ => 0) none hS (by rw [gA_sA_same, getD_set (by omega), if_pos rfl]) (fun j hj => absurd hj (Nat.not_lt_zero j)) (fun b hb => by cases hb) (Bst_start _)
      have hC := CC_le n hn
      obtain ⟨-, -, -, -, z5, z6⟩ := y4
      refine ⟨r1, o1, ?_, fr.trans (fr3.trans y3), y5, z5, z6⟩
      show R_seekLaid_p7b _ _ _ _ _ _ = _
      have s34 : sto (gA r2 34) 0 0 = some ((gA r2 34).set 0 0) := sto_nI (k := 0) (by omega) (by omega)
      have s32 : sto (gA r2 32) 0 (-1) = some ((gA r2 32).set 0 (-1)) := sto_nI (k := 0) (by omega) (by omega)
      unfold R_seekLaid_p7b
      rw [if_pos (show (4 : Int32) ≤ nI 4 from nI_stop 4), s34, Option.bind_some, m32, s32, Option.bind_some]
      have y := y2 (N - t)
      rw [show N - t + t = N by omega] at y
      obtain ⟨q, hq⟩ : ∃ q, N - t = q + 1 := ⟨N - t - 1, by omega⟩
      rw [hq] at y
      refine Eq.trans y ?_
      show R_seekLaid_p41b _ _ _ _ _ _ = _
      unfold R_seekLaid_p41b
      rw [if_pos (show nI 0 + (-1) < 0 by decide)]
    · intro f s hs ih r2 fr e33 h0
      have l33' : (gA r2 33).length = 4 := (fr.len 33).trans l33
      obtain ⟨r1, o, y⟩ := ih (sA r2 33 ((gA r2 33).set s 0)) (fr.sA rfl List.length_set) e33 (fun v hv => by
        rw [gA_sA_same, getD_set (by omega)]
        by_cases q : v = s
        · rw [if_pos q]
        · rw [if_neg q]; exact h0 v (by omega))
      refine ⟨r1, o, ?_, y.2⟩
      rw [← y.1]
      show R_seekLaid_p7b _ _ _ _ _ _ = _
      unfold R_seekLaid_p7b
      rw [if_neg (show ¬ (4 : Int32) ≤ nI s from nI_on (m := 4) hs (by omega)), sto_nI (by omega) (by omega), Option.bind_some, nI_1]
  exact main N 0 (Nat.zero_le _) (by omega) _ ((Fm.refl _ _ r).sI rfl) rfl (fun v hv => absurd hv (Nat.not_lt_zero v))
def skA (j : Nat) : Bool := scA j || Nat.beq j 52
theorem Rel.stk {c1 r1 : St} (h : Rel c r) (hc : Fm scI skA c c1) (hr : Fm srI srA r r1) (ht : RStk c1 r1) : Rel c1 r1 := ⟨LenC_fr h.lenC hc, LenR_fr h.lenR hr, h.rHold.frg hc hr (by decide), h.rNow.frg hc hr (by decide), h.rCell.frg hc hr (by decide), h.rEng.frg hc hr (by decide), h.rLots.frg hc hr (by decide), h.rText.frg hc hr (by decide), h.rRead.frg hc hr (by decide), ht, h.rDrv.frg hc hr (by decide), h.rMkt.frg hc hr (by decide), h.rFarm.frg hc hr (by decide), h.rRing.frg hc hr (by decide), h.rCh.frg hc hr (by decide)⟩
theorem S_laid (h : Rel c r) (hN : 300000 < N) (x1 x2 x3 : Int32) : Sim (C_laid N c x1 x2 x3) (R_laid N r x1 x2 x3) := by
  obtain ⟨n, hn, e17, e12, q4, q5, q6⟩ := h.rStk
  have h4 : (4 : Int32).toInt = 4 := rfl
  have h8 : (8 : Int32).toInt = 8 := rfl
  have h1 : (1 : Int32).toInt = 1 := rfl
  have main : (1 ≤ x1 ∧ x1 ≤ 4) → (1 ≤ x2 ∧ x2 ≤ 8) → x3 = 0 ∨ (10 ≤ x3 ∧ x3 ≤ 17) → Sim (C_laid_p40 N c x1 x2 x3) (R_laid_p37 N r x1 x2 x3) := by
    intro g1 g2 g3
    have i1 := ib_of g1
    have i2 := ib_of g2
    obtain ⟨z1, w1⟩ := nat_of (x := x1) (by omega)
    obtain ⟨z2, w2⟩ := nat_of (x := x2) (by omega)
    generalize x1.toNatClampNeg = B at z1 w1
    generalize x2.toNatClampNeg = H at z2 w2
    subst z1
    subst z2
    have hB4 : B ≤ 4 := by omega
    have hH8 : H ≤ 8 := by omega
    have hBH : B * H ≤ 32 := Nat.mul_le_mul hB4 hH8
    obtain ⟨c1, o, a1, a2, a3, a4, a5, a6⟩ := layBest_ok (N := N) (B := B) (H := H) (D := gA c 51) (by omega) hn hB4 hH8 h.lenC e17 rfl q6
    have e17' : gI c1 17 = nI n := (a2.1 17 rfl).trans e17
    have hc1 : Fm scI skA c c1 := a2.mono (mks_le (by decide)) (mks_le (by decide))
    have stk : ∀ r1, Fm (mks [33]) (mks [32, 33, 34, 35]) r r1 → Rel c1 r1 := fun r1 hr => h.stk hc1 (hr.mono (mks_le (by decide)) (mks_le (by decide))) ⟨n, hn, e17', (hr.1 12 rfl).trans e12, by rw [a2.2.1 51 rfl, hr.2.1 15 rfl]; exact q4, by rw [a2.2.1 51 rfl]; exact q5, a6⟩
    have hr0 := stk r (Fm.refl _ _ r)
    have zr : (nI n ≤ nI B * nI H) = (n ≤ B * H) := by
      rw [pk_mul]
      exact propext (nI_leI (by omega) (by omega))
    unfold C_laid_p40 R_laid_p37
    rw [a1, Option.bind_some, e12]
    dsimp only
    simp only [zr]
    by_cases hroom : n ≤ B * H
    · obtain ⟨b, eb⟩ := a3.2 (fun j => j / H) (Or.inr (fun i hi => absurd hi (Nat.not_lt_zero i))) (fe_ex (by omega) hroom)
      obtain ⟨r1, o2, b1, b2, b3, b4, b5⟩ := seekLaid_ok (N := N) (B := B) (H := H) (D := gA c 51) hN hn hB4 hH8 h.lenR e12 q4.symm
      obtain ⟨b', eb'⟩ := b3.2 (fun j => j / H) (Or.inr (fun i hi => absurd hi (Nat.not_lt_zero i))) (fe_ex (by omega) hroom)
      obtain ⟨u1, u2⟩ := Bst_uniq a3 b3 eb eb'
      have hsb := bsf_le (db (gA c 51) b n) n
      have hR := stk r1 b2
      have e12' : gI r1 12 = nI n := (b2.1 12 rfl).trans e12
      have hcv : ¬ n < cval (gA c 51) n o := by rw [eb]; show ¬ n < sco (gA c 51) b n; unfold sco; omega
      have l54 : (gA c1 54).length = 8 := hR.lenC.1 54
      have l35 : (gA r1 35).length = 8 := hR.lenR.1 35
      rw [if_pos hroom, if_neg hcv, if_pos (by decide), b1, Option.bind_some]
      refine Sim.ite (fun g => ?_) (fun _ => ?_)
      · have g4 := ib_of (g3.resolve_left g)
        have e10 : (10 : Int32).toInt = 10 := rfl
        have e17i : (17 : Int32).toInt = 17 := rfl
        have es : (x3 - 10).toInt = x3.toInt - 10 := by rw [sub_toInt (by omega) (by omega), e10]
        obtain ⟨v1, v2⟩ := nat_of (x := x3 - 10) (by omega)
        generalize (x3 - 10).toNatClampNeg = i at v1 v2
        unfold Stacks_stackOf
        rw [v1, e17', e12']
        by_cases q : n ≤ i
        · rw [if_pos ((nI_leI (by omega) (by omega)).mpr q), if_pos ((nI_leI (by omega) (by omega)).mpr q)]
          exact Sim.ret hR
        · rw [if_neg (fun z => q ((nI_leI (by omega) (by omega)).mp z)), if_neg (fun z => q ((nI_leI (by omega) (by omega)).mp z)), ld_nI (by omega) (by omega), ld_nI (by omega) (by omega), a5 b eb i (by omega), b5 b' eb' i (by omega), u2 i (by omega)]
          exact Sim.ret hR
      · have v1 : gI c1 18 = nI (sco (gA c 51) b n) := by rw [a4, eb]; rfl
        have v2 : gI r1 33 = nI (sco (gA c 51) b' n) := by rw [b4, eb']; rfl
        rw [v1, v2, u1]
        exact Sim.ret hR
    · have ho : o = none := by
        cases o with
        | none => rfl
        | some b => exact absurd (fe_no (a3.1 b rfl).2.1) hroom
      have hcv : n < cval (gA c 51) n o := by rw [ho]; show n < n + 1; omega
      rw [if_neg hroom, if_pos hcv, if_neg (fun z => z rfl)]
      exact Sim.ret hr0
  unfold C_laid C_laid_p19 R_laid R_laid_p34
  simp only [C_within_eq, R_in_eq, Option.bind_some, if_bz, if_nbz]
  refine Sim.ite (fun g1 => Sim.ite (fun g2 => Sim.ite (fun g3 => main g1 g2 (Or.inl g3)) (fun _ => Sim.ite (fun g4 => main g1 g2 (Or.inr g4)) (fun _ => Sim.ret h))) (fun _ => Sim.ret h)) (fun _ => Sim.ret h)
end LB
