/-! PURE: laying: which is the first of the best -/
/-- how many of the first i lie on stack s -/
def ht (g : Nat → Nat) (s : Nat) : Nat → Nat
  | 0 => 0
  | i + 1 => ht g s i + if g i = s then 1 else 0
def du (D : List Int32) (g : Nat → Nat) (i k : Nat) : Bool := decide (g k = g i) && decide (D.getD k 0 < D.getD i 0)
/-- is k dug for by one of the first i -/
def db (D : List Int32) (g : Nat → Nat) : Nat → Nat → Bool
  | 0 => fun _ => false
  | i + 1 => fun k => db D g i k || (decide (k < i) && du D g i k)
theorem db_succ (D : List Int32) (g : Nat → Nat) (i k : Nat) : db D g (i + 1) k = (db D g i k || (decide (k < i) && du D g i k)) := rfl
def fe (B H : Nat) (g : Nat → Nat) (n : Nat) : Prop := ∀ j, j < n → g j < B ∧ ht g (g j) j < H
def sco (D : List Int32) (g : Nat → Nat) (n : Nat) : Nat := bsf (db D g n) n
def below (g : Nat → Nat) (f : Nat) (a : Nat → Nat) : Prop := ∃ j, j < f ∧ (∀ i, i < j → a i = g i) ∧ a j < g j
def under (g : Nat → Nat) (f : Nat) (a : Nat → Nat) : Prop := ∀ i, i < f → a i = g i
def Sq (g : Nat → Nat) (f s : Nat) (a : Nat → Nat) : Prop := below g f a ∨ (under g f a ∧ a f < s)
def Af (g : Nat → Nat) (f : Nat) (a : Nat → Nat) : Prop := below g f a ∨ under g f a
def Bst (B H : Nat) (D : List Int32) (n : Nat) (S : (Nat → Nat) → Prop) (o : Option (Nat → Nat)) : Prop := (∀ b, o = some b → S b ∧ fe B H b n ∧ ∀ a, S a → fe B H a n → sco D b n < sco D a n ∨ (sco D b n = sco D a n ∧ ¬ below b n a)) ∧ ∀ a, S a → fe B H a n → ∃ b, o = some b
theorem ht_congr {g h : Nat → Nat} {s : Nat} : ∀ i, (∀ j, j < i → g j = h j) → ht g s i = ht h s i := by
  intro i
  induction i with
  | zero => intro _; rfl
  | succ i ih => intro e; unfold ht; rw [ih (fun j hj => e j (by omega)), e i (by omega)]
theorem db_congr {D : List Int32} {g h : Nat → Nat} : ∀ i, (∀ j, j < i → g j = h j) → ∀ k, db D g i k = db D h i k := by
  intro i
  induction i with
  | zero => intro _ k; rfl
  | succ i ih =>
    intro e k
    rw [db_succ, db_succ, ih (fun j hj => e j (by omega)) k]
    by_cases q : k < i
    · unfold du
      rw [e k (by omega), e i (by omega)]
    · rw [decide_eq_false q]; rfl
theorem fe_congr {B H n : Nat} {g h : Nat → Nat} (e : ∀ j, j < n → g j = h j) (hf : fe B H g n) : fe B H h n := by
  intro j hj
  have := hf j hj
  rw [e j hj, ht_congr j (fun i hi => e i (by omega))] at this
  exact this
theorem fe_le {B H n m : Nat} {g : Nat → Nat} (h : fe B H g n) (hm : m ≤ n) : fe B H g m := fun j hj => h j (by omega)
theorem sco_congr {D : List Int32} {n : Nat} {g h : Nat → Nat} (e : ∀ j, j < n → g j = h j) : sco D g n = sco D h n := bsf_congr n (fun k _ => db_congr n e k)
theorem db_mono {D : List Int32} {g : Nat → Nat} {i k : Nat} (h : db D g i k = true) : ∀ d, db D g (i + d) k = true := by
  intro d
  induction d with
  | zero => exact h
  | succ d ih =>
    rw [← Nat.add_assoc, db_succ, ih]
    rfl
theorem sco_low {D : List Int32} {n f : Nat} {g a : Nat → Nat} (hf : f ≤ n) (h : under g f a) : bsf (db D g f) n ≤ sco D a n := by
  refine (bsf_mono n (fun k _ hk => ?_)).1
  have e : db D a f k = true := by rw [db_congr f h k]; exact hk
  have := db_mono e (n - f)
  rw [show f + (n - f) = n by omega] at this
  exact this
theorem ht_le {B H : Nat} {g : Nat → Nat} {s : Nat} : ∀ i, fe B H g i → ht g s i ≤ H := by
  intro i
  induction i with
  | zero => intro _; exact Nat.zero_le _
  | succ i ih =>
    intro h
    have h1 := ih (fe_le h (by omega))
    unfold ht
    by_cases q : g i = s
    · rw [if_pos q]
      have := (h i (by omega)).2
      rw [q] at this
      omega
    · rw [if_neg q]; exact h1
theorem lex_no {g a b : Nat → Nat} {f s n : Nat} (hb : Sq g f s b) (ha : under g f a) (hs : s ≤ a f) : ¬ below b n a := by
  rintro ⟨k, hk, h1, h2⟩
  rcases hb with ⟨j, hj, e1, e2⟩ | ⟨e1, e2⟩
  · have hcmp : k < j ∨ k = j ∨ j < k := by omega
    rcases hcmp with q | q | q
    · have := ha k (by omega); have := e1 k q; omega
    · subst q; have := ha k hj; omega
    · have := h1 j q; have := ha j hj; omega
  · have hcmp : k < f ∨ k = f ∨ f < k := by omega
    rcases hcmp with q | q | q
    · have := ha k q; have := e1 k q; omega
    · subst q; omega
    · have := h1 f q; omega
def lyu (g : Nat → Nat) (f s i : Nat) : Nat := if i = f then s else g i
theorem lyu_same (g : Nat → Nat) (f s : Nat) : lyu g f s f = s := by unfold lyu; rw [if_pos rfl]
theorem lyu_ne (g : Nat → Nat) {f s i : Nat} (h : i ≠ f) : lyu g f s i = g i := by unfold lyu; rw [if_neg h]
theorem lyu_lt (g : Nat → Nat) {f s : Nat} : ∀ i, i < f → lyu g f s i = g i := fun i hi => lyu_ne g (by omega)
theorem kidB {g a : Nat → Nat} {f s : Nat} : below (lyu g f s) (f + 1) a ↔ Sq g f s a := by
  constructor
  · rintro ⟨j, hj, e1, e2⟩
    by_cases q : j = f
    · subst q
      rw [lyu_same] at e2
      exact Or.inr ⟨fun i hi => by rw [e1 i hi, lyu_lt g i hi], e2⟩
    · rw [lyu_ne g q] at e2
      exact Or.inl ⟨j, by omega, fun i hi => by rw [e1 i hi, lyu_lt g i (by omega)], e2⟩
  · rintro (⟨j, hj, e1, e2⟩ | ⟨e1, e2⟩)
    · exact ⟨j, by omega, fun i hi => by rw [e1 i hi, lyu_lt g i (by omega)], by rw [lyu_lt g j hj]; exact e2⟩
    · exact ⟨f, by omega, fun i hi => by rw [e1 i hi, lyu_lt g i hi], by rw [lyu_same]; exact e2⟩
theorem kidA {g a : Nat → Nat} {f s : Nat} : Af (lyu g f s) (f + 1) a ↔ Sq g f (s + 1) a := by
  constructor
  · rintro (h | h)
    · rcases kidB.mp h with h | ⟨h1, h2⟩
      · exact Or.inl h
      · exact Or.inr ⟨h1, by omega⟩
    · refine Or.inr ⟨fun i hi => by rw [h i (by omega), lyu_lt g i hi], ?_⟩
      have := h f (by omega)
      rw [lyu_same] at this
      omega
  · rintro (h | ⟨h1, h2⟩)
    · exact Or.inl (kidB.mpr (Or.inl h))
    · by_cases q : a f < s
      · exact Or.inl (kidB.mpr (Or.inr ⟨h1, q⟩))
      · refine Or.inr (fun i hi => ?_)
        by_cases z : i = f
        · subst z; rw [lyu_same]; omega
        · rw [lyu_ne g z]; exact h1 i (by omega)
section BS
variable {B H n : Nat} {D : List Int32} {o : Option (Nat → Nat)} {S S2 : (Nat → Nat) → Prop}
theorem Bst_mono (h : Bst B H D n S o) (h1 : ∀ a, S a → S2 a) (h2 : ∀ a, S2 a → fe B H a n → S a ∨ ∃ b, o = some b ∧ sco D b n ≤ sco D a n ∧ ¬ below b n a) : Bst B H D n S2 o := by
  refine ⟨fun b hb => ?_, fun a ha hf => ?_⟩
  · obtain ⟨z1, z2, z3⟩ := h.1 b hb
    refine ⟨h1 b z1, z2, fun a ha hf => ?_⟩
    rcases h2 a ha hf with q | ⟨b2, q1, q2, q3⟩
    · exact z3 a q hf
    · have e : b2 = b := Option.some.inj (q1.symm.trans hb)
      subst e
      by_cases z : sco D b2 n < sco D a n
      · exact Or.inl z
      · exact Or.inr ⟨by omega, q3⟩
  · rcases h2 a ha hf with q | ⟨b, q, -⟩
    · exact h.2 a q hf
    · exact ⟨b, q⟩
theorem Bst_iff (h : Bst B H D n S o) (e : ∀ a, S a ↔ S2 a) : Bst B H D n S2 o := Bst_mono h (fun a ha => (e a).mp ha) (fun a ha _ => Or.inl ((e a).mpr ha))
theorem Bst_take {g : Nat → Nat} (h : Bst B H D n (below g n) o) (hg : fe B H g n) (hb : ∀ b, o = some b → sco D g n < sco D b n) : Bst B H D n (Af g n) (some g) := by
  refine ⟨fun b e => ?_, fun a _ _ => ⟨g, rfl⟩⟩
  cases e
  refine ⟨Or.inr (fun i _ => rfl), hg, fun a ha hf => ?_⟩
  rcases ha with ha | ha
  · obtain ⟨b, e⟩ := h.2 a ha hf
    have h1 := hb b e
    have h2 := (h.1 b e).2.2 a ha hf
    refine Or.inl ?_
    rcases h2 with h2 | ⟨h2, -⟩ <;> omega
  · refine Or.inr ⟨(sco_congr ha).symm, ?_⟩
    rintro ⟨j, hj, -, hlt⟩
    have := ha j hj
    omega
theorem Bst_zero {g : Nat → Nat} {f : Nat} (h : Bst B H D n (below g f) o) : Bst B H D n (Sq g f 0) o := Bst_iff h (fun a => ⟨fun z => Or.inl z, fun z => z.elim (fun q => q) (fun q => absurd q.2 (Nat.not_lt_zero _))⟩)
/-- nothing better is to be had below this one -/
theorem Bst_cut {g : Nat → Nat} {f : Nat} (hf : f ≤ n) (h : Bst B H D n (below g f) o) (hc : ∃ b, o = some b ∧ sco D b n ≤ bsf (db D g f) n) : Bst B H D n (Af g f) o := by
  refine Bst_mono h (fun a ha => Or.inl ha) (fun a ha _ => ?_)
  rcases ha with ha | ha
  · exact Or.inl ha
  · obtain ⟨b, e, hle⟩ := hc
    have := sco_low (D := D) hf ha
    exact Or.inr ⟨b, e, by omega, lex_no (s := 0) (Or.inl ((h.1 b e).1)) ha (Nat.zero_le _)⟩
/-- a stack that may not be taken -/
theorem Bst_skip {g : Nat → Nat} {f s : Nat} (h : Bst B H D n (Sq g f s) o) (hno : (∀ a, under g f a → a f = s → ¬ fe B H a n) ∨ ∃ b, o = some b ∧ ∀ a, under g f a → a f = s → sco D b n ≤ sco D a n) : Bst B H D n (Sq g f (s + 1)) o := by
  refine Bst_mono h (fun a ha => ?_) (fun a ha hfe => ?_)
  · rcases ha with ha | ⟨h1, h2⟩
    · exact Or.inl ha
    · exact Or.inr ⟨h1, by omega⟩
  · rcases ha with ha | ⟨h1, h2⟩
    · exact Or.inl (Or.inl ha)
    · by_cases q : a f < s
      · exact Or.inl (Or.inr ⟨h1, q⟩)
      · have e : a f = s := by omega
        rcases hno with hno | ⟨b, e2, hle⟩
        · exact absurd hfe (hno a h1 e)
        · exact Or.inr ⟨b, e2, hle a h1 e, lex_no (h.1 b e2).1 h1 (by omega)⟩
theorem agree {a b : Nat → Nat} (h1 : ¬ below b n a) (h2 : ¬ below a n b) : ∀ j, j < n → a j = b j := by
  intro j
  induction j using Nat.strongRecOn with
  | _ j ih =>
    intro hj
    by_cases q : a j < b j
    · exact absurd ⟨j, hj, fun i hi => ih i hi (by omega), q⟩ h1
    · by_cases q2 : b j < a j
      · exact absurd ⟨j, hj, fun i hi => (ih i hi (by omega)).symm, q2⟩ h2
      · omega
theorem Bst_uniq {p : Option (Nat → Nat)} {b c : Nat → Nat} (h : Bst B H D n S o) (g : Bst B H D n S p) (eb : o = some b) (ec : p = some c) : sco D b n = sco D c n ∧ ∀ j, j < n → b j = c j := by
  obtain ⟨b1, b2, b3⟩ := h.1 b eb
  obtain ⟨c1, c2, c3⟩ := g.1 c ec
  have h1 := b3 c c1 c2
  have h2 := c3 b b1 b2
  have e : sco D b n = sco D c n := by
    rcases h1 with h1 | ⟨h1, -⟩
    · rcases h2 with h2 | ⟨h2, -⟩ <;> omega
    · exact h1
  refine ⟨e, agree ?_ ?_⟩
  · rcases h2 with h2 | ⟨-, h2⟩
    · omega
    · exact h2
  · rcases h1 with h1 | ⟨-, h1⟩
    · omega
    · exact h1
def sw (u s x : Nat) : Nat := if x = u then s else if x = s then u else x
theorem sw_inj (u s x y : Nat) : sw u s x = sw u s y ↔ x = y := by
  unfold sw
  constructor
  · intro h
    split at h <;> split at h <;> (try split at h) <;> (try split at h) <;> omega
  · intro h; rw [h]
theorem ht_sw {g : Nat → Nat} {u s x : Nat} : ∀ i, ht (fun j => sw u s (g j)) (sw u s x) i = ht g x i := by
  intro i
  induction i with
  | zero => rfl
  | succ i ih =>
    unfold ht
    rw [ih]
    by_cases q : g i = x
    · rw [if_pos q, if_pos ((sw_inj u s _ _).mpr q)]
    · rw [if_neg q, if_neg (fun z => q ((sw_inj u s _ _).mp z))]
theorem db_sw {g : Nat → Nat} {u s : Nat} : ∀ i k, db D (fun j => sw u s (g j)) i k = db D g i k := by
  intro i
  induction i with
  | zero => intro k; rfl
  | succ i ih =>
    intro k
    rw [db_succ, db_succ, ih k]
    unfold du
    rw [show decide (sw u s (g k) = sw u s (g i)) = decide (g k = g i) from decide_eq_decide.mpr (sw_inj u s _ _)]
theorem fe_sw {g : Nat → Nat} {u s : Nat} (hu : u < B) (hs : s < B) (h : fe B H g n) : fe B H (fun j => sw u s (g j)) n := by
  intro j hj
  obtain ⟨h1, h2⟩ := h j hj
  refine ⟨?_, ?_⟩
  · show sw u s (g j) < B
    unfold sw
    split
    · exact hs
    · split
      · exact hu
      · exact h1
  · show ht (fun j => sw u s (g j)) (sw u s (g j)) j < H
    rw [ht_sw]; exact h2
/-- a stack beyond the first unused one is like that one -/
theorem Bst_sym {g : Nat → Nat} {f used T : Nat} (h : Bst B H D n (Sq g f T) o) (hT : T = min (used + 1) B) (hg : ∀ j, j < f → g j < used) (hf : f < n) : Bst B H D n (Af g f) o := by
  refine Bst_mono h (fun a ha => ?_) (fun a ha hfe => ?_)
  · rcases ha with ha | ⟨h1, h2⟩
    · exact Or.inl ha
    · exact Or.inr h1
  · rcases ha with ha | ha
    · exact Or.inl (Or.inl ha)
    · by_cases q : a f < T
      · exact Or.inl (Or.inr ⟨ha, q⟩)
      · have hB := (hfe f hf).1
        have hT2 : T = used + 1 := by
          rcases Nat.le_total (used + 1) B with z | z
          · rw [hT, Nat.min_eq_left z]
          · rw [Nat.min_eq_right z] at hT; omega
        have hm : Sq g f T (fun j => sw used (a f) (a j)) := by
          refine Or.inr ⟨fun i hi => ?_, ?_⟩
          · show sw used (a f) (a i) = g i
            have := hg i hi
            rw [ha i hi]
            unfold sw
            rw [if_neg (by omega), if_neg (by omega)]
          · show sw used (a f) (a f) < T
            unfold sw
            rw [if_neg (by omega), if_pos rfl]
            omega
        have hfs := fe_sw (u := used) (s := a f) (by omega) hB hfe
        obtain ⟨b, e⟩ := h.2 _ hm hfs
        have hle := (h.1 b e).2.2 _ hm hfs
        have hsc : sco D (fun j => sw used (a f) (a j)) n = sco D a n := bsf_congr n (fun k _ => db_sw n k)
        rw [hsc] at hle
        refine Or.inr ⟨b, e, ?_, lex_no (h.1 b e).1 ha (by omega)⟩
        rcases hle with z | ⟨z, -⟩ <;> omega
/-- there is room -/
theorem fe_ex (hH : 0 < H) (hn : n ≤ B * H) : fe B H (fun j => j / H) n := by
  have key : ∀ s i, ht (fun j => j / H) s i ≤ i - s * H := by
    intro s i
    induction i with
    | zero => exact Nat.zero_le _
    | succ i ih =>
      unfold ht
      by_cases q : i / H = s
      · rw [if_pos q]
        have : s * H ≤ i := by rw [← q]; exact Nat.div_mul_le_self i H
        omega
      · rw [if_neg q]; omega
  intro j hj
  refine ⟨(Nat.div_lt_iff_lt_mul hH).mpr (by omega), ?_⟩
  have h1 := key (j / H) j
  have h2 := Nat.div_add_mod j H
  have h3 := Nat.mod_lt j hH
  rw [Nat.mul_comm] at h2
  show ht (fun j => j / H) (j / H) j < H
  omega
def hsum (g : Nat → Nat) (i : Nat) : Nat → Nat
  | 0 => 0
  | s + 1 => hsum g i s + ht g s i
theorem hsum_step {g : Nat → Nat} {i : Nat} : ∀ s, hsum g (i + 1) s = hsum g i s + if g i < s then 1 else 0 := by
  intro s
  induction s with
  | zero => rw [if_neg (Nat.not_lt_zero _)]; rfl
  | succ s ih =>
    show hsum g (i + 1) s + (ht g s i + if g i = s then 1 else 0) = hsum g i s + ht g s i + _
    rw [ih]
    by_cases q : g i = s
    · rw [if_pos q, if_neg (by omega), if_pos (by omega)]; omega
    · rw [if_neg q]
      by_cases q2 : g i < s
      · rw [if_pos q2, if_pos (by omega)]; omega
      · rw [if_neg q2, if_neg (by omega)]; omega
theorem fe_no {g : Nat → Nat} (h : fe B H g n) : n ≤ B * H := by
  have h1 : ∀ i, i ≤ n → hsum g i B = i := by
    intro i
    induction i with
    | zero =>
      intro _
      have : ∀ s, hsum g 0 s = 0 := by
        intro s
        induction s with
        | zero => rfl
        | succ s ih => show hsum g 0 s + 0 = 0; rw [ih]
      exact this B
    | succ i ih =>
      intro hi
      rw [hsum_step, ih (by omega), if_pos (h i (by omega)).1]
  have h2 : ∀ s, hsum g n s ≤ s * H := by
    intro s
    induction s with
    | zero => exact Nat.zero_le _
    | succ s ih =>
      show hsum g n s + ht g s n ≤ _
      have := ht_le (s := s) n h
      rw [Nat.add_mul, Nat.one_mul]
      omega
  have := h2 B
  rw [h1 n (Nat.le_refl n)] at this
  exact this
end BS
