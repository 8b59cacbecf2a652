/-! the constructors, run out -/
def c0 : St := (fun k => ([0, 0, 1000000, 0, 0, 0, 0, 0, 0, 0, 0, 0, 0, 0, 0, 0, 5, 0, 0, 0, 0, 0, 1, 0, 0, 0, 0, 0, 0] : List Int32).getD k 0, fun _ => 0, fun k => ([List.replicate 12 4, [1, 0, 0, 0, 0, 0, 0, 0, 0, 0, 0, 0], [5, 20, 1], List.replicate 6 0, List.replicate 6 0, List.replicate 12 100, List.replicate 20 0, List.replicate 12 0, List.replicate 12 100, List.replicate 20 0, List.replicate 12 0, List.replicate 20 0, List.replicate 20 0, List.replicate 20 0, [0, 0, 0], [0, 0, 0], [0, 0, 0], [0, 0, 0], [0, 0, 0], [0, 0, 0], [0, 0, 0], [0, 0, 0], [0, 0, 0], [0, 0, 0], [0, 0, 0], [0, 0, 0], [0, 0, 0], [0, 0, 0], [0, 0, 0], [0, 0, 0], [0, 0, 0], [0, 0, 0], [0, 0, 0], [0, 0, 0], List.replicate 60 0, List.replicate 60 0, List.replicate 60 0, List.replicate 60 0, List.replicate 60 0, List.replicate 60 0, List.replicate 60 0, List.replicate 60 0, List.replicate 60 0, List.replicate 60 0, List.replicate 60 0, List.replicate 60 0, List.replicate 60 0, List.replicate 12 0, List.replicate 12 0, List.replicate 24 0, List.replicate 24 0, List.replicate 8 0, [0, 0, 0, 0], List.replicate 8 0, List.replicate 8 0, [0, 0, 0, 0], [10, 10, 10, 10], [10, 10, 10, 10], [10, 10, 10, 10], [10, 10, 10, 10], [10, 10, 10, 10], [10, 10, 10, 10], List.replicate 6 0, List.replicate 6 0, [0, 0, 0, 0], List.replicate 6 0, List.replicate 6 0, List.replicate 7 0, [100, 1, 2, 3], [0, 0, 0, 0, 0], [0, 0, 0, 0, 0], List.replicate 200 0, List.replicate 200 0, List.replicate 8 0, List.replicate 8 0, List.replicate 8 0, List.replicate 8 0, List.replicate 8 0, List.replicate 8 0, List.replicate 8 0, List.replicate 8 0, List.replicate 8 0, List.replicate 8 0, [50, 2, 80, 10], [0, 0, 0, 0, 0], [0, 0, 0, 0, 0], [0, 0, 0, 0, 0], [0, 0, 0, 0, 0], [0, 0, 0, 0, 0], [0, 0, 0, 0, 0], [0, 0, 0, 0, 0], [0, 0, 0, 0, 0], [0, 0, 0, 0, 0], [0, 0, 0, 0, 0], List.replicate 8 0] : List (List Int32)).getD k [], fun k => ([List.replicate 60 0, List.replicate 60 0] : List (List Int64)).getD k [])
def r0 : St := (fun k => ([5, 20, 1, 0, 0, 1000000, 0, 0, 0, 0, 0, 5, 0, 0, 1, 100, 1, 2, 3, 0, 0, 0, 50, 2, 80, 10, 0, 0, 0, 0, 0, 0, 0, 0, 0] : List Int32).getD k 0, fun _ => 0, fun k => ([List.replicate 12 100, List.replicate 12 4, [1, 0, 0, 0, 0, 0, 0, 0, 0, 0, 0, 0], List.replicate 6 0, List.replicate 6 0, List.replicate 20 0, List.replicate 20 0, List.replicate 20 0, List.replicate 20 0, List.replicate 60 0, List.replicate 60 0, List.replicate 720 0, List.replicate 12 0, List.replicate 24 0, List.replicate 24 0, List.replicate 8 0, List.replicate 6 0, List.replicate 6 0, List.replicate 24 10, [0, 0, 0, 0], [0, 0, 0, 0, 0], [0, 0, 0, 0, 0], List.replicate 8 0, List.replicate 8 0, List.replicate 64 0, [0, 0, 0, 0, 0], [0, 0, 0, 0, 0], List.replicate 8 0, List.replicate 40 0, List.replicate 12 0, List.replicate 12 0, List.replicate 20 0, List.replicate 9 0, [0, 0, 0, 0], List.replicate 9 0, List.replicate 8 0, List.replicate 6 0, [0, 0, 0, 0, 0], List.replicate 200 0, List.replicate 200 0] : List (List Int32)).getD k [], fun k => ([List.replicate 61 0, List.replicate 61 0] : List (List Int64)).getD k [])
abbrev mVr : Type := Option Value × mH × Nat × Nat
def mEvL (call : Nat → List Value → mH → Option mVr) (ro : List (List Int32)) (rk : Nat) (tab : List (Option mI)) : Nat → Nat → mO → List Value → mH → Option mVr
  | 0, _, _, _, _ => none
  | n + 1, pc, lo, st, h => match tab[pc]? with
    | some (some i) => match mStep ro rk i pc lo st h with
      | some (.inl (pc2, lo2, st2, h2, dc, ds)) => match mEvL call ro rk tab n pc2 lo2 st2 h2 with
        | some (v, h', nc, ns) => some (v, h', dc + nc, ds + ns)
        | none => none
      | some (.inr (.inl w)) => some (w, h, 0, 0)
      | some (.inr (.inr (y, as, r))) => match call y as h with
        | some (w, h1, c1, s1) => match mEvL call ro rk tab n (pc + 3) lo (w.toList ++ r) h1 with
          | some (v, h', nc, ns) => some (v, h', c1 + nc, s1 + ns)
          | none => none
        | none => none
      | none => none
    | _ => none
def mEv (ro : List (List Int32)) : Nat → Nat → List Value → mH → Option mVr
  | 0, _, _, _ => none
  | d + 1, y, as, h => bif Nat.blt y 264 && Nat.ble (mFlat as).length (mMeth y).2.2.1 then mEvL (mEv ro d) ro (mMeth y).2.2.2.2.2.1 (mTab y) 3000 0 (mEnt (mMeth y).2.2.1 as) [] h else none
/-- until a place is reached -/
def mEvP (call : Nat → List Value → mH → Option mVr) (ro : List (List Int32)) (rk : Nat) (tab : List (Option mI)) (stop : Nat) : Nat → Nat → mO → List Value → mH → Option (mO × List Value × mH × Nat × Nat)
  | 0, _, _, _, _ => none
  | n + 1, pc, lo, st, h => bif Nat.beq pc stop then some (lo, st, h, 0, 0) else match tab[pc]? with
    | some (some i) => match mStep ro rk i pc lo st h with
      | some (.inl (pc2, lo2, st2, h2, dc, ds)) => match mEvP call ro rk tab stop n pc2 lo2 st2 h2 with
        | some (a, b, h', nc, ns) => some (a, b, h', dc + nc, ds + ns)
        | none => none
      | some (.inr (.inr (y, as, r))) => match call y as h with
        | some (w, h1, c1, s1) => match mEvP call ro rk tab stop n (pc + 3) lo (w.toList ++ r) h1 with
          | some (a, b, h', nc, ns) => some (a, b, h', c1 + nc, s1 + ns)
          | none => none
        | none => none
      | _ => none
    | _ => none
/-- more rows that nobody writes: what went on goes on -/
def mRoLe (ro ro' : List (List Int32)) : Prop := ∀ (rk : Nat) (i : mI) (pc : Nat) (lo : mO) (st : List Value) (h : mH) (x : mR), mStep ro rk i pc lo st h = some x → mStep ro' rk i pc lo st h = some x
theorem mRoLe_app (ro r : List (List Int32)) : mRoLe ro (ro ++ r) := by
  intro rk i pc lo st h x hs
  have hrow : ∀ (k : Nat) (l : List Int32), mRow ro h k = some l → mRow (ro ++ r) h k = some l := by
    intro k l e
    unfold mRow at e ⊢
    cases hk : Nat.blt k mBase with
    | true => rw [hk] at e; exact e
    | false =>
      rw [hk] at e
      simp only [cond_false] at e ⊢
      rw [List.getElem?_append_left (List.getElem?_eq_some_iff.mp e).1]
      exact e
  unfold mStep at hs ⊢
  cases hk : mKind i.1 with
  | true => rw [hk] at hs; exact hs
  | false =>
    rw [hk] at hs
    simp only [cond_false] at hs ⊢
    obtain ⟨ins, len, a1, a2, a3, v32, v64, sw⟩ := i
    cases ins <;> first
      | exact hs
      | (simp only [mStep2] at hs ⊢
         split at hs
         · cases hr : mRow ro h _ with
           | none => rw [hr] at hs; cases hs
           | some l => rw [hr] at hs; rw [hrow _ _ hr]; exact hs
         · cases hs)
theorem mEvL_run {call : Nat → List Value → mH → Option mVr} {C : mCal} {ro ro' : List (List Int32)} (hro : mRoLe ro ro') {rk : Nat} {tab : List (Option mI)} (hC : ∀ y as h w h1 c1 s1, call y as h = some (w, h1, c1, s1) → C y as h w h1 c1 s1) : ∀ (n pc : Nat) (lo : mO) (st : List Value) (h : mH) (v : Option Value) (h' : mH) (nc ns : Nat), mEvL call ro rk tab n pc lo st h = some (v, h', nc, ns) → mRunN C ro' rk tab n pc lo st h v h' nc ns := by
  intro n
  induction n with
  | zero => intro pc lo st h v h' nc ns e; cases e
  | succ n ih =>
    intro pc lo st h v h' nc ns e
    unfold mEvL at e
    split at e
    · rename_i i hi
      refine ⟨i, lo, hi, mLe_refl lo, ?_⟩
      split at e
      · rename_i hs
        rw [hro _ _ _ _ _ _ _ hs]
        split at e
        · rename_i he
          cases e
          exact ⟨_, _, rfl, rfl, ih _ _ _ _ _ _ _ _ he⟩
        · cases e
      · rename_i hs
        rw [hro _ _ _ _ _ _ _ hs]
        cases e
        exact ⟨rfl, rfl, rfl, rfl⟩
      · rename_i hs
        rw [hro _ _ _ _ _ _ _ hs]
        split at e
        · rename_i hc
          split at e
          · rename_i he
            cases e
            exact ⟨_, _, _, _, _, _, hC _ _ _ _ _ _ _ hc, rfl, rfl, ih _ _ _ _ _ _ _ _ he⟩
          · cases e
        · cases e
      · cases e
    · cases e
theorem mEv_big {ro ro' : List (List Int32)} (hro : mRoLe ro ro') : ∀ (d y : Nat) (as : List Value) (h : mH) (w : Option Value) (h1 : mH) (c1 s1 : Nat), mEv ro d y as h = some (w, h1, c1, s1) → mBig ro' d y as h w h1 c1 s1 := by
  intro d
  induction d with
  | zero => intro y as h w h1 c1 s1 e; cases e
  | succ d ih =>
    intro y as h w h1 c1 s1 e
    unfold mEv at e
    cases hb : (Nat.blt y 264 && Nat.ble (mFlat as).length (mMeth y).2.2.1) with
    | false => rw [hb] at e; cases e
    | true =>
      rw [hb] at e
      simp only [cond_true] at e
      rw [Bool.and_eq_true] at hb
      exact ⟨Nat.blt_eq.mp hb.1, Nat.le_of_ble_eq_true hb.2, _, mEvL_run hro ih _ _ _ _ _ _ _ _ _ e⟩
theorem mEvP_run {call : Nat → List Value → mH → Option mVr} {C : mCal} {ro ro' : List (List Int32)} (hro : mRoLe ro ro') {rk : Nat} {tab : List (Option mI)} {stop : Nat} (hC : ∀ y as h w h1 c1 s1, call y as h = some (w, h1, c1, s1) → C y as h w h1 c1 s1) : ∀ (n pc : Nat) (lo : mO) (st : List Value) (h : mH) (a : mO) (b : List Value) (h' : mH) (nc ns : Nat), mEvP call ro rk tab stop n pc lo st h = some (a, b, h', nc, ns) → ∀ (m : Nat) (v : Option Value) (hf : mH) (nc2 ns2 : Nat), mRunN C ro' rk tab m stop a b h' v hf nc2 ns2 → ∃ k, mRunN C ro' rk tab k pc lo st h v hf (nc + nc2) (ns + ns2) := by
  intro n
  induction n with
  | zero => intro pc lo st h a b h' nc ns e; cases e
  | succ n ih =>
    intro pc lo st h a b h' nc ns e m v hf nc2 ns2 q
    unfold mEvP at e
    cases hp : Nat.beq pc stop with
    | true =>
      rw [hp] at e
      simp only [cond_true, Option.some.injEq, Prod.mk.injEq] at e
      obtain ⟨rfl, rfl, rfl, rfl, rfl⟩ := e
      rw [Nat.eq_of_beq_eq_true hp, Nat.zero_add, Nat.zero_add]
      exact ⟨m, q⟩
    | false =>
      rw [hp] at e
      simp only [cond_false] at e
      split at e
      · rename_i i hi
        split at e
        · rename_i hs
          split at e
          · rename_i he
            cases e
            obtain ⟨k, r⟩ := ih _ _ _ _ _ _ _ _ _ he m v hf nc2 ns2 q
            exact ⟨k + 1, i, lo, hi, mLe_refl lo, by rw [hro _ _ _ _ _ _ _ hs]; exact ⟨_, _, Nat.add_assoc _ _ _, Nat.add_assoc _ _ _, r⟩⟩
          · cases e
        · rename_i hs
          split at e
          · rename_i hc
            split at e
            · rename_i he
              cases e
              obtain ⟨k, r⟩ := ih _ _ _ _ _ _ _ _ _ he m v hf nc2 ns2 q
              exact ⟨k + 1, i, lo, hi, mLe_refl lo, by rw [hro _ _ _ _ _ _ _ hs]; exact ⟨_, _, _, _, _, _, hC _ _ _ _ _ _ _ hc, Nat.add_assoc _ _ _, Nat.add_assoc _ _ _, r⟩⟩
            · cases e
          · cases e
        · cases e
      · cases e
theorem mRunN_mono {C C' : mCal} {ro : List (List Int32)} {rk : Nat} {tab : List (Option mI)} (hC : ∀ y as h w h1 c1 s1, C y as h w h1 c1 s1 → C' y as h w h1 c1 s1) : ∀ (n pc : Nat) (lo : mO) (st : List Value) (h : mH) (v : Option Value) (h' : mH) (nc ns : Nat), mRunN C ro rk tab n pc lo st h v h' nc ns → mRunN C' ro rk tab n pc lo st h v h' nc ns := by
  intro n
  induction n with
  | zero => intro pc lo st h v h' nc ns q; exact q
  | succ n ih =>
    intro pc lo1 st h v h' nc ns q
    obtain ⟨i, lo, hi, hl, q⟩ := q
    refine ⟨i, lo, hi, hl, ?_⟩
    split at q
    · exact q.elim
    · obtain ⟨nc2, ns2, e1, e2, q⟩ := q
      exact ⟨nc2, ns2, e1, e2, ih _ _ _ _ _ _ _ _ q⟩
    · exact q
    · obtain ⟨w, h1, c1, s1, nc2, ns2, hc, e1, e2, q⟩ := q
      exact ⟨w, h1, c1, s1, nc2, ns2, hC _ _ _ _ _ _ _ hc, e1, e2, ih _ _ _ _ _ _ _ _ q⟩
theorem mBig_up {ro : List (List Int32)} : ∀ (d y : Nat) (as : List Value) (h : mH) (w : Option Value) (h1 : mH) (c1 s1 : Nat), mBig ro d y as h w h1 c1 s1 → mBig ro (d + 1) y as h w h1 c1 s1 := by
  intro d
  induction d with
  | zero => intro y as h w h1 c1 s1 q; exact q.elim
  | succ d ih =>
    intro y as h w h1 c1 s1 q
    obtain ⟨a, b, n, q⟩ := q
    exact ⟨a, b, n, mRunN_mono ih n _ _ _ _ _ _ _ _ q⟩
theorem mBig_le {ro : List (List Int32)} {d y : Nat} {as : List Value} {h : mH} {w : Option Value} {h1 : mH} {c1 s1 : Nat} (k : Nat) (q : mBig ro d y as h w h1 c1 s1) : mBig ro (d + k) y as h w h1 c1 s1 := by
  induction k with
  | zero => exact q
  | succ k ih => exact mBig_up _ _ _ _ _ _ _ _ ih
def cEq (x y : mC) : Bool := match x, y with
  | .inl (a, f), .inl (b, g) => Nat.beq a b && decide (f = g)
  | .inr (a, .inl f), .inr (b, .inl g) => Nat.beq a b && decide (f = g)
  | .inr (a, .inr (.inl f)), .inr (b, .inr (.inl g)) => Nat.beq a b && decide (f = g)
  | .inr (a, .inr (.inr f)), .inr (b, .inr (.inr g)) => Nat.beq a b && decide (f = g)
  | _, _ => false
theorem cEq_eq {x y : mC} (h : cEq x y = true) : x = y := by
  unfold cEq at h
  split at h <;> first
    | (rw [Bool.and_eq_true, decide_eq_true_eq] at h
       obtain ⟨h1, h2⟩ := h
       rw [Nat.eq_of_beq_eq_true h1, h2])
    | cases h
def hEq (x y : mH) : Bool := match x, y with
  | [], [] => true
  | a :: x', b :: y' => cEq a b && hEq x' y'
  | _, _ => false
theorem hEq_eq : ∀ (x y : mH), hEq x y = true → x = y := by
  intro x
  induction x with
  | nil => intro y h; cases y with
    | nil => rfl
    | cons b y => cases h
  | cons a x ih => intro y h; cases y with
    | nil => cases h
    | cons b y =>
      unfold hEq at h
      rw [Bool.and_eq_true] at h
      rw [cEq_eq h.1, ih y h.2]
def pEq (q : Option (mO × List Value × mH × Nat × Nat)) (a : mO) (h : mH) (nc ns : Nat) : Bool := match q with
  | some (a', [], h', nc', ns') => decide (a' = a) && hEq h' h && Nat.beq nc' nc && Nat.beq ns' ns
  | _ => false
theorem pEq_eq {q : Option (mO × List Value × mH × Nat × Nat)} {a : mO} {h : mH} {nc ns : Nat} (e : pEq q a h nc ns = true) : q = some (a, [], h, nc, ns) := by
  unfold pEq at e
  split at e
  · simp only [Bool.and_eq_true, decide_eq_true_eq] at e
    obtain ⟨⟨⟨h1, h2⟩, h3⟩, h4⟩ := e
    rw [h1, hEq_eq _ _ h2, Nat.eq_of_beq_eq_true h3, Nat.eq_of_beq_eq_true h4]
  · cases e
theorem ctor_chk : pEq (mEvP (mEv mStat 8) mStat 2 mK264 18 200 0 (mEnt 4 [.ref (mBase + 5)]) [] []) [some (.ref (mBase + 5)), some (.ref 0), some (.ref 115), some (.int 0)] (HP c0 r0) 158 3918 = true := by decide +kernel
theorem ctor_run : mEvP (mEv mStat 8) mStat 2 mK264 18 200 0 (mEnt 4 [.ref (mBase + 5)]) [] [] = some ([some (.ref (mBase + 5)), some (.ref 0), some (.ref 115), some (.int 0)], [], HP c0 r0, 158, 3918) := pEq_eq ctor_chk
