/-! BARS: how many strokes, their times, the settings, the bend, the forced way (or -1), whether errors are forbidden -/
abbrev Qe : Type := Nat × (Int → Int) × (Int → Int) × Int × Int × Int
def er0 (t st T a : Int) : Int := if 0 ≤ 216 * (t - st) - T * a then 216 * (t - st) - T * a else -(216 * (t - st) - T * a)
noncomputable def erQ (q : Qe) (st T a k : Int) : Int := if q.2.2.2.2.2 = 1 ∧ 0 < er0 (q.2.1 k) st T a then fa else er0 (q.2.1 k) st T a
abbrev isG (q : Qe) (k : Int) : Prop := q.2.2.1 9 < q.2.1 k - q.2.1 (k - 1)
def grQ (q : Qe) (k : Int) : Int := if isG q k then 216 * q.2.2.1 7 else 0
noncomputable def lfQ (q : Qe) (st T a i j : Int) : Int := lfc (erQ q st T a) (grQ q) i j
def prQ (q : Qe) (k : Int) : Int := if k = 1 then 216 * q.2.2.1 4 else if k = 2 then 216 * q.2.2.1 5 else if k = 3 then 216 * q.2.2.1 6 else 0
def dpQ (q : Qe) : Nat := (q.2.2.1 3).toNat
noncomputable def spQ (q : Qe) (st T : Int) (r : Nat) (a s i j : Int) : Int := spC (lfQ q st T) (prQ q) r a s i j
noncomputable def bcQ (q : Qe) (st T i j : Int) : Int := brC (lfQ q st T) (prQ q) (dpQ q) q.2.2.2.2.1 i j
def chQ (q : Qe) (T be : Int) : Int := 216 * q.2.2.1 8 * (if T < be then be - T else T - be)
noncomputable def FQ (q : Qe) : Nat → Int → Int → Int → Int
  | 0, _, _, i => if i = q.1 then 0 else fa
  | m + 1, st, be, i => min (min (min fa
      (chQ q (q.2.2.1 1 - q.2.2.2.1) be + mn (fun j => bcQ q st (q.2.2.1 1 - q.2.2.2.1) i j + FQ q m (st + (q.2.2.1 1 - q.2.2.2.1)) (q.2.2.1 1 - q.2.2.2.1) j) i ((q.1 : Int) + 1 - i).toNat))
      (chQ q (q.2.2.1 1) be + mn (fun j => bcQ q st (q.2.2.1 1) i j + FQ q m (st + q.2.2.1 1) (q.2.2.1 1) j) i ((q.1 : Int) + 1 - i).toNat))
      (chQ q (q.2.2.1 1 + q.2.2.2.1) be + mn (fun j => bcQ q st (q.2.2.1 1 + q.2.2.2.1) i j + FQ q m (st + (q.2.2.1 1 + q.2.2.2.1)) (q.2.2.1 1 + q.2.2.2.1) j) i ((q.1 : Int) + 1 - i).toNat)
/-- a bar of so many ticks and m bars behind it -/
noncomputable def owQ (q : Qe) (m : Nat) (st T i : Int) : Int := mn (fun j => bcQ q st T i j + FQ q m (st + T) T j) i ((q.1 : Int) + 1 - i).toNat
theorem FQ_s {q : Qe} {m : Nat} {st be i : Int} : FQ q (m + 1) st be i = min (min (min fa (chQ q (q.2.2.1 1 - q.2.2.2.1) be + owQ q m st (q.2.2.1 1 - q.2.2.2.1) i)) (chQ q (q.2.2.1 1) be + owQ q m st (q.2.2.1 1) i)) (chQ q (q.2.2.1 1 + q.2.2.2.1) be + owQ q m st (q.2.2.1 1 + q.2.2.2.1) i) := rfl
theorem FQ_0 {q : Qe} {st be i : Int} : FQ q 0 st be i = if i = q.1 then 0 else fa := rfl
def QeOK (q : Qe) : Prop := q.1 ≤ 8 ∧ (∀ i : Int, 0 ≤ i → i < q.1 → 0 ≤ q.2.1 i ∧ q.2.1 i ≤ 1999) ∧ (∀ i : Int, 0 ≤ i → i < 10 → loS i ≤ q.2.2.1 i ∧ q.2.2.1 i ≤ hiS i) ∧ (0 ≤ q.2.2.2.1 ∧ q.2.2.2.1 ≤ 24) ∧ (-1 ≤ q.2.2.2.2.1 ∧ q.2.2.2.2.1 ≤ 3) ∧ (q.2.2.2.2.2 = 0 ∨ q.2.2.2.2.2 = 1)
theorem er0_nn {t st T a : Int} : 0 ≤ er0 t st T a := by unfold er0; split <;> omega
theorem erQ_nn {q : Qe} {st T a k : Int} : 0 ≤ erQ q st T a k := by unfold erQ; split <;> first | exact er0_nn | exact Int.le_of_lt fa_pos
theorem QeOK.st {q : Qe} (hq : QeOK q) (i : Int) (a : 4 ≤ i) (b : i ≤ 8) : 0 ≤ q.2.2.1 i ∧ q.2.2.1 i ≤ 99 := by
  have := hq.2.2.1 i (by omega) (by omega)
  unfold loS hiS at this
  rw [if_neg (by omega), if_neg (by omega), if_neg (by omega), if_neg (by omega), if_neg (by omega), if_neg (by omega), if_neg (by omega)] at this
  exact this
theorem QeOK.len {q : Qe} (hq : QeOK q) : 48 ≤ q.2.2.1 1 ∧ q.2.2.1 1 ≤ 432 := hq.2.2.1 1 (by omega) (by omega)
theorem QeOK.bars {q : Qe} (hq : QeOK q) : 1 ≤ q.2.2.1 0 ∧ q.2.2.1 0 ≤ 3 := hq.2.2.1 0 (by omega) (by omega)
theorem QeOK.dep {q : Qe} (hq : QeOK q) : 0 ≤ q.2.2.1 3 ∧ q.2.2.1 3 ≤ 3 := hq.2.2.1 3 (by omega) (by omega)
theorem QeOK.cho {q : Qe} (hq : QeOK q) : 0 ≤ q.2.2.1 9 ∧ q.2.2.1 9 ≤ 50 := hq.2.2.1 9 (by omega) (by omega)
theorem grQ_nn {q : Qe} (hq : QeOK q) (k : Int) : 0 ≤ grQ q k ∧ grQ q k ≤ 21384 := by
  have := hq.st 7 (by omega) (by omega)
  unfold grQ; split <;> omega
theorem prQ_nn {q : Qe} (hq : QeOK q) (k : Int) : 0 ≤ prQ q k ∧ prQ q k ≤ 21384 := by
  have h1 := hq.st 4 (by omega) (by omega)
  have h2 := hq.st 5 (by omega) (by omega)
  have h3 := hq.st 6 (by omega) (by omega)
  unfold prQ; split <;> (try split) <;> (try split) <;> omega
theorem lfQ_cap {q : Qe} (hq : QeOK q) (st T a : Int) : Cap (lfQ q st T a) := lfc_cap (fun _ => erQ_nn) (fun k => (grQ_nn hq k).1)
theorem spQ_cap {q : Qe} (hq : QeOK q) (st T : Int) (r : Nat) (a s : Int) : Cap (spQ q st T r a s) := spC_cap (lfQ_cap hq st T) (fun k => (prQ_nn hq k).1) r a s
theorem bcQ_cap {q : Qe} (hq : QeOK q) (st T : Int) : Cap (bcQ q st T) := brC_cap (lfQ_cap hq st T) (fun k => (prQ_nn hq k).1)
theorem chQ_nn {q : Qe} (hq : QeOK q) (T be : Int) : 0 ≤ chQ q T be := by
  have := hq.st 8 (by omega) (by omega)
  unfold chQ
  refine Int.mul_nonneg (by omega) ?_
  split <;> omega
theorem FQ_cap {q : Qe} (hq : QeOK q) : ∀ (m : Nat) (st be i : Int), 0 ≤ FQ q m st be i ∧ FQ q m st be i ≤ fa
  | 0, st, be, i => by
    have := fa_pos
    rw [FQ_0]; split <;> omega
  | m + 1, st, be, i => by
    have h0 := fa_pos
    have ow : ∀ T, 0 ≤ owQ q m st T i := fun T => le_mn.mpr ⟨Int.le_of_lt fa_pos, fun j a b => Int.add_nonneg (bcQ_cap hq st T i j a).1 (FQ_cap hq m (st + T) T j).1⟩
    have h1 := ow (q.2.2.1 1 - q.2.2.2.1)
    have h2 := ow (q.2.2.1 1)
    have h3 := ow (q.2.2.1 1 + q.2.2.2.1)
    have h4 := chQ_nn hq (q.2.2.1 1 - q.2.2.2.1) be
    have h5 := chQ_nn hq (q.2.2.1 1) be
    have h6 := chQ_nn hq (q.2.2.1 1 + q.2.2.2.1) be
    rw [FQ_s]
    omega
theorem owQ_cap {q : Qe} (hq : QeOK q) (m : Nat) (st T i : Int) : 0 ≤ owQ q m st T i ∧ owQ q m st T i ≤ fa := ⟨le_mn.mpr ⟨Int.le_of_lt fa_pos, fun j a b => Int.add_nonneg (bcQ_cap hq st T i j a).1 (FQ_cap hq m (st + T) T j).1⟩, mn_fa⟩
/-- the bars told: ticks and where the next begins -/
noncomputable def tcQ (q : Qe) : List (Int × Int) → Int → Int → Int → Int
  | [], _, _, i => if i = q.1 then 0 else fa
  | x :: l, st, be, i => chQ q x.1 be + (bcQ q st x.1 i x.2 + tcQ q l (st + x.1) x.1 x.2)
def isT (q : Qe) (T : Int) : Prop := T = q.2.2.1 1 - q.2.2.2.1 ∨ T = q.2.2.1 1 ∨ T = q.2.2.1 1 + q.2.2.2.1
def okL (q : Qe) : List (Int × Int) → Int → Prop
  | [], i => i = q.1
  | x :: l, i => isT q x.1 ∧ i ≤ x.2 ∧ x.2 ≤ q.1 ∧ okL q l x.2
theorem FQ_leT {q : Qe} {m : Nat} {st be i T : Int} (h : isT q T) : FQ q (m + 1) st be i ≤ chQ q T be + owQ q m st T i := by
  rw [FQ_s]
  rcases h with rfl | rfl | rfl <;> omega
theorem FQ_le {q : Qe} : ∀ (l : List (Int × Int)) (st be i : Int), okL q l i → FQ q l.length st be i ≤ tcQ q l st be i
  | [], _, _, _, _ => Int.le_refl _
  | x :: l, st, be, i, h => by
    have h1 := FQ_leT (m := l.length) (st := st) (be := be) (i := i) h.1
    have h2 : owQ q l.length st x.1 i ≤ bcQ q st x.1 i x.2 + FQ q l.length (st + x.1) x.1 x.2 := mn_le h.2.1 (by have := h.2.2.1; have := h.2.1; omega)
    have h3 := FQ_le l (st + x.1) x.1 x.2 h.2.2.2
    show FQ q (l.length + 1) st be i ≤ chQ q x.1 be + (bcQ q st x.1 i x.2 + tcQ q l (st + x.1) x.1 x.2)
    omega
/-- the first place from i on (n are looked at) where f is x -/
def fsK (f : Int → Int) (x : Int) (i : Int) : Nat → Int
  | 0 => i
  | n + 1 => if f i = x then i else fsK f x (i + 1) n
theorem fsK_sp {f : Int → Int} {x : Int} : ∀ {n : Nat} {i : Int}, (∃ k, i ≤ k ∧ k ≤ i + n ∧ f k = x) → i ≤ fsK f x i n ∧ fsK f x i n ≤ i + n ∧ f (fsK f x i n) = x ∧ ∀ k, i ≤ k → k < fsK f x i n → f k ≠ x
  | 0, i, ⟨k, a, b, c⟩ => by
    have e : k = i := by omega
    subst e
    exact ⟨Int.le_refl _, by show k ≤ k + 0; omega, c, fun m x y => absurd y (by show ¬ m < k; omega)⟩
  | n + 1, i, ⟨k, a, b, c⟩ => by
    unfold fsK
    by_cases e : f i = x
    · rw [if_pos e]
      exact ⟨Int.le_refl _, by omega, e, fun m x y => absurd y (by omega)⟩
    · rw [if_neg e]
      have hk : k ≠ i := fun z => e (z ▸ c)
      obtain ⟨h1, h2, h3, h4⟩ := fsK_sp (f := f) (x := x) (n := n) (i := i + 1) ⟨k, by omega, by omega, c⟩
      refine ⟨by omega, by omega, h3, fun m x y => ?_⟩
      by_cases e2 : m = i
      · rw [e2]; exact e
      · exact h4 m (by omega) y
theorem fsK_un {f : Int → Int} {x i k : Int} {n : Nat} (a : i ≤ k) (b : k ≤ i + n) (c : f k = x) (h : ∀ m, i ≤ m → m < k → f m ≠ x) : fsK f x i n = k := by
  obtain ⟨h1, h2, h3, h4⟩ := fsK_sp (f := f) (x := x) (n := n) (i := i) ⟨k, a, b, c⟩
  rcases Int.lt_trichotomy (fsK f x i n) k with z | z | z
  · exact absurd h3 (h _ h1 z)
  · exact z
  · exact absurd c (h4 k a z)
/-- the ticks that come first, at the least cost -/
noncomputable def pkT (q : Qe) (m : Nat) (st be i : Int) : Int :=
  if chQ q (q.2.2.1 1 - q.2.2.2.1) be + owQ q m st (q.2.2.1 1 - q.2.2.2.1) i = FQ q (m + 1) st be i then q.2.2.1 1 - q.2.2.2.1
  else if chQ q (q.2.2.1 1) be + owQ q m st (q.2.2.1 1) i = FQ q (m + 1) st be i then q.2.2.1 1 else q.2.2.1 1 + q.2.2.2.1
noncomputable def pkJ (q : Qe) (m : Nat) (st T i : Int) : Int := fsK (fun j => bcQ q st T i j + FQ q m (st + T) T j) (owQ q m st T i) i ((q.1 : Int) - i).toNat
noncomputable def pkL (q : Qe) : Nat → Int → Int → Int → List (Int × Int)
  | 0, _, _, _ => []
  | m + 1, st, be, i => (pkT q m st be i, pkJ q m st (pkT q m st be i) i) :: pkL q m (st + pkT q m st be i) (pkT q m st be i) (pkJ q m st (pkT q m st be i) i)
theorem pkT_sp {q : Qe} {m : Nat} {st be i : Int} (hq : QeOK q) (h : FQ q (m + 1) st be i < fa) : isT q (pkT q m st be i) ∧ chQ q (pkT q m st be i) be + owQ q m st (pkT q m st be i) i = FQ q (m + 1) st be i ∧ ∀ T, isT q T → chQ q T be + owQ q m st T i = FQ q (m + 1) st be i → pkT q m st be i ≤ T := by
  have hv := hq.2.2.2.1
  unfold pkT
  by_cases e1 : chQ q (q.2.2.1 1 - q.2.2.2.1) be + owQ q m st (q.2.2.1 1 - q.2.2.2.1) i = FQ q (m + 1) st be i
  · rw [if_pos e1]
    exact ⟨Or.inl rfl, e1, fun T hT _ => by rcases hT with rfl | rfl | rfl <;> omega⟩
  · rw [if_neg e1]
    by_cases e2 : chQ q (q.2.2.1 1) be + owQ q m st (q.2.2.1 1) i = FQ q (m + 1) st be i
    · rw [if_pos e2]
      exact ⟨Or.inr (Or.inl rfl), e2, fun T hT z => by
        rcases hT with rfl | rfl | rfl
        · exact absurd z e1
        · omega
        · omega⟩
    · rw [if_neg e2]
      refine ⟨Or.inr (Or.inr rfl), ?_, fun T hT z => by
        rcases hT with rfl | rfl | rfl
        · exact absurd z e1
        · exact absurd z e2
        · omega⟩
      have := FQ_s (q := q) (m := m) (st := st) (be := be) (i := i)
      omega
theorem pkJ_sp {q : Qe} {m : Nat} {st T i : Int} (hi : i ≤ q.1) (h : owQ q m st T i < fa) : i ≤ pkJ q m st T i ∧ pkJ q m st T i ≤ q.1 ∧ bcQ q st T i (pkJ q m st T i) + FQ q m (st + T) T (pkJ q m st T i) = owQ q m st T i ∧ ∀ k, i ≤ k → k < pkJ q m st T i → bcQ q st T i k + FQ q m (st + T) T k ≠ owQ q m st T i := by
  obtain ⟨k, a, b, c⟩ := mn_at h
  obtain ⟨h1, h2, h3, h4⟩ := fsK_sp (f := fun j => bcQ q st T i j + FQ q m (st + T) T j) (x := owQ q m st T i) (n := ((q.1 : Int) - i).toNat) (i := i) ⟨k, a, by omega, c⟩
  exact ⟨h1, by unfold pkJ; omega, h3, h4⟩
/-- the one ahead in order: by ticks, then by where the next begins, bar by bar -/
def lxL : List (Int × Int) → List (Int × Int) → Prop
  | [], _ => True
  | _ :: _, [] => False
  | x :: l, y :: r => x.1 < y.1 ∨ (x.1 = y.1 ∧ (x.2 < y.2 ∨ (x.2 = y.2 ∧ lxL l r)))
theorem lxL_anti : ∀ {l r : List (Int × Int)}, l.length = r.length → lxL l r → lxL r l → l = r
  | [], [], _, _, _ => rfl
  | x :: l, y :: r, h, a, b => by
    have ih := fun z1 z2 => lxL_anti (l := l) (r := r) (Nat.succ.inj h) z1 z2
    have a' : x.1 < y.1 ∨ (x.1 = y.1 ∧ (x.2 < y.2 ∨ (x.2 = y.2 ∧ lxL l r))) := a
    have b' : y.1 < x.1 ∨ (y.1 = x.1 ∧ (y.2 < x.2 ∨ (y.2 = x.2 ∧ lxL r l))) := b
    have h1 : x.1 = y.1 := by omega
    rcases a' with z | ⟨-, z⟩
    · omega
    rcases b' with w | ⟨-, w⟩
    · omega
    rcases z with z | ⟨z, z1⟩ <;> rcases w with w | ⟨w, w1⟩
    · omega
    · omega
    · omega
    · rw [ih z1 w1, Prod.ext h1 z]
theorem pkL_sp {q : Qe} (hq : QeOK q) : ∀ (m : Nat) (st be i : Int), i ≤ q.1 → FQ q m st be i < fa → okL q (pkL q m st be i) i ∧ (pkL q m st be i).length = m ∧ tcQ q (pkL q m st be i) st be i = FQ q m st be i
  | 0, st, be, i, _, h => by
    rw [FQ_0] at h
    refine ⟨?_, rfl, rfl⟩
    show i = q.1
    by_cases e : i = q.1
    · exact e
    · rw [if_neg e] at h; exact absurd h (Int.lt_irrefl _)
  | m + 1, st, be, i, hi, h => by
    obtain ⟨t1, t2, t3⟩ := pkT_sp hq h
    have c1 := chQ_nn hq (pkT q m st be i) be
    obtain ⟨j1, j2, j3, j4⟩ := pkJ_sp (T := pkT q m st be i) (st := st) (m := m) hi (by omega)
    have b1 := bcQ_cap hq st (pkT q m st be i) i _ j1
    obtain ⟨r1, r2, r3⟩ := pkL_sp hq m (st + pkT q m st be i) (pkT q m st be i) (pkJ q m st (pkT q m st be i) i) j2 (by omega)
    refine ⟨⟨t1, j1, j2, r1⟩, by show (pkL q m _ _ _).length + 1 = m + 1; rw [r2], ?_⟩
    show chQ q (pkT q m st be i) be + (bcQ q st (pkT q m st be i) i _ + tcQ q (pkL q m _ _ _) _ _ _) = _
    rw [r3, j3, t2]
theorem pkL_first {q : Qe} (hq : QeOK q) : ∀ (l : List (Int × Int)) (st be i : Int), okL q l i → FQ q l.length st be i < fa → tcQ q l st be i = FQ q l.length st be i → lxL (pkL q l.length st be i) l
  | [], _, _, _, _, _, _ => trivial
  | x :: l, st, be, i, ho, h, e => by
    have e' : chQ q x.1 be + (bcQ q st x.1 i x.2 + tcQ q l (st + x.1) x.1 x.2) = FQ q (l.length + 1) st be i := e
    have h' : FQ q (l.length + 1) st be i < fa := h
    obtain ⟨t1, t2, t3⟩ := pkT_sp hq h'
    have h1 := FQ_leT (m := l.length) (st := st) (be := be) (i := i) ho.1
    have h2 : owQ q l.length st x.1 i ≤ bcQ q st x.1 i x.2 + FQ q l.length (st + x.1) x.1 x.2 := mn_le ho.2.1 (by have := ho.2.2.1; have := ho.2.1; omega)
    have h3 := FQ_le l (st + x.1) x.1 x.2 ho.2.2.2
    have c1 := chQ_nn hq x.1 be
    have l1 := t3 x.1 ho.1 (by omega)
    show (pkT q l.length st be i) < x.1 ∨ (_ ∧ _)
    by_cases z : pkT q l.length st be i < x.1
    · exact Or.inl z
    · have z1 : pkT q l.length st be i = x.1 := by omega
      refine Or.inr ⟨z1, ?_⟩
      show pkJ q l.length st (pkT q l.length st be i) i < x.2 ∨ (_ ∧ lxL (pkL q l.length _ _ _) l)
      rw [z1]
      obtain ⟨j1, j2, j3, j4⟩ := pkJ_sp (q := q) (T := x.1) (st := st) (m := l.length) (i := i) (by have := ho.2.1; have := ho.2.2.1; omega) (by omega)
      by_cases w : pkJ q l.length st x.1 i < x.2
      · exact Or.inl w
      · have w1 : pkJ q l.length st x.1 i = x.2 := by
          by_cases w2 : x.2 < pkJ q l.length st x.1 i
          · exact absurd (by omega) (j4 x.2 ho.2.1 w2)
          · omega
        refine Or.inr ⟨w1, ?_⟩
        rw [w1]
        have b1 := bcQ_cap hq st x.1 i _ ho.2.1
        exact pkL_first hq l (st + x.1) x.1 x.2 ho.2.2.2 (by omega) (by omega)
