/-! THE LEAST COST: what both work out -/
theorem fa_ex : ∃ x : Int, x = 100000000 := ⟨_, rfl⟩
noncomputable def fa : Int := Classical.choose fa_ex
theorem fa_def : fa = 100000000 := Classical.choose_spec fa_ex
theorem fa_pos : 0 < fa := by rw [fa_def]; decide
/-- the least of f at i, i + 1 and on, n of them; fa at most -/
noncomputable def mn (f : Int → Int) (i : Int) : Nat → Int
  | 0 => fa
  | n + 1 => min (mn f i n) (f (i + n))
theorem mn_s {f : Int → Int} {i : Int} {n : Nat} : mn f i (n + 1) = min (mn f i n) (f (i + n)) := rfl
theorem le_mn {f : Int → Int} {i x : Int} : ∀ {n : Nat}, x ≤ mn f i n ↔ x ≤ fa ∧ ∀ k, i ≤ k → k < i + n → x ≤ f k
  | 0 => ⟨fun h => ⟨h, fun k a b => absurd b (by omega)⟩, fun h => h.1⟩
  | n + 1 => by
    rw [mn_s, Int.le_min, le_mn (n := n)]
    refine ⟨fun ⟨⟨h1, h2⟩, h3⟩ => ⟨h1, fun k a b => ?_⟩, fun ⟨h1, h2⟩ => ⟨⟨h1, fun k a b => h2 k a (by omega)⟩, h2 _ (by omega) (by omega)⟩⟩
    by_cases e : k = i + n
    · rw [e]; exact h3
    · exact h2 k a (by omega)
theorem mn_fa {f : Int → Int} {i : Int} {n : Nat} : mn f i n ≤ fa := (le_mn.mp (Int.le_refl _)).1
theorem mn_le {f : Int → Int} {i k : Int} {n : Nat} (a : i ≤ k) (b : k < i + n) : mn f i n ≤ f k := (le_mn.mp (Int.le_refl _)).2 k a b
theorem mn_at {f : Int → Int} {i : Int} : ∀ {n : Nat}, mn f i n < fa → ∃ k, i ≤ k ∧ k < i + n ∧ f k = mn f i n
  | 0, h => absurd h (Int.lt_irrefl _)
  | n + 1, h => by
    rw [mn_s] at h ⊢
    by_cases e : mn f i n ≤ f (i + n)
    · rw [Int.min_eq_left e] at h ⊢
      obtain ⟨k, a, b, c⟩ := mn_at (n := n) h
      exact ⟨k, a, by omega, c⟩
    · rw [Int.min_eq_right (by omega)]
      exact ⟨i + n, by omega, by omega, rfl⟩
theorem mn_cg {f h : Int → Int} {i : Int} {n : Nat} (H : ∀ k, i ≤ k → k < i + n → f k = h k) : mn f i n = mn h i n := by
  refine Int.le_antisymm ?_ ?_
  · exact le_mn.mpr ⟨mn_fa, fun k a b => by rw [← H k a b]; exact mn_le a b⟩
  · exact le_mn.mpr ⟨mn_fa, fun k a b => by rw [H k a b]; exact mn_le a b⟩
/-- two spans side by side -/
noncomputable def two (X Y : Int → Int → Int) (i j : Int) : Int := mn (fun k => X i k + Y k j) i (j + 1 - i).toNat
theorem le_two {X Y : Int → Int → Int} {i j x : Int} : x ≤ two X Y i j ↔ x ≤ fa ∧ ∀ k, i ≤ k → k ≤ j → x ≤ X i k + Y k j := by
  unfold two
  rw [le_mn]
  exact ⟨fun ⟨h1, h2⟩ => ⟨h1, fun k a b => h2 k a (by omega)⟩, fun ⟨h1, h2⟩ => ⟨h1, fun k a b => h2 k a (by omega)⟩⟩
theorem two_fa {X Y : Int → Int → Int} {i j : Int} : two X Y i j ≤ fa := mn_fa
theorem two_le {X Y : Int → Int → Int} {i j k : Int} (a : i ≤ k) (b : k ≤ j) : two X Y i j ≤ X i k + Y k j := (le_two.mp (Int.le_refl _)).2 k a b
theorem two_at {X Y : Int → Int → Int} {i j : Int} (h : two X Y i j < fa) : ∃ k, i ≤ k ∧ k ≤ j ∧ X i k + Y k j = two X Y i j := by
  obtain ⟨k, a, b, c⟩ := mn_at h
  exact ⟨k, a, by omega, c⟩
theorem two_cg {X Y X' Y' : Int → Int → Int} {i j : Int} (hX : ∀ k, i ≤ k → k ≤ j → X i k = X' i k) (hY : ∀ k, i ≤ k → k ≤ j → Y k j = Y' k j) : two X Y i j = two X' Y' i j :=
  mn_cg fun k a b => by rw [hX k a (by omega), hY k a (by omega)]
theorem two_nn {X Y : Int → Int → Int} {i j : Int} (hX : ∀ k, i ≤ k → k ≤ j → 0 ≤ X i k) (hY : ∀ k, i ≤ k → k ≤ j → 0 ≤ Y k j) : 0 ≤ two X Y i j :=
  le_two.mpr ⟨Int.le_of_lt fa_pos, fun k a b => Int.add_nonneg (hX k a b) (hY k a b)⟩
/-- a function of pairs i ≤ j: not below 0, fa at most -/
def Cap (X : Int → Int → Int) : Prop := ∀ i j, i ≤ j → 0 ≤ X i j ∧ X i j ≤ fa
theorem two_cap {X Y : Int → Int → Int} (hX : Cap X) (hY : Cap Y) : Cap (two X Y) := fun i j _ => ⟨two_nn (fun k a _ => (hX i k a).1) (fun k _ b => (hY k j b).1), two_fa⟩
/-- three spans, either way of putting them together, their price beside -/
theorem two_two {X Y Z : Int → Int → Int} {i j x p : Int} (hX : Cap X) (hp : 0 ≤ p) (hx : x ≤ fa) : x ≤ p + two X (two Y Z) i j ↔ ∀ k m, i ≤ k → k ≤ m → m ≤ j → x ≤ p + (X i k + (Y k m + Z m j)) := by
  constructor
  · intro h k m a b c
    have h1 : x - p ≤ two X (two Y Z) i j := by omega
    have h2 := (le_two.mp h1).2 k a (by omega)
    have h3 : x - p - X i k ≤ two Y Z k j := by omega
    have h4 := (le_two.mp h3).2 m b c
    omega
  · intro h
    have : x - p ≤ two X (two Y Z) i j := by
      refine le_two.mpr ⟨by omega, fun k a b => ?_⟩
      have := hX i k a
      have : x - p - X i k ≤ two Y Z k j := le_two.mpr ⟨by omega, fun m c d => by have := h k m a c d; omega⟩
      omega
    omega
theorem two_two' {X Y Z : Int → Int → Int} {i j x p : Int} (hZ : Cap Z) (hp : 0 ≤ p) (hx : x ≤ fa) : x ≤ p + two (two X Y) Z i j ↔ ∀ k m, i ≤ k → k ≤ m → m ≤ j → x ≤ p + (X i k + (Y k m + Z m j)) := by
  constructor
  · intro h k m a b c
    have h1 : x - p ≤ two (two X Y) Z i j := by omega
    have h2 := (le_two.mp h1).2 m (by omega) c
    have h3 : x - p - Z m j ≤ two X Y i m := by omega
    have h4 := (le_two.mp h3).2 k a b
    omega
  · intro h
    have : x - p ≤ two (two X Y) Z i j := by
      refine le_two.mpr ⟨by omega, fun m a b => ?_⟩
      have := hZ m j b
      have : x - p - Z m j ≤ two X Y i m := le_two.mpr ⟨by omega, fun k c d => by have := h k m c d b; omega⟩
      omega
    omega
/-- strokes on one leaf -/
def lsm (er gp : Int → Int) (i : Int) : Nat → Int
  | 0 => 0
  | n + 1 => lsm er gp i n + er (i + n) + (if n = 0 then 0 else gp (i + n))
noncomputable def lfc (er gp : Int → Int) (i j : Int) : Int := min (lsm er gp i (j - i).toNat) fa
theorem lsm_nn {er gp : Int → Int} {i : Int} (he : ∀ k, 0 ≤ er k) (hg : ∀ k, 0 ≤ gp k) : ∀ n : Nat, 0 ≤ lsm er gp i n
  | 0 => Int.le_refl _
  | n + 1 => by
    show 0 ≤ lsm er gp i n + er (i + n) + (if n = 0 then 0 else gp (i + n))
    have h1 := lsm_nn (i := i) he hg n
    have h2 := he (i + n)
    have h3 := hg (i + n)
    split <;> omega
theorem lfc_cap {er gp : Int → Int} (he : ∀ k, 0 ≤ er k) (hg : ∀ k, 0 ≤ gp k) : Cap (lfc er gp) := fun i j _ => by
  have h1 := lsm_nn (i := i) he hg (j - i).toNat
  have h2 := fa_pos
  unfold lfc
  omega
theorem lfc_s {er gp : Int → Int} {i k : Int} (h : i ≤ k) (he : ∀ k, 0 ≤ er k) (hg : ∀ k, 0 ≤ gp k) : lfc er gp i (k + 1) = min (lfc er gp i k + er k + (if k = i then 0 else gp k)) fa := by
  unfold lfc
  rw [show (k + 1 - i).toNat = (k - i).toNat + 1 by omega]
  show min (lsm er gp i (k - i).toNat + er (i + ((k - i).toNat : Nat)) + (if (k - i).toNat = 0 then 0 else gp (i + ((k - i).toNat : Nat)))) fa = _
  rw [show i + (((k - i).toNat : Nat) : Int) = k by omega]
  have h2 := he k
  have h3 := hg k
  by_cases e : k = i
  · rw [if_pos (by omega), if_pos e]; omega
  · rw [if_neg (by omega), if_neg e]; omega
theorem lfc_0 {er gp : Int → Int} {i : Int} : lfc er gp i i = 0 := by
  unfold lfc
  rw [Int.sub_self]
  have := fa_pos
  show min 0 fa = 0
  omega
/-- a span divided one way -/
noncomputable def wyv (C : Int → Int → Int → Int → Int) (p : Int → Int) (k a s i j : Int) : Int :=
  min fa (p k + if k = 3 then two (C (pfr k 0 a s) (psz k 0 s)) (two (C (pfr k 1 a s) (psz k 1 s)) (C (pfr k 2 a s) (psz k 2 s))) i j else two (C (pfr k 0 a s) (psz k 0 s)) (C (pfr k 1 a s) (psz k 1 s)) i j)
/-- the least cost of a span, so many levels left -/
noncomputable def spC (lf : Int → Int → Int → Int) (p : Int → Int) : Nat → Int → Int → Int → Int → Int
  | 0, a, _, i, j => lf a i j
  | r + 1, a, s, i, j => min (lf a i j) (min (wyv (spC lf p r) p 1 a s i j) (min (wyv (spC lf p r) p 2 a s i j) (wyv (spC lf p r) p 3 a s i j)))
theorem spC_s {lf : Int → Int → Int → Int} {p : Int → Int} {r : Nat} {a s i j : Int} : spC lf p (r + 1) a s i j = min (lf a i j) (min (wyv (spC lf p r) p 1 a s i j) (min (wyv (spC lf p r) p 2 a s i j) (wyv (spC lf p r) p 3 a s i j))) := rfl
theorem wyv_nn {C : Int → Int → Int → Int → Int} {p : Int → Int} {k a s : Int} (hC : ∀ a s, Cap (C a s)) (hp : ∀ k, 0 ≤ p k) : Cap (wyv C p k a s) := fun i j h => by
  have h1 := hp k
  have h2 := (two_cap (hC (pfr k 0 a s) (psz k 0 s)) (hC (pfr k 1 a s) (psz k 1 s)) i j h).1
  have h3 := (two_cap (hC (pfr k 0 a s) (psz k 0 s)) (two_cap (hC (pfr k 1 a s) (psz k 1 s)) (hC (pfr k 2 a s) (psz k 2 s))) i j h).1
  have h4 := fa_pos
  unfold wyv
  split <;> omega
theorem spC_cap {lf : Int → Int → Int → Int} {p : Int → Int} (hl : ∀ a, Cap (lf a)) (hp : ∀ k, 0 ≤ p k) : ∀ (r : Nat) (a s : Int), Cap (spC lf p r a s)
  | 0, a, _ => hl a
  | r + 1, a, s => fun i j h => by
    have ih := spC_cap hl hp r
    have h1 := wyv_nn (k := 1) (a := a) (s := s) ih hp i j h
    have h2 := wyv_nn (k := 2) (a := a) (s := s) ih hp i j h
    have h3 := wyv_nn (k := 3) (a := a) (s := s) ih hp i j h
    have h4 := hl a i j h
    rw [spC_s]
    omega
/-- a bar, divided only as it may be (w: -1, or the one way) -/
noncomputable def brC (lf : Int → Int → Int → Int) (p : Int → Int) (D : Nat) (w i j : Int) : Int :=
  min (if w = -1 ∨ w = 0 then lf 0 i j else fa) (match D with
    | 0 => fa
    | r + 1 => min (if w = -1 ∨ w = 1 then wyv (spC lf p r) p 1 0 216 i j else fa) (min (if w = -1 ∨ w = 2 then wyv (spC lf p r) p 2 0 216 i j else fa) (if w = -1 ∨ w = 3 then wyv (spC lf p r) p 3 0 216 i j else fa)))
theorem brC_0 {lf : Int → Int → Int → Int} {p : Int → Int} {w i j : Int} : brC lf p 0 w i j = min (if w = -1 ∨ w = 0 then lf 0 i j else fa) fa := rfl
theorem brC_s {lf : Int → Int → Int → Int} {p : Int → Int} {r : Nat} {w i j : Int} : brC lf p (r + 1) w i j = min (if w = -1 ∨ w = 0 then lf 0 i j else fa) (min (if w = -1 ∨ w = 1 then wyv (spC lf p r) p 1 0 216 i j else fa) (min (if w = -1 ∨ w = 2 then wyv (spC lf p r) p 2 0 216 i j else fa) (if w = -1 ∨ w = 3 then wyv (spC lf p r) p 3 0 216 i j else fa))) := rfl
theorem brC_fr {lf : Int → Int → Int → Int} {p : Int → Int} (hl : ∀ a, Cap (lf a)) {D : Nat} {i j : Int} (h : i ≤ j) : brC lf p D (-1) i j = spC lf p D 0 216 i j := by
  cases D with
  | zero =>
    rw [brC_0, if_pos (Or.inl rfl)]
    show _ = lf 0 i j
    have := hl 0 i j h
    omega
  | succ r => rw [brC_s, if_pos (Or.inl rfl), if_pos (Or.inl rfl), if_pos (Or.inl rfl), if_pos (Or.inl rfl), spC_s]
theorem brC_cap {lf : Int → Int → Int → Int} {p : Int → Int} (hl : ∀ a, Cap (lf a)) (hp : ∀ k, 0 ≤ p k) {D : Nat} {w : Int} : Cap (brC lf p D w) := fun i j h => by
  have h4 := hl 0 i j h
  have h5 := fa_pos
  cases D with
  | zero => rw [brC_0]; split <;> omega
  | succ r =>
    have ih := spC_cap hl hp r
    have h1 := wyv_nn (k := 1) (a := 0) (s := 216) ih hp i j h
    have h2 := wyv_nn (k := 2) (a := 0) (s := 216) ih hp i j h
    have h3 := wyv_nn (k := 3) (a := 0) (s := 216) ih hp i j h
    rw [brC_s]
    refine ⟨Int.le_min.mpr ⟨?_, Int.le_min.mpr ⟨?_, Int.le_min.mpr ⟨?_, ?_⟩⟩⟩, Int.le_trans (Int.min_le_left _ _) ?_⟩ <;> split <;> omega
