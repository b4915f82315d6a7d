/-! WHAT A STATE IS: a score (how many, times, settings), the scores to go back to, how often refused, the text -/
abbrev Sc : Type := Nat × (Int → Int) × (Int → Int)
abbrev Ab : Type := Sc × List Sc × (Int → Int) × Nat × (Int → Int)
def loS (i : Int) : Int := if i = 0 then 1 else if i = 1 then 48 else 0
def hiS (i : Int) : Int := if i = 0 then 3 else if i = 1 then 432 else if i = 2 then 24 else if i = 3 then 3 else if i = 9 then 50 else 99
def ScOK (s : Sc) : Prop := s.1 ≤ 8 ∧ (∀ i : Int, 0 ≤ i → i < s.1 → 0 ≤ s.2.1 i ∧ s.2.1 i ≤ 1999) ∧ (∀ i j : Int, 0 ≤ i → i ≤ j → j < s.1 → s.2.1 i ≤ s.2.1 j) ∧ ∀ i : Int, 0 ≤ i → i < 10 → loS i ≤ s.2.2 i ∧ s.2.2 i ≤ hiS i
def AbOK (A : Ab) : Prop := ScOK A.1 ∧ (∀ s ∈ A.2.1, ScOK s) ∧ A.2.1.length ≤ 8 ∧ A.2.2.2.1 ≤ 60
/-- numbers as they lie say a score -/
def AgS (n : Int) (f h : Int → Int) (s : Sc) : Prop := n = s.1 ∧ (∀ i : Int, 0 ≤ i → i < s.1 → f i = s.2.1 i) ∧ ∀ i : Int, 0 ≤ i → i < 10 → h i = s.2.2 i
/-- the class's own cells -/
def IC (g : Nat → Int → Int) (A : Ab) : Prop :=
  AgS (g 1 2) (g 2) (g 3) A.1 ∧ (0 ≤ g 4 1 ∧ g 4 1 < 8) ∧ g 4 2 = A.2.1.length ∧
  (∀ (k : Nat) (s : Sc), A.2.1[k]? = some s → AgS (g 5 (19 * ((g 4 1 - 1 - k) % 8) + 18)) (fun i => g 5 (19 * ((g 4 1 - 1 - k) % 8) + i)) (fun i => g 5 (19 * ((g 4 1 - 1 - k) % 8) + 8 + i)) s) ∧
  (∀ i : Int, 0 ≤ i → i < 3 → g 40 i = A.2.2.1 i) ∧ g 6 1 = A.2.2.2.1 ∧ ∀ i : Int, 0 ≤ i → i < A.2.2.2.1 → g 7 i = A.2.2.2.2 i
/-- the reference's -/
def IM (g : Nat → Int → Int) (A : Ab) : Prop :=
  AgS (g 42 10) (fun i => g 42 (11 + i)) (g 42) A.1 ∧ g 41 2 = A.2.1.length ∧
  (∀ (k : Nat) (s : Sc), A.2.1[k]? = some s → AgS (g 43 (19 * (g 41 2 - 1 - k) + 10)) (fun i => g 43 (19 * (g 41 2 - 1 - k) + 11 + i)) (fun i => g 43 (19 * (g 41 2 - 1 - k) + i)) s) ∧
  (∀ i : Int, 0 ≤ i → i < 3 → g 44 i = A.2.2.1 i) ∧ g 41 5 = A.2.2.2.1 ∧ ∀ i : Int, 0 ≤ i → i < A.2.2.2.1 → g 45 i = A.2.2.2.2 i
noncomputable def aR (A : Ab) (j : Int) : Ab := (A.1, A.2.1, (fun i => if i = j then wr (A.2.2.1 i + 1) else A.2.2.1 i), A.2.2.2)
/-- a state is kept -/
def aK (A : Ab) : Ab := (A.1, (A.1 :: A.2.1).take 8, A.2.2)
def aS (A : Ab) (s : Sc) : Ab := (s, (A.1 :: A.2.1).take 8, A.2.2)
def outT (f : Int → Int) (k : Int) : Int → Int := fun i => if i < k then f i else f (i + 1)
theorem dN_ex : ∃ f : Int → Int, ∀ x, f x = (x * 1103515245 + 12345) % 2147483648 := ⟨_, fun _ => rfl⟩
noncomputable def dN : Int → Int := Classical.choose dN_ex
theorem dN_def (x : Int) : dN x = (x * 1103515245 + 12345) % 2147483648 := Classical.choose_spec dN_ex x
theorem dQ_ex : ∃ f : Int → Int → Int, ∀ x T, f x T = x / 65536 % T := ⟨_, fun _ _ => rfl⟩
noncomputable def dQ : Int → Int → Int := Classical.choose dQ_ex
theorem dQ_def (x T : Int) : dQ x T = x / 65536 % T := Classical.choose_spec dQ_ex x T
noncomputable def dX (x : Int) : Nat → Int
  | 0 => x
  | k + 1 => dN (dX x k)
noncomputable def dT (x T : Int) (k : Nat) : Int := dQ (dX x (k + 1)) T
noncomputable def dF (f : Int → Int) (x T : Int) : Nat → Int → Int
  | 0 => f
  | k + 1 => insT (dF f x T k) (dT x T k) (insP (dF f x T k) (dT x T k) k)
noncomputable def dS (x T : Int) : Nat → Int
  | 0 => 0
  | k + 1 => dS x T k + dT x T k
def clm (t : Int) : Int := max 0 (min 1999 t)
def shC (f : Int → Int) (v : Int) : Nat → Int
  | 0 => 0
  | n + 1 => shC f v n + if clm (f n + v) = f n then 0 else 1
def aTime (k t : Int) : Prop := 0 ≤ t ∧ t ≤ 1999
noncomputable def aStrikes (A : Ab) (t : Int) : Ab × Int := if 0 ≤ t ∧ t ≤ 1999 then if A.1.1 < 8 then (aS A (A.1.1 + 1, insT A.1.2.1 t (insP A.1.2.1 t A.1.1), A.1.2.2), (insP A.1.2.1 t A.1.1 : Int)) else (aR A 2, -4) else (aR A 0, -2)
noncomputable def aLifts (A : Ab) (k : Int) : Ab × Int := if 0 ≤ k ∧ k < A.1.1 then (aS A (A.1.1 - 1, outT A.1.2.1 k, A.1.2.2), (A.1.1 : Int) - 1) else (aR A 0, -2)
noncomputable def aMoves (A : Ab) (k t : Int) : Ab × Int := if (0 ≤ k ∧ k < A.1.1) ∧ 0 ≤ t ∧ t ≤ 1999 then (aS A (A.1.1, insT (outT A.1.2.1 k) t (insP (outT A.1.2.1 k) t (A.1.1 - 1)), A.1.2.2), (insP (outT A.1.2.1 k) t (A.1.1 - 1) : Int)) else (aR A 0, -2)
noncomputable def aDraws (A : Ab) (x n : Int) : Ab × Int := if (0 ≤ x ∧ x ≤ 999999) ∧ 0 ≤ n ∧ n ≤ 8 then (aS A (n.toNat, dF A.1.2.1 x (A.1.2.2 0 * A.1.2.2 1) n.toNat, A.1.2.2), dS x (A.1.2.2 0 * A.1.2.2 1) n.toNat) else (aR A 0, -2)
noncomputable def aShifts (A : Ab) (v : Int) : Ab × Int := if -500 ≤ v ∧ v ≤ 500 then (aS A (A.1.1, (fun i => clm (A.1.2.1 i + v)), A.1.2.2), shC A.1.2.1 v A.1.1) else (aR A 0, -2)
noncomputable def aSets (A : Ab) (w v : Int) : Ab × Int := if (0 ≤ w ∧ w < 10) ∧ loS w ≤ v ∧ v ≤ hiS w then (aS A (A.1.1, A.1.2.1, fun i => if i = w then v else A.1.2.2 i), A.1.2.2 w) else (aR A 0, -2)
noncomputable def aTimeOf (A : Ab) (k : Int) : Ab × Int := if 0 ≤ k ∧ k < A.1.1 then (A, A.1.2.1 k) else (aR A 0, -2)
noncomputable def aType (A : Ab) (c : Int) : Ab × Int := if 0 ≤ c ∧ c ≤ 127 then if A.2.2.2.1 < 60 then ((A.1, A.2.1, A.2.2.1, A.2.2.2.1 + 1, fun i => if i = A.2.2.2.1 then c else A.2.2.2.2 i), (A.2.2.2.1 : Int) + 1) else (aR A 2, -4) else (aR A 0, -2)
def aClear (A : Ab) : Ab × Int := ((A.1, A.2.1, A.2.2.1, 0, A.2.2.2.2), (A.2.2.2.1 : Int))
noncomputable def aBack (A : Ab) : Ab × Int := match A.2.1 with
  | [] => (aR A 1, -3)
  | s :: h => ((s, h, A.2.2), (h.length : Int))
def aTell (A : Ab) (w : Int) : Int := if w < 3 then A.2.2.1 w else if w = 3 then A.1.1 else if w < 14 then A.1.2.2 (w - 4) else if w = 14 then A.2.2.2.1 else A.2.1.length
noncomputable def aTold (A : Ab) (w : Int) : Ab × Int := if 0 ≤ w ∧ w < 16 then (A, aTell A w) else (aR A 0, -2)
theorem insP_cg {f h : Int → Int} {t : Int} : ∀ {n : Nat}, (∀ i : Int, 0 ≤ i → i < n → f i = h i) → insP f t n = insP h t n
  | 0, _ => rfl
  | n + 1, H => by
    unfold insP
    rw [H n (by omega) (by omega), insP_cg (n := n) (fun i a b => H i a (by omega))]
theorem insT_cg {f h : Int → Int} {t : Int} {n k : Nat} (hk : k ≤ n) (H : ∀ i : Int, 0 ≤ i → i < n → f i = h i) (i : Int) (a : 0 ≤ i) (b : i ≤ n) : insT f t k i = insT h t k i := by
  unfold insT
  by_cases c : i < k
  · rw [if_pos c, if_pos c]; exact H i a (by omega)
  · rw [if_neg c, if_neg c]
    by_cases e : i = k
    · rw [if_pos e, if_pos e]
    · rw [if_neg e, if_neg e]; exact H _ (by omega) (by omega)
/-- the first part of insP: all ahead are not later, all behind are -/
theorem insP_lt {f : Int → Int} {t : Int} : ∀ {n : Nat} (i : Int), insP f t n ≤ i → i < n → t < f i
  | 0, i, a, b => absurd b (by have : (0:Int) ≤ i := by omega
                               omega)
  | n + 1, i, a, b => by
    unfold insP at a
    by_cases c : t < f n
    · rw [if_pos c] at a
      by_cases e : i = n
      · subst e; exact c
      · exact insP_lt (n := n) i a (by omega)
    · rw [if_neg c] at a; omega
theorem insP_ge {f : Int → Int} {t : Int} : ∀ {n : Nat}, insP f t n ≠ 0 → ¬ t < f ((insP f t n : Int) - 1)
  | 0, h => absurd rfl h
  | n + 1, h => by
    unfold insP at h ⊢
    by_cases c : t < f n
    · rw [if_pos c] at h ⊢; exact insP_ge (n := n) h
    · rw [if_neg c]; rwa [show ((n + 1 : Nat) : Int) - 1 = n by omega]
theorem ScOK_ins {n : Nat} {f h : Int → Int} {t : Int} (hS : ScOK (n, f, h)) (hn : n < 8) (ht : 0 ≤ t ∧ t ≤ 1999) : ScOK (n + 1, insT f t (insP f t n), h) := by
  obtain ⟨h1, h2, h3, h4⟩ := hS
  have hp := insP_le f t n
  have sorted : ∀ i : Int, 0 ≤ i → i < insP f t n → f i ≤ t := by
    intro i a b
    have := insP_ge (f := f) (t := t) (n := n) (by omega)
    have := h3 i ((insP f t n : Int) - 1) a (by omega) (by show _ < (n : Int); omega)
    simp only at this
    omega
  refine ⟨by show n + 1 ≤ 8; omega, fun i a b => ?_, fun i j a b c => ?_, h4⟩
  · simp only at b
    show 0 ≤ insT f t _ i ∧ insT f t _ i ≤ 1999
    unfold insT
    split
    · exact h2 i a (by show _ < (n : Int); omega)
    · split
      · exact ht
      · exact h2 _ (by omega) (by show _ < (n : Int); omega)
  · simp only at c
    show insT f t _ i ≤ insT f t _ j
    unfold insT
    by_cases e1 : i < insP f t n
    · rw [if_pos e1]
      by_cases e2 : j < insP f t n
      · rw [if_pos e2]; exact h3 i j a b (by show _ < (n : Int); omega)
      · rw [if_neg e2]
        by_cases e3 : j = insP f t n
        · rw [if_pos e3]; exact sorted i a e1
        · rw [if_neg e3]; exact h3 i _ a (by omega) (by show _ < (n : Int); omega)
    · rw [if_neg e1, if_neg (show ¬ j < (insP f t n : Int) by omega)]
      by_cases e3 : i = insP f t n
      · rw [if_pos e3]
        by_cases e4 : j = insP f t n
        · rw [if_pos e4]; exact Int.le_refl t
        · rw [if_neg e4]
          exact Int.le_of_lt (insP_lt (n := n) _ (by omega) (by omega))
      · rw [if_neg e3, if_neg (show ¬ j = (insP f t n : Int) by omega)]
        exact h3 _ _ (by omega) (by omega) (by show _ < (n : Int); omega)
theorem ScOK_out {n : Nat} {f h : Int → Int} {k : Int} (hS : ScOK (n, f, h)) (hk : 0 ≤ k ∧ k < n) : ScOK (n - 1, outT f k, h) := by
  obtain ⟨h1, h2, h3, h4⟩ := hS
  simp only at h1 h2 h3
  refine ⟨by show n - 1 ≤ 8; omega, fun i a b => ?_, fun i j a b c => ?_, h4⟩
  · simp only at b
    show 0 ≤ outT f k i ∧ outT f k i ≤ 1999
    unfold outT
    split <;> exact h2 _ (by omega) (by omega)
  · simp only at c
    show outT f k i ≤ outT f k j
    unfold outT
    split <;> split <;> exact h3 _ _ (by omega) (by omega) (by omega)
theorem aK_mem {A : Ab} {s : Sc} (h : s ∈ (A.1 :: A.2.1).take 8) : s = A.1 ∨ s ∈ A.2.1 := List.mem_cons.mp (List.mem_of_mem_take h)
theorem AbOK_S {A : Ab} {s : Sc} (h : AbOK A) (hs : ScOK s) : AbOK (aS A s) := by
  obtain ⟨h1, h2, h3, h4⟩ := h
  refine ⟨hs, fun r hr => ?_, by show (List.take 8 _).length ≤ 8; rw [List.length_take]; omega, h4⟩
  rcases aK_mem hr with rfl | hr
  · exact h1
  · exact h2 r hr
theorem AbOK_R {A : Ab} {j : Int} (h : AbOK A) : AbOK (aR A j) := h
