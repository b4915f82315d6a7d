/-! HOW A SPAN IS WRITTEN: leaves (0, place, level, from, to), openings (1, way), closings (2, way) -/
abbrev Ev : Type := Nat × Int × Int × Int × Int
abbrev evL (a v i j : Int) : Ev := (0, a, v, i, j)
abbrev evO (k : Int) : Ev := (1, k, 0, 0, 0)
abbrev evC (k : Int) : Ev := (2, k, 0, 0, 0)
theorem fsK_in {f : Int → Int} {x : Int} : ∀ {n : Nat} {i : Int}, i ≤ fsK f x i n ∧ fsK f x i n ≤ i + n
  | 0, i => ⟨Int.le_refl _, by show i ≤ i + 0; omega⟩
  | n + 1, i => by
    unfold fsK
    have := fsK_in (f := f) (x := x) (n := n) (i := i + 1)
    split <;> omega
noncomputable def ct2 (X Y : Int → Int → Int) (i j : Int) : Int := fsK (fun k => X i k + Y k j) (two X Y i j) i (j - i).toNat
theorem ct2_in {X Y : Int → Int → Int} {i j : Int} (h : i ≤ j) : i ≤ ct2 X Y i j ∧ ct2 X Y i j ≤ j := by
  have := fsK_in (f := fun k => X i k + Y k j) (x := two X Y i j) (n := (j - i).toNat) (i := i)
  unfold ct2
  omega
/-- the way that a span is divided, if it is -/
noncomputable def wyK (C : Int → Int → Int → Int → Int) (p : Int → Int) (c a s i j : Int) : Int := if wyv C p 1 a s i j = c then 1 else if wyv C p 2 a s i j = c then 2 else 3
noncomputable def wrS (lf : Int → Int → Int → Int) (p : Int → Int) : Nat → Int → Int → Int → Int → Int → List Ev
  | 0, a, _, v, i, j => [evL a v i j]
  | r + 1, a, s, v, i, j => if lf a i j = spC lf p (r + 1) a s i j then [evL a v i j] else
    if wyK (spC lf p r) p (spC lf p (r + 1) a s i j) a s i j = 3 then
      evO 3 :: (wrS lf p r (pfr 3 0 a s) (psz 3 0 s) (v + 1) i (ct2 (spC lf p r (pfr 3 0 a s) (psz 3 0 s)) (two (spC lf p r (pfr 3 1 a s) (psz 3 1 s)) (spC lf p r (pfr 3 2 a s) (psz 3 2 s))) i j) ++
        (wrS lf p r (pfr 3 1 a s) (psz 3 1 s) (v + 1) (ct2 (spC lf p r (pfr 3 0 a s) (psz 3 0 s)) (two (spC lf p r (pfr 3 1 a s) (psz 3 1 s)) (spC lf p r (pfr 3 2 a s) (psz 3 2 s))) i j) (ct2 (spC lf p r (pfr 3 1 a s) (psz 3 1 s)) (spC lf p r (pfr 3 2 a s) (psz 3 2 s)) (ct2 (spC lf p r (pfr 3 0 a s) (psz 3 0 s)) (two (spC lf p r (pfr 3 1 a s) (psz 3 1 s)) (spC lf p r (pfr 3 2 a s) (psz 3 2 s))) i j) j) ++
        (wrS lf p r (pfr 3 2 a s) (psz 3 2 s) (v + 1) (ct2 (spC lf p r (pfr 3 1 a s) (psz 3 1 s)) (spC lf p r (pfr 3 2 a s) (psz 3 2 s)) (ct2 (spC lf p r (pfr 3 0 a s) (psz 3 0 s)) (two (spC lf p r (pfr 3 1 a s) (psz 3 1 s)) (spC lf p r (pfr 3 2 a s) (psz 3 2 s))) i j) j) j ++ [evC 3])))
    else
      evO (wyK (spC lf p r) p (spC lf p (r + 1) a s i j) a s i j) ::
        (wrS lf p r (pfr (wyK (spC lf p r) p (spC lf p (r + 1) a s i j) a s i j) 0 a s) (psz (wyK (spC lf p r) p (spC lf p (r + 1) a s i j) a s i j) 0 s) (v + 1) i (ct2 (spC lf p r (pfr (wyK (spC lf p r) p (spC lf p (r + 1) a s i j) a s i j) 0 a s) (psz (wyK (spC lf p r) p (spC lf p (r + 1) a s i j) a s i j) 0 s)) (spC lf p r (pfr (wyK (spC lf p r) p (spC lf p (r + 1) a s i j) a s i j) 1 a s) (psz (wyK (spC lf p r) p (spC lf p (r + 1) a s i j) a s i j) 1 s)) i j) ++
        (wrS lf p r (pfr (wyK (spC lf p r) p (spC lf p (r + 1) a s i j) a s i j) 1 a s) (psz (wyK (spC lf p r) p (spC lf p (r + 1) a s i j) a s i j) 1 s) (v + 1) (ct2 (spC lf p r (pfr (wyK (spC lf p r) p (spC lf p (r + 1) a s i j) a s i j) 0 a s) (psz (wyK (spC lf p r) p (spC lf p (r + 1) a s i j) a s i j) 0 s)) (spC lf p r (pfr (wyK (spC lf p r) p (spC lf p (r + 1) a s i j) a s i j) 1 a s) (psz (wyK (spC lf p r) p (spC lf p (r + 1) a s i j) a s i j) 1 s)) i j) j ++
        [evC (wyK (spC lf p r) p (spC lf p (r + 1) a s i j) a s i j)]))
section EVENTS
variable {lf : Int → Int → Int → Int} {p : Int → Int} {r : Nat} {a s v i j : Int}
theorem wrS_0 : wrS lf p 0 a s v i j = [evL a v i j] := rfl
theorem wrS_lf (h : lf a i j = spC lf p (r + 1) a s i j) : wrS lf p (r + 1) a s v i j = [evL a v i j] := by
  rw [wrS, if_pos h]
theorem wrS_2 {k m : Int} (h : lf a i j ≠ spC lf p (r + 1) a s i j) (hk : wyK (spC lf p r) p (spC lf p (r + 1) a s i j) a s i j = k) (h3 : k ≠ 3) (hm : m = ct2 (spC lf p r (pfr k 0 a s) (psz k 0 s)) (spC lf p r (pfr k 1 a s) (psz k 1 s)) i j) :
    wrS lf p (r + 1) a s v i j = evO k :: (wrS lf p r (pfr k 0 a s) (psz k 0 s) (v + 1) i m ++ (wrS lf p r (pfr k 1 a s) (psz k 1 s) (v + 1) m j ++ [evC k])) := by
  rw [wrS, if_neg h, hk, if_neg h3, ← hm]
theorem wrS_3 {m m2 : Int} (h : lf a i j ≠ spC lf p (r + 1) a s i j) (hk : wyK (spC lf p r) p (spC lf p (r + 1) a s i j) a s i j = 3) (hm : m = ct2 (spC lf p r (pfr 3 0 a s) (psz 3 0 s)) (two (spC lf p r (pfr 3 1 a s) (psz 3 1 s)) (spC lf p r (pfr 3 2 a s) (psz 3 2 s))) i j) (hm2 : m2 = ct2 (spC lf p r (pfr 3 1 a s) (psz 3 1 s)) (spC lf p r (pfr 3 2 a s) (psz 3 2 s)) m j) :
    wrS lf p (r + 1) a s v i j = evO 3 :: (wrS lf p r (pfr 3 0 a s) (psz 3 0 s) (v + 1) i m ++ (wrS lf p r (pfr 3 1 a s) (psz 3 1 s) (v + 1) m m2 ++ (wrS lf p r (pfr 3 2 a s) (psz 3 2 s) (v + 1) m2 j ++ [evC 3]))) := by
  rw [wrS, if_neg h, hk, if_pos rfl, ← hm, ← hm2]
/-- the leaves follow each other, from the first stroke to the last -/
def chn : Int → List Ev → Int → Prop
  | i, [], j => i = j
  | i, x :: l, j => if x.1 = 0 then x.2.2.2.1 = i ∧ i ≤ x.2.2.2.2 ∧ x.2.2.2.2 ≤ j ∧ chn x.2.2.2.2 l j else chn i l j
theorem chn_le : ∀ {l : List Ev} {i j : Int}, chn i l j → i ≤ j
  | [], i, j, h => by have : i = j := h; omega
  | x :: l, i, j, h => by
    unfold chn at h
    split at h
    · omega
    · exact chn_le h
theorem chn_up : ∀ {l : List Ev} {i j k : Int}, chn i l j → j ≤ k → ∀ {l2 : List Ev}, chn j l2 k → chn i (l ++ l2) k
  | [], i, j, k, h, _, l2, h2 => by have : i = j := h; subst this; exact h2
  | x :: l, i, j, k, h, hk, l2, h2 => by
    show chn i (x :: (l ++ l2)) k
    unfold chn at h ⊢
    by_cases e : x.1 = 0
    · rw [if_pos e] at h ⊢
      exact ⟨h.1, h.2.1, by omega, chn_up h.2.2.2 hk h2⟩
    · rw [if_neg e] at h ⊢
      exact chn_up h hk h2
theorem wrS_chn : ∀ (r : Nat) (a s v i j : Int), i ≤ j → chn i (wrS lf p r a s v i j) j
  | 0, a, s, v, i, j, h => by
    rw [wrS_0]
    show chn i [evL a v i j] j
    unfold chn
    rw [if_pos rfl]
    exact ⟨rfl, h, Int.le_refl _, rfl⟩
  | r + 1, a, s, v, i, j, h => by
    have ih := wrS_chn r
    by_cases h1 : lf a i j = spC lf p (r + 1) a s i j
    · rw [wrS_lf h1]
      unfold chn
      rw [if_pos rfl]
      exact ⟨rfl, h, Int.le_refl _, rfl⟩
    · by_cases h3 : wyK (spC lf p r) p (spC lf p (r + 1) a s i j) a s i j = 3
      · rw [wrS_3 h1 h3 rfl rfl]
        have m1 := ct2_in (X := spC lf p r (pfr 3 0 a s) (psz 3 0 s)) (Y := two (spC lf p r (pfr 3 1 a s) (psz 3 1 s)) (spC lf p r (pfr 3 2 a s) (psz 3 2 s))) h
        have m2 := ct2_in (X := spC lf p r (pfr 3 1 a s) (psz 3 1 s)) (Y := spC lf p r (pfr 3 2 a s) (psz 3 2 s)) m1.2
        unfold chn
        rw [if_neg (by decide)]
        exact chn_up (ih _ _ _ _ _ m1.1) m1.2 (chn_up (ih _ _ _ _ _ m2.1) m2.2 (chn_up (ih _ _ _ _ _ m2.2) (Int.le_refl _) rfl))
      · rw [wrS_2 h1 rfl h3 rfl]
        have m1 := ct2_in (X := spC lf p r (pfr (wyK (spC lf p r) p (spC lf p (r + 1) a s i j) a s i j) 0 a s) (psz (wyK (spC lf p r) p (spC lf p (r + 1) a s i j) a s i j) 0 s)) (Y := spC lf p r (pfr (wyK (spC lf p r) p (spC lf p (r + 1) a s i j) a s i j) 1 a s) (psz (wyK (spC lf p r) p (spC lf p (r + 1) a s i j) a s i j) 1 s)) h
        unfold chn
        rw [if_neg (by show ¬ (1 : Nat) = 0; decide)]
        exact chn_up (ih _ _ _ _ _ m1.1) m1.2 (chn_up (ih _ _ _ _ _ m1.2) (Int.le_refl _) rfl)
/-- how many signs: 49 at most -/
theorem wrS_ln (h0 : ∀ a i, lf a i i = 0) (hc : ∀ r a s, Cap (spC lf p r a s)) : ∀ (r : Nat) (a s v i j : Int), i ≤ j → (r = 0 → ((wrS lf p r a s v i j).length : Int) = 1) ∧ (r = 1 → ((wrS lf p r a s v i j).length : Int) ≤ 1 + 4 * (j - i)) ∧ (r = 2 → ((wrS lf p r a s v i j).length : Int) ≤ 5 + 4 * (j - i)) ∧ (r = 3 → ((wrS lf p r a s v i j).length : Int) ≤ 17 + 4 * (j - i))
  | 0, a, s, v, i, j, h => ⟨fun _ => rfl, fun z => absurd z (by omega), fun z => absurd z (by omega), fun z => absurd z (by omega)⟩
  | r + 1, a, s, v, i, j, h => by
    have ih := wrS_ln h0 hc r
    by_cases h1 : lf a i j = spC lf p (r + 1) a s i j
    · rw [wrS_lf h1]
      refine ⟨fun z => absurd z (by omega), fun _ => ?_, fun _ => ?_, fun _ => ?_⟩ <;> (show (1 : Int) ≤ _; omega)
    · have hij : i < j := by
        by_cases e : i = j
        · subst e
          have := (hc (r + 1) a s i i (Int.le_refl _)).1
          have e2 : spC lf p (r + 1) a s i i ≤ lf a i i := Int.min_le_left _ _
          rw [h0] at e2
          exact absurd (by rw [h0]; omega) h1
        · omega
      by_cases h3 : wyK (spC lf p r) p (spC lf p (r + 1) a s i j) a s i j = 3
      · rw [wrS_3 h1 h3 rfl rfl]
        have m1 := ct2_in (X := spC lf p r (pfr 3 0 a s) (psz 3 0 s)) (Y := two (spC lf p r (pfr 3 1 a s) (psz 3 1 s)) (spC lf p r (pfr 3 2 a s) (psz 3 2 s))) h
        have m2 := ct2_in (X := spC lf p r (pfr 3 1 a s) (psz 3 1 s)) (Y := spC lf p r (pfr 3 2 a s) (psz 3 2 s)) m1.2
        have q1 := ih (pfr 3 0 a s) (psz 3 0 s) (v + 1) i _ m1.1
        have q2 := ih (pfr 3 1 a s) (psz 3 1 s) (v + 1) _ _ m2.1
        have q3 := ih (pfr 3 2 a s) (psz 3 2 s) (v + 1) _ j m2.2
        simp only [List.length_cons, List.length_append, List.length_nil, Int.natCast_add, Int.natCast_one, Int.natCast_zero]
        generalize (wrS lf p r (pfr 3 0 a s) (psz 3 0 s) (v + 1) i (ct2 (spC lf p r (pfr 3 0 a s) (psz 3 0 s)) (two (spC lf p r (pfr 3 1 a s) (psz 3 1 s)) (spC lf p r (pfr 3 2 a s) (psz 3 2 s))) i j)).length = n1 at *
        generalize (wrS lf p r (pfr 3 2 a s) (psz 3 2 s) (v + 1) (ct2 (spC lf p r (pfr 3 1 a s) (psz 3 1 s)) (spC lf p r (pfr 3 2 a s) (psz 3 2 s)) (ct2 (spC lf p r (pfr 3 0 a s) (psz 3 0 s)) (two (spC lf p r (pfr 3 1 a s) (psz 3 1 s)) (spC lf p r (pfr 3 2 a s) (psz 3 2 s))) i j) j) j).length = n3 at *
        generalize (wrS lf p r (pfr 3 1 a s) (psz 3 1 s) (v + 1) (ct2 (spC lf p r (pfr 3 0 a s) (psz 3 0 s)) (two (spC lf p r (pfr 3 1 a s) (psz 3 1 s)) (spC lf p r (pfr 3 2 a s) (psz 3 2 s))) i j) (ct2 (spC lf p r (pfr 3 1 a s) (psz 3 1 s)) (spC lf p r (pfr 3 2 a s) (psz 3 2 s)) (ct2 (spC lf p r (pfr 3 0 a s) (psz 3 0 s)) (two (spC lf p r (pfr 3 1 a s) (psz 3 1 s)) (spC lf p r (pfr 3 2 a s) (psz 3 2 s))) i j) j)).length = n2 at *
        generalize ct2 (spC lf p r (pfr 3 1 a s) (psz 3 1 s)) (spC lf p r (pfr 3 2 a s) (psz 3 2 s)) (ct2 (spC lf p r (pfr 3 0 a s) (psz 3 0 s)) (two (spC lf p r (pfr 3 1 a s) (psz 3 1 s)) (spC lf p r (pfr 3 2 a s) (psz 3 2 s))) i j) j = u2 at *
        generalize ct2 (spC lf p r (pfr 3 0 a s) (psz 3 0 s)) (two (spC lf p r (pfr 3 1 a s) (psz 3 1 s)) (spC lf p r (pfr 3 2 a s) (psz 3 2 s))) i j = u1 at *
        obtain ⟨a1, a2, a3, a4⟩ := q1
        obtain ⟨b1, b2, b3, b4⟩ := q2
        obtain ⟨c1, c2, c3, c4⟩ := q3
        refine ⟨fun z => absurd z (by omega), fun z => ?_, fun z => ?_, fun z => ?_⟩
        · have := a1 (by omega); have := b1 (by omega); have := c1 (by omega); omega
        · have := a2 (by omega); have := b2 (by omega); have := c2 (by omega); omega
        · have := a3 (by omega); have := b3 (by omega); have := c3 (by omega); omega
      · rw [wrS_2 h1 rfl h3 rfl]
        generalize wyK (spC lf p r) p (spC lf p (r + 1) a s i j) a s i j = k
        have m1 := ct2_in (X := spC lf p r (pfr k 0 a s) (psz k 0 s)) (Y := spC lf p r (pfr k 1 a s) (psz k 1 s)) h
        have q1 := ih (pfr k 0 a s) (psz k 0 s) (v + 1) i _ m1.1
        have q2 := ih (pfr k 1 a s) (psz k 1 s) (v + 1) _ j m1.2
        simp only [List.length_cons, List.length_append, List.length_nil, Int.natCast_add, Int.natCast_one, Int.natCast_zero]
        generalize (wrS lf p r (pfr k 0 a s) (psz k 0 s) (v + 1) i (ct2 (spC lf p r (pfr k 0 a s) (psz k 0 s)) (spC lf p r (pfr k 1 a s) (psz k 1 s)) i j)).length = n1 at *
        generalize (wrS lf p r (pfr k 1 a s) (psz k 1 s) (v + 1) (ct2 (spC lf p r (pfr k 0 a s) (psz k 0 s)) (spC lf p r (pfr k 1 a s) (psz k 1 s)) i j) j).length = n2 at *
        generalize ct2 (spC lf p r (pfr k 0 a s) (psz k 0 s)) (spC lf p r (pfr k 1 a s) (psz k 1 s)) i j = u1 at *
        obtain ⟨a1, a2, a3, a4⟩ := q1
        obtain ⟨b1, b2, b3, b4⟩ := q2
        refine ⟨fun z => absurd z (by omega), fun z => ?_, fun z => ?_, fun z => ?_⟩
        · have := a1 (by omega); have := b1 (by omega); omega
        · have := a2 (by omega); have := b2 (by omega); omega
        · have := a3 (by omega); have := b3 (by omega); omega
theorem wrS_49 (h0 : ∀ a i, lf a i i = 0) (hc : ∀ r a s, Cap (spC lf p r a s)) (hr : r ≤ 3) (h : i ≤ j) (hj : j - i ≤ 8) : (wrS lf p r a s v i j).length ≤ 49 := by
  obtain ⟨a1, a2, a3, a4⟩ := wrS_ln h0 hc r a s v i j h
  have hr : r = 0 ∨ r = 1 ∨ r = 2 ∨ r = 3 := by omega
  rcases hr with hr | hr | hr | hr
  · have := a1 hr; omega
  · have := a2 hr; omega
  · have := a3 hr; omega
  · have := a4 hr; omega
theorem wrS_ne : wrS lf p r a s v i j ≠ [] := by
  cases r with
  | zero => rw [wrS_0]; exact List.cons_ne_nil _ _
  | succ r =>
    by_cases h1 : lf a i j = spC lf p (r + 1) a s i j
    · rw [wrS_lf h1]; exact List.cons_ne_nil _ _
    · by_cases h3 : wyK (spC lf p r) p (spC lf p (r + 1) a s i j) a s i j = 3
      · rw [wrS_3 h1 h3 rfl rfl]; exact List.cons_ne_nil _ _
      · rw [wrS_2 h1 rfl h3 rfl]; exact List.cons_ne_nil _ _
end EVENTS
