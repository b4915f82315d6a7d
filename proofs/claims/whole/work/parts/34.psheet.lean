/-! READING A TEXT: what both do -/
/-- bars, strokes, their bars and places; how many spans stand open, their kinds, parts done, beginnings, sizes (outermost first) -/
abbrev Ps : Type := Nat × Nat × (Int → Int) × (Int → Int) × Nat × (Int → Int) × (Int → Int) × (Int → Int) × (Int → Int)
abbrev bz (P : Ps) : Nat := P.1
abbrev nz (P : Ps) : Nat := P.2.1
abbrev bO (P : Ps) : Int → Int := P.2.2.1
abbrev pO (P : Ps) : Int → Int := P.2.2.2.1
abbrev oz (P : Ps) : Nat := P.2.2.2.2.1
abbrev kz (P : Ps) : Int → Int := P.2.2.2.2.2.1
abbrev pz (P : Ps) : Int → Int := P.2.2.2.2.2.2.1
abbrev az (P : Ps) : Int → Int := P.2.2.2.2.2.2.2.1
abbrev sz (P : Ps) : Int → Int := P.2.2.2.2.2.2.2.2
def upI (f : Int → Int) (i v : Int) : Int → Int := fun j => if j = i then v else f j
theorem upI_eq {f : Int → Int} {i v : Int} : upI f i v i = v := if_pos rfl
theorem upI_ne {f : Int → Int} {i j v : Int} (h : j ≠ i) : upI f i v j = f j := if_neg h
def pcn (k : Int) : Int := if k = 3 then 3 else 2
def pfr (k p a s : Int) : Int := if k = 1 then a + p * (s / 2) else if k = 2 then a + p * (s / 3 * 2) else a + p * (s / 3)
def psz (k p s : Int) : Int := if k = 1 then s / 2 else if k = 2 ∧ p = 0 then s / 3 * 2 else s / 3
def cFr (P : Ps) : Int := if oz P = 0 then 0 else pfr (kz P ((oz P : Int) - 1)) (pz P ((oz P : Int) - 1)) (az P ((oz P : Int) - 1)) (sz P ((oz P : Int) - 1))
def cSz (P : Ps) : Int := if oz P = 0 then 216 else psz (kz P ((oz P : Int) - 1)) (pz P ((oz P : Int) - 1)) (sz P ((oz P : Int) - 1))
/-- a span ends -/
def endS (P : Ps) : Ps := if oz P = 0 then (bz P + 1, P.2) else (bz P, nz P, bO P, pO P, oz P, kz P, upI (pz P) ((oz P : Int) - 1) (pz P ((oz P : Int) - 1) + 1), az P, sz P)
def popS (P : Ps) : Ps := (bz P, nz P, bO P, pO P, oz P - 1, kz P, pz P, az P, sz P)
def addS (P : Ps) (n : Nat) : Ps := (bz P, nz P + n, (fun i => if nz P ≤ i then (bz P : Int) else bO P i), (fun i => if nz P ≤ i then cFr P else pO P i), oz P, kz P, pz P, az P, sz P)
def pushS (P : Ps) (k : Int) : Ps := (bz P, nz P, bO P, pO P, oz P + 1, upI (kz P) (oz P) k, upI (pz P) (oz P) 0, upI (az P) (oz P) (cFr P), upI (sz P) (oz P) (cSz P))
def opn (c : Int) : Int := if c = 91 then 1 else if c = 60 then 2 else if c = 123 then 3 else 0
def clo (k : Int) : Int := if k = 1 then 93 else if k = 2 then 62 else 125
def isFull (P : Ps) : Prop := oz P ≠ 0 ∧ pcn (kz P ((oz P : Int) - 1)) ≤ pz P ((oz P : Int) - 1)
noncomputable def stepP (P : Ps) (c : Int) : Option Ps :=
  have := Classical.propDecidable
  if isFull P then if c = clo (kz P ((oz P : Int) - 1)) then some (endS (popS P)) else none
  else if oz P = 0 ∧ 3 ≤ bz P then none
  else if c = 45 then some (endS P)
  else if 49 ≤ c ∧ c ≤ 56 then if (nz P : Int) + (c - 48) ≤ 8 then some (endS (addS P (c - 48).toNat)) else none
  else if opn c ≠ 0 ∧ oz P < 3 then some (pushS P (opn c)) else none
def ps0 : Ps := (0, 0, (fun _ => 0), (fun _ => 0), 0, (fun _ => 0), (fun _ => 0), (fun _ => 0), fun _ => 0)
/-- the first n bytes read: where it stands, or the place of the fault -/
noncomputable def rdP (f : Int → Int) : Nat → Ps ⊕ Nat
  | 0 => .inl ps0
  | n + 1 => match rdP f n with
    | .inr e => .inr e
    | .inl P => if f n = 32 then .inl P else match stepP P (f n) with
      | some P' => .inl P'
      | none => .inr n
noncomputable def rdA (f : Int → Int) (n : Nat) : Ps ⊕ Nat := match rdP f n with
  | .inr e => .inr e
  | .inl P => if oz P ≠ 0 ∨ bz P = 0 then .inr n else .inl P
def lbS (i : Int) : Int := if i = 0 then 216 else if i = 1 then 72 else 24
def PsOK (P : Ps) : Prop := bz P ≤ 3 ∧ nz P ≤ 8 ∧ oz P ≤ 3 ∧ (oz P ≠ 0 → bz P ≤ 2) ∧
  (∀ i : Int, 0 ≤ i → i < oz P → (kz P i = 1 ∨ kz P i = 2 ∨ kz P i = 3) ∧ 0 ≤ pz P i ∧ (i + 1 < oz P → pz P i < pcn (kz P i)) ∧ pz P i ≤ pcn (kz P i) ∧ 0 ≤ az P i ∧ lbS i ≤ sz P i ∧ az P i + sz P i ≤ 216) ∧
  ∀ i : Int, 0 ≤ i → i < nz P → 0 ≤ bO P i ∧ bO P i ≤ 2 ∧ 0 ≤ pO P i ∧ pO P i < 216
theorem ps0_ok : PsOK ps0 := ⟨by decide, by decide, by decide, fun h => absurd rfl h, fun i a b => absurd b (by show ¬ i < ((0 : Nat) : Int); omega), fun i a b => absurd b (by show ¬ i < ((0 : Nat) : Int); omega)⟩
theorem pcn_cs {k : Int} : (k = 3 ∧ pcn k = 3) ∨ (k ≠ 3 ∧ pcn k = 2) := by unfold pcn; split <;> omega
theorem lbS_ge (i : Int) : 24 ≤ lbS i := by unfold lbS; split <;> (try split) <;> omega
theorem lbS_s {i : Int} (h : 0 ≤ i) (h2 : i < 2) {s : Int} (hs : lbS i ≤ s) : lbS (i + 1) ≤ s / 3 := by
  unfold lbS at *
  split at hs <;> (try split at hs) <;> (try omega)
theorem pfr_in {k p a s : Int} (hk : k = 1 ∨ k = 2 ∨ k = 3) (hp : 0 ≤ p) (hp2 : p < pcn k) (ha : 0 ≤ a) (hs : 24 ≤ s) (hx : a + s ≤ 216) : 0 ≤ pfr k p a s ∧ pfr k p a s + psz k p s ≤ 216 ∧ pfr k p a s < 216 ∧ s / 3 ≤ psz k p s := by
  have hc : p = 0 ∨ p = 1 ∨ (p = 2 ∧ k = 3) := by rcases pcn_cs (k := k) with h | h <;> omega
  unfold pfr psz
  rcases hk with rfl | rfl | rfl
  · rw [if_pos rfl, if_pos rfl]
    rcases hc with rfl | rfl | h
    · omega
    · omega
    · omega
  · rw [if_neg (by decide), if_pos rfl, if_neg (by decide)]
    rcases hc with rfl | rfl | h
    · rw [if_pos ⟨rfl, rfl⟩]; omega
    · rw [if_neg (by omega)]; omega
    · omega
  · rw [if_neg (by decide), if_neg (by decide), if_neg (by decide), if_neg (by omega)]
    rcases hc with rfl | rfl | ⟨rfl, -⟩ <;> omega
theorem cFr_in {P : Ps} (h : PsOK P) (hf : ¬ isFull P) : 0 ≤ cFr P ∧ cFr P + cSz P ≤ 216 ∧ cFr P < 216 ∧ (oz P < 3 → lbS (oz P) ≤ cSz P) := by
  obtain ⟨h1, h2, h3, h4, h5, h6⟩ := h
  unfold cFr cSz
  by_cases ho : oz P = 0
  · rw [if_pos ho, if_pos ho, ho]; exact ⟨by omega, by omega, by omega, fun _ => by unfold lbS; simp⟩
  · rw [if_neg ho, if_neg ho]
    obtain ⟨a1, a2, a3, a4, a5, a6, a7⟩ := h5 ((oz P : Int) - 1) (by omega) (by omega)
    have hp : pz P ((oz P : Int) - 1) < pcn (kz P ((oz P : Int) - 1)) := Int.not_le.mp (fun z => hf ⟨ho, z⟩)
    have hl := lbS_ge ((oz P : Int) - 1)
    obtain ⟨b1, b2, b3, b4⟩ := pfr_in a1 a2 hp a5 (by omega) a7
    refine ⟨b1, b2, b3, fun h => ?_⟩
    have := lbS_s (i := (oz P : Int) - 1) (by omega) (by omega) a6
    rw [show (oz P : Int) - 1 + 1 = oz P by omega] at this
    omega
theorem endS_ok {P : Ps} (h : PsOK P) (h0 : oz P = 0 → bz P ≤ 2) (hp : oz P ≠ 0 → pz P ((oz P : Int) - 1) < pcn (kz P ((oz P : Int) - 1))) : PsOK (endS P) := by
  obtain ⟨h1, h2, h3, h4, h5, h6⟩ := h
  unfold endS
  by_cases ho : oz P = 0
  · rw [if_pos ho]
    exact ⟨by show bz P + 1 ≤ 3; have := h0 ho; omega, h2, h3, fun z => absurd ho z, fun i a b => absurd b (by show ¬ i < (oz P : Int); omega), h6⟩
  · rw [if_neg ho]
    have hp := hp ho
    refine ⟨h1, h2, h3, h4, fun i a b => ?_, h6⟩
    obtain ⟨a1, a2, a3, a4, a5, a6, a7⟩ := h5 i a b
    have b' : i < (oz P : Int) := b
    show (kz P i = 1 ∨ _) ∧ 0 ≤ upI _ _ _ i ∧ (_ → upI _ _ _ i < _) ∧ upI _ _ _ i ≤ _ ∧ _
    by_cases e : i = (oz P : Int) - 1
    · subst e
      rw [upI_eq]
      exact ⟨a1, by omega, fun z => absurd z (by show ¬ _ < (oz P : Int); omega), by show _ ≤ pcn (kz P _); omega, a5, a6, a7⟩
    · rw [upI_ne e]
      exact ⟨a1, a2, a3, a4, a5, a6, a7⟩
theorem stepP_ok {P P' : Ps} {c : Int} (h : PsOK P) (hs : stepP P c = some P') : PsOK P' := by
  have H := h
  obtain ⟨h1, h2, h3, h4, h5, h6⟩ := h
  unfold stepP at hs
  by_cases hf : isFull P
  · simp only [if_pos hf] at hs
    split at hs
    · cases hs
      have ho := hf.1
      refine endS_ok ⟨h1, h2, by show oz P - 1 ≤ 3; omega, fun _ => h4 ho, fun i a b => ?_, h6⟩ (fun _ => h4 ho) (fun ho2 => ?_)
      · have b' : i < ((oz P - 1 : Nat) : Int) := b
        obtain ⟨a1, a2, a3, a4, a5, a6, a7⟩ := h5 i a (by omega)
        exact ⟨a1, a2, fun z => a3 (by omega), a4, a5, a6, a7⟩
      · have ho2' : oz P - 1 ≠ 0 := ho2
        obtain ⟨a1, a2, a3, a4, a5, a6, a7⟩ := h5 ((oz P : Int) - 2) (by omega) (by omega)
        have := a3 (by omega)
        show pz P (((oz P - 1 : Nat) : Int) - 1) < pcn (kz P (((oz P - 1 : Nat) : Int) - 1))
        rw [show ((oz P - 1 : Nat) : Int) - 1 = (oz P : Int) - 2 by omega]
        exact this
    · cases hs
  · simp only [if_neg hf] at hs
    have hp : oz P ≠ 0 → pz P ((oz P : Int) - 1) < pcn (kz P ((oz P : Int) - 1)) := fun ho => Int.not_le.mp (fun z => hf ⟨ho, z⟩)
    split at hs
    · cases hs
    · rename_i hb
      have h0 : oz P = 0 → bz P ≤ 2 := fun z => by omega
      split at hs
      · cases hs; exact endS_ok H h0 hp
      · split at hs
        · split at hs
          · cases hs
            rename_i hc hn
            have hcf := cFr_in H hf
            refine endS_ok ⟨h1, by show nz P + (c - 48).toNat ≤ 8; omega, h3, h4, h5, fun i a b => ?_⟩ h0 hp
            show 0 ≤ (if (nz P : Int) ≤ i then (bz P : Int) else bO P i) ∧ (if (nz P : Int) ≤ i then (bz P : Int) else bO P i) ≤ 2 ∧ 0 ≤ (if (nz P : Int) ≤ i then cFr P else pO P i) ∧ (if (nz P : Int) ≤ i then cFr P else pO P i) < 216
            by_cases e : (nz P : Int) ≤ i
            · rw [if_pos e, if_pos e]
              have : bz P ≤ 2 := by
                by_cases ho : oz P = 0
                · exact h0 ho
                · exact h4 ho
              omega
            · rw [if_neg e, if_neg e]; exact h6 i a (by omega)
          · cases hs
        · split at hs
          · cases hs
            rename_i hc
            have hcf := cFr_in H hf
            have hk : opn c = 1 ∨ opn c = 2 ∨ opn c = 3 := by
              have := hc.1
              unfold opn at *
              split <;> (try split) <;> (try split) <;> simp_all
            refine ⟨h1, h2, by show oz P + 1 ≤ 3; omega, fun _ => ?_, fun i a b => ?_, h6⟩
            · show bz P ≤ 2
              by_cases ho : oz P = 0
              · exact h0 ho
              · exact h4 ho
            · have b' : i < ((oz P + 1 : Nat) : Int) := b
              show (upI (kz P) (oz P) (opn c) i = 1 ∨ upI (kz P) (oz P) (opn c) i = 2 ∨ upI (kz P) (oz P) (opn c) i = 3) ∧ 0 ≤ upI (pz P) (oz P) 0 i ∧ (i + 1 < ((oz P + 1 : Nat) : Int) → upI (pz P) (oz P) 0 i < pcn (upI (kz P) (oz P) (opn c) i)) ∧ upI (pz P) (oz P) 0 i ≤ pcn (upI (kz P) (oz P) (opn c) i) ∧ 0 ≤ upI (az P) (oz P) (cFr P) i ∧ lbS i ≤ upI (sz P) (oz P) (cSz P) i ∧ upI (az P) (oz P) (cFr P) i + upI (sz P) (oz P) (cSz P) i ≤ 216
              by_cases e : i = oz P
              · subst e
                rw [upI_eq, upI_eq, upI_eq, upI_eq]
                refine ⟨hk, by omega, fun z => absurd z (by omega), ?_, hcf.1, hcf.2.2.2 hc.2, hcf.2.1⟩
                rcases pcn_cs (k := opn c) with q | q <;> omega
              · rw [upI_ne e, upI_ne e, upI_ne e, upI_ne e]
                obtain ⟨a1, a2, a3, a4, a5, a6, a7⟩ := h5 i a (by omega)
                refine ⟨a1, a2, fun z => ?_, a4, a5, a6, a7⟩
                by_cases e2 : i = (oz P : Int) - 1
                · subst e2; exact hp (by omega)
                · exact a3 (by omega)
          · cases hs
theorem rdP_ok {f : Int → Int} : ∀ {n : Nat} {P : Ps}, rdP f n = .inl P → PsOK P
  | 0, P, h => by cases h; exact ps0_ok
  | n + 1, P, h => by
    unfold rdP at h
    rcases hr : rdP f n with P0 | e
    · rw [hr] at h
      have h0 := rdP_ok hr
      simp only at h
      split at h
      · cases h; exact h0
      · rcases hs : stepP P0 (f n) with _ | P1
        · rw [hs] at h; cases h
        · rw [hs] at h; cases h; exact stepP_ok h0 hs
    · rw [hr] at h; cases h
