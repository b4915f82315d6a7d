/-! THE PURE MACHINE'S MEMORY AND THE HEAP: place q is the cell at base + q -/
section REL
variable (base : Nat) (adC adV : Nat → Nat) (cI : ClassId) (D : va_G) (ce : Cx)
def cv : Vx → Value
  | .inl x => .int (Int32.ofInt x)
  | .inr (.inl x) => .long (Int64.ofInt x)
  | .inr (.inr (.inl k)) => .ref (base + k)
  | .inr (.inr (.inr 0)) => .null
  | .inr (.inr (.inr (j + 1))) => .ref (adC (j + 1))
def wfV : Vx → Prop
  | .inl x => inR x
  | .inr (.inl x) => inRL x
  | _ => True
def fI (ci j : Nat) : Bool := match vwCl[ci]? with
  | some q => (q.2.1 j).2.2.1 == "I" || (q.2.1 j).2.2.1 == "Z"
  | none => false
def nF (ci : Nat) : Nat := match vwCl[ci]? with
  | some q => q.2.2
  | none => 0
def fsOf (M : Mx) (q ci : Nat) : List Value := (List.range (nF ci)).map fun j => if fI ci j = true then .int (Int32.ofInt (M.2.2.2.2 q j)) else cv base adC (M.2.2.2.1 q j)
def ceOf (M : Mx) (q : Nat) : va_E := match M.2.2.1 q with
  | some (.inl n) => .inl (cI, n.toNat, .inl fun j => Int32.ofInt (M.2.2.2.2 q j))
  | some (.inr ci) => .inr (ci, fsOf base adC M q ci)
  | none => .inl (cI, 0, .inl fun _ => 0)
def wsO (M : Mx) : va_W := (List.range M.1).map fun q => (base + q, ceOf base adC cI M q)
def wfM (M : Mx) : Prop := (∀ q, M.2.2.1 q ≠ none → q < M.1) ∧ (∀ q i, inR (M.2.2.2.2 q i)) ∧ (∀ q n, M.2.2.1 q = some (.inl n) → 0 ≤ n ∧ n < 2147483648) ∧ (∀ q j, wfV (M.2.2.2.1 q j))
def RS (M : Mx) (H : Heap) : Prop := va_P D vwCl (wsO base adC cI M) H ∧ H.size = base + M.1
def stN (j : Nat) : Option (String × String) := match j with
  | 2 => some ("PlayedWritten", "LEAST")
  | 3 => some ("PlayedWritten", "GREATEST")
  | 4 => some ("PlayedWritten", "AT_FIRST")
  | 5 => some ("PlayedWritten$Spans", "KID_KIND")
  | 6 => some ("PlayedWritten$Spans", "KID_PART")
  | _ => none
def isNW : Cond → Bool
  | .methodLinkNest _ _ _ _ => true
  | .fieldLinkNest _ _ _ _ _ _ => true
  | _ => false
/-- the words on nest mates -/
def nW : List Cond := lw_tbl.filter isNW
/-- the words that stay -/
def gW : List Cond := lw_tbl.filter goodWord
def sW : List (String × Nat × String × Nat) := [("PlayedWritten$Sheet", 66, "-]>}", 8), ("PlayedWritten$Sheet", 78, "-[<{", 7), ("PlayedWritten$Writing", 36, "-[<{", 7), ("PlayedWritten$Writing", 48, "-]>}", 8)]
abbrev oA : Nat → Prop := fun q => base ≤ q
def KS (U : State) (H : Heap) : Prop :=
  (∀ q ∈ sW, vk_R q.1 q.2.1 q.2.2.1 (adC q.2.2.2) U) ∧ va_Z "java/lang/String" "COMPACT_STRINGS" "Z" (.int 1) (oA base) U H ∧ va_Zq "jdk/internal/util/Preconditions" "SIOOBE_FORMATTER" "Ljava/util/function/BiFunction;" (oA base) U H ∧
  ∀ j, 7 ≤ j → j < 9 → ((ce j).1 = 4 ∧ ∀ i, 0 ≤ (ce j).2 i ∧ (ce j).2 i < 128) ∧ va_O "java/lang/String" (adC j) (oA base) U H ∧ va_OF "java/lang/String" "coder" "B" (.int 0) (adC j) (oA base) U H ∧ va_OF "java/lang/String" "value" "[B" (.ref (adV j)) (adC j) (oA base) U H ∧ va_T .byte (adV j) 4 (fun i => .int (Int32.ofInt ((ce j).2 i))) (oA base) U H
def KF (U : State) (H : Heap) : Prop :=
  (∀ j, 0 < j → j < 7 → ((0 ≤ (ce j).1 ∧ (ce j).1 < 2147483648) ∧ ∀ i, inR ((ce j).2 i)) ∧ va_T .int (adC j) (ce j).1.toNat (fun i => .int (Int32.ofInt ((ce j).2 i))) (oA base) U H) ∧
  (∀ j C n, stN j = some (C, n) → va_Z C n "[I" (.ref (adC j)) (oA base) U H) ∧ (∀ w ∈ nW, va_Nw w U) ∧ KS base adC adV ce U H
end REL
section RELL
variable {base : Nat} {adC adV : Nat → Nat} {cI : ClassId} {D : va_G} {ce : Cx} {M M' : Mx} {H H' : Heap} {q : Nat}
theorem wsO_len : (wsO base adC cI M).length = M.1 := by simp [wsO]
theorem wsO_at (hq : q < M.1) : (wsO base adC cI M)[q]? = some (base + q, ceOf base adC cI M q) := by
  simp [wsO, List.getElem?_range hq]
theorem wsO_inv {p : Nat × va_E} (h : (wsO base adC cI M)[q]? = some p) : q < M.1 ∧ p = (base + q, ceOf base adC cI M q) := by
  have hl := (List.getElem?_eq_some_iff.mp h).1
  rw [wsO_len] at hl
  rw [wsO_at hl] at h
  exact ⟨hl, (Option.some.inj h).symm⟩
theorem wsO_D : va_D (oA base) (wsO base adC cI M) := by
  refine ⟨fun i j x y hi hj hxy => ?_, fun k x hk => ?_⟩
  · have h1 := (wsO_inv hi).2; have h2 := (wsO_inv hj).2
    subst h1; subst h2
    simp only at hxy; omega
  · have h1 := (wsO_inv hk).2
    subst h1
    show base ≤ base + k
    omega
theorem wsO_set {e : va_E} (h1 : M'.1 = M.1) (hq : q < M.1) (he : ceOf base adC cI M' q = e) (ho : ∀ q', q' ≠ q → ceOf base adC cI M' q' = ceOf base adC cI M q') : (wsO base adC cI M).set q (base + q, e) = wsO base adC cI M' := by
  apply List.ext_getElem?
  intro k
  by_cases hk : k = q
  · subst hk
    rw [List.getElem?_set_self (by rw [wsO_len]; exact hq), wsO_at (by omega), he]
  · rw [List.getElem?_set_ne (Ne.symm hk)]
    by_cases hl : k < M.1
    · rw [wsO_at hl, wsO_at (by omega), ho k hk]
    · rw [List.getElem?_eq_none (by rw [wsO_len]; omega), List.getElem?_eq_none (by rw [wsO_len]; omega)]
theorem wsO_push (h1 : M'.1 = M.1 + 1) (ho : ∀ q', q' < M.1 → ceOf base adC cI M' q' = ceOf base adC cI M q') : wsO base adC cI M ++ [(base + M.1, ceOf base adC cI M' M.1)] = wsO base adC cI M' := by
  apply List.ext_getElem?
  intro k
  by_cases hl : k < M.1
  · rw [List.getElem?_append_left (by rw [wsO_len]; exact hl), wsO_at hl, wsO_at (by omega), ho k hl]
  · rw [List.getElem?_append_right (by rw [wsO_len]; omega), wsO_len]
    by_cases hk : k = M.1
    · subst hk
      rw [Nat.sub_self, wsO_at (by omega)]; rfl
    · rw [List.getElem?_eq_none (by simp; omega), List.getElem?_eq_none (by rw [wsO_len]; omega)]
theorem KF.kept {U : State} (h : KF base adC adV ce U H) (hq : ∀ a : Nat, a < H.size → ¬ oA base a → H'[a]? = H[a]?) : KF base adC adV ce U H' := by
  obtain ⟨h1, h2, h3, h4, h5, h6, h7⟩ := h
  refine ⟨fun j a b => ⟨(h1 j a b).1, (h1 j a b).2.kept hq⟩, fun j C n e => (h2 j C n e).kept hq, h3, h4, h5.kept hq, ?_, fun j a b => ?_⟩
  · rcases h6 with h | ⟨t, h⟩
    · exact Or.inl (h.kept hq)
    · exact Or.inr ⟨t, h.kept hq⟩
  · obtain ⟨g1, g2, g3, g4, g5⟩ := h7 j a b
    exact ⟨g1, g2.kept hq, g3.kept hq, g4.kept hq, g5.kept hq⟩
theorem KF.moved {s U : State} (hW : s.WarmedH U.vm) (h : KF base adC adV ce s H) : KF base adC adV ce U H := by
  obtain ⟨h1, h2, h3, h4, h5, h6, h7⟩ := h
  have ha := hW.alike
  refine ⟨fun j a b => ⟨(h1 j a b).1, (h1 j a b).2.moved ha⟩, fun j C n e => (h2 j C n e).moved ha, fun w hw => ?_, fun q hq => (h4 q hq).warm hW, h5.moved ha, ?_, fun j a b => ?_⟩
  · have hn : isNW w = true := (List.mem_filter.mp hw).2
    have hz := h3 w hw
    cases w <;> first | (exact va_Nw.warmM hW hz) | (exact va_Nw.warmF hW hz) | (simp [isNW] at hn)
  · rcases h6 with h | ⟨t, h⟩
    · exact Or.inl (h.moved ha)
    · exact Or.inr ⟨t, h.moved ha⟩
  · obtain ⟨g1, g2, g3, g4, g5⟩ := h7 j a b
    exact ⟨g1, g2.moved ha, g3.moved ha, g4.moved ha, g5.moved ha⟩
theorem gW_t {w : Cond} (h : w ∈ lw_tbl) (hg : goodWord w = true) : w ∈ gW := List.mem_filter.mpr ⟨h, hg⟩
theorem gW_good {big : List Cond} (h : ∀ w ∈ gW, w ∈ big) : GoodIn big gW := fun w hw => ⟨h w hw, good_of_word (List.mem_filter.mp hw).2⟩
end RELL
