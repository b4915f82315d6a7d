/-! THE TABLES OF SPANS: the maker; printed by wip/whole/gen_init4.py -/
section INI4
variable {G : Gx} {d : Nat} {g : Nat → Int → Int} {Q : Qx}
def TvA : TS := ([0], [0], [0], [216], [], [])
def TvB : TS := ([0, 108, 72, 144], [0, 0, 1, 0, 0, 2, 3], [0, 0, 108, 0, 0, 72, 144], [216, 108, 108, 144, 72, 72, 72], [0, 1, 0, 0, 2, 3], [1, 2, 3, 4, 5, 6])
def TvC : TS := ([0, 108, 72, 144, 54, 36, 162, 180, 48, 96, 24, 120, 168, 192], [0, 0, 1, 0, 0, 2, 3, 0, 4, 0, 0, 5, 2, 1, 6, 1, 1, 3, 7, 2, 0, 0, 8, 9, 0, 10, 8, 2, 2, 9, 11, 3, 3, 12, 13], [0, 0, 108, 0, 0, 72, 144, 0, 54, 0, 0, 36, 72, 108, 162, 108, 108, 144, 180, 72, 0, 0, 48, 96, 0, 24, 48, 72, 72, 96, 120, 144, 144, 168, 192], [216, 108, 108, 144, 72, 72, 72, 54, 54, 72, 36, 36, 36, 54, 54, 72, 36, 36, 36, 72, 96, 48, 48, 48, 24, 24, 24, 48, 24, 24, 24, 48, 24, 24, 24], [0, 1, 0, 0, 2, 3, 0, 4, 0, 0, 5, 2, 1, 6, 1, 1, 3, 7, 0, 2, 0, 0, 8, 9, 0, 5, 0, 0, 10, 8, 2, 1, 2, 2, 9, 11, 3, 7, 3, 3, 12, 13], [1, 2, 3, 4, 5, 6, 7, 8, 9, 10, 11, 12, 13, 14, 15, 16, 17, 18, 9, 19, 20, 21, 22, 23, 10, 11, 21, 24, 25, 26, 12, 16, 27, 28, 29, 30, 17, 18, 31, 32, 33, 34])
def TvD : TS := ([0, 108, 72, 144, 54, 36, 162, 180, 48, 96, 24, 120, 168, 192, 27, 18, 81, 90, 12, 60, 84, 135, 126, 189, 198, 132, 156, 204, 32, 64, 16, 80, 112, 128, 8, 40, 56, 88, 104, 136, 160, 176, 152, 184, 200, 208], [0, 0, 1, 0, 0, 2, 3, 0, 4, 0, 0, 5, 2, 1, 6, 1, 1, 3, 7, 2, 0, 0, 8, 9, 0, 10, 8, 2, 2, 9, 11, 3, 3, 12, 13], [0, 0, 108, 0, 0, 72, 144, 0, 54, 0, 0, 36, 72, 108, 162, 108, 108, 144, 180, 72, 0, 0, 48, 96, 0, 24, 48, 72, 72, 96, 120, 144, 144, 168, 192], [216, 108, 108, 144, 72, 72, 72, 54, 54, 72, 36, 36, 36, 54, 54, 72, 36, 36, 36, 72, 96, 48, 48, 48, 24, 24, 24, 48, 24, 24, 24, 48, 24, 24, 24], [0, 1, 0, 0, 2, 3, 0, 4, 0, 0, 5, 2, 1, 6, 1, 1, 3, 7, 0, 2, 0, 0, 8, 9, 0, 5, 0, 0, 10, 8, 2, 1, 2, 2, 9, 11, 3, 7, 3, 3, 12, 13, 0, 14, 0, 0, 15, 5, 4, 16, 4, 4, 2, 17, 0, 5, 0, 0, 10, 8, 0, 15, 0, 0, 18, 10, 5, 4, 5, 5, 8, 19, 2, 17, 2, 2, 20, 9, 1, 21, 1, 1, 22, 3, 6, 23, 6, 6, 7, 24, 1, 3, 1, 1, 25, 26, 1, 22, 1, 1, 11, 25, 3, 6, 3, 3, 26, 12, 7, 24, 7, 7, 13, 27, 2, 1, 2, 2, 9, 11, 0, 8, 0, 0, 28, 29, 0, 10, 0, 0, 30, 28, 8, 2, 8, 8, 29, 31, 9, 11, 9, 9, 32, 33, 0, 18, 0, 0, 34, 30, 10, 5, 10, 10, 28, 35, 8, 19, 8, 8, 36, 29, 2, 9, 2, 2, 37, 38, 2, 20, 2, 2, 31, 37, 9, 1, 9, 9, 38, 32, 11, 25, 11, 11, 33, 39, 3, 12, 3, 3, 40, 41, 3, 26, 3, 3, 42, 40, 12, 7, 12, 12, 41, 43, 13, 27, 13, 13, 44, 45], [1, 2, 3, 4, 5, 6, 7, 8, 9, 10, 11, 12, 13, 14, 15, 16, 17, 18, 9, 19, 20, 21, 22, 23, 10, 11, 21, 24, 25, 26, 12, 16, 27, 28, 29, 30, 17, 18, 31, 32, 33, 34])
def eqT (a b : TS) : Bool := decide (a.1 = b.1) && (decide (a.2.1 = b.2.1) && (decide (a.2.2.1 = b.2.2.1) && (decide (a.2.2.2.1 = b.2.2.2.1) && (decide (a.2.2.2.2.1 = b.2.2.2.2.1) && decide (a.2.2.2.2.2 = b.2.2.2.2.2)))))
theorem eqT_eq {a b : TS} (h : eqT a b = true) : a = b := by
  obtain ⟨a1, a2, a3, a4, a5, a6⟩ := a
  obtain ⟨b1, b2, b3, b4, b5, b6⟩ := b
  unfold eqT at h
  simp only [Bool.and_eq_true, decide_eq_true_eq] at h
  obtain ⟨h1, h2, h3, h4, h5, h6⟩ := h
  rw [h1, h2, h3, h4, h5, h6]
def eqO (o : Option TS) (T : TS) : Bool := match o with
  | some S => eqT S T
  | none => false
theorem eqO_eq {o : Option TS} {T : TS} (h : eqO o T = true) : o = some T := by
  cases o with
  | none => cases h
  | some S => exact congrArg some (eqT_eq h)
theorem ev_a' : eqO ((fP ([], [], [], [], [], []) 0 0 216).map (fun x => x.2)) TvA = true := by decide +kernel
theorem ev_a'' : (fP ([], [], [], [], [], []) 0 0 216).map (fun x => x.1) = some 0 := rfl
theorem ev_a : fP ([], [], [], [], [], []) 0 0 216 = some (0, TvA) := by
  have h1 := eqO_eq ev_a'
  have h2 := ev_a''
  rcases h : fP ([], [], [], [], [], []) 0 0 216 with _ | ⟨a, S⟩
  · rw [h] at h2; cases h2
  · rw [h] at h1 h2
    cases h1
    cases h2
    rfl
theorem ev_b : dvS 0 1 1 0 TvA = some TvB := eqO_eq (by decide +kernel)
theorem ev_c : dvS 1 7 6 1 TvB = some TvC := eqO_eq (by decide +kernel)
theorem ev_d : dvS 2 35 28 7 TvC = some TvD := eqO_eq (by decide +kernel)
theorem TI.fr {h : Nat → Int → Int} {S : TS} (t : TI g S) (f : ∀ (q : Nat) (x : Int), q ≠ 24 → q ≠ 25 → h q x = g q x) : TI h S := by
  obtain ⟨⟨h8, h9⟩, l, a1, a2, a3, a4, a5, a6⟩ := t
  exact ⟨⟨(f 21 8 (by decide) (by decide)).trans h8, (f 21 9 (by decide) (by decide)).trans h9⟩, l, a1.fr fun x => f 22 x (by decide) (by decide), a2.fr fun x => f 23 x (by decide) (by decide), a3.fr fun x => f 28 x (by decide) (by decide), a4.fr fun x => f 29 x (by decide) (by decide), a5.fr fun x => f 26 x (by decide) (by decide), a6.fr fun x => f 27 x (by decide) (by decide)⟩
def dLv (l : Nat) : Nat := [0, 1, 7, 35].getD l 0
def sLv (l : Nat) : Nat := [1, 4, 14, 46].getD l 0
theorem dLv_eq : ∀ l : Nat, l < 4 → dFo l = dLv l ∧ sFo l = sLv l
  | 0, _ => ⟨rfl, rfl⟩
  | 1, _ => ⟨rfl, rfl⟩
  | 2, _ => ⟨rfl, rfl⟩
  | 3, _ => ⟨rfl, rfl⟩
  | l + 4, h => by omega
theorem ck_1 : ∀ s : Nat, s < 46 → TvD.1.getD s 0 ≤ 216 := by decide +kernel
theorem ck_2' : ((List.range 3).all fun l => (List.range 35).all fun sp => if dLv l ≤ sp ∧ sp < dLv (l + 1) then decide (TvD.2.1.getD sp 0 < 46 ∧ TvD.2.1.getD sp 0 < sLv (l + 1) ∧ TvD.1.getD (TvD.2.1.getD sp 0) 0 = TvD.2.2.1.getD sp 0) else true) = true := by decide +kernel
theorem ck_2 (l : Nat) (hl : l < 3) (sp : Nat) (hs : sp < 35) (u : dLv l ≤ sp) (v : sp < dLv (l + 1)) : TvD.2.1.getD sp 0 < 46 ∧ TvD.2.1.getD sp 0 < sLv (l + 1) ∧ TvD.1.getD (TvD.2.1.getD sp 0) 0 = TvD.2.2.1.getD sp 0 := by
  have h := List.all_eq_true.mp (List.all_eq_true.mp ck_2' l (List.mem_range.mpr hl)) sp (List.mem_range.mpr hs)
  rw [if_pos ⟨u, v⟩] at h
  exact of_decide_eq_true h
theorem ck_3' : ((List.range 3).all fun l => (List.range 35).all fun sp => if dLv l ≤ sp ∧ sp < dLv (l + 1) then ((List.range 6).all fun c => decide (TvD.2.2.2.2.1.getD (6 * sp + c) 0 < 46 ∧ TvD.2.2.2.2.1.getD (6 * sp + c) 0 < sLv (l + 1) ∧ TvD.1.getD (TvD.2.2.2.2.1.getD (6 * sp + c) 0) 0 = pF c (TvD.2.2.1.getD sp 0) (TvD.2.2.2.1.getD sp 0))) else true) = true := by decide +kernel
theorem ck_3 (l : Nat) (hl : l < 3) (sp : Nat) (hs : sp < 35) (u : dLv l ≤ sp) (v : sp < dLv (l + 1)) (c : Nat) (hc : c < 6) : TvD.2.2.2.2.1.getD (6 * sp + c) 0 < 46 ∧ TvD.2.2.2.2.1.getD (6 * sp + c) 0 < sLv (l + 1) ∧ TvD.1.getD (TvD.2.2.2.2.1.getD (6 * sp + c) 0) 0 = pF c (TvD.2.2.1.getD sp 0) (TvD.2.2.2.1.getD sp 0) := by
  have h := List.all_eq_true.mp (List.all_eq_true.mp ck_3' l (List.mem_range.mpr hl)) sp (List.mem_range.mpr hs)
  rw [if_pos ⟨u, v⟩] at h
  exact of_decide_eq_true (List.all_eq_true.mp h c (List.mem_range.mpr hc))
theorem ck_4' : ((List.range 2).all fun l => (List.range 7).all fun sp => if dLv l ≤ sp ∧ sp < dLv (l + 1) then ((List.range 6).all fun c => decide (TvD.2.2.2.2.2.getD (6 * sp + c) 0 < 35 ∧ dLv (l + 1) ≤ TvD.2.2.2.2.2.getD (6 * sp + c) 0 ∧ TvD.2.2.2.2.2.getD (6 * sp + c) 0 < dLv (l + 2) ∧ TvD.2.2.1.getD (TvD.2.2.2.2.2.getD (6 * sp + c) 0) 0 = pF c (TvD.2.2.1.getD sp 0) (TvD.2.2.2.1.getD sp 0) ∧ TvD.2.2.2.1.getD (TvD.2.2.2.2.2.getD (6 * sp + c) 0) 0 = pS c (TvD.2.2.2.1.getD sp 0))) else true) = true := by decide +kernel
theorem ck_4 (l : Nat) (hl : l < 2) (sp : Nat) (hs : sp < 7) (u : dLv l ≤ sp) (v : sp < dLv (l + 1)) (c : Nat) (hc : c < 6) : TvD.2.2.2.2.2.getD (6 * sp + c) 0 < 35 ∧ dLv (l + 1) ≤ TvD.2.2.2.2.2.getD (6 * sp + c) 0 ∧ TvD.2.2.2.2.2.getD (6 * sp + c) 0 < dLv (l + 2) ∧ TvD.2.2.1.getD (TvD.2.2.2.2.2.getD (6 * sp + c) 0) 0 = pF c (TvD.2.2.1.getD sp 0) (TvD.2.2.2.1.getD sp 0) ∧ TvD.2.2.2.1.getD (TvD.2.2.2.2.2.getD (6 * sp + c) 0) 0 = pS c (TvD.2.2.2.1.getD sp 0) := by
  have h := List.all_eq_true.mp (List.all_eq_true.mp ck_4' l (List.mem_range.mpr hl)) sp (List.mem_range.mpr hs)
  rw [if_pos ⟨u, v⟩] at h
  exact of_decide_eq_true (List.all_eq_true.mp h c (List.mem_range.mpr hc))
theorem dLv_35 : ∀ l : Nat, l < 3 → dLv (l + 1) ≤ 35
  | 0, _ => by decide
  | 1, _ => by decide
  | 2, _ => by decide
  | l + 3, h => by omega
theorem dLv_7 : ∀ l : Nat, l < 2 → dLv (l + 1) ≤ 7
  | 0, _ => by decide
  | 1, _ => by decide
  | l + 2, h => by omega
theorem SPOK_of (t : TI g TvD) (h4 : g 24 0 = 1 ∧ g 24 1 = 4 ∧ g 24 2 = 14 ∧ g 24 3 = 46) (h5 : g 25 0 = 0 ∧ g 25 1 = 1 ∧ g 25 2 = 7 ∧ g 25 3 = 35) : SPOK g := by
  obtain ⟨⟨h8, h9⟩, l, a1, a2, a3, a4, a5, a6⟩ := t
  have b1 : ∀ i : Nat, i < 46 → g 22 (i : Int) = ((TvD.1.getD i 0 : Nat) : Int) := a1
  have b2 : ∀ i : Nat, i < 35 → g 23 (i : Int) = ((TvD.2.1.getD i 0 : Nat) : Int) := a2
  have b3 : ∀ i : Nat, i < 35 → g 28 (i : Int) = ((TvD.2.2.1.getD i 0 : Nat) : Int) := a3
  have b4 : ∀ i : Nat, i < 35 → g 29 (i : Int) = ((TvD.2.2.2.1.getD i 0 : Nat) : Int) := a4
  have b5 : ∀ i : Nat, i < 210 → g 26 (i : Int) = ((TvD.2.2.2.2.1.getD i 0 : Nat) : Int) := a5
  have b6 : ∀ i : Nat, i < 42 → g 27 (i : Int) = ((TvD.2.2.2.2.2.getD i 0 : Nat) : Int) := a6
  clear a1 a2 a3 a4 a5 a6 l h8 h9
  refine ⟨h4, h5, ⟨b1 0 (by omega), b3 0 (by omega), b4 0 (by omega)⟩, fun s u v => ?_, fun l sp hl u v => ?_⟩
  · obtain ⟨n, rfl⟩ : ∃ n : Nat, s = n := ⟨s.toNat, by omega⟩
    rw [b1 n (by omega)]
    have := ck_1 n (by omega)
    omega
  · obtain ⟨d1, d2⟩ := dLv_eq l (by omega)
    obtain ⟨d3, d4⟩ := dLv_eq (l + 1) (by omega)
    rw [d1] at u
    rw [d3] at v
    obtain ⟨n, rfl⟩ : ∃ n : Nat, sp = n := ⟨sp.toNat, by omega⟩
    have n35 : n < 35 := by have := dLv_35 l hl; omega
    have u' : dLv l ≤ n := by omega
    have v' : n < dLv (l + 1) := by omega
    refine ⟨?_, fun c c0 c6 => ⟨?_, fun l2 => ?_⟩⟩
    · obtain ⟨x1, x2, x3⟩ := ck_2 l hl n n35 u' v'
      rw [b2 n n35, b1 _ x1, b3 n n35, d4, x3]
      exact ⟨by omega, by omega, rfl⟩
    · obtain ⟨m, rfl⟩ : ∃ m : Nat, c = m := ⟨c.toNat, by omega⟩
      obtain ⟨x1, x2, x3⟩ := ck_3 l hl n n35 u' v' m (by omega)
      rw [show (6 * (n : Int) + m) = ((6 * n + m : Nat) : Int) by omega, b5 _ (by omega), b1 _ x1, b3 n n35, b4 n n35, d4, x3, pF_eq m (by omega)]
      exact ⟨by omega, by omega, rfl⟩
    · obtain ⟨m, rfl⟩ : ∃ m : Nat, c = m := ⟨c.toNat, by omega⟩
      have n7 : n < 7 := by have := dLv_7 l l2; omega
      obtain ⟨x1, x2, x3, x4, x5⟩ := ck_4 l l2 n n7 u' v' m (by omega)
      rw [show (6 * (n : Int) + m) = ((6 * n + m : Nat) : Int) by omega, b6 _ (by omega), b3 _ x1, b4 _ x1, b3 n n35, b4 n n35, d3, (dLv_eq (l + 2) (by omega)).1, x4, x5, pF_eq m (by omega), pS_eq m (by omega)]
      exact ⟨by omega, by omega, rfl, rfl⟩
end INI4
