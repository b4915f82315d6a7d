/-! FROM THE LAW'S ENTRY TO ITS END; printed by wip/whole/gen_start.py -/
section START
variable {p : Program} {l : Launch} {e : Env} {s : State} {m : MethodId} {below : List Frame} {meth : Method} {c : Code} {args : Array Value} {base b L : Nat}
def room_s : Room := { frames := 2048, cells := 73, slots := 42835, locals := 84000 }
theorem room_le {pl : Platform} (h : s.hasRoom pl room_1 = true) : s.hasRoom pl room_s = true := by
  simp only [State.hasRoom, Bool.and_eq_true, decide_eq_true_eq] at h ⊢
  obtain ⟨⟨⟨⟨a1, a2⟩, a3⟩, a4⟩, a5⟩ := h
  have b3 : s.heap.size + 600000 ≤ pl.maxCells := a3
  have b4 : s.slotsUsed + 7302250 ≤ pl.maxSlots := a4
  refine ⟨⟨⟨⟨a1, a2⟩, ?_⟩, ?_⟩, a5⟩
  · show s.heap.size + 73 ≤ pl.maxCells
    omega
  · show s.slotsUsed + 42835 ≤ pl.maxSlots
    omega
theorem W_room {H : Heap} {locs : List Loc} {cells slots : Nat} {Z : State → Prop} {g : JFrame} (h : W p l e room_s s m args below meth c H locs cells slots Z g) : W p l e room_1 s m args below meth c H locs cells slots Z g :=
  fun T hT X => h T hT { X with room := room_le X.room }
theorem cl_inst {ci : Nat} {q : vw_C} (h : vwCl[ci]? = some q) : .instantiable q.1 q.2.2 ∈ lw_tbl := by
  match ci, h with
  | 0, h => cases h; exact tb_1 _ (List.mem_of_getElem? (i := 54) (by decide +kernel))
  | 1, h => cases h; exact tb_1 _ (List.mem_of_getElem? (i := 26) (by decide +kernel))
  | 2, h => cases h; exact tb_1 _ (List.mem_of_getElem? (i := 116) (by decide +kernel))
  | 3, h => cases h; exact tb_1 _ (List.mem_of_getElem? (i := 71) (by decide +kernel))
  | 4, h => cases h; exact tb_1 _ (List.mem_of_getElem? (i := 189) (by decide +kernel))
  | 5, h => cases h; exact tb_1 _ (List.mem_of_getElem? (i := 122) (by decide +kernel))
  | 6, h => cases h; exact tb_1 _ (List.mem_of_getElem? (i := 128) (by decide +kernel))
  | 7, h => cases h; exact tb_2 _ (List.mem_of_getElem? (i := 57) (by decide +kernel))
  | 8, h => cases h; exact tb_1 _ (List.mem_of_getElem? (i := 18) (by decide +kernel))
  | 9, h => cases h; exact tb_4 _ (List.mem_of_getElem? (i := 84) (by decide +kernel))
  | k + 10, h => simp [vwCl] at h
theorem cls_all (hts : ∀ w ∈ lw_tbl, w.before args s = true) (c0 : ClassId) : ∃ D : va_G, ∀ (k : Nat) (q : vw_C), vwCl[k]? = some q → u_Kn s q.1 q.2.1 q.2.2 (D.1 k) (D.2 k) := by
  have h : ∀ k : Nat, ∃ w : ClassId × (Nat → Nat), ∀ q : vw_C, vwCl[k]? = some q → u_Kn s q.1 q.2.1 q.2.2 w.1 w.2 := by
    intro k
    rcases hk : vwCl[k]? with _ | q
    · exact ⟨(c0, fun _ => 0), fun q hq => by cases hq⟩
    · obtain ⟨cC, iS, h1⟩ := u_known (C := q.1) (T := q.2.1) (N := q.2.2) (n := q.2.2) hts (fun w hw => (List.mem_filter.mp ((clF hk).1 w hw)).1) (hts _ (cl_inst hk))
      exact ⟨(cC, iS), fun q' hq => by cases hq; exact h1⟩
  exact ⟨(fun k => (Classical.choose (h k)).1, fun k => (Classical.choose (h k)).2), fun k q hq => Classical.choose_spec (h k) q hq⟩
theorem int_all (hts : ∀ w ∈ lw_tbl, w.before args s = true) : ∃ cA : ClassId, ArrOfT s cA .int ∧ va_RA s cA .int := by
  obtain ⟨cA, kA, comp, h1, h2, h3⟩ := Cond.arrayClass_spec (hts (.arrayClass .int) (tb_1 _ (List.mem_of_getElem? (i := 52) (by decide +kernel))))
  exact ⟨cA, fun n z => ⟨fun k h => (by cases h), kA, h2, comp, h3⟩, h1⟩
theorem el_of {tm : Term} {k : Nat} {z : Int32} {v : Int} (hv : Int32.ofInt v = z) (h : (Cond.eq (.elem tm (.int (Int32.ofNat k))) (.int z)).before args s = true) : (Term.elem tm (.int (Int32.ofNat k))).eval args s none [] s = some (.int (Int32.ofInt v)) := by
  rw [hv]
  exact va_eqt h
theorem ce_in_2 {X : Int × (Int → Int)} (i : Int) : 0 ≤ (ceW X 2).2 i ∧ (ceW X 2).2 i < 500 := by
  rw [ceW_2]
  dsimp only
  (repeat' split) <;> omega
theorem ce_in_3 {X : Int × (Int → Int)} (i : Int) : 0 ≤ (ceW X 3).2 i ∧ (ceW X 3).2 i < 500 := by
  rw [ceW_3]
  dsimp only
  (repeat' split) <;> omega
theorem ce_in_4 {X : Int × (Int → Int)} (i : Int) : 0 ≤ (ceW X 4).2 i ∧ (ceW X 4).2 i < 500 := by
  rw [ceW_4]
  dsimp only
  (repeat' split) <;> omega
theorem ce_in_5 {X : Int × (Int → Int)} (i : Int) : 0 ≤ (ceW X 5).2 i ∧ (ceW X 5).2 i < 500 := by
  rw [ceW_5]
  dsimp only
  (repeat' split) <;> omega
theorem ce_in_6 {X : Int × (Int → Int)} (i : Int) : 0 ≤ (ceW X 6).2 i ∧ (ceW X 6).2 i < 500 := by
  rw [ceW_6]
  dsimp only
  (repeat' split) <;> omega
theorem ce_in_7 {X : Int × (Int → Int)} (i : Int) : 0 ≤ (ceW X 7).2 i ∧ (ceW X 7).2 i < 128 := by
  rw [ceW_7]
  dsimp only
  (repeat' split) <;> omega
theorem ce_in_8 {X : Int × (Int → Int)} (i : Int) : 0 ≤ (ceW X 8).2 i ∧ (ceW X 8).2 i < 128 := by
  rw [ceW_8]
  dsimp only
  (repeat' split) <;> omega
theorem tab_2 {X : Int × (Int → Int)} (hs : ∀ w ∈ flatC (Jvm.Cond.and given_1 narrow_1), w.before args s = true) (hA : ∀ a : Nat, a < s.heap.size → ¬ oA base a) : ∃ t : Nat, (Term.static "PlayedWritten" "LEAST" "[I").eval args s none [] s = some (.ref t) ∧ va_T .int t 10 (fun i => .int (Int32.ofInt ((ceW X 2).2 i))) (oA base) s s.heap := by
  refine va_Tof (tm := (.static "PlayedWritten" "LEAST" "[I")) (ty := .int) (N := 10) (by decide) (hs _ (by decide +kernel)) (va_eqt (z := 10) (hs _ (by decide +kernel))) (fun j hj => ?_) hA
  match j, hj with
  | 0, _ => exact el_of (k := 0) (z := 1) (v := (ceW X 2).2 ((0 : Nat) : Int)) rfl (hs (Cond.eq (.elem (.static "PlayedWritten" "LEAST" "[I") (.int 0)) (.int 1)) (by decide +kernel))
  | 1, _ => exact el_of (k := 1) (z := 48) (v := (ceW X 2).2 ((1 : Nat) : Int)) rfl (hs (Cond.eq (.elem (.static "PlayedWritten" "LEAST" "[I") (.int 1)) (.int 48)) (by decide +kernel))
  | 2, _ => exact el_of (k := 2) (z := 0) (v := (ceW X 2).2 ((2 : Nat) : Int)) rfl (hs (Cond.eq (.elem (.static "PlayedWritten" "LEAST" "[I") (.int 2)) (.int 0)) (by decide +kernel))
  | 3, _ => exact el_of (k := 3) (z := 0) (v := (ceW X 2).2 ((3 : Nat) : Int)) rfl (hs (Cond.eq (.elem (.static "PlayedWritten" "LEAST" "[I") (.int 3)) (.int 0)) (by decide +kernel))
  | 4, _ => exact el_of (k := 4) (z := 0) (v := (ceW X 2).2 ((4 : Nat) : Int)) rfl (hs (Cond.eq (.elem (.static "PlayedWritten" "LEAST" "[I") (.int 4)) (.int 0)) (by decide +kernel))
  | 5, _ => exact el_of (k := 5) (z := 0) (v := (ceW X 2).2 ((5 : Nat) : Int)) rfl (hs (Cond.eq (.elem (.static "PlayedWritten" "LEAST" "[I") (.int 5)) (.int 0)) (by decide +kernel))
  | 6, _ => exact el_of (k := 6) (z := 0) (v := (ceW X 2).2 ((6 : Nat) : Int)) rfl (hs (Cond.eq (.elem (.static "PlayedWritten" "LEAST" "[I") (.int 6)) (.int 0)) (by decide +kernel))
  | 7, _ => exact el_of (k := 7) (z := 0) (v := (ceW X 2).2 ((7 : Nat) : Int)) rfl (hs (Cond.eq (.elem (.static "PlayedWritten" "LEAST" "[I") (.int 7)) (.int 0)) (by decide +kernel))
  | 8, _ => exact el_of (k := 8) (z := 0) (v := (ceW X 2).2 ((8 : Nat) : Int)) rfl (hs (Cond.eq (.elem (.static "PlayedWritten" "LEAST" "[I") (.int 8)) (.int 0)) (by decide +kernel))
  | 9, _ => exact el_of (k := 9) (z := 0) (v := (ceW X 2).2 ((9 : Nat) : Int)) rfl (hs (Cond.eq (.elem (.static "PlayedWritten" "LEAST" "[I") (.int 9)) (.int 0)) (by decide +kernel))
  | j + 10, hj => omega
theorem tab_3 {X : Int × (Int → Int)} (hs : ∀ w ∈ flatC (Jvm.Cond.and given_1 narrow_1), w.before args s = true) (hA : ∀ a : Nat, a < s.heap.size → ¬ oA base a) : ∃ t : Nat, (Term.static "PlayedWritten" "GREATEST" "[I").eval args s none [] s = some (.ref t) ∧ va_T .int t 10 (fun i => .int (Int32.ofInt ((ceW X 3).2 i))) (oA base) s s.heap := by
  refine va_Tof (tm := (.static "PlayedWritten" "GREATEST" "[I")) (ty := .int) (N := 10) (by decide) (hs _ (by decide +kernel)) (va_eqt (z := 10) (hs _ (by decide +kernel))) (fun j hj => ?_) hA
  match j, hj with
  | 0, _ => exact el_of (k := 0) (z := 3) (v := (ceW X 3).2 ((0 : Nat) : Int)) rfl (hs (Cond.eq (.elem (.static "PlayedWritten" "GREATEST" "[I") (.int 0)) (.int 3)) (by decide +kernel))
  | 1, _ => exact el_of (k := 1) (z := 432) (v := (ceW X 3).2 ((1 : Nat) : Int)) rfl (hs (Cond.eq (.elem (.static "PlayedWritten" "GREATEST" "[I") (.int 1)) (.int 432)) (by decide +kernel))
  | 2, _ => exact el_of (k := 2) (z := 24) (v := (ceW X 3).2 ((2 : Nat) : Int)) rfl (hs (Cond.eq (.elem (.static "PlayedWritten" "GREATEST" "[I") (.int 2)) (.int 24)) (by decide +kernel))
  | 3, _ => exact el_of (k := 3) (z := 3) (v := (ceW X 3).2 ((3 : Nat) : Int)) rfl (hs (Cond.eq (.elem (.static "PlayedWritten" "GREATEST" "[I") (.int 3)) (.int 3)) (by decide +kernel))
  | 4, _ => exact el_of (k := 4) (z := 99) (v := (ceW X 3).2 ((4 : Nat) : Int)) rfl (hs (Cond.eq (.elem (.static "PlayedWritten" "GREATEST" "[I") (.int 4)) (.int 99)) (by decide +kernel))
  | 5, _ => exact el_of (k := 5) (z := 99) (v := (ceW X 3).2 ((5 : Nat) : Int)) rfl (hs (Cond.eq (.elem (.static "PlayedWritten" "GREATEST" "[I") (.int 5)) (.int 99)) (by decide +kernel))
  | 6, _ => exact el_of (k := 6) (z := 99) (v := (ceW X 3).2 ((6 : Nat) : Int)) rfl (hs (Cond.eq (.elem (.static "PlayedWritten" "GREATEST" "[I") (.int 6)) (.int 99)) (by decide +kernel))
  | 7, _ => exact el_of (k := 7) (z := 99) (v := (ceW X 3).2 ((7 : Nat) : Int)) rfl (hs (Cond.eq (.elem (.static "PlayedWritten" "GREATEST" "[I") (.int 7)) (.int 99)) (by decide +kernel))
  | 8, _ => exact el_of (k := 8) (z := 99) (v := (ceW X 3).2 ((8 : Nat) : Int)) rfl (hs (Cond.eq (.elem (.static "PlayedWritten" "GREATEST" "[I") (.int 8)) (.int 99)) (by decide +kernel))
  | 9, _ => exact el_of (k := 9) (z := 50) (v := (ceW X 3).2 ((9 : Nat) : Int)) rfl (hs (Cond.eq (.elem (.static "PlayedWritten" "GREATEST" "[I") (.int 9)) (.int 50)) (by decide +kernel))
  | j + 10, hj => omega
theorem tab_4 {X : Int × (Int → Int)} (hs : ∀ w ∈ flatC (Jvm.Cond.and given_1 narrow_1), w.before args s = true) (hA : ∀ a : Nat, a < s.heap.size → ¬ oA base a) : ∃ t : Nat, (Term.static "PlayedWritten" "AT_FIRST" "[I").eval args s none [] s = some (.ref t) ∧ va_T .int t 10 (fun i => .int (Int32.ofInt ((ceW X 4).2 i))) (oA base) s s.heap := by
  refine va_Tof (tm := (.static "PlayedWritten" "AT_FIRST" "[I")) (ty := .int) (N := 10) (by decide) (hs _ (by decide +kernel)) (va_eqt (z := 10) (hs _ (by decide +kernel))) (fun j hj => ?_) hA
  match j, hj with
  | 0, _ => exact el_of (k := 0) (z := 2) (v := (ceW X 4).2 ((0 : Nat) : Int)) rfl (hs (Cond.eq (.elem (.static "PlayedWritten" "AT_FIRST" "[I") (.int 0)) (.int 2)) (by decide +kernel))
  | 1, _ => exact el_of (k := 1) (z := 216) (v := (ceW X 4).2 ((1 : Nat) : Int)) rfl (hs (Cond.eq (.elem (.static "PlayedWritten" "AT_FIRST" "[I") (.int 1)) (.int 216)) (by decide +kernel))
  | 2, _ => exact el_of (k := 2) (z := 0) (v := (ceW X 4).2 ((2 : Nat) : Int)) rfl (hs (Cond.eq (.elem (.static "PlayedWritten" "AT_FIRST" "[I") (.int 2)) (.int 0)) (by decide +kernel))
  | 3, _ => exact el_of (k := 3) (z := 2) (v := (ceW X 4).2 ((3 : Nat) : Int)) rfl (hs (Cond.eq (.elem (.static "PlayedWritten" "AT_FIRST" "[I") (.int 3)) (.int 2)) (by decide +kernel))
  | 4, _ => exact el_of (k := 4) (z := 4) (v := (ceW X 4).2 ((4 : Nat) : Int)) rfl (hs (Cond.eq (.elem (.static "PlayedWritten" "AT_FIRST" "[I") (.int 4)) (.int 4)) (by decide +kernel))
  | 5, _ => exact el_of (k := 5) (z := 10) (v := (ceW X 4).2 ((5 : Nat) : Int)) rfl (hs (Cond.eq (.elem (.static "PlayedWritten" "AT_FIRST" "[I") (.int 5)) (.int 10)) (by decide +kernel))
  | 6, _ => exact el_of (k := 6) (z := 8) (v := (ceW X 4).2 ((6 : Nat) : Int)) rfl (hs (Cond.eq (.elem (.static "PlayedWritten" "AT_FIRST" "[I") (.int 6)) (.int 8)) (by decide +kernel))
  | 7, _ => exact el_of (k := 7) (z := 6) (v := (ceW X 4).2 ((7 : Nat) : Int)) rfl (hs (Cond.eq (.elem (.static "PlayedWritten" "AT_FIRST" "[I") (.int 7)) (.int 6)) (by decide +kernel))
  | 8, _ => exact el_of (k := 8) (z := 2) (v := (ceW X 4).2 ((8 : Nat) : Int)) rfl (hs (Cond.eq (.elem (.static "PlayedWritten" "AT_FIRST" "[I") (.int 8)) (.int 2)) (by decide +kernel))
  | 9, _ => exact el_of (k := 9) (z := 6) (v := (ceW X 4).2 ((9 : Nat) : Int)) rfl (hs (Cond.eq (.elem (.static "PlayedWritten" "AT_FIRST" "[I") (.int 9)) (.int 6)) (by decide +kernel))
  | j + 10, hj => omega
theorem tab_5 {X : Int × (Int → Int)} (hs : ∀ w ∈ flatC (Jvm.Cond.and given_1 narrow_1), w.before args s = true) (hA : ∀ a : Nat, a < s.heap.size → ¬ oA base a) : ∃ t : Nat, (Term.static "PlayedWritten$Spans" "KID_KIND" "[I").eval args s none [] s = some (.ref t) ∧ va_T .int t 6 (fun i => .int (Int32.ofInt ((ceW X 5).2 i))) (oA base) s s.heap := by
  refine va_Tof (tm := (.static "PlayedWritten$Spans" "KID_KIND" "[I")) (ty := .int) (N := 6) (by decide) (hs _ (by decide +kernel)) (va_eqt (z := 6) (hs _ (by decide +kernel))) (fun j hj => ?_) hA
  match j, hj with
  | 0, _ => exact el_of (k := 0) (z := 1) (v := (ceW X 5).2 ((0 : Nat) : Int)) rfl (hs (Cond.eq (.elem (.static "PlayedWritten$Spans" "KID_KIND" "[I") (.int 0)) (.int 1)) (by decide +kernel))
  | 1, _ => exact el_of (k := 1) (z := 1) (v := (ceW X 5).2 ((1 : Nat) : Int)) rfl (hs (Cond.eq (.elem (.static "PlayedWritten$Spans" "KID_KIND" "[I") (.int 1)) (.int 1)) (by decide +kernel))
  | 2, _ => exact el_of (k := 2) (z := 2) (v := (ceW X 5).2 ((2 : Nat) : Int)) rfl (hs (Cond.eq (.elem (.static "PlayedWritten$Spans" "KID_KIND" "[I") (.int 2)) (.int 2)) (by decide +kernel))
  | 3, _ => exact el_of (k := 3) (z := 3) (v := (ceW X 5).2 ((3 : Nat) : Int)) rfl (hs (Cond.eq (.elem (.static "PlayedWritten$Spans" "KID_KIND" "[I") (.int 3)) (.int 3)) (by decide +kernel))
  | 4, _ => exact el_of (k := 4) (z := 3) (v := (ceW X 5).2 ((4 : Nat) : Int)) rfl (hs (Cond.eq (.elem (.static "PlayedWritten$Spans" "KID_KIND" "[I") (.int 4)) (.int 3)) (by decide +kernel))
  | 5, _ => exact el_of (k := 5) (z := 3) (v := (ceW X 5).2 ((5 : Nat) : Int)) rfl (hs (Cond.eq (.elem (.static "PlayedWritten$Spans" "KID_KIND" "[I") (.int 5)) (.int 3)) (by decide +kernel))
  | j + 6, hj => omega
theorem tab_6 {X : Int × (Int → Int)} (hs : ∀ w ∈ flatC (Jvm.Cond.and given_1 narrow_1), w.before args s = true) (hA : ∀ a : Nat, a < s.heap.size → ¬ oA base a) : ∃ t : Nat, (Term.static "PlayedWritten$Spans" "KID_PART" "[I").eval args s none [] s = some (.ref t) ∧ va_T .int t 6 (fun i => .int (Int32.ofInt ((ceW X 6).2 i))) (oA base) s s.heap := by
  refine va_Tof (tm := (.static "PlayedWritten$Spans" "KID_PART" "[I")) (ty := .int) (N := 6) (by decide) (hs _ (by decide +kernel)) (va_eqt (z := 6) (hs _ (by decide +kernel))) (fun j hj => ?_) hA
  match j, hj with
  | 0, _ => exact el_of (k := 0) (z := 0) (v := (ceW X 6).2 ((0 : Nat) : Int)) rfl (hs (Cond.eq (.elem (.static "PlayedWritten$Spans" "KID_PART" "[I") (.int 0)) (.int 0)) (by decide +kernel))
  | 1, _ => exact el_of (k := 1) (z := 1) (v := (ceW X 6).2 ((1 : Nat) : Int)) rfl (hs (Cond.eq (.elem (.static "PlayedWritten$Spans" "KID_PART" "[I") (.int 1)) (.int 1)) (by decide +kernel))
  | 2, _ => exact el_of (k := 2) (z := 0) (v := (ceW X 6).2 ((2 : Nat) : Int)) rfl (hs (Cond.eq (.elem (.static "PlayedWritten$Spans" "KID_PART" "[I") (.int 2)) (.int 0)) (by decide +kernel))
  | 3, _ => exact el_of (k := 3) (z := 0) (v := (ceW X 6).2 ((3 : Nat) : Int)) rfl (hs (Cond.eq (.elem (.static "PlayedWritten$Spans" "KID_PART" "[I") (.int 3)) (.int 0)) (by decide +kernel))
  | 4, _ => exact el_of (k := 4) (z := 1) (v := (ceW X 6).2 ((4 : Nat) : Int)) rfl (hs (Cond.eq (.elem (.static "PlayedWritten$Spans" "KID_PART" "[I") (.int 4)) (.int 1)) (by decide +kernel))
  | 5, _ => exact el_of (k := 5) (z := 2) (v := (ceW X 6).2 ((5 : Nat) : Int)) rfl (hs (Cond.eq (.elem (.static "PlayedWritten$Spans" "KID_PART" "[I") (.int 5)) (.int 2)) (by decide +kernel))
  | j + 6, hj => omega
theorem tab_7 {X : Int × (Int → Int)} (hs : ∀ w ∈ flatC (Jvm.Cond.and given_1 narrow_1), w.before args s = true) (hA : ∀ a : Nat, a < s.heap.size → ¬ oA base a) : ∃ t : Nat, (Term.field (.string "PlayedWritten$Writing" 36) "java/lang/String" "value" "[B").eval args s none [] s = some (.ref t) ∧ va_T .byte t 4 (fun i => .int (Int32.ofInt ((ceW X 7).2 i))) (oA base) s s.heap := by
  refine va_Tof (tm := (.field (.string "PlayedWritten$Writing" 36) "java/lang/String" "value" "[B")) (ty := .byte) (N := 4) (by decide) (hs _ (by decide +kernel)) (va_eqt (z := 4) (hs _ (by decide +kernel))) (fun j hj => ?_) hA
  match j, hj with
  | 0, _ => exact el_of (k := 0) (z := 45) (v := (ceW X 7).2 ((0 : Nat) : Int)) rfl (hs (Cond.eq (.elem (.field (.string "PlayedWritten$Writing" 36) "java/lang/String" "value" "[B") (.int 0)) (.int 45)) (by decide +kernel))
  | 1, _ => exact el_of (k := 1) (z := 91) (v := (ceW X 7).2 ((1 : Nat) : Int)) rfl (hs (Cond.eq (.elem (.field (.string "PlayedWritten$Writing" 36) "java/lang/String" "value" "[B") (.int 1)) (.int 91)) (by decide +kernel))
  | 2, _ => exact el_of (k := 2) (z := 60) (v := (ceW X 7).2 ((2 : Nat) : Int)) rfl (hs (Cond.eq (.elem (.field (.string "PlayedWritten$Writing" 36) "java/lang/String" "value" "[B") (.int 2)) (.int 60)) (by decide +kernel))
  | 3, _ => exact el_of (k := 3) (z := 123) (v := (ceW X 7).2 ((3 : Nat) : Int)) rfl (hs (Cond.eq (.elem (.field (.string "PlayedWritten$Writing" 36) "java/lang/String" "value" "[B") (.int 3)) (.int 123)) (by decide +kernel))
  | j + 4, hj => omega
theorem tab_8 {X : Int × (Int → Int)} (hs : ∀ w ∈ flatC (Jvm.Cond.and given_1 narrow_1), w.before args s = true) (hA : ∀ a : Nat, a < s.heap.size → ¬ oA base a) : ∃ t : Nat, (Term.field (.string "PlayedWritten$Writing" 48) "java/lang/String" "value" "[B").eval args s none [] s = some (.ref t) ∧ va_T .byte t 4 (fun i => .int (Int32.ofInt ((ceW X 8).2 i))) (oA base) s s.heap := by
  refine va_Tof (tm := (.field (.string "PlayedWritten$Writing" 48) "java/lang/String" "value" "[B")) (ty := .byte) (N := 4) (by decide) (hs _ (by decide +kernel)) (va_eqt (z := 4) (hs _ (by decide +kernel))) (fun j hj => ?_) hA
  match j, hj with
  | 0, _ => exact el_of (k := 0) (z := 45) (v := (ceW X 8).2 ((0 : Nat) : Int)) rfl (hs (Cond.eq (.elem (.field (.string "PlayedWritten$Writing" 48) "java/lang/String" "value" "[B") (.int 0)) (.int 45)) (by decide +kernel))
  | 1, _ => exact el_of (k := 1) (z := 93) (v := (ceW X 8).2 ((1 : Nat) : Int)) rfl (hs (Cond.eq (.elem (.field (.string "PlayedWritten$Writing" 48) "java/lang/String" "value" "[B") (.int 1)) (.int 93)) (by decide +kernel))
  | 2, _ => exact el_of (k := 2) (z := 62) (v := (ceW X 8).2 ((2 : Nat) : Int)) rfl (hs (Cond.eq (.elem (.field (.string "PlayedWritten$Writing" 48) "java/lang/String" "value" "[B") (.int 2)) (.int 62)) (by decide +kernel))
  | 3, _ => exact el_of (k := 3) (z := 125) (v := (ceW X 8).2 ((3 : Nat) : Int)) rfl (hs (Cond.eq (.elem (.field (.string "PlayedWritten$Writing" 48) "java/lang/String" "value" "[B") (.int 3)) (.int 125)) (by decide +kernel))
  | j + 4, hj => omega
theorem str_of {own : String} {k : Nat} (h : (Cond.exactly (.string own k) "java/lang/String").before args s = true) : ∃ a : Nat, (Term.string own k).eval args s none [] s = some (.ref a) := by
  obtain ⟨a2, c, cA, kA, q1, q2, q3, q4, q5, q6, -⟩ := Cond.exactly_spec (args := args) (first := s) (o := none) (s := s) (idx := []) (t := .string own k) (cls := "java/lang/String") h
  exact ⟨a2, q1⟩
theorem nest_all (hts : ∀ w ∈ lw_tbl, w.before args s = true) : ∀ w ∈ nW, va_Nw w s := by
  intro w hw
  obtain ⟨h1, hn⟩ := List.mem_filter.mp hw
  have h := hts w h1
  cases w <;> first | (exact va_Nw.of rfl h) | (simp [isNW] at hn)
theorem KF_all {X : Int × (Int → Int)} (hts : ∀ w ∈ lw_tbl, w.before args s = true) (hs : ∀ w ∈ flatC (Jvm.Cond.and given_1 narrow_1), w.before args s = true) (hA : ∀ a : Nat, a < s.heap.size → ¬ oA base a)
    (hX : ((0 ≤ X.1 ∧ X.1 < 2147483648) ∧ ∀ i : Int, inR (X.2 i)) ∧ va_T .int b X.1.toNat (fun i => .int (Int32.ofInt (X.2 i))) (oA base) s s.heap) : ∃ adC adV : Nat → Nat, adC 1 = b ∧ KF base adC adV (ceW X) s s.heap := by
  obtain ⟨t2, e2, T2⟩ := tab_2 (X := X) hs hA
  obtain ⟨t3, e3, T3⟩ := tab_3 (X := X) hs hA
  obtain ⟨t4, e4, T4⟩ := tab_4 (X := X) hs hA
  obtain ⟨t5, e5, T5⟩ := tab_5 (X := X) hs hA
  obtain ⟨t6, e6, T6⟩ := tab_6 (X := X) hs hA
  obtain ⟨t7, e7, T7⟩ := tab_7 (X := X) hs hA
  obtain ⟨t8, e8, T8⟩ := tab_8 (X := X) hs hA
  have x7 : (Cond.exactly (.string "PlayedWritten$Writing" 36) "java/lang/String").before args s = true := hs _ (by decide +kernel)
  obtain ⟨u7, f7⟩ := str_of x7
  have x8 : (Cond.exactly (.string "PlayedWritten$Writing" 48) "java/lang/String").before args s = true := hs _ (by decide +kernel)
  obtain ⟨u8, f8⟩ := str_of x8
  have g8 : (Term.string "PlayedWritten$Sheet" 66).eval args s none [] s = some (.ref u8) := va_eqR (hs (Cond.eq (.string "PlayedWritten$Writing" 48) (.string "PlayedWritten$Sheet" 66)) (by decide +kernel)) f8
  have g7 : (Term.string "PlayedWritten$Sheet" 78).eval args s none [] s = some (.ref u7) := va_eqR (hs (Cond.eq (.string "PlayedWritten$Writing" 36) (.string "PlayedWritten$Sheet" 78)) (by decide +kernel)) f7
  refine ⟨fun j => match j with | 1 => b | 2 => t2 | 3 => t3 | 4 => t4 | 5 => t5 | 6 => t6 | 7 => u7 | 8 => u8 | _ => 0, fun j => match j with | 7 => t7 | 8 => t8 | _ => 0, rfl, fun j j0 j7 => ?_, fun j C n hj => ?_, nest_all hts, fun q hq => ?_, ?_, ?_, fun j j7 j9 => ?_⟩
  · match j, j0, j7 with
    | 1, _, _ => exact hX
    | 2, _, _ => exact ⟨⟨⟨(by decide : (0 : Int) ≤ 10), (by decide : (10 : Int) < 2147483648)⟩, fun i => ⟨by have := (ce_in_2 (X := X) i).1; omega, by have := (ce_in_2 (X := X) i).2; omega⟩⟩, T2⟩
    | 3, _, _ => exact ⟨⟨⟨(by decide : (0 : Int) ≤ 10), (by decide : (10 : Int) < 2147483648)⟩, fun i => ⟨by have := (ce_in_3 (X := X) i).1; omega, by have := (ce_in_3 (X := X) i).2; omega⟩⟩, T3⟩
    | 4, _, _ => exact ⟨⟨⟨(by decide : (0 : Int) ≤ 10), (by decide : (10 : Int) < 2147483648)⟩, fun i => ⟨by have := (ce_in_4 (X := X) i).1; omega, by have := (ce_in_4 (X := X) i).2; omega⟩⟩, T4⟩
    | 5, _, _ => exact ⟨⟨⟨(by decide : (0 : Int) ≤ 6), (by decide : (6 : Int) < 2147483648)⟩, fun i => ⟨by have := (ce_in_5 (X := X) i).1; omega, by have := (ce_in_5 (X := X) i).2; omega⟩⟩, T5⟩
    | 6, _, _ => exact ⟨⟨⟨(by decide : (0 : Int) ≤ 6), (by decide : (6 : Int) < 2147483648)⟩, fun i => ⟨by have := (ce_in_6 (X := X) i).1; omega, by have := (ce_in_6 (X := X) i).2; omega⟩⟩, T6⟩
    | j + 7, _, h => omega
  · match j, hj with
    | 2, hj => cases hj; exact va_Zref (hts _ (tb_2 _ (List.mem_of_getElem? (i := 187) (by decide +kernel)))) (hts _ (tb_1 _ (List.mem_of_getElem? (i := 1) (by decide +kernel)))) e2 hA
    | 3, hj => cases hj; exact va_Zref (hts _ (tb_2 _ (List.mem_of_getElem? (i := 189) (by decide +kernel)))) (hts _ (tb_1 _ (List.mem_of_getElem? (i := 1) (by decide +kernel)))) e3 hA
    | 4, hj => cases hj; exact va_Zref (hts _ (tb_1 _ (List.mem_of_getElem? (i := 32) (by decide +kernel)))) (hts _ (tb_1 _ (List.mem_of_getElem? (i := 1) (by decide +kernel)))) e4 hA
    | 5, hj => cases hj; exact va_Zref (hts _ (tb_1 _ (List.mem_of_getElem? (i := 207) (by decide +kernel)))) (hts _ (tb_1 _ (List.mem_of_getElem? (i := 9) (by decide +kernel)))) e5 hA
    | 6, hj => cases hj; exact va_Zref (hts _ (tb_1 _ (List.mem_of_getElem? (i := 209) (by decide +kernel)))) (hts _ (tb_1 _ (List.mem_of_getElem? (i := 9) (by decide +kernel)))) e6 hA
    | 0, hj => cases hj
    | 1, hj => cases hj
    | j + 7, hj => cases hj
  · rcases List.mem_cons.mp hq with h | hq
    · subst h; exact vk_R.of (A := args) (hts (.stringRef "PlayedWritten$Sheet" 66 "-]>}") (tb_4 _ (List.mem_of_getElem? (i := 28) (by decide +kernel)))) g8
    rcases List.mem_cons.mp hq with h | hq
    · subst h; exact vk_R.of (A := args) (hts (.stringRef "PlayedWritten$Sheet" 78 "-[<{") (tb_4 _ (List.mem_of_getElem? (i := 47) (by decide +kernel)))) g7
    rcases List.mem_cons.mp hq with h | hq
    · subst h; exact vk_R.of (A := args) (hts (.stringRef "PlayedWritten$Writing" 36 "-[<{") (tb_3 _ (List.mem_of_getElem? (i := 130) (by decide +kernel)))) f7
    rcases List.mem_cons.mp hq with h | hq
    · subst h; exact vk_R.of (A := args) (hts (.stringRef "PlayedWritten$Writing" 48 "-]>}") (tb_3 _ (List.mem_of_getElem? (i := 176) (by decide +kernel)))) f8
    cases hq
  · exact va_Zof (hts _ (tb_3 _ (List.mem_of_getElem? (i := 140) (by decide +kernel)))) (hts _ (tb_1 _ (List.mem_of_getElem? (i := 13) (by decide +kernel)))) (va_eqt (hs _ (by decide +kernel))) hA
  · exact va_Zqof (hts _ (tb_3 _ (List.mem_of_getElem? (i := 148) (by decide +kernel)))) (hts _ (tb_1 _ (List.mem_of_getElem? (i := 15) (by decide +kernel)))) (hs _ (by decide +kernel)) hA
  · match j, j7, j9 with
    | 7, _, _ => exact ⟨⟨rfl, ce_in_7⟩, va_Oof x7 f7 hA, vk_OFof f7 (va_eqt (hs _ (by decide +kernel))) hA, vk_OFof f7 e7 hA, T7⟩
    | 8, _, _ => exact ⟨⟨rfl, ce_in_8⟩, va_Oof x8 f8 hA, vk_OFof f8 (va_eqt (hs _ (by decide +kernel))) hA, vk_OFof f8 e8 hA, T8⟩
    | 0, h, _ => exact absurd h (by decide)
    | 1, h, _ => exact absurd h (by decide)
    | 2, h, _ => exact absurd h (by decide)
    | 3, h, _ => exact absurd h (by decide)
    | 4, h, _ => exact absurd h (by decide)
    | 5, h, _ => exact absurd h (by decide)
    | 6, h, _ => exact absurd h (by decide)
    | j + 9, _, h => omega
theorem X_of {xs : Nat → Int32} (hL : L ≤ 1536) (hX : va_X b L xs s s.heap) (hb : ¬ oA base b) : ((0 ≤ ((L : Int), (fun i : Int => (xs i.toNat).toInt)).1 ∧ ((L : Int), (fun i : Int => (xs i.toNat).toInt)).1 < 2147483648) ∧ ∀ i : Int, inR (((L : Int), (fun i : Int => (xs i.toNat).toInt)).2 i)) ∧ va_T .int b ((L : Int), (fun i : Int => (xs i.toNat).toInt)).1.toNat (fun i => .int (Int32.ofInt (((L : Int), (fun i : Int => (xs i.toNat).toInt)).2 i))) (oA base) s s.heap := by
  obtain ⟨scr, h1, h2, h3, h4, h5⟩ := hX
  refine ⟨⟨⟨?_, ?_⟩, fun i => by have h1 := Int32.le_toInt (xs i.toNat); have h2 := Int32.toInt_lt (xs i.toNat); show -2147483648 ≤ (xs i.toNat).toInt ∧ (xs i.toNat).toInt < 2147483648; omega⟩, scr, h1, h2, h3, ?_, ?_, fun j hj => ?_, hb⟩
  · show (0 : Int) ≤ (L : Int); omega
  · show (L : Int) < 2147483648; omega
  · show ((L : Int)).toNat ≤ _; rw [Int.toNat_natCast, h4]; exact Nat.le_refl _
  · show _ = Int32.ofNat ((L : Int)).toNat; rw [Int.toNat_natCast, h4]
  · have hj' : j < L := by have : j < ((L : Int)).toNat := hj; rwa [Int.toNat_natCast] at this
    show _ = some (Value.int (Int32.ofInt ((xs ((j : Int)).toNat).toInt)))
    rw [Int.toNat_natCast, i32_self]
    exact h5 j hj'
theorem wfM_0 : wfM (0, 0, shN 0, rN 0, fun _ _ => 0) := by
  have hn : ∀ q, shN 0 q = none := fun q => if_neg (Nat.not_lt_zero q)
  refine ⟨fun q h => absurd (hn q) h, fun q i => ⟨(by decide : (-2147483648 : Int) ≤ 0), (by decide : (0 : Int) < 2147483648)⟩, fun q n h => ?_, fun q j => ?_⟩
  · have h' : shN 0 q = some (.inl n) := h
    rw [hn q] at h'
    cases h'
  · show wfV (rN 0 q j)
    unfold rN
    rw [if_neg (fun h => by cases h)]
    trivial
end START
set_option maxHeartbeats 4000000 in
theorem whole_start {p : Program} {e : Env} {s : State} {m : MethodId} {below : List Frame} {meth : Method} {c : Code} (l : Launch) (hflags : l.flags = flags0) {b L : Nat} {xs : Nat → Int32} (hL : L ≤ 1536) (C0 : lw_At p s m meth c b L xs) : W p l e room_1 s m #[Value.ref b] below meth c s.heap [] 0 0 (lw_Z below #[Value.ref b] s) (entryFrame m ([Value.ref b] : List Value).toArray 4) := by
  obtain ⟨hx, hb, hr, hml, hown, hts, hX, hbl, hlocks, hgv⟩ := C0
  have hs := flat_of_before _ hgv
  have hA : ∀ a : Nat, a < s.heap.size → ¬ oA s.heap.size a := fun a h => Nat.not_le.mpr h
  obtain ⟨D, hD⟩ := cls_all hts m.cls
  obtain ⟨cI, hI1, hI2⟩ := int_all hts
  obtain ⟨adC, adV, had, hKF⟩ := KF_all (base := s.heap.size) (b := b) hts hs hA (X_of hL hX (hA b hbl))
  have hK : va_K D vwCl [(cI, .int)] s := by
    refine ⟨hD, fun k q hq => ?_⟩
    match k, hq with
    | 0, hq => cases hq; exact ⟨hI1, hI2⟩
    | k + 1, hq => cases hq
  have eC : mC 171 = code := by unfold mC; rw [mG_171]
  have eL : mL 171 = 4 := by unfold mL; rw [mG_171]
  have eN : mN 171 = yL_law := by unfold mN; rw [mG_171]
  have eR : mR 171 = some .boolean := by unfold mR; rw [mG_171]
  have hT := law_start (G := (s.heap.size, adC, adV, cI, D, l, ((L : Int), fun i : Int => (xs i.toNat).toInt))) (d := 0) (g := fun _ _ => 0) (Q := fun r _ => r = some (vi 1)) ⟨by show (0 : Int) ≤ (L : Int); omega, by show (L : Int) ≤ 1536; omega⟩ (fun _ => rfl) (fun _ _ => rfl)
  rw [lg_entry_eq]
  have hen := lv_entry [Value.ref b] (n := 4) (Nat.le_of_ble_eq_true rfl)
  refine W_room ?_
  refine hT wfM_0 (fun v hv => ?_) (fun v hv => by cases hv) p e room_s s m #[Value.ref b] below meth c (lw_Z below #[Value.ref b] s) 0 0 ⟨hx, hb.trans eC.symm, hml.trans eL.symm, ?_, fun w hw => hts w (List.mem_filter.mp hw).1, hK, hKF, fun h => ?_, ?_, hlocks, by decide, by decide, Nat.le_refl _⟩ rfl (fun r M' H' locs' cells' slots' pc' ls' hQ w1 w2 hR' hS' c1 c2 c3 c4 hrt => ?_) s.heap [] 0 0 _ ⟨fun k q h => ?_, rfl⟩ va_S.rf rfl rfl (Nat.zero_le _) (Nat.zero_le _) ⟨eL.symm, ?_⟩
  · simp only [List.mem_cons, List.not_mem_nil, or_false] at hv
    rcases hv with h | h | h | h <;> subst h <;> trivial
  · rw [eN]; exact hown
  · rw [eN] at h; exact absurd h (by decide)
  · rw [eR]; exact hr
  · obtain ⟨-, hq⟩ := hQ
    subst hq
    have hd : decode code pc' = .ok (.ireturn, 1) := by rw [← eC]; exact hrt.1
    have c3' : M'.1 ≤ 73 := c3
    have c4' : M'.2.1 ≤ 42835 := c4
    exact va_forget (fun q hq => hS'.2.2 q hq) (W.widen (k := 600000) (n := 7302250) (by omega) (by omega) (lw_retR hx hb hr hlocks hd))
  · simp [wsO] at h
  · rw [eL]
    refine lv_mono hen (fun q hq => ?_)
    obtain ⟨i, v⟩ := q
    obtain ⟨h1, h2⟩ := kn_inv hq
    match i, h1, h2 with
    | 0, h1, h2 =>
      have h3 : v = .ref (adC 1) := h2
      rw [h3, had]
      exact List.mem_cons_self
    | 1, h1, h2 => exact absurd rfl h1
    | 2, h1, h2 => exact absurd rfl h1
    | 3, h1, h2 => exact absurd rfl h1
    | i + 4, h1, h2 => exact absurd rfl h1
