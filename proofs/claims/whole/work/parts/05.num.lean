/-! numbers: Int32 and Int64 as Ints -/
theorem wr_in (x : Int) : inR (wr x) := by unfold inR; simp only [wr_def]; omega
theorem wrl_in (x : Int) : inRL (wrl x) := by unfold inRL; simp only [wrl_def]; omega
theorem wr_id {x : Int} (h : inR x) : wr x = x := by unfold inR at h; simp only [wr_def]; omega
theorem wr_of {x : Int} (h : -2147483648 ≤ x) (h2 : x < 2147483648) : wr x = x := by simp only [wr_def]; omega
theorem wr_bmod (x : Int) : wr x = x.bmod (2 ^ 32) := by rw [wr_def, Int.bmod_def]; split <;> omega
theorem wrl_bmod (x : Int) : wrl x = x.bmod (2 ^ 64) := by rw [wrl_def, Int.bmod_def]; split <;> omega
theorem i32_to (x : Int) : (Int32.ofInt x).toInt = wr x := by rw [Int32.toInt_ofInt, wr_bmod]
theorem i64_to (x : Int) : (Int64.ofInt x).toInt = wrl x := by rw [Int64.toInt_ofInt, wrl_bmod]
theorem i32_in {x : Int} (h : inR x) : (Int32.ofInt x).toInt = x := by rw [i32_to, wr_id h]
theorem wrl_id {x : Int} (h : inRL x) : wrl x = x := by unfold inRL at h; simp only [wrl_def]; omega
theorem i64_in {x : Int} (h : inRL x) : (Int64.ofInt x).toInt = x := by rw [i64_to, wrl_id h]
theorem i32_wr (x : Int) : Int32.ofInt (wr x) = Int32.ofInt x := by
  apply Int32.toInt_inj.mp; rw [i32_to, i32_to, wr_id (wr_in x)]
theorem i64_wr (x : Int) : Int64.ofInt (wrl x) = Int64.ofInt x := by
  apply Int64.toInt_inj.mp; rw [i64_to, i64_to, wrl_id (wrl_in x)]
theorem i32_self (x : Int32) : Int32.ofInt x.toInt = x := Int32.ofInt_toInt x
theorem i32_add (a b : Int) : Int32.ofInt a + Int32.ofInt b = Int32.ofInt (wr (a + b)) := by rw [i32_wr, Int32.ofInt_add]
theorem i32_sub (a b : Int) : Int32.ofInt a - Int32.ofInt b = Int32.ofInt (wr (a - b)) := by rw [i32_wr, Int32.ofInt_sub]
theorem i32_mul (a b : Int) : Int32.ofInt a * Int32.ofInt b = Int32.ofInt (wr (a * b)) := by rw [i32_wr, Int32.ofInt_mul]
theorem i32_neg (a : Int) : -Int32.ofInt a = Int32.ofInt (wr (-a)) := by rw [i32_wr, Int32.ofInt_neg]
theorem i64_add (a b : Int) : Int64.ofInt a + Int64.ofInt b = Int64.ofInt (wrl (a + b)) := by rw [i64_wr, Int64.ofInt_add]
theorem i64_mul (a b : Int) : Int64.ofInt a * Int64.ofInt b = Int64.ofInt (wrl (a * b)) := by rw [i64_wr, Int64.ofInt_mul]
theorem i32_eq {a b : Int} (ha : inR a) (hb : inR b) : Int32.ofInt a = Int32.ofInt b ↔ a = b := by
  rw [← Int32.toInt_inj, i32_in ha, i32_in hb]
theorem i32_lt {a b : Int} (ha : inR a) (hb : inR b) : Int32.ofInt a < Int32.ofInt b ↔ a < b := by
  rw [Int32.lt_iff_toInt_lt, i32_in ha, i32_in hb]
theorem i32_le {a b : Int} (ha : inR a) (hb : inR b) : Int32.ofInt a ≤ Int32.ofInt b ↔ a ≤ b := by
  rw [Int32.le_iff_toInt_le, i32_in ha, i32_in hb]
theorem in_0 : inR 0 := by unfold inR; omega
theorem i32_0 : Int32.ofInt 0 = 0 := by decide
theorem i64_eq {a b : Int} (ha : inRL a) (hb : inRL b) : Int64.ofInt a = Int64.ofInt b ↔ a = b := by
  rw [← Int64.toInt_inj, i64_in ha, i64_in hb]
theorem i64_lt {a b : Int} (ha : inRL a) (hb : inRL b) : Int64.ofInt a < Int64.ofInt b ↔ a < b := by
  rw [Int64.lt_iff_toInt_lt, i64_in ha, i64_in hb]
theorem i32_div {a b : Int} (ha : inR a) (hb : inR b) : Int32.ofInt a / Int32.ofInt b = Int32.ofInt (wr (a.tdiv b)) := by
  apply Int32.toInt_inj.mp; rw [Int32.toInt_div, i32_in ha, i32_in hb, i32_to, wr_id (wr_in _), wr_bmod]
theorem i64_div {a b : Int} (ha : inRL a) (hb : inRL b) : Int64.ofInt a / Int64.ofInt b = Int64.ofInt (wrl (a.tdiv b)) := by
  apply Int64.toInt_inj.mp; rw [Int64.toInt_div, i64_in ha, i64_in hb, i64_to, wrl_id (wrl_in _), wrl_bmod]
theorem tmod_bd (a b : Int) : (0 ≤ a → 0 ≤ a.tmod b ∧ a.tmod b ≤ a) ∧ (a ≤ 0 → a ≤ a.tmod b ∧ a.tmod b ≤ 0) := by
  have key : ∀ c : Int, 0 ≤ c → 0 ≤ c.tmod b ∧ c.tmod b ≤ c := by
    intro c hc
    refine ⟨Int.tmod_nonneg b hc, ?_⟩
    obtain ⟨n, rfl⟩ := Int.eq_ofNat_of_zero_le hc
    rcases b with m | m
    · show ((n % m : Nat) : Int) ≤ n
      have := Nat.mod_le n m; omega
    · show ((n % (m + 1) : Nat) : Int) ≤ n
      have := Nat.mod_le n (m + 1); omega
  refine ⟨key a, fun h => ?_⟩
  have h2 : (-a).tmod b = - a.tmod b := Int.neg_tmod a b
  have h3 := key (-a) (by omega)
  omega
theorem tmod_in {a : Int} (b : Int) (ha : inR a) : inR (a.tmod b) := by
  unfold inR at *
  have := tmod_bd a b
  omega
theorem tmod_inl {a : Int} (b : Int) (ha : inRL a) : inRL (a.tmod b) := by
  unfold inRL at *
  have := tmod_bd a b
  omega
theorem i32_rem {a b : Int} (ha : inR a) (hb : inR b) : Int32.ofInt a - Int32.ofInt a / Int32.ofInt b * Int32.ofInt b = Int32.ofInt (a.tmod b) := by
  rw [i32_div ha hb, i32_mul, i32_sub]
  apply Int32.toInt_inj.mp
  rw [i32_to, i32_to, wr_id (wr_in _), Int.tmod_def]
  have h : wr (wr (a.tdiv b) * b) = wr (b * a.tdiv b) := by
    have h1 : Int32.ofInt (wr (wr (a.tdiv b) * b)) = Int32.ofInt (wr (b * a.tdiv b)) := by
      rw [← i32_mul, i32_wr, ← i32_mul, Int32.mul_comm]
    have h2 := congrArg Int32.toInt h1
    rwa [i32_in (wr_in _), i32_in (wr_in _)] at h2
  rw [h]
  simp only [wr_def]; omega
theorem i64_sub (a b : Int) : Int64.ofInt a - Int64.ofInt b = Int64.ofInt (wrl (a - b)) := by rw [i64_wr, Int64.ofInt_sub]
theorem i64_rem {a b : Int} (ha : inRL a) (hb : inRL b) : Int64.ofInt a - Int64.ofInt a / Int64.ofInt b * Int64.ofInt b = Int64.ofInt (a.tmod b) := by
  rw [i64_div ha hb, i64_mul, i64_sub]
  apply Int64.toInt_inj.mp
  rw [i64_to, i64_to, wrl_id (wrl_in _), Int.tmod_def]
  have h : wrl (wrl (a.tdiv b) * b) = wrl (b * a.tdiv b) := by
    have h1 : Int64.ofInt (wrl (wrl (a.tdiv b) * b)) = Int64.ofInt (wrl (b * a.tdiv b)) := by
      rw [← i64_mul, i64_wr, ← i64_mul, Int64.mul_comm]
    have h2 := congrArg Int64.toInt h1
    rwa [i64_in (wrl_in _), i64_in (wrl_in _)] at h2
  rw [h]
  simp only [wrl_def]; omega
theorem i32_clamp {x : Int} (hx : inR x) : (Int32.ofInt x).toNatClampNeg = x.toNat := by
  rw [← Int32.toNat_toInt, i32_in hx]
theorem i32_vp {x : Int} (hx : inR x) {n : Nat} : vp_in (Int32.ofInt x) n ↔ 0 ≤ x ∧ x < n := by
  rw [vp_in_iff, i32_in hx]
theorem i32_i64 {x : Int} (hx : inR x) : (Int32.ofInt x).toInt64 = Int64.ofInt x := by
  apply Int64.toInt_inj.mp
  rw [Int32.toInt_toInt64, i32_in hx, i64_in]
  unfold inR at hx; unfold inRL; omega
theorem i64_i32 {x : Int} : (Int64.ofInt x).toInt32 = Int32.ofInt (wr x) := by
  rw [i32_wr, Int64.toInt32_ofInt]
theorem i32_bip {n : Int} (h : -128 ≤ n) (h2 : n < 128) : (Int8.ofInt n).toInt32 = Int32.ofInt n := by
  apply Int32.toInt_inj.mp
  rw [Int8.toInt_toInt32, Int8.toInt_ofInt, i32_in (by unfold inR; omega), show Int8.size = 256 from rfl, Int.bmod_def]
  split <;> omega
theorem i32_sip {n : Int} (h : -32768 ≤ n) (h2 : n < 32768) : (Int16.ofInt n).toInt32 = Int32.ofInt n := by
  apply Int32.toInt_inj.mp
  rw [Int16.toInt_toInt32, Int16.toInt_ofInt, i32_in (by unfold inR; omega), show Int16.size = 65536 from rfl, Int.bmod_def]
  split <;> omega
theorem i32_min {a b : Int} (ha : inR a) (hb : inR b) : (if Int32.ofInt b < Int32.ofInt a then Int32.ofInt b else Int32.ofInt a) = Int32.ofInt (min a b) := by
  by_cases h : b < a
  · rw [if_pos ((i32_lt hb ha).mpr h), Int.min_eq_right (by omega)]
  · rw [if_neg (fun q => h ((i32_lt hb ha).mp q)), Int.min_eq_left (by omega)]
theorem i32_max {a b : Int} (ha : inR a) (hb : inR b) : (if Int32.ofInt a < Int32.ofInt b then Int32.ofInt b else Int32.ofInt a) = Int32.ofInt (max a b) := by
  by_cases h : a < b
  · rw [if_pos ((i32_lt ha hb).mpr h), Int.max_eq_right (by omega)]
  · rw [if_neg (fun q => h ((i32_lt ha hb).mp q)), Int.max_eq_left (by omega)]
theorem i32_abs {a : Int} (ha : inR a) : (if 0 ≤ Int32.ofInt a then Int32.ofInt a else 0 - Int32.ofInt a) = Int32.ofInt (iab a) := by
  unfold iab
  by_cases h : 0 ≤ a
  · rw [if_pos h, if_pos (by rw [← i32_0]; exact (i32_le in_0 ha).mpr h)]
  · rw [if_neg h, if_neg (fun q => h ((i32_le in_0 ha).mp (by rw [i32_0]; exact q))), ← i32_0, i32_sub]
theorem iab_in {a : Int} (ha : inR a) : inR (iab a) := by
  unfold iab; split
  · exact ha
  · exact wr_in _
theorem i64_cmp {a b : Int} (ha : inRL a) (hb : inRL b) : lg_cmp (Int64.ofInt a) (Int64.ofInt b) = Int32.ofInt (lcm a b) := by
  unfold lg_cmp lcm
  by_cases h : a < b
  · simp [i64_lt ha hb, i64_lt hb ha, i64_eq ha hb, h, show ¬ b < a by omega, show ¬ a = b by omega]
  · by_cases h2 : a = b
    · simp [i64_lt ha hb, i64_lt hb ha, i64_eq ha hb, h2]
    · simp [i64_lt ha hb, i64_lt hb ha, i64_eq ha hb, h, h2, show b < a by omega]
theorem ian_in (a b : Int) : inR (ian a b) := by
  unfold ian inR
  have h1 := Int32.le_toInt (Int32.ofInt a &&& Int32.ofInt b)
  have h2 := Int32.toInt_lt (Int32.ofInt a &&& Int32.ofInt b)
  omega
theorem i32_and (a b : Int) : Int32.ofInt a &&& Int32.ofInt b = Int32.ofInt (ian a b) := by
  unfold ian; rw [Int32.ofInt_toInt]
theorem lcm_in (a b : Int) : inR (lcm a b) := by unfold lcm inR; split <;> (try split) <;> omega
