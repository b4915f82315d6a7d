/-! the links, by wip/whole/gen_tab.py -/
theorem tb_1 : ∀ w ∈ tables_1_1, w ∈ lw_tbl := fun w h => List.mem_append_right _ (by unfold tables_1; simp only [List.mem_append]; first | exact Or.inl h | exact Or.inr (Or.inl h) | exact Or.inr (Or.inr (Or.inl h)) | exact Or.inr (Or.inr (Or.inr (Or.inl h))) | exact Or.inr (Or.inr (Or.inr (Or.inr h))))
theorem gw_1 {w : Cond} (i : Nat) (h : (decide (tables_1_1[i]? = some w) && goodWord w) = true) : w ∈ gW := by
  rw [Bool.and_eq_true, decide_eq_true_eq] at h
  exact gW_t (tb_1 _ (List.mem_of_getElem? h.1)) h.2
theorem nw_1 {w : Cond} (i : Nat) (h : (decide (tables_1_1[i]? = some w) && isNW w) = true) : w ∈ nW := by
  rw [Bool.and_eq_true, decide_eq_true_eq] at h
  exact List.mem_filter.mpr ⟨tb_1 _ (List.mem_of_getElem? h.1), h.2⟩
theorem k_arr : .arrayClass .int ∈ gW := gw_has (by decide +kernel)
theorem tb_2 : ∀ w ∈ tables_1_2, w ∈ lw_tbl := fun w h => List.mem_append_right _ (by unfold tables_1; simp only [List.mem_append]; first | exact Or.inl h | exact Or.inr (Or.inl h) | exact Or.inr (Or.inr (Or.inl h)) | exact Or.inr (Or.inr (Or.inr (Or.inl h))) | exact Or.inr (Or.inr (Or.inr (Or.inr h))))
theorem gw_2 {w : Cond} (i : Nat) (h : (decide (tables_1_2[i]? = some w) && goodWord w) = true) : w ∈ gW := by
  rw [Bool.and_eq_true, decide_eq_true_eq] at h
  exact gW_t (tb_2 _ (List.mem_of_getElem? h.1)) h.2
theorem nw_2 {w : Cond} (i : Nat) (h : (decide (tables_1_2[i]? = some w) && isNW w) = true) : w ∈ nW := by
  rw [Bool.and_eq_true, decide_eq_true_eq] at h
  exact List.mem_filter.mpr ⟨tb_2 _ (List.mem_of_getElem? h.1), h.2⟩
theorem tb_3 : ∀ w ∈ tables_1_3, w ∈ lw_tbl := fun w h => List.mem_append_right _ (by unfold tables_1; simp only [List.mem_append]; first | exact Or.inl h | exact Or.inr (Or.inl h) | exact Or.inr (Or.inr (Or.inl h)) | exact Or.inr (Or.inr (Or.inr (Or.inl h))) | exact Or.inr (Or.inr (Or.inr (Or.inr h))))
theorem gw_3 {w : Cond} (i : Nat) (h : (decide (tables_1_3[i]? = some w) && goodWord w) = true) : w ∈ gW := by
  rw [Bool.and_eq_true, decide_eq_true_eq] at h
  exact gW_t (tb_3 _ (List.mem_of_getElem? h.1)) h.2
theorem nw_3 {w : Cond} (i : Nat) (h : (decide (tables_1_3[i]? = some w) && isNW w) = true) : w ∈ nW := by
  rw [Bool.and_eq_true, decide_eq_true_eq] at h
  exact List.mem_filter.mpr ⟨tb_3 _ (List.mem_of_getElem? h.1), h.2⟩
theorem tb_4 : ∀ w ∈ tables_1_4, w ∈ lw_tbl := fun w h => List.mem_append_right _ (by unfold tables_1; simp only [List.mem_append]; first | exact Or.inl h | exact Or.inr (Or.inl h) | exact Or.inr (Or.inr (Or.inl h)) | exact Or.inr (Or.inr (Or.inr (Or.inl h))) | exact Or.inr (Or.inr (Or.inr (Or.inr h))))
theorem gw_4 {w : Cond} (i : Nat) (h : (decide (tables_1_4[i]? = some w) && goodWord w) = true) : w ∈ gW := by
  rw [Bool.and_eq_true, decide_eq_true_eq] at h
  exact gW_t (tb_4 _ (List.mem_of_getElem? h.1)) h.2
theorem nw_4 {w : Cond} (i : Nat) (h : (decide (tables_1_4[i]? = some w) && isNW w) = true) : w ∈ nW := by
  rw [Bool.and_eq_true, decide_eq_true_eq] at h
  exact List.mem_filter.mpr ⟨tb_4 _ (List.mem_of_getElem? h.1), h.2⟩
theorem tb_5 : ∀ w ∈ tables_1_5, w ∈ lw_tbl := fun w h => List.mem_append_right _ (by unfold tables_1; simp only [List.mem_append]; first | exact Or.inl h | exact Or.inr (Or.inl h) | exact Or.inr (Or.inr (Or.inl h)) | exact Or.inr (Or.inr (Or.inr (Or.inl h))) | exact Or.inr (Or.inr (Or.inr (Or.inr h))))
theorem gw_5 {w : Cond} (i : Nat) (h : (decide (tables_1_5[i]? = some w) && goodWord w) = true) : w ∈ gW := by
  rw [Bool.and_eq_true, decide_eq_true_eq] at h
  exact gW_t (tb_5 _ (List.mem_of_getElem? h.1)) h.2
theorem nw_5 {w : Cond} (i : Nat) (h : (decide (tables_1_5[i]? = some w) && isNW w) = true) : w ∈ nW := by
  rw [Bool.and_eq_true, decide_eq_true_eq] at h
  exact List.mem_filter.mpr ⟨tb_5 _ (List.mem_of_getElem? h.1), h.2⟩
theorem gw_p {w : Cond} (i : Nat) (h : (decide ((k2_sels lw_privs)[i]? = some w) && goodWord w) = true) : w ∈ gW := by
  rw [Bool.and_eq_true, decide_eq_true_eq] at h
  exact gW_t (List.mem_append_left _ (List.mem_of_getElem? h.1)) h.2
theorem nw_has {w : Cond} (h : (decide (w ∈ lw_tbl) && isNW w) = true) : w ∈ nW := by
  rw [Bool.and_eq_true, decide_eq_true_eq] at h
  exact List.mem_filter.mpr h
theorem in_R {x : Int} (h : (decide (-2147483648 ≤ x) && decide (x < 2147483648)) = true) : inR x := by
  simpa [inR] using h
theorem in_RL {x : Int} (h : (decide (-9223372036854775808 ≤ x) && decide (x < 9223372036854775808)) = true) : inRL x := by
  simpa [inRL] using h
theorem mo_0 : mOK 0 := ⟨gw_1 21 (by decide +kernel), by decide +kernel, gw_1 1 (by decide +kernel), by decide +kernel, by decide +kernel⟩
theorem mp_0 : mPar 0 0 := by unfold mPar; decide +kernel
theorem mi_0 : .instanceMethod (mN 0) ∈ gW := gw_1 20 (by decide +kernel)
theorem mo_1 : mOK 1 := ⟨gw_2 110 (by decide +kernel), by decide +kernel, gw_1 1 (by decide +kernel), by decide +kernel, by decide +kernel⟩
theorem mp_1 : mPar 1 1 := by unfold mPar; decide +kernel
theorem mi_1 : .instanceMethod (mN 1) ∈ gW := gw_2 108 (by decide +kernel)
theorem mv_1 : .selects (mN 1).cls (mN 1) (mN 1) ∈ gW := gw_2 109 (by decide +kernel)
theorem mc_1 : ∃ ci q, clsN 1 = some ci ∧ vwCl[ci]? = some q ∧ q.1 = (mN 1).cls := ⟨8, _, rfl, rfl, rfl⟩
theorem mo_2 : mOK 2 := ⟨gw_2 140 (by decide +kernel), by decide +kernel, gw_1 1 (by decide +kernel), by decide +kernel, by decide +kernel⟩
theorem mp_2 : mPar 2 1 := by unfold mPar; decide +kernel
theorem mi_2 : .instanceMethod (mN 2) ∈ gW := gw_2 138 (by decide +kernel)
theorem mv_2 : .selects (mN 2).cls (mN 2) (mN 2) ∈ gW := gw_2 139 (by decide +kernel)
theorem mc_2 : ∃ ci q, clsN 2 = some ci ∧ vwCl[ci]? = some q ∧ q.1 = (mN 2).cls := ⟨8, _, rfl, rfl, rfl⟩
theorem mo_3 : mOK 3 := ⟨gw_2 155 (by decide +kernel), by decide +kernel, gw_1 1 (by decide +kernel), by decide +kernel, by decide +kernel⟩
theorem mp_3 : mPar 3 2 := by unfold mPar; decide +kernel
theorem mi_3 : .instanceMethod (mN 3) ∈ gW := gw_2 153 (by decide +kernel)
theorem mv_3 : .selects (mN 3).cls (mN 3) (mN 3) ∈ gW := gw_2 154 (by decide +kernel)
theorem mc_3 : ∃ ci q, clsN 3 = some ci ∧ vwCl[ci]? = some q ∧ q.1 = (mN 3).cls := ⟨8, _, rfl, rfl, rfl⟩
theorem mo_4 : mOK 4 := ⟨gw_2 159 (by decide +kernel), by decide +kernel, gw_1 1 (by decide +kernel), by decide +kernel, by decide +kernel⟩
theorem mp_4 : mPar 4 2 := by unfold mPar; decide +kernel
theorem mi_4 : .instanceMethod (mN 4) ∈ gW := gw_2 157 (by decide +kernel)
theorem mv_4 : .selects (mN 4).cls (mN 4) (mN 4) ∈ gW := gw_2 158 (by decide +kernel)
theorem mc_4 : ∃ ci q, clsN 4 = some ci ∧ vwCl[ci]? = some q ∧ q.1 = (mN 4).cls := ⟨8, _, rfl, rfl, rfl⟩
theorem mo_5 : mOK 5 := ⟨gw_2 173 (by decide +kernel), by decide +kernel, gw_1 1 (by decide +kernel), by decide +kernel, by decide +kernel⟩
theorem mp_5 : mPar 5 1 := by unfold mPar; decide +kernel
theorem mi_5 : .instanceMethod (mN 5) ∈ gW := gw_2 171 (by decide +kernel)
theorem mv_5 : .selects (mN 5).cls (mN 5) (mN 5) ∈ gW := gw_2 172 (by decide +kernel)
theorem mc_5 : ∃ ci q, clsN 5 = some ci ∧ vwCl[ci]? = some q ∧ q.1 = (mN 5).cls := ⟨8, _, rfl, rfl, rfl⟩
theorem mo_6 : mOK 6 := ⟨gw_2 185 (by decide +kernel), by decide +kernel, gw_1 1 (by decide +kernel), by decide +kernel, by decide +kernel⟩
theorem mp_6 : mPar 6 2 := by unfold mPar; decide +kernel
theorem mi_6 : .instanceMethod (mN 6) ∈ gW := gw_2 183 (by decide +kernel)
theorem mv_6 : .selects (mN 6).cls (mN 6) (mN 6) ∈ gW := gw_2 184 (by decide +kernel)
theorem mc_6 : ∃ ci q, clsN 6 = some ci ∧ vwCl[ci]? = some q ∧ q.1 = (mN 6).cls := ⟨8, _, rfl, rfl, rfl⟩
theorem mo_7 : mOK 7 := ⟨gw_2 193 (by decide +kernel), by decide +kernel, gw_1 1 (by decide +kernel), by decide +kernel, by decide +kernel⟩
theorem mp_7 : mPar 7 1 := by unfold mPar; decide +kernel
theorem mi_7 : .instanceMethod (mN 7) ∈ gW := gw_2 191 (by decide +kernel)
theorem mv_7 : .selects (mN 7).cls (mN 7) (mN 7) ∈ gW := gw_2 192 (by decide +kernel)
theorem mc_7 : ∃ ci q, clsN 7 = some ci ∧ vwCl[ci]? = some q ∧ q.1 = (mN 7).cls := ⟨8, _, rfl, rfl, rfl⟩
theorem mo_8 : mOK 8 := ⟨gw_2 197 (by decide +kernel), by decide +kernel, gw_1 1 (by decide +kernel), by decide +kernel, by decide +kernel⟩
theorem mp_8 : mPar 8 0 := by unfold mPar; decide +kernel
theorem mi_8 : .instanceMethod (mN 8) ∈ gW := gw_2 195 (by decide +kernel)
theorem mv_8 : .selects (mN 8).cls (mN 8) (mN 8) ∈ gW := gw_2 196 (by decide +kernel)
theorem mc_8 : ∃ ci q, clsN 8 = some ci ∧ vwCl[ci]? = some q ∧ q.1 = (mN 8).cls := ⟨8, _, rfl, rfl, rfl⟩
theorem mo_9 : mOK 9 := ⟨gw_3 181 (by decide +kernel), by decide +kernel, gw_1 1 (by decide +kernel), by decide +kernel, by decide +kernel⟩
theorem mp_9 : mPar 9 2 := by unfold mPar; decide +kernel
theorem mi_9 : .instanceMethod (mN 9) ∈ gW := gw_3 179 (by decide +kernel)
theorem mv_9 : .selects (mN 9).cls (mN 9) (mN 9) ∈ gW := gw_3 180 (by decide +kernel)
theorem mc_9 : ∃ ci q, clsN 9 = some ci ∧ vwCl[ci]? = some q ∧ q.1 = (mN 9).cls := ⟨8, _, rfl, rfl, rfl⟩
theorem mo_10 : mOK 10 := ⟨gw_3 193 (by decide +kernel), by decide +kernel, gw_1 1 (by decide +kernel), by decide +kernel, by decide +kernel⟩
theorem mp_10 : mPar 10 2 := by unfold mPar; decide +kernel
theorem mi_10 : .instanceMethod (mN 10) ∈ gW := gw_3 191 (by decide +kernel)
theorem mv_10 : .selects (mN 10).cls (mN 10) (mN 10) ∈ gW := gw_3 192 (by decide +kernel)
theorem mc_10 : ∃ ci q, clsN 10 = some ci ∧ vwCl[ci]? = some q ∧ q.1 = (mN 10).cls := ⟨8, _, rfl, rfl, rfl⟩
theorem mo_11 : mOK 11 := ⟨gw_3 201 (by decide +kernel), by decide +kernel, gw_1 1 (by decide +kernel), by decide +kernel, by decide +kernel⟩
theorem mp_11 : mPar 11 2 := by unfold mPar; decide +kernel
theorem mi_11 : .instanceMethod (mN 11) ∈ gW := gw_3 199 (by decide +kernel)
theorem mv_11 : .selects (mN 11).cls (mN 11) (mN 11) ∈ gW := gw_3 200 (by decide +kernel)
theorem mc_11 : ∃ ci q, clsN 11 = some ci ∧ vwCl[ci]? = some q ∧ q.1 = (mN 11).cls := ⟨8, _, rfl, rfl, rfl⟩
theorem mo_12 : mOK 12 := ⟨gw_3 209 (by decide +kernel), by decide +kernel, gw_1 1 (by decide +kernel), by decide +kernel, by decide +kernel⟩
theorem mp_12 : mPar 12 1 := by unfold mPar; decide +kernel
theorem mi_12 : .instanceMethod (mN 12) ∈ gW := gw_3 207 (by decide +kernel)
theorem mv_12 : .selects (mN 12).cls (mN 12) (mN 12) ∈ gW := gw_3 208 (by decide +kernel)
theorem mc_12 : ∃ ci q, clsN 12 = some ci ∧ vwCl[ci]? = some q ∧ q.1 = (mN 12).cls := ⟨8, _, rfl, rfl, rfl⟩
theorem mo_13 : mOK 13 := ⟨gw_3 217 (by decide +kernel), by decide +kernel, gw_1 1 (by decide +kernel), by decide +kernel, by decide +kernel⟩
theorem mp_13 : mPar 13 1 := by unfold mPar; decide +kernel
theorem mi_13 : .instanceMethod (mN 13) ∈ gW := gw_3 215 (by decide +kernel)
theorem mv_13 : .selects (mN 13).cls (mN 13) (mN 13) ∈ gW := gw_3 216 (by decide +kernel)
theorem mc_13 : ∃ ci q, clsN 13 = some ci ∧ vwCl[ci]? = some q ∧ q.1 = (mN 13).cls := ⟨8, _, rfl, rfl, rfl⟩
theorem mo_14 : mOK 14 := ⟨gw_3 221 (by decide +kernel), by decide +kernel, gw_1 1 (by decide +kernel), by decide +kernel, by decide +kernel⟩
theorem mp_14 : mPar 14 1 := by unfold mPar; decide +kernel
theorem mi_14 : .instanceMethod (mN 14) ∈ gW := gw_3 219 (by decide +kernel)
theorem mv_14 : .selects (mN 14).cls (mN 14) (mN 14) ∈ gW := gw_3 220 (by decide +kernel)
theorem mc_14 : ∃ ci q, clsN 14 = some ci ∧ vwCl[ci]? = some q ∧ q.1 = (mN 14).cls := ⟨8, _, rfl, rfl, rfl⟩
theorem mo_15 : mOK 15 := ⟨gw_3 226 (by decide +kernel), by decide +kernel, gw_1 1 (by decide +kernel), by decide +kernel, by decide +kernel⟩
theorem mp_15 : mPar 15 1 := by unfold mPar; decide +kernel
theorem mi_15 : .instanceMethod (mN 15) ∈ gW := gw_3 224 (by decide +kernel)
theorem mv_15 : .selects (mN 15).cls (mN 15) (mN 15) ∈ gW := gw_3 225 (by decide +kernel)
theorem mc_15 : ∃ ci q, clsN 15 = some ci ∧ vwCl[ci]? = some q ∧ q.1 = (mN 15).cls := ⟨8, _, rfl, rfl, rfl⟩
theorem mo_16 : mOK 16 := ⟨gw_3 235 (by decide +kernel), by decide +kernel, gw_1 1 (by decide +kernel), by decide +kernel, by decide +kernel⟩
theorem mp_16 : mPar 16 0 := by unfold mPar; decide +kernel
theorem mi_16 : .instanceMethod (mN 16) ∈ gW := gw_3 233 (by decide +kernel)
theorem mv_16 : .selects (mN 16).cls (mN 16) (mN 16) ∈ gW := gw_3 234 (by decide +kernel)
theorem mc_16 : ∃ ci q, clsN 16 = some ci ∧ vwCl[ci]? = some q ∧ q.1 = (mN 16).cls := ⟨8, _, rfl, rfl, rfl⟩
theorem mo_17 : mOK 17 := ⟨gw_4 0 (by decide +kernel), by decide +kernel, gw_1 1 (by decide +kernel), by decide +kernel, by decide +kernel⟩
theorem mp_17 : mPar 17 1 := by unfold mPar; decide +kernel
theorem mi_17 : .instanceMethod (mN 17) ∈ gW := gw_3 238 (by decide +kernel)
theorem mv_17 : .selects (mN 17).cls (mN 17) (mN 17) ∈ gW := gw_3 239 (by decide +kernel)
theorem mc_17 : ∃ ci q, clsN 17 = some ci ∧ vwCl[ci]? = some q ∧ q.1 = (mN 17).cls := ⟨8, _, rfl, rfl, rfl⟩
theorem mo_18 : mOK 18 := ⟨gw_4 8 (by decide +kernel), by decide +kernel, gw_1 1 (by decide +kernel), by decide +kernel, by decide +kernel⟩
theorem mp_18 : mPar 18 0 := by unfold mPar; decide +kernel
theorem mi_18 : .instanceMethod (mN 18) ∈ gW := gw_4 6 (by decide +kernel)
theorem mv_18 : .selects (mN 18).cls (mN 18) (mN 18) ∈ gW := gw_4 7 (by decide +kernel)
theorem mc_18 : ∃ ci q, clsN 18 = some ci ∧ vwCl[ci]? = some q ∧ q.1 = (mN 18).cls := ⟨8, _, rfl, rfl, rfl⟩
theorem mo_19 : mOK 19 := ⟨gw_4 12 (by decide +kernel), by decide +kernel, gw_1 1 (by decide +kernel), by decide +kernel, by decide +kernel⟩
theorem mp_19 : mPar 19 0 := by unfold mPar; decide +kernel
theorem mi_19 : .instanceMethod (mN 19) ∈ gW := gw_4 10 (by decide +kernel)
theorem mv_19 : .selects (mN 19).cls (mN 19) (mN 19) ∈ gW := gw_4 11 (by decide +kernel)
theorem mc_19 : ∃ ci q, clsN 19 = some ci ∧ vwCl[ci]? = some q ∧ q.1 = (mN 19).cls := ⟨8, _, rfl, rfl, rfl⟩
theorem mo_20 : mOK 20 := ⟨gw_4 60 (by decide +kernel), by decide +kernel, gw_1 1 (by decide +kernel), by decide +kernel, by decide +kernel⟩
theorem mp_20 : mPar 20 0 := by unfold mPar; decide +kernel
theorem mi_20 : .instanceMethod (mN 20) ∈ gW := gw_4 58 (by decide +kernel)
theorem mv_20 : .selects (mN 20).cls (mN 20) (mN 20) ∈ gW := gw_4 59 (by decide +kernel)
theorem mc_20 : ∃ ci q, clsN 20 = some ci ∧ vwCl[ci]? = some q ∧ q.1 = (mN 20).cls := ⟨8, _, rfl, rfl, rfl⟩
theorem mo_21 : mOK 21 := ⟨gw_4 72 (by decide +kernel), by decide +kernel, gw_1 1 (by decide +kernel), by decide +kernel, by decide +kernel⟩
theorem mp_21 : mPar 21 1 := by unfold mPar; decide +kernel
theorem mi_21 : .instanceMethod (mN 21) ∈ gW := gw_4 70 (by decide +kernel)
theorem mv_21 : .selects (mN 21).cls (mN 21) (mN 21) ∈ gW := gw_4 71 (by decide +kernel)
theorem mc_21 : ∃ ci q, clsN 21 = some ci ∧ vwCl[ci]? = some q ∧ q.1 = (mN 21).cls := ⟨8, _, rfl, rfl, rfl⟩
theorem mo_22 : mOK 22 := ⟨gw_4 80 (by decide +kernel), by decide +kernel, gw_1 1 (by decide +kernel), by decide +kernel, by decide +kernel⟩
theorem mp_22 : mPar 22 0 := by unfold mPar; decide +kernel
theorem mi_22 : .instanceMethod (mN 22) ∈ gW := gw_4 78 (by decide +kernel)
theorem mv_22 : .selects (mN 22).cls (mN 22) (mN 22) ∈ gW := gw_4 79 (by decide +kernel)
theorem mc_22 : ∃ ci q, clsN 22 = some ci ∧ vwCl[ci]? = some q ∧ q.1 = (mN 22).cls := ⟨8, _, rfl, rfl, rfl⟩
theorem mo_23 : mOK 23 := ⟨gw_2 113 (by decide +kernel), by decide +kernel, gw_1 1 (by decide +kernel), by decide +kernel, by decide +kernel⟩
theorem mp_23 : mPar 23 1 := by unfold mPar; decide +kernel
theorem ms_23 : .static (mN 23) ∈ gW := gw_2 112 (by decide +kernel)
theorem mo_24 : mOK 24 := ⟨gw_2 144 (by decide +kernel), by decide +kernel, gw_1 1 (by decide +kernel), by decide +kernel, by decide +kernel⟩
theorem mp_24 : mPar 24 1 := by unfold mPar; decide +kernel
theorem mi_24 : .instanceMethod (mN 24) ∈ gW := gw_2 143 (by decide +kernel)
theorem mv_24 : .selects (mN 24).cls (mN 24) (mN 24) ∈ gW := gw_p 5 (by decide +kernel)
theorem mc_24 : ∃ ci q, clsN 24 = some ci ∧ vwCl[ci]? = some q ∧ q.1 = (mN 24).cls := ⟨8, _, rfl, rfl, rfl⟩
theorem mo_25 : mOK 25 := ⟨gw_3 185 (by decide +kernel), by decide +kernel, gw_1 1 (by decide +kernel), by decide +kernel, by decide +kernel⟩
theorem mp_25 : mPar 25 1 := by unfold mPar; decide +kernel
theorem mi_25 : .instanceMethod (mN 25) ∈ gW := gw_3 184 (by decide +kernel)
theorem mv_25 : .selects (mN 25).cls (mN 25) (mN 25) ∈ gW := gw_p 27 (by decide +kernel)
theorem mc_25 : ∃ ci q, clsN 25 = some ci ∧ vwCl[ci]? = some q ∧ q.1 = (mN 25).cls := ⟨8, _, rfl, rfl, rfl⟩
theorem mo_26 : mOK 26 := ⟨gw_2 117 (by decide +kernel), by decide +kernel, gw_1 1 (by decide +kernel), by decide +kernel, by decide +kernel⟩
theorem mp_26 : mPar 26 1 := by unfold mPar; decide +kernel
theorem mi_26 : .instanceMethod (mN 26) ∈ gW := gw_2 116 (by decide +kernel)
theorem mv_26 : .selects (mN 26).cls (mN 26) (mN 26) ∈ gW := gw_p 3 (by decide +kernel)
theorem mc_26 : ∃ ci q, clsN 26 = some ci ∧ vwCl[ci]? = some q ∧ q.1 = (mN 26).cls := ⟨8, _, rfl, rfl, rfl⟩
theorem mo_27 : mOK 27 := ⟨gw_2 121 (by decide +kernel), by decide +kernel, gw_1 1 (by decide +kernel), by decide +kernel, by decide +kernel⟩
theorem mp_27 : mPar 27 0 := by unfold mPar; decide +kernel
theorem mi_27 : .instanceMethod (mN 27) ∈ gW := gw_2 120 (by decide +kernel)
theorem mv_27 : .selects (mN 27).cls (mN 27) (mN 27) ∈ gW := gw_p 4 (by decide +kernel)
theorem mc_27 : ∃ ci q, clsN 27 = some ci ∧ vwCl[ci]? = some q ∧ q.1 = (mN 27).cls := ⟨8, _, rfl, rfl, rfl⟩
theorem mo_28 : mOK 28 := ⟨gw_4 76 (by decide +kernel), by decide +kernel, gw_1 1 (by decide +kernel), by decide +kernel, by decide +kernel⟩
theorem mp_28 : mPar 28 1 := by unfold mPar; decide +kernel
theorem mi_28 : .instanceMethod (mN 28) ∈ gW := gw_4 75 (by decide +kernel)
theorem mv_28 : .selects (mN 28).cls (mN 28) (mN 28) ∈ gW := gw_p 35 (by decide +kernel)
theorem mc_28 : ∃ ci q, clsN 28 = some ci ∧ vwCl[ci]? = some q ∧ q.1 = (mN 28).cls := ⟨8, _, rfl, rfl, rfl⟩
theorem mo_29 : mOK 29 := ⟨gw_2 201 (by decide +kernel), by decide +kernel, gw_1 1 (by decide +kernel), by decide +kernel, by decide +kernel⟩
theorem mp_29 : mPar 29 0 := by unfold mPar; decide +kernel
theorem mi_29 : .instanceMethod (mN 29) ∈ gW := gw_2 200 (by decide +kernel)
theorem mv_29 : .selects (mN 29).cls (mN 29) (mN 29) ∈ gW := gw_p 6 (by decide +kernel)
theorem mc_29 : ∃ ci q, clsN 29 = some ci ∧ vwCl[ci]? = some q ∧ q.1 = (mN 29).cls := ⟨8, _, rfl, rfl, rfl⟩
theorem mo_30 : mOK 30 := ⟨gw_2 151 (by decide +kernel), by decide +kernel, gw_1 1 (by decide +kernel), by decide +kernel, by decide +kernel⟩
theorem mp_30 : mPar 30 3 := by unfold mPar; decide +kernel
theorem ms_30 : .static (mN 30) ∈ gW := gw_2 150 (by decide +kernel)
theorem mo_31 : mOK 31 := ⟨gw_4 23 (by decide +kernel), by decide +kernel, gw_1 1 (by decide +kernel), by decide +kernel, by decide +kernel⟩
theorem mp_31 : mPar 31 1 := by unfold mPar; decide +kernel
theorem ms_31 : .static (mN 31) ∈ gW := gw_4 22 (by decide +kernel)
theorem mo_32 : mOK 32 := ⟨gw_1 212 (by decide +kernel), by decide +kernel, gw_1 1 (by decide +kernel), by decide +kernel, by decide +kernel⟩
theorem mp_32 : mPar 32 4 := by unfold mPar; decide +kernel
theorem ms_32 : .static (mN 32) ∈ gW := gw_1 211 (by decide +kernel)
theorem mo_33 : mOK 33 := ⟨gw_1 215 (by decide +kernel), by decide +kernel, gw_1 1 (by decide +kernel), by decide +kernel, by decide +kernel⟩
theorem mp_33 : mPar 33 3 := by unfold mPar; decide +kernel
theorem ms_33 : .static (mN 33) ∈ gW := gw_1 214 (by decide +kernel)
theorem mo_34 : mOK 34 := ⟨gw_3 10 (by decide +kernel), by decide +kernel, gw_1 1 (by decide +kernel), by decide +kernel, by decide +kernel⟩
theorem mp_34 : mPar 34 4 := by unfold mPar; decide +kernel
theorem ms_34 : .static (mN 34) ∈ gW := gw_3 9 (by decide +kernel)
theorem mo_35 : mOK 35 := ⟨gw_4 87 (by decide +kernel), by decide +kernel, gw_1 11 (by decide +kernel), by decide +kernel, by decide +kernel⟩
theorem mp_35 : mPar 35 0 := by unfold mPar; decide +kernel
theorem mi_35 : .instanceMethod (mN 35) ∈ gW := gw_4 86 (by decide +kernel)
theorem mo_36 : mOK 36 := ⟨gw_4 231 (by decide +kernel), by decide +kernel, gw_1 11 (by decide +kernel), by decide +kernel, by decide +kernel⟩
theorem mp_36 : mPar 36 3 := by unfold mPar; decide +kernel
theorem ms_36 : .static (mN 36) ∈ gW := gw_4 230 (by decide +kernel)
theorem mo_37 : mOK 37 := ⟨gw_4 235 (by decide +kernel), by decide +kernel, gw_1 11 (by decide +kernel), by decide +kernel, by decide +kernel⟩
theorem mp_37 : mPar 37 1 := by unfold mPar; decide +kernel
theorem mi_37 : .instanceMethod (mN 37) ∈ gW := gw_4 234 (by decide +kernel)
theorem mv_37 : .selects (mN 37).cls (mN 37) (mN 37) ∈ gW := gw_p 36 (by decide +kernel)
theorem mc_37 : ∃ ci q, clsN 37 = some ci ∧ vwCl[ci]? = some q ∧ q.1 = (mN 37).cls := ⟨9, _, rfl, rfl, rfl⟩
theorem mo_38 : mOK 38 := ⟨gw_4 239 (by decide +kernel), by decide +kernel, gw_1 11 (by decide +kernel), by decide +kernel, by decide +kernel⟩
theorem mp_38 : mPar 38 0 := by unfold mPar; decide +kernel
theorem mi_38 : .instanceMethod (mN 38) ∈ gW := gw_4 238 (by decide +kernel)
theorem mv_38 : .selects (mN 38).cls (mN 38) (mN 38) ∈ gW := gw_p 37 (by decide +kernel)
theorem mc_38 : ∃ ci q, clsN 38 = some ci ∧ vwCl[ci]? = some q ∧ q.1 = (mN 38).cls := ⟨9, _, rfl, rfl, rfl⟩
theorem mo_39 : mOK 39 := ⟨gw_5 3 (by decide +kernel), by decide +kernel, gw_1 11 (by decide +kernel), by decide +kernel, by decide +kernel⟩
theorem mp_39 : mPar 39 1 := by unfold mPar; decide +kernel
theorem mi_39 : .instanceMethod (mN 39) ∈ gW := gw_5 2 (by decide +kernel)
theorem mv_39 : .selects (mN 39).cls (mN 39) (mN 39) ∈ gW := gw_p 38 (by decide +kernel)
theorem mc_39 : ∃ ci q, clsN 39 = some ci ∧ vwCl[ci]? = some q ∧ q.1 = (mN 39).cls := ⟨9, _, rfl, rfl, rfl⟩
theorem mo_40 : mOK 40 := ⟨gw_5 15 (by decide +kernel), by decide +kernel, gw_1 11 (by decide +kernel), by decide +kernel, by decide +kernel⟩
theorem mp_40 : mPar 40 1 := by unfold mPar; decide +kernel
theorem mi_40 : .instanceMethod (mN 40) ∈ gW := gw_5 14 (by decide +kernel)
theorem mv_40 : .selects (mN 40).cls (mN 40) (mN 40) ∈ gW := gw_p 40 (by decide +kernel)
theorem mc_40 : ∃ ci q, clsN 40 = some ci ∧ vwCl[ci]? = some q ∧ q.1 = (mN 40).cls := ⟨9, _, rfl, rfl, rfl⟩
theorem mo_41 : mOK 41 := ⟨gw_5 11 (by decide +kernel), by decide +kernel, gw_1 11 (by decide +kernel), by decide +kernel, by decide +kernel⟩
theorem mp_41 : mPar 41 1 := by unfold mPar; decide +kernel
theorem mi_41 : .instanceMethod (mN 41) ∈ gW := gw_5 10 (by decide +kernel)
theorem mv_41 : .selects (mN 41).cls (mN 41) (mN 41) ∈ gW := gw_p 39 (by decide +kernel)
theorem mc_41 : ∃ ci q, clsN 41 = some ci ∧ vwCl[ci]? = some q ∧ q.1 = (mN 41).cls := ⟨9, _, rfl, rfl, rfl⟩
theorem mo_42 : mOK 42 := ⟨gw_4 228 (by decide +kernel), by decide +kernel, gw_1 11 (by decide +kernel), by decide +kernel, by decide +kernel⟩
theorem mp_42 : mPar 42 1 := by unfold mPar; decide +kernel
theorem mi_42 : .instanceMethod (mN 42) ∈ gW := gw_4 226 (by decide +kernel)
theorem mv_42 : .selects (mN 42).cls (mN 42) (mN 42) ∈ gW := gw_4 227 (by decide +kernel)
theorem mc_42 : ∃ ci q, clsN 42 = some ci ∧ vwCl[ci]? = some q ∧ q.1 = (mN 42).cls := ⟨9, _, rfl, rfl, rfl⟩
theorem mo_43 : mOK 43 := ⟨gw_5 7 (by decide +kernel), by decide +kernel, gw_1 11 (by decide +kernel), by decide +kernel, by decide +kernel⟩
theorem mp_43 : mPar 43 1 := by unfold mPar; decide +kernel
theorem mi_43 : .instanceMethod (mN 43) ∈ gW := gw_5 5 (by decide +kernel)
theorem mv_43 : .selects (mN 43).cls (mN 43) (mN 43) ∈ gW := gw_5 6 (by decide +kernel)
theorem mc_43 : ∃ ci q, clsN 43 = some ci ∧ vwCl[ci]? = some q ∧ q.1 = (mN 43).cls := ⟨9, _, rfl, rfl, rfl⟩
theorem mo_44 : mOK 44 := ⟨gw_5 19 (by decide +kernel), by decide +kernel, gw_1 11 (by decide +kernel), by decide +kernel, by decide +kernel⟩
theorem mp_44 : mPar 44 2 := by unfold mPar; decide +kernel
theorem mi_44 : .instanceMethod (mN 44) ∈ gW := gw_5 17 (by decide +kernel)
theorem mv_44 : .selects (mN 44).cls (mN 44) (mN 44) ∈ gW := gw_5 18 (by decide +kernel)
theorem mc_44 : ∃ ci q, clsN 44 = some ci ∧ vwCl[ci]? = some q ∧ q.1 = (mN 44).cls := ⟨9, _, rfl, rfl, rfl⟩
theorem mo_45 : mOK 45 := ⟨gw_5 23 (by decide +kernel), by decide +kernel, gw_1 11 (by decide +kernel), by decide +kernel, by decide +kernel⟩
theorem mp_45 : mPar 45 2 := by unfold mPar; decide +kernel
theorem mi_45 : .instanceMethod (mN 45) ∈ gW := gw_5 21 (by decide +kernel)
theorem mv_45 : .selects (mN 45).cls (mN 45) (mN 45) ∈ gW := gw_5 22 (by decide +kernel)
theorem mc_45 : ∃ ci q, clsN 45 = some ci ∧ vwCl[ci]? = some q ∧ q.1 = (mN 45).cls := ⟨9, _, rfl, rfl, rfl⟩
theorem mo_46 : mOK 46 := ⟨gw_5 32 (by decide +kernel), by decide +kernel, gw_1 11 (by decide +kernel), by decide +kernel, by decide +kernel⟩
theorem mp_46 : mPar 46 1 := by unfold mPar; decide +kernel
theorem mi_46 : .instanceMethod (mN 46) ∈ gW := gw_5 30 (by decide +kernel)
theorem mv_46 : .selects (mN 46).cls (mN 46) (mN 46) ∈ gW := gw_5 31 (by decide +kernel)
theorem mc_46 : ∃ ci q, clsN 46 = some ci ∧ vwCl[ci]? = some q ∧ q.1 = (mN 46).cls := ⟨9, _, rfl, rfl, rfl⟩
theorem mo_47 : mOK 47 := ⟨gw_5 39 (by decide +kernel), by decide +kernel, gw_1 11 (by decide +kernel), by decide +kernel, by decide +kernel⟩
theorem mp_47 : mPar 47 1 := by unfold mPar; decide +kernel
theorem ms_47 : .static (mN 47) ∈ gW := gw_5 38 (by decide +kernel)
theorem mo_48 : mOK 48 := ⟨gw_5 42 (by decide +kernel), by decide +kernel, gw_1 11 (by decide +kernel), by decide +kernel, by decide +kernel⟩
theorem mp_48 : mPar 48 1 := by unfold mPar; decide +kernel
theorem ms_48 : .static (mN 48) ∈ gW := gw_5 41 (by decide +kernel)
theorem mo_49 : mOK 49 := ⟨gw_5 36 (by decide +kernel), by decide +kernel, gw_1 11 (by decide +kernel), by decide +kernel, by decide +kernel⟩
theorem mp_49 : mPar 49 2 := by unfold mPar; decide +kernel
theorem mi_49 : .instanceMethod (mN 49) ∈ gW := gw_5 34 (by decide +kernel)
theorem mv_49 : .selects (mN 49).cls (mN 49) (mN 49) ∈ gW := gw_5 35 (by decide +kernel)
theorem mc_49 : ∃ ci q, clsN 49 = some ci ∧ vwCl[ci]? = some q ∧ q.1 = (mN 49).cls := ⟨9, _, rfl, rfl, rfl⟩
theorem mo_50 : mOK 50 := ⟨gw_5 46 (by decide +kernel), by decide +kernel, gw_1 11 (by decide +kernel), by decide +kernel, by decide +kernel⟩
theorem mp_50 : mPar 50 1 := by unfold mPar; decide +kernel
theorem mi_50 : .instanceMethod (mN 50) ∈ gW := gw_5 44 (by decide +kernel)
theorem mv_50 : .selects (mN 50).cls (mN 50) (mN 50) ∈ gW := gw_5 45 (by decide +kernel)
theorem mc_50 : ∃ ci q, clsN 50 = some ci ∧ vwCl[ci]? = some q ∧ q.1 = (mN 50).cls := ⟨9, _, rfl, rfl, rfl⟩
theorem mo_51 : mOK 51 := ⟨gw_5 70 (by decide +kernel), by decide +kernel, gw_1 11 (by decide +kernel), by decide +kernel, by decide +kernel⟩
theorem mp_51 : mPar 51 1 := by unfold mPar; decide +kernel
theorem ms_51 : .static (mN 51) ∈ gW := gw_5 69 (by decide +kernel)
theorem mo_52 : mOK 52 := ⟨gw_5 82 (by decide +kernel), by decide +kernel, gw_1 11 (by decide +kernel), by decide +kernel, by decide +kernel⟩
theorem mp_52 : mPar 52 4 := by unfold mPar; decide +kernel
theorem mi_52 : .instanceMethod (mN 52) ∈ gW := gw_5 81 (by decide +kernel)
theorem mv_52 : .selects (mN 52).cls (mN 52) (mN 52) ∈ gW := gw_p 47 (by decide +kernel)
theorem mc_52 : ∃ ci q, clsN 52 = some ci ∧ vwCl[ci]? = some q ∧ q.1 = (mN 52).cls := ⟨9, _, rfl, rfl, rfl⟩
theorem mo_53 : mOK 53 := ⟨gw_5 86 (by decide +kernel), by decide +kernel, gw_1 11 (by decide +kernel), by decide +kernel, by decide +kernel⟩
theorem mp_53 : mPar 53 1 := by unfold mPar; decide +kernel
theorem mi_53 : .instanceMethod (mN 53) ∈ gW := gw_5 85 (by decide +kernel)
theorem mv_53 : .selects (mN 53).cls (mN 53) (mN 53) ∈ gW := gw_p 48 (by decide +kernel)
theorem mc_53 : ∃ ci q, clsN 53 = some ci ∧ vwCl[ci]? = some q ∧ q.1 = (mN 53).cls := ⟨9, _, rfl, rfl, rfl⟩
theorem mo_54 : mOK 54 := ⟨gw_5 78 (by decide +kernel), by decide +kernel, gw_1 11 (by decide +kernel), by decide +kernel, by decide +kernel⟩
theorem mp_54 : mPar 54 3 := by unfold mPar; decide +kernel
theorem mi_54 : .instanceMethod (mN 54) ∈ gW := gw_5 77 (by decide +kernel)
theorem mv_54 : .selects (mN 54).cls (mN 54) (mN 54) ∈ gW := gw_p 46 (by decide +kernel)
theorem mc_54 : ∃ ci q, clsN 54 = some ci ∧ vwCl[ci]? = some q ∧ q.1 = (mN 54).cls := ⟨9, _, rfl, rfl, rfl⟩
theorem mo_55 : mOK 55 := ⟨gw_5 90 (by decide +kernel), by decide +kernel, gw_1 11 (by decide +kernel), by decide +kernel, by decide +kernel⟩
theorem mp_55 : mPar 55 3 := by unfold mPar; decide +kernel
theorem mi_55 : .instanceMethod (mN 55) ∈ gW := gw_5 89 (by decide +kernel)
theorem mv_55 : .selects (mN 55).cls (mN 55) (mN 55) ∈ gW := gw_p 49 (by decide +kernel)
theorem mc_55 : ∃ ci q, clsN 55 = some ci ∧ vwCl[ci]? = some q ∧ q.1 = (mN 55).cls := ⟨9, _, rfl, rfl, rfl⟩
theorem mo_56 : mOK 56 := ⟨gw_5 106 (by decide +kernel), by decide +kernel, gw_1 11 (by decide +kernel), by decide +kernel, by decide +kernel⟩
theorem mp_56 : mPar 56 3 := by unfold mPar; decide +kernel
theorem mi_56 : .instanceMethod (mN 56) ∈ gW := gw_5 105 (by decide +kernel)
theorem mv_56 : .selects (mN 56).cls (mN 56) (mN 56) ∈ gW := gw_p 53 (by decide +kernel)
theorem mc_56 : ∃ ci q, clsN 56 = some ci ∧ vwCl[ci]? = some q ∧ q.1 = (mN 56).cls := ⟨9, _, rfl, rfl, rfl⟩
theorem mo_57 : mOK 57 := ⟨gw_5 102 (by decide +kernel), by decide +kernel, gw_1 11 (by decide +kernel), by decide +kernel, by decide +kernel⟩
theorem mp_57 : mPar 57 4 := by unfold mPar; decide +kernel
theorem mi_57 : .instanceMethod (mN 57) ∈ gW := gw_5 101 (by decide +kernel)
theorem mv_57 : .selects (mN 57).cls (mN 57) (mN 57) ∈ gW := gw_p 52 (by decide +kernel)
theorem mc_57 : ∃ ci q, clsN 57 = some ci ∧ vwCl[ci]? = some q ∧ q.1 = (mN 57).cls := ⟨9, _, rfl, rfl, rfl⟩
theorem mo_58 : mOK 58 := ⟨gw_5 94 (by decide +kernel), by decide +kernel, gw_1 11 (by decide +kernel), by decide +kernel, by decide +kernel⟩
theorem mp_58 : mPar 58 2 := by unfold mPar; decide +kernel
theorem mi_58 : .instanceMethod (mN 58) ∈ gW := gw_5 93 (by decide +kernel)
theorem mv_58 : .selects (mN 58).cls (mN 58) (mN 58) ∈ gW := gw_p 50 (by decide +kernel)
theorem mc_58 : ∃ ci q, clsN 58 = some ci ∧ vwCl[ci]? = some q ∧ q.1 = (mN 58).cls := ⟨9, _, rfl, rfl, rfl⟩
theorem mo_59 : mOK 59 := ⟨gw_5 98 (by decide +kernel), by decide +kernel, gw_1 11 (by decide +kernel), by decide +kernel, by decide +kernel⟩
theorem mp_59 : mPar 59 3 := by unfold mPar; decide +kernel
theorem mi_59 : .instanceMethod (mN 59) ∈ gW := gw_5 97 (by decide +kernel)
theorem mv_59 : .selects (mN 59).cls (mN 59) (mN 59) ∈ gW := gw_p 51 (by decide +kernel)
theorem mc_59 : ∃ ci q, clsN 59 = some ci ∧ vwCl[ci]? = some q ∧ q.1 = (mN 59).cls := ⟨9, _, rfl, rfl, rfl⟩
theorem mo_60 : mOK 60 := ⟨gw_5 74 (by decide +kernel), by decide +kernel, gw_1 11 (by decide +kernel), by decide +kernel, by decide +kernel⟩
theorem mp_60 : mPar 60 4 := by unfold mPar; decide +kernel
theorem mi_60 : .instanceMethod (mN 60) ∈ gW := gw_5 73 (by decide +kernel)
theorem mv_60 : .selects (mN 60).cls (mN 60) (mN 60) ∈ gW := gw_p 45 (by decide +kernel)
theorem mc_60 : ∃ ci q, clsN 60 = some ci ∧ vwCl[ci]? = some q ∧ q.1 = (mN 60).cls := ⟨9, _, rfl, rfl, rfl⟩
theorem mo_61 : mOK 61 := ⟨gw_5 67 (by decide +kernel), by decide +kernel, gw_1 11 (by decide +kernel), by decide +kernel, by decide +kernel⟩
theorem mp_61 : mPar 61 2 := by unfold mPar; decide +kernel
theorem mi_61 : .instanceMethod (mN 61) ∈ gW := gw_5 66 (by decide +kernel)
theorem mv_61 : .selects (mN 61).cls (mN 61) (mN 61) ∈ gW := gw_p 44 (by decide +kernel)
theorem mc_61 : ∃ ci q, clsN 61 = some ci ∧ vwCl[ci]? = some q ∧ q.1 = (mN 61).cls := ⟨9, _, rfl, rfl, rfl⟩
theorem mo_62 : mOK 62 := ⟨gw_5 63 (by decide +kernel), by decide +kernel, gw_1 11 (by decide +kernel), by decide +kernel, by decide +kernel⟩
theorem mp_62 : mPar 62 1 := by unfold mPar; decide +kernel
theorem mi_62 : .instanceMethod (mN 62) ∈ gW := gw_5 62 (by decide +kernel)
theorem mv_62 : .selects (mN 62).cls (mN 62) (mN 62) ∈ gW := gw_p 43 (by decide +kernel)
theorem mc_62 : ∃ ci q, clsN 62 = some ci ∧ vwCl[ci]? = some q ∧ q.1 = (mN 62).cls := ⟨9, _, rfl, rfl, rfl⟩
theorem mo_63 : mOK 63 := ⟨gw_5 110 (by decide +kernel), by decide +kernel, gw_1 11 (by decide +kernel), by decide +kernel, by decide +kernel⟩
theorem mp_63 : mPar 63 2 := by unfold mPar; decide +kernel
theorem mi_63 : .instanceMethod (mN 63) ∈ gW := gw_5 109 (by decide +kernel)
theorem mv_63 : .selects (mN 63).cls (mN 63) (mN 63) ∈ gW := gw_p 54 (by decide +kernel)
theorem mc_63 : ∃ ci q, clsN 63 = some ci ∧ vwCl[ci]? = some q ∧ q.1 = (mN 63).cls := ⟨9, _, rfl, rfl, rfl⟩
theorem mo_64 : mOK 64 := ⟨gw_5 122 (by decide +kernel), by decide +kernel, gw_1 11 (by decide +kernel), by decide +kernel, by decide +kernel⟩
theorem mp_64 : mPar 64 0 := by unfold mPar; decide +kernel
theorem mi_64 : .instanceMethod (mN 64) ∈ gW := gw_5 121 (by decide +kernel)
theorem mv_64 : .selects (mN 64).cls (mN 64) (mN 64) ∈ gW := gw_p 57 (by decide +kernel)
theorem mc_64 : ∃ ci q, clsN 64 = some ci ∧ vwCl[ci]? = some q ∧ q.1 = (mN 64).cls := ⟨9, _, rfl, rfl, rfl⟩
theorem mo_65 : mOK 65 := ⟨gw_5 118 (by decide +kernel), by decide +kernel, gw_1 11 (by decide +kernel), by decide +kernel, by decide +kernel⟩
theorem mp_65 : mPar 65 1 := by unfold mPar; decide +kernel
theorem mi_65 : .instanceMethod (mN 65) ∈ gW := gw_5 117 (by decide +kernel)
theorem mv_65 : .selects (mN 65).cls (mN 65) (mN 65) ∈ gW := gw_p 56 (by decide +kernel)
theorem mc_65 : ∃ ci q, clsN 65 = some ci ∧ vwCl[ci]? = some q ∧ q.1 = (mN 65).cls := ⟨9, _, rfl, rfl, rfl⟩
theorem mo_66 : mOK 66 := ⟨gw_5 130 (by decide +kernel), by decide +kernel, gw_1 11 (by decide +kernel), by decide +kernel, by decide +kernel⟩
theorem mp_66 : mPar 66 1 := by unfold mPar; decide +kernel
theorem mi_66 : .instanceMethod (mN 66) ∈ gW := gw_5 129 (by decide +kernel)
theorem mv_66 : .selects (mN 66).cls (mN 66) (mN 66) ∈ gW := gw_p 59 (by decide +kernel)
theorem mc_66 : ∃ ci q, clsN 66 = some ci ∧ vwCl[ci]? = some q ∧ q.1 = (mN 66).cls := ⟨9, _, rfl, rfl, rfl⟩
theorem mo_67 : mOK 67 := ⟨gw_5 114 (by decide +kernel), by decide +kernel, gw_1 11 (by decide +kernel), by decide +kernel, by decide +kernel⟩
theorem mp_67 : mPar 67 1 := by unfold mPar; decide +kernel
theorem mi_67 : .instanceMethod (mN 67) ∈ gW := gw_5 113 (by decide +kernel)
theorem mv_67 : .selects (mN 67).cls (mN 67) (mN 67) ∈ gW := gw_p 55 (by decide +kernel)
theorem mc_67 : ∃ ci q, clsN 67 = some ci ∧ vwCl[ci]? = some q ∧ q.1 = (mN 67).cls := ⟨9, _, rfl, rfl, rfl⟩
theorem mo_68 : mOK 68 := ⟨gw_5 134 (by decide +kernel), by decide +kernel, gw_1 11 (by decide +kernel), by decide +kernel, by decide +kernel⟩
theorem mp_68 : mPar 68 2 := by unfold mPar; decide +kernel
theorem mi_68 : .instanceMethod (mN 68) ∈ gW := gw_5 133 (by decide +kernel)
theorem mv_68 : .selects (mN 68).cls (mN 68) (mN 68) ∈ gW := gw_p 60 (by decide +kernel)
theorem mc_68 : ∃ ci q, clsN 68 = some ci ∧ vwCl[ci]? = some q ∧ q.1 = (mN 68).cls := ⟨9, _, rfl, rfl, rfl⟩
theorem mo_69 : mOK 69 := ⟨gw_5 126 (by decide +kernel), by decide +kernel, gw_1 11 (by decide +kernel), by decide +kernel, by decide +kernel⟩
theorem mp_69 : mPar 69 1 := by unfold mPar; decide +kernel
theorem mi_69 : .instanceMethod (mN 69) ∈ gW := gw_5 125 (by decide +kernel)
theorem mv_69 : .selects (mN 69).cls (mN 69) (mN 69) ∈ gW := gw_p 58 (by decide +kernel)
theorem mc_69 : ∃ ci q, clsN 69 = some ci ∧ vwCl[ci]? = some q ∧ q.1 = (mN 69).cls := ⟨9, _, rfl, rfl, rfl⟩
theorem mo_70 : mOK 70 := ⟨gw_5 58 (by decide +kernel), by decide +kernel, gw_1 11 (by decide +kernel), by decide +kernel, by decide +kernel⟩
theorem mp_70 : mPar 70 4 := by unfold mPar; decide +kernel
theorem mi_70 : .instanceMethod (mN 70) ∈ gW := gw_5 57 (by decide +kernel)
theorem mv_70 : .selects (mN 70).cls (mN 70) (mN 70) ∈ gW := gw_p 42 (by decide +kernel)
theorem mc_70 : ∃ ci q, clsN 70 = some ci ∧ vwCl[ci]? = some q ∧ q.1 = (mN 70).cls := ⟨9, _, rfl, rfl, rfl⟩
theorem mo_71 : mOK 71 := ⟨gw_5 142 (by decide +kernel), by decide +kernel, gw_1 11 (by decide +kernel), by decide +kernel, by decide +kernel⟩
theorem mp_71 : mPar 71 4 := by unfold mPar; decide +kernel
theorem mi_71 : .instanceMethod (mN 71) ∈ gW := gw_5 141 (by decide +kernel)
theorem mv_71 : .selects (mN 71).cls (mN 71) (mN 71) ∈ gW := gw_p 62 (by decide +kernel)
theorem mc_71 : ∃ ci q, clsN 71 = some ci ∧ vwCl[ci]? = some q ∧ q.1 = (mN 71).cls := ⟨9, _, rfl, rfl, rfl⟩
theorem mo_72 : mOK 72 := ⟨gw_5 146 (by decide +kernel), by decide +kernel, gw_1 11 (by decide +kernel), by decide +kernel, by decide +kernel⟩
theorem mp_72 : mPar 72 2 := by unfold mPar; decide +kernel
theorem mi_72 : .instanceMethod (mN 72) ∈ gW := gw_5 145 (by decide +kernel)
theorem mv_72 : .selects (mN 72).cls (mN 72) (mN 72) ∈ gW := gw_p 63 (by decide +kernel)
theorem mc_72 : ∃ ci q, clsN 72 = some ci ∧ vwCl[ci]? = some q ∧ q.1 = (mN 72).cls := ⟨9, _, rfl, rfl, rfl⟩
theorem mo_73 : mOK 73 := ⟨gw_5 150 (by decide +kernel), by decide +kernel, gw_1 11 (by decide +kernel), by decide +kernel, by decide +kernel⟩
theorem mp_73 : mPar 73 4 := by unfold mPar; decide +kernel
theorem mi_73 : .instanceMethod (mN 73) ∈ gW := gw_5 149 (by decide +kernel)
theorem mv_73 : .selects (mN 73).cls (mN 73) (mN 73) ∈ gW := gw_p 64 (by decide +kernel)
theorem mc_73 : ∃ ci q, clsN 73 = some ci ∧ vwCl[ci]? = some q ∧ q.1 = (mN 73).cls := ⟨9, _, rfl, rfl, rfl⟩
theorem mo_74 : mOK 74 := ⟨gw_5 154 (by decide +kernel), by decide +kernel, gw_1 11 (by decide +kernel), by decide +kernel, by decide +kernel⟩
theorem mp_74 : mPar 74 5 := by unfold mPar; decide +kernel
theorem mi_74 : .instanceMethod (mN 74) ∈ gW := gw_5 153 (by decide +kernel)
theorem mv_74 : .selects (mN 74).cls (mN 74) (mN 74) ∈ gW := gw_p 65 (by decide +kernel)
theorem mc_74 : ∃ ci q, clsN 74 = some ci ∧ vwCl[ci]? = some q ∧ q.1 = (mN 74).cls := ⟨9, _, rfl, rfl, rfl⟩
theorem mo_75 : mOK 75 := ⟨gw_5 158 (by decide +kernel), by decide +kernel, gw_1 11 (by decide +kernel), by decide +kernel, by decide +kernel⟩
theorem mp_75 : mPar 75 6 := by unfold mPar; decide +kernel
theorem mi_75 : .instanceMethod (mN 75) ∈ gW := gw_5 157 (by decide +kernel)
theorem mv_75 : .selects (mN 75).cls (mN 75) (mN 75) ∈ gW := gw_p 66 (by decide +kernel)
theorem mc_75 : ∃ ci q, clsN 75 = some ci ∧ vwCl[ci]? = some q ∧ q.1 = (mN 75).cls := ⟨9, _, rfl, rfl, rfl⟩
theorem mo_76 : mOK 76 := ⟨gw_5 138 (by decide +kernel), by decide +kernel, gw_1 11 (by decide +kernel), by decide +kernel, by decide +kernel⟩
theorem mp_76 : mPar 76 3 := by unfold mPar; decide +kernel
theorem mi_76 : .instanceMethod (mN 76) ∈ gW := gw_5 137 (by decide +kernel)
theorem mv_76 : .selects (mN 76).cls (mN 76) (mN 76) ∈ gW := gw_p 61 (by decide +kernel)
theorem mc_76 : ∃ ci q, clsN 76 = some ci ∧ vwCl[ci]? = some q ∧ q.1 = (mN 76).cls := ⟨9, _, rfl, rfl, rfl⟩
theorem mo_77 : mOK 77 := ⟨gw_5 54 (by decide +kernel), by decide +kernel, gw_1 11 (by decide +kernel), by decide +kernel, by decide +kernel⟩
theorem mp_77 : mPar 77 0 := by unfold mPar; decide +kernel
theorem mi_77 : .instanceMethod (mN 77) ∈ gW := gw_5 53 (by decide +kernel)
theorem mv_77 : .selects (mN 77).cls (mN 77) (mN 77) ∈ gW := gw_p 41 (by decide +kernel)
theorem mc_77 : ∃ ci q, clsN 77 = some ci ∧ vwCl[ci]? = some q ∧ q.1 = (mN 77).cls := ⟨9, _, rfl, rfl, rfl⟩
theorem mo_78 : mOK 78 := ⟨gw_5 50 (by decide +kernel), by decide +kernel, gw_1 11 (by decide +kernel), by decide +kernel, by decide +kernel⟩
theorem mp_78 : mPar 78 0 := by unfold mPar; decide +kernel
theorem mi_78 : .instanceMethod (mN 78) ∈ gW := gw_5 48 (by decide +kernel)
theorem mv_78 : .selects (mN 78).cls (mN 78) (mN 78) ∈ gW := gw_5 49 (by decide +kernel)
theorem mc_78 : ∃ ci q, clsN 78 = some ci ∧ vwCl[ci]? = some q ∧ q.1 = (mN 78).cls := ⟨9, _, rfl, rfl, rfl⟩
theorem mo_79 : mOK 79 := ⟨gw_5 166 (by decide +kernel), by decide +kernel, gw_1 11 (by decide +kernel), by decide +kernel, by decide +kernel⟩
theorem mp_79 : mPar 79 1 := by unfold mPar; decide +kernel
theorem mi_79 : .instanceMethod (mN 79) ∈ gW := gw_5 165 (by decide +kernel)
theorem mv_79 : .selects (mN 79).cls (mN 79) (mN 79) ∈ gW := gw_p 67 (by decide +kernel)
theorem mc_79 : ∃ ci q, clsN 79 = some ci ∧ vwCl[ci]? = some q ∧ q.1 = (mN 79).cls := ⟨9, _, rfl, rfl, rfl⟩
theorem mo_80 : mOK 80 := ⟨gw_5 162 (by decide +kernel), by decide +kernel, gw_1 11 (by decide +kernel), by decide +kernel, by decide +kernel⟩
theorem mp_80 : mPar 80 2 := by unfold mPar; decide +kernel
theorem mi_80 : .instanceMethod (mN 80) ∈ gW := gw_5 160 (by decide +kernel)
theorem mv_80 : .selects (mN 80).cls (mN 80) (mN 80) ∈ gW := gw_5 161 (by decide +kernel)
theorem mc_80 : ∃ ci q, clsN 80 = some ci ∧ vwCl[ci]? = some q ∧ q.1 = (mN 80).cls := ⟨9, _, rfl, rfl, rfl⟩
theorem mo_81 : mOK 81 := ⟨gw_5 170 (by decide +kernel), by decide +kernel, gw_1 11 (by decide +kernel), by decide +kernel, by decide +kernel⟩
theorem mp_81 : mPar 81 2 := by unfold mPar; decide +kernel
theorem mi_81 : .instanceMethod (mN 81) ∈ gW := gw_5 168 (by decide +kernel)
theorem mv_81 : .selects (mN 81).cls (mN 81) (mN 81) ∈ gW := gw_5 169 (by decide +kernel)
theorem mc_81 : ∃ ci q, clsN 81 = some ci ∧ vwCl[ci]? = some q ∧ q.1 = (mN 81).cls := ⟨9, _, rfl, rfl, rfl⟩
theorem mo_82 : mOK 82 := ⟨gw_5 174 (by decide +kernel), by decide +kernel, gw_1 11 (by decide +kernel), by decide +kernel, by decide +kernel⟩
theorem mp_82 : mPar 82 2 := by unfold mPar; decide +kernel
theorem mi_82 : .instanceMethod (mN 82) ∈ gW := gw_5 172 (by decide +kernel)
theorem mv_82 : .selects (mN 82).cls (mN 82) (mN 82) ∈ gW := gw_5 173 (by decide +kernel)
theorem mc_82 : ∃ ci q, clsN 82 = some ci ∧ vwCl[ci]? = some q ∧ q.1 = (mN 82).cls := ⟨9, _, rfl, rfl, rfl⟩
theorem mo_83 : mOK 83 := ⟨gw_5 178 (by decide +kernel), by decide +kernel, gw_1 11 (by decide +kernel), by decide +kernel, by decide +kernel⟩
theorem mp_83 : mPar 83 1 := by unfold mPar; decide +kernel
theorem mi_83 : .instanceMethod (mN 83) ∈ gW := gw_5 176 (by decide +kernel)
theorem mv_83 : .selects (mN 83).cls (mN 83) (mN 83) ∈ gW := gw_5 177 (by decide +kernel)
theorem mc_83 : ∃ ci q, clsN 83 = some ci ∧ vwCl[ci]? = some q ∧ q.1 = (mN 83).cls := ⟨9, _, rfl, rfl, rfl⟩
theorem mo_84 : mOK 84 := ⟨gw_5 182 (by decide +kernel), by decide +kernel, gw_1 11 (by decide +kernel), by decide +kernel, by decide +kernel⟩
theorem mp_84 : mPar 84 1 := by unfold mPar; decide +kernel
theorem mi_84 : .instanceMethod (mN 84) ∈ gW := gw_5 180 (by decide +kernel)
theorem mv_84 : .selects (mN 84).cls (mN 84) (mN 84) ∈ gW := gw_5 181 (by decide +kernel)
theorem mc_84 : ∃ ci q, clsN 84 = some ci ∧ vwCl[ci]? = some q ∧ q.1 = (mN 84).cls := ⟨9, _, rfl, rfl, rfl⟩
theorem mo_85 : mOK 85 := ⟨gw_5 186 (by decide +kernel), by decide +kernel, gw_1 11 (by decide +kernel), by decide +kernel, by decide +kernel⟩
theorem mp_85 : mPar 85 1 := by unfold mPar; decide +kernel
theorem mi_85 : .instanceMethod (mN 85) ∈ gW := gw_5 184 (by decide +kernel)
theorem mv_85 : .selects (mN 85).cls (mN 85) (mN 85) ∈ gW := gw_5 185 (by decide +kernel)
theorem mc_85 : ∃ ci q, clsN 85 = some ci ∧ vwCl[ci]? = some q ∧ q.1 = (mN 85).cls := ⟨9, _, rfl, rfl, rfl⟩
theorem mo_86 : mOK 86 := ⟨gw_5 190 (by decide +kernel), by decide +kernel, gw_1 11 (by decide +kernel), by decide +kernel, by decide +kernel⟩
theorem mp_86 : mPar 86 1 := by unfold mPar; decide +kernel
theorem mi_86 : .instanceMethod (mN 86) ∈ gW := gw_5 188 (by decide +kernel)
theorem mv_86 : .selects (mN 86).cls (mN 86) (mN 86) ∈ gW := gw_5 189 (by decide +kernel)
theorem mc_86 : ∃ ci q, clsN 86 = some ci ∧ vwCl[ci]? = some q ∧ q.1 = (mN 86).cls := ⟨9, _, rfl, rfl, rfl⟩
theorem mo_87 : mOK 87 := ⟨gw_5 194 (by decide +kernel), by decide +kernel, gw_1 11 (by decide +kernel), by decide +kernel, by decide +kernel⟩
theorem mp_87 : mPar 87 0 := by unfold mPar; decide +kernel
theorem mi_87 : .instanceMethod (mN 87) ∈ gW := gw_5 192 (by decide +kernel)
theorem mv_87 : .selects (mN 87).cls (mN 87) (mN 87) ∈ gW := gw_5 193 (by decide +kernel)
theorem mc_87 : ∃ ci q, clsN 87 = some ci ∧ vwCl[ci]? = some q ∧ q.1 = (mN 87).cls := ⟨9, _, rfl, rfl, rfl⟩
theorem mo_88 : mOK 88 := ⟨gw_5 198 (by decide +kernel), by decide +kernel, gw_1 11 (by decide +kernel), by decide +kernel, by decide +kernel⟩
theorem mp_88 : mPar 88 1 := by unfold mPar; decide +kernel
theorem mi_88 : .instanceMethod (mN 88) ∈ gW := gw_5 196 (by decide +kernel)
theorem mv_88 : .selects (mN 88).cls (mN 88) (mN 88) ∈ gW := gw_5 197 (by decide +kernel)
theorem mc_88 : ∃ ci q, clsN 88 = some ci ∧ vwCl[ci]? = some q ∧ q.1 = (mN 88).cls := ⟨9, _, rfl, rfl, rfl⟩
theorem mo_89 : mOK 89 := ⟨gw_5 202 (by decide +kernel), by decide +kernel, gw_1 11 (by decide +kernel), by decide +kernel, by decide +kernel⟩
theorem mp_89 : mPar 89 0 := by unfold mPar; decide +kernel
theorem mi_89 : .instanceMethod (mN 89) ∈ gW := gw_5 200 (by decide +kernel)
theorem mv_89 : .selects (mN 89).cls (mN 89) (mN 89) ∈ gW := gw_5 201 (by decide +kernel)
theorem mc_89 : ∃ ci q, clsN 89 = some ci ∧ vwCl[ci]? = some q ∧ q.1 = (mN 89).cls := ⟨9, _, rfl, rfl, rfl⟩
theorem mo_90 : mOK 90 := ⟨gw_5 213 (by decide +kernel), by decide +kernel, gw_1 11 (by decide +kernel), by decide +kernel, by decide +kernel⟩
theorem mp_90 : mPar 90 1 := by unfold mPar; decide +kernel
theorem ms_90 : .static (mN 90) ∈ gW := gw_5 212 (by decide +kernel)
theorem mo_91 : mOK 91 := ⟨gw_5 217 (by decide +kernel), by decide +kernel, gw_1 11 (by decide +kernel), by decide +kernel, by decide +kernel⟩
theorem mp_91 : mPar 91 2 := by unfold mPar; decide +kernel
theorem mi_91 : .instanceMethod (mN 91) ∈ gW := gw_5 216 (by decide +kernel)
theorem mv_91 : .selects (mN 91).cls (mN 91) (mN 91) ∈ gW := gw_p 69 (by decide +kernel)
theorem mc_91 : ∃ ci q, clsN 91 = some ci ∧ vwCl[ci]? = some q ∧ q.1 = (mN 91).cls := ⟨9, _, rfl, rfl, rfl⟩
theorem mo_92 : mOK 92 := ⟨gw_5 210 (by decide +kernel), by decide +kernel, gw_1 11 (by decide +kernel), by decide +kernel, by decide +kernel⟩
theorem mp_92 : mPar 92 0 := by unfold mPar; decide +kernel
theorem mi_92 : .instanceMethod (mN 92) ∈ gW := gw_5 209 (by decide +kernel)
theorem mv_92 : .selects (mN 92).cls (mN 92) (mN 92) ∈ gW := gw_p 68 (by decide +kernel)
theorem mc_92 : ∃ ci q, clsN 92 = some ci ∧ vwCl[ci]? = some q ∧ q.1 = (mN 92).cls := ⟨9, _, rfl, rfl, rfl⟩
theorem mo_93 : mOK 93 := ⟨gw_5 206 (by decide +kernel), by decide +kernel, gw_1 11 (by decide +kernel), by decide +kernel, by decide +kernel⟩
theorem mp_93 : mPar 93 0 := by unfold mPar; decide +kernel
theorem mi_93 : .instanceMethod (mN 93) ∈ gW := gw_5 204 (by decide +kernel)
theorem mv_93 : .selects (mN 93).cls (mN 93) (mN 93) ∈ gW := gw_5 205 (by decide +kernel)
theorem mc_93 : ∃ ci q, clsN 93 = some ci ∧ vwCl[ci]? = some q ∧ q.1 = (mN 93).cls := ⟨9, _, rfl, rfl, rfl⟩
theorem mo_94 : mOK 94 := ⟨gw_5 221 (by decide +kernel), by decide +kernel, gw_1 11 (by decide +kernel), by decide +kernel, by decide +kernel⟩
theorem mp_94 : mPar 94 0 := by unfold mPar; decide +kernel
theorem mi_94 : .instanceMethod (mN 94) ∈ gW := gw_5 219 (by decide +kernel)
theorem mv_94 : .selects (mN 94).cls (mN 94) (mN 94) ∈ gW := gw_5 220 (by decide +kernel)
theorem mc_94 : ∃ ci q, clsN 94 = some ci ∧ vwCl[ci]? = some q ∧ q.1 = (mN 94).cls := ⟨9, _, rfl, rfl, rfl⟩
theorem mo_95 : mOK 95 := ⟨gw_5 229 (by decide +kernel), by decide +kernel, gw_1 11 (by decide +kernel), by decide +kernel, by decide +kernel⟩
theorem mp_95 : mPar 95 1 := by unfold mPar; decide +kernel
theorem mi_95 : .instanceMethod (mN 95) ∈ gW := gw_5 228 (by decide +kernel)
theorem mv_95 : .selects (mN 95).cls (mN 95) (mN 95) ∈ gW := gw_p 70 (by decide +kernel)
theorem mc_95 : ∃ ci q, clsN 95 = some ci ∧ vwCl[ci]? = some q ∧ q.1 = (mN 95).cls := ⟨9, _, rfl, rfl, rfl⟩
theorem mo_96 : mOK 96 := ⟨gw_5 225 (by decide +kernel), by decide +kernel, gw_1 11 (by decide +kernel), by decide +kernel, by decide +kernel⟩
theorem mp_96 : mPar 96 1 := by unfold mPar; decide +kernel
theorem mi_96 : .instanceMethod (mN 96) ∈ gW := gw_5 223 (by decide +kernel)
theorem mv_96 : .selects (mN 96).cls (mN 96) (mN 96) ∈ gW := gw_5 224 (by decide +kernel)
theorem mc_96 : ∃ ci q, clsN 96 = some ci ∧ vwCl[ci]? = some q ∧ q.1 = (mN 96).cls := ⟨9, _, rfl, rfl, rfl⟩
theorem mo_97 : mOK 97 := ⟨gw_5 233 (by decide +kernel), by decide +kernel, gw_1 11 (by decide +kernel), by decide +kernel, by decide +kernel⟩
theorem mp_97 : mPar 97 0 := by unfold mPar; decide +kernel
theorem mi_97 : .instanceMethod (mN 97) ∈ gW := gw_5 231 (by decide +kernel)
theorem mv_97 : .selects (mN 97).cls (mN 97) (mN 97) ∈ gW := gw_5 232 (by decide +kernel)
theorem mc_97 : ∃ ci q, clsN 97 = some ci ∧ vwCl[ci]? = some q ∧ q.1 = (mN 97).cls := ⟨9, _, rfl, rfl, rfl⟩
theorem mo_98 : mOK 98 := ⟨gw_1 57 (by decide +kernel), by decide +kernel, gw_1 4 (by decide +kernel), by decide +kernel, by decide +kernel⟩
theorem mp_98 : mPar 98 0 := by unfold mPar; decide +kernel
theorem mi_98 : .instanceMethod (mN 98) ∈ gW := gw_1 56 (by decide +kernel)
theorem mo_99 : mOK 99 := ⟨gw_2 125 (by decide +kernel), by decide +kernel, gw_1 4 (by decide +kernel), by decide +kernel, by decide +kernel⟩
theorem mp_99 : mPar 99 1 := by unfold mPar; decide +kernel
theorem mi_99 : .instanceMethod (mN 99) ∈ gW := gw_2 123 (by decide +kernel)
theorem mv_99 : .selects (mN 99).cls (mN 99) (mN 99) ∈ gW := gw_2 124 (by decide +kernel)
theorem mc_99 : ∃ ci q, clsN 99 = some ci ∧ vwCl[ci]? = some q ∧ q.1 = (mN 99).cls := ⟨0, _, rfl, rfl, rfl⟩
theorem mo_100 : mOK 100 := ⟨gw_4 64 (by decide +kernel), by decide +kernel, gw_1 4 (by decide +kernel), by decide +kernel, by decide +kernel⟩
theorem mp_100 : mPar 100 1 := by unfold mPar; decide +kernel
theorem mi_100 : .instanceMethod (mN 100) ∈ gW := gw_4 62 (by decide +kernel)
theorem mv_100 : .selects (mN 100).cls (mN 100) (mN 100) ∈ gW := gw_4 63 (by decide +kernel)
theorem mc_100 : ∃ ci q, clsN 100 = some ci ∧ vwCl[ci]? = some q ∧ q.1 = (mN 100).cls := ⟨0, _, rfl, rfl, rfl⟩
theorem mo_101 : mOK 101 := ⟨gw_1 29 (by decide +kernel), by decide +kernel, gw_1 2 (by decide +kernel), by decide +kernel, by decide +kernel⟩
theorem mp_101 : mPar 101 0 := by unfold mPar; decide +kernel
theorem mi_101 : .instanceMethod (mN 101) ∈ gW := gw_1 28 (by decide +kernel)
theorem mo_102 : mOK 102 := ⟨gw_2 136 (by decide +kernel), by decide +kernel, gw_1 2 (by decide +kernel), by decide +kernel, by decide +kernel⟩
theorem mp_102 : mPar 102 1 := by unfold mPar; decide +kernel
theorem mi_102 : .instanceMethod (mN 102) ∈ gW := gw_2 134 (by decide +kernel)
theorem mv_102 : .selects (mN 102).cls (mN 102) (mN 102) ∈ gW := gw_2 135 (by decide +kernel)
theorem mc_102 : ∃ ci q, clsN 102 = some ci ∧ vwCl[ci]? = some q ∧ q.1 = (mN 102).cls := ⟨1, _, rfl, rfl, rfl⟩
theorem mo_103 : mOK 103 := ⟨gw_2 148 (by decide +kernel), by decide +kernel, gw_1 2 (by decide +kernel), by decide +kernel, by decide +kernel⟩
theorem mp_103 : mPar 103 1 := by unfold mPar; decide +kernel
theorem mi_103 : .instanceMethod (mN 103) ∈ gW := gw_2 146 (by decide +kernel)
theorem mv_103 : .selects (mN 103).cls (mN 103) (mN 103) ∈ gW := gw_2 147 (by decide +kernel)
theorem mc_103 : ∃ ci q, clsN 103 = some ci ∧ vwCl[ci]? = some q ∧ q.1 = (mN 103).cls := ⟨1, _, rfl, rfl, rfl⟩
theorem mo_104 : mOK 104 := ⟨gw_2 164 (by decide +kernel), by decide +kernel, gw_1 2 (by decide +kernel), by decide +kernel, by decide +kernel⟩
theorem mp_104 : mPar 104 2 := by unfold mPar; decide +kernel
theorem mi_104 : .instanceMethod (mN 104) ∈ gW := gw_2 162 (by decide +kernel)
theorem mv_104 : .selects (mN 104).cls (mN 104) (mN 104) ∈ gW := gw_2 163 (by decide +kernel)
theorem mc_104 : ∃ ci q, clsN 104 = some ci ∧ vwCl[ci]? = some q ∧ q.1 = (mN 104).cls := ⟨1, _, rfl, rfl, rfl⟩
theorem mo_105 : mOK 105 := ⟨gw_2 177 (by decide +kernel), by decide +kernel, gw_1 2 (by decide +kernel), by decide +kernel, by decide +kernel⟩
theorem mp_105 : mPar 105 1 := by unfold mPar; decide +kernel
theorem mi_105 : .instanceMethod (mN 105) ∈ gW := gw_2 175 (by decide +kernel)
theorem mv_105 : .selects (mN 105).cls (mN 105) (mN 105) ∈ gW := gw_2 176 (by decide +kernel)
theorem mc_105 : ∃ ci q, clsN 105 = some ci ∧ vwCl[ci]? = some q ∧ q.1 = (mN 105).cls := ⟨1, _, rfl, rfl, rfl⟩
theorem mo_106 : mOK 106 := ⟨gw_4 56 (by decide +kernel), by decide +kernel, gw_1 2 (by decide +kernel), by decide +kernel, by decide +kernel⟩
theorem mp_106 : mPar 106 1 := by unfold mPar; decide +kernel
theorem mi_106 : .instanceMethod (mN 106) ∈ gW := gw_4 54 (by decide +kernel)
theorem mv_106 : .selects (mN 106).cls (mN 106) (mN 106) ∈ gW := gw_4 55 (by decide +kernel)
theorem mc_106 : ∃ ci q, clsN 106 = some ci ∧ vwCl[ci]? = some q ∧ q.1 = (mN 106).cls := ⟨1, _, rfl, rfl, rfl⟩
theorem mo_107 : mOK 107 := ⟨gw_2 129 (by decide +kernel), by decide +kernel, gw_1 2 (by decide +kernel), by decide +kernel, by decide +kernel⟩
theorem mp_107 : mPar 107 2 := by unfold mPar; decide +kernel
theorem mi_107 : .instanceMethod (mN 107) ∈ gW := gw_2 127 (by decide +kernel)
theorem mv_107 : .selects (mN 107).cls (mN 107) (mN 107) ∈ gW := gw_2 128 (by decide +kernel)
theorem mc_107 : ∃ ci q, clsN 107 = some ci ∧ vwCl[ci]? = some q ∧ q.1 = (mN 107).cls := ⟨1, _, rfl, rfl, rfl⟩
theorem mo_108 : mOK 108 := ⟨gw_4 68 (by decide +kernel), by decide +kernel, gw_1 2 (by decide +kernel), by decide +kernel, by decide +kernel⟩
theorem mp_108 : mPar 108 2 := by unfold mPar; decide +kernel
theorem mi_108 : .instanceMethod (mN 108) ∈ gW := gw_4 66 (by decide +kernel)
theorem mv_108 : .selects (mN 108).cls (mN 108) (mN 108) ∈ gW := gw_4 67 (by decide +kernel)
theorem mc_108 : ∃ ci q, clsN 108 = some ci ∧ vwCl[ci]? = some q ∧ q.1 = (mN 108).cls := ⟨1, _, rfl, rfl, rfl⟩
theorem mo_109 : mOK 109 := ⟨gw_1 119 (by decide +kernel), by decide +kernel, gw_1 6 (by decide +kernel), by decide +kernel, by decide +kernel⟩
theorem mp_109 : mPar 109 0 := by unfold mPar; decide +kernel
theorem mi_109 : .instanceMethod (mN 109) ∈ gW := gw_1 118 (by decide +kernel)
theorem mo_110 : mOK 110 := ⟨gw_2 223 (by decide +kernel), by decide +kernel, gw_1 6 (by decide +kernel), by decide +kernel, by decide +kernel⟩
theorem mp_110 : mPar 110 0 := by unfold mPar; decide +kernel
theorem mi_110 : .instanceMethod (mN 110) ∈ gW := gw_2 221 (by decide +kernel)
theorem mv_110 : .selects (mN 110).cls (mN 110) (mN 110) ∈ gW := gw_2 222 (by decide +kernel)
theorem mc_110 : ∃ ci q, clsN 110 = some ci ∧ vwCl[ci]? = some q ∧ q.1 = (mN 110).cls := ⟨2, _, rfl, rfl, rfl⟩
theorem mo_111 : mOK 111 := ⟨gw_3 70 (by decide +kernel), by decide +kernel, gw_1 6 (by decide +kernel), by decide +kernel, by decide +kernel⟩
theorem mp_111 : mPar 111 1 := by unfold mPar; decide +kernel
theorem mi_111 : .instanceMethod (mN 111) ∈ gW := gw_3 68 (by decide +kernel)
theorem mv_111 : .selects (mN 111).cls (mN 111) (mN 111) ∈ gW := gw_3 69 (by decide +kernel)
theorem mc_111 : ∃ ci q, clsN 111 = some ci ∧ vwCl[ci]? = some q ∧ q.1 = (mN 111).cls := ⟨2, _, rfl, rfl, rfl⟩
theorem mo_112 : mOK 112 := ⟨gw_2 227 (by decide +kernel), by decide +kernel, gw_1 6 (by decide +kernel), by decide +kernel, by decide +kernel⟩
theorem mp_112 : mPar 112 0 := by unfold mPar; decide +kernel
theorem mi_112 : .instanceMethod (mN 112) ∈ gW := gw_2 226 (by decide +kernel)
theorem mv_112 : .selects (mN 112).cls (mN 112) (mN 112) ∈ gW := gw_p 8 (by decide +kernel)
theorem mc_112 : ∃ ci q, clsN 112 = some ci ∧ vwCl[ci]? = some q ∧ q.1 = (mN 112).cls := ⟨2, _, rfl, rfl, rfl⟩
theorem mo_113 : mOK 113 := ⟨gw_2 235 (by decide +kernel), by decide +kernel, gw_1 6 (by decide +kernel), by decide +kernel, by decide +kernel⟩
theorem mp_113 : mPar 113 2 := by unfold mPar; decide +kernel
theorem mi_113 : .instanceMethod (mN 113) ∈ gW := gw_2 234 (by decide +kernel)
theorem mv_113 : .selects (mN 113).cls (mN 113) (mN 113) ∈ gW := gw_p 10 (by decide +kernel)
theorem mc_113 : ∃ ci q, clsN 113 = some ci ∧ vwCl[ci]? = some q ∧ q.1 = (mN 113).cls := ⟨2, _, rfl, rfl, rfl⟩
theorem mo_114 : mOK 114 := ⟨gw_2 239 (by decide +kernel), by decide +kernel, gw_1 6 (by decide +kernel), by decide +kernel, by decide +kernel⟩
theorem mp_114 : mPar 114 1 := by unfold mPar; decide +kernel
theorem mi_114 : .instanceMethod (mN 114) ∈ gW := gw_2 238 (by decide +kernel)
theorem mv_114 : .selects (mN 114).cls (mN 114) (mN 114) ∈ gW := gw_p 11 (by decide +kernel)
theorem mc_114 : ∃ ci q, clsN 114 = some ci ∧ vwCl[ci]? = some q ∧ q.1 = (mN 114).cls := ⟨2, _, rfl, rfl, rfl⟩
theorem mo_115 : mOK 115 := ⟨gw_3 43 (by decide +kernel), by decide +kernel, gw_1 6 (by decide +kernel), by decide +kernel, by decide +kernel⟩
theorem mp_115 : mPar 115 3 := by unfold mPar; decide +kernel
theorem mi_115 : .instanceMethod (mN 115) ∈ gW := gw_3 42 (by decide +kernel)
theorem mv_115 : .selects (mN 115).cls (mN 115) (mN 115) ∈ gW := gw_p 17 (by decide +kernel)
theorem mc_115 : ∃ ci q, clsN 115 = some ci ∧ vwCl[ci]? = some q ∧ q.1 = (mN 115).cls := ⟨2, _, rfl, rfl, rfl⟩
theorem mo_116 : mOK 116 := ⟨gw_2 231 (by decide +kernel), by decide +kernel, gw_1 6 (by decide +kernel), by decide +kernel, by decide +kernel⟩
theorem mp_116 : mPar 116 3 := by unfold mPar; decide +kernel
theorem mi_116 : .instanceMethod (mN 116) ∈ gW := gw_2 230 (by decide +kernel)
theorem mv_116 : .selects (mN 116).cls (mN 116) (mN 116) ∈ gW := gw_p 9 (by decide +kernel)
theorem mc_116 : ∃ ci q, clsN 116 = some ci ∧ vwCl[ci]? = some q ∧ q.1 = (mN 116).cls := ⟨2, _, rfl, rfl, rfl⟩
theorem mo_117 : mOK 117 := ⟨gw_3 56 (by decide +kernel), by decide +kernel, gw_1 6 (by decide +kernel), by decide +kernel, by decide +kernel⟩
theorem mp_117 : mPar 117 3 := by unfold mPar; decide +kernel
theorem ms_117 : .static (mN 117) ∈ gW := gw_3 55 (by decide +kernel)
theorem mo_118 : mOK 118 := ⟨gw_3 47 (by decide +kernel), by decide +kernel, gw_1 6 (by decide +kernel), by decide +kernel, by decide +kernel⟩
theorem mp_118 : mPar 118 4 := by unfold mPar; decide +kernel
theorem mi_118 : .instanceMethod (mN 118) ∈ gW := gw_3 46 (by decide +kernel)
theorem mv_118 : .selects (mN 118).cls (mN 118) (mN 118) ∈ gW := gw_p 18 (by decide +kernel)
theorem mc_118 : ∃ ci q, clsN 118 = some ci ∧ vwCl[ci]? = some q ∧ q.1 = (mN 118).cls := ⟨2, _, rfl, rfl, rfl⟩
theorem mo_119 : mOK 119 := ⟨gw_3 52 (by decide +kernel), by decide +kernel, gw_1 6 (by decide +kernel), by decide +kernel, by decide +kernel⟩
theorem mp_119 : mPar 119 5 := by unfold mPar; decide +kernel
theorem mi_119 : .instanceMethod (mN 119) ∈ gW := gw_3 51 (by decide +kernel)
theorem mv_119 : .selects (mN 119).cls (mN 119) (mN 119) ∈ gW := gw_p 19 (by decide +kernel)
theorem mc_119 : ∃ ci q, clsN 119 = some ci ∧ vwCl[ci]? = some q ∧ q.1 = (mN 119).cls := ⟨2, _, rfl, rfl, rfl⟩
theorem mo_120 : mOK 120 := ⟨gw_3 74 (by decide +kernel), by decide +kernel, gw_1 6 (by decide +kernel), by decide +kernel, by decide +kernel⟩
theorem mp_120 : mPar 120 4 := by unfold mPar; decide +kernel
theorem mi_120 : .instanceMethod (mN 120) ∈ gW := gw_3 73 (by decide +kernel)
theorem mv_120 : .selects (mN 120).cls (mN 120) (mN 120) ∈ gW := gw_p 20 (by decide +kernel)
theorem mc_120 : ∃ ci q, clsN 120 = some ci ∧ vwCl[ci]? = some q ∧ q.1 = (mN 120).cls := ⟨2, _, rfl, rfl, rfl⟩
theorem mo_121 : mOK 121 := ⟨gw_3 78 (by decide +kernel), by decide +kernel, gw_1 6 (by decide +kernel), by decide +kernel, by decide +kernel⟩
theorem mp_121 : mPar 121 4 := by unfold mPar; decide +kernel
theorem mi_121 : .instanceMethod (mN 121) ∈ gW := gw_3 77 (by decide +kernel)
theorem mv_121 : .selects (mN 121).cls (mN 121) (mN 121) ∈ gW := gw_p 21 (by decide +kernel)
theorem mc_121 : ∃ ci q, clsN 121 = some ci ∧ vwCl[ci]? = some q ∧ q.1 = (mN 121).cls := ⟨2, _, rfl, rfl, rfl⟩
theorem mo_122 : mOK 122 := ⟨gw_3 90 (by decide +kernel), by decide +kernel, gw_1 6 (by decide +kernel), by decide +kernel, by decide +kernel⟩
theorem mp_122 : mPar 122 5 := by unfold mPar; decide +kernel
theorem mi_122 : .instanceMethod (mN 122) ∈ gW := gw_3 89 (by decide +kernel)
theorem mv_122 : .selects (mN 122).cls (mN 122) (mN 122) ∈ gW := gw_p 22 (by decide +kernel)
theorem mc_122 : ∃ ci q, clsN 122 = some ci ∧ vwCl[ci]? = some q ∧ q.1 = (mN 122).cls := ⟨2, _, rfl, rfl, rfl⟩
theorem mo_123 : mOK 123 := ⟨gw_1 74 (by decide +kernel), by decide +kernel, gw_1 5 (by decide +kernel), by decide +kernel, by decide +kernel⟩
theorem mp_123 : mPar 123 0 := by unfold mPar; decide +kernel
theorem mi_123 : .instanceMethod (mN 123) ∈ gW := gw_1 73 (by decide +kernel)
theorem mo_124 : mOK 124 := ⟨gw_4 4 (by decide +kernel), by decide +kernel, gw_1 5 (by decide +kernel), by decide +kernel, by decide +kernel⟩
theorem mp_124 : mPar 124 1 := by unfold mPar; decide +kernel
theorem mi_124 : .instanceMethod (mN 124) ∈ gW := gw_4 2 (by decide +kernel)
theorem mv_124 : .selects (mN 124).cls (mN 124) (mN 124) ∈ gW := gw_4 3 (by decide +kernel)
theorem mc_124 : ∃ ci q, clsN 124 = some ci ∧ vwCl[ci]? = some q ∧ q.1 = (mN 124).cls := ⟨3, _, rfl, rfl, rfl⟩
theorem mo_125 : mOK 125 := ⟨gw_4 16 (by decide +kernel), by decide +kernel, gw_1 5 (by decide +kernel), by decide +kernel, by decide +kernel⟩
theorem mp_125 : mPar 125 0 := by unfold mPar; decide +kernel
theorem mi_125 : .instanceMethod (mN 125) ∈ gW := gw_4 14 (by decide +kernel)
theorem mv_125 : .selects (mN 125).cls (mN 125) (mN 125) ∈ gW := gw_4 15 (by decide +kernel)
theorem mc_125 : ∃ ci q, clsN 125 = some ci ∧ vwCl[ci]? = some q ∧ q.1 = (mN 125).cls := ⟨3, _, rfl, rfl, rfl⟩
theorem mo_126 : mOK 126 := ⟨gw_4 20 (by decide +kernel), by decide +kernel, gw_1 5 (by decide +kernel), by decide +kernel, by decide +kernel⟩
theorem mp_126 : mPar 126 1 := by unfold mPar; decide +kernel
theorem mi_126 : .instanceMethod (mN 126) ∈ gW := gw_4 19 (by decide +kernel)
theorem mv_126 : .selects (mN 126).cls (mN 126) (mN 126) ∈ gW := gw_p 28 (by decide +kernel)
theorem mc_126 : ∃ ci q, clsN 126 = some ci ∧ vwCl[ci]? = some q ∧ q.1 = (mN 126).cls := ⟨3, _, rfl, rfl, rfl⟩
theorem mo_127 : mOK 127 := ⟨gw_4 27 (by decide +kernel), by decide +kernel, gw_1 5 (by decide +kernel), by decide +kernel, by decide +kernel⟩
theorem mp_127 : mPar 127 1 := by unfold mPar; decide +kernel
theorem mi_127 : .instanceMethod (mN 127) ∈ gW := gw_4 26 (by decide +kernel)
theorem mv_127 : .selects (mN 127).cls (mN 127) (mN 127) ∈ gW := gw_p 29 (by decide +kernel)
theorem mc_127 : ∃ ci q, clsN 127 = some ci ∧ vwCl[ci]? = some q ∧ q.1 = (mN 127).cls := ⟨3, _, rfl, rfl, rfl⟩
theorem mo_128 : mOK 128 := ⟨gw_4 37 (by decide +kernel), by decide +kernel, gw_1 5 (by decide +kernel), by decide +kernel, by decide +kernel⟩
theorem mp_128 : mPar 128 1 := by unfold mPar; decide +kernel
theorem mi_128 : .instanceMethod (mN 128) ∈ gW := gw_4 36 (by decide +kernel)
theorem mv_128 : .selects (mN 128).cls (mN 128) (mN 128) ∈ gW := gw_p 31 (by decide +kernel)
theorem mc_128 : ∃ ci q, clsN 128 = some ci ∧ vwCl[ci]? = some q ∧ q.1 = (mN 128).cls := ⟨3, _, rfl, rfl, rfl⟩
theorem mo_129 : mOK 129 := ⟨gw_4 46 (by decide +kernel), by decide +kernel, gw_1 5 (by decide +kernel), by decide +kernel, by decide +kernel⟩
theorem mp_129 : mPar 129 1 := by unfold mPar; decide +kernel
theorem mi_129 : .instanceMethod (mN 129) ∈ gW := gw_4 45 (by decide +kernel)
theorem mv_129 : .selects (mN 129).cls (mN 129) (mN 129) ∈ gW := gw_p 33 (by decide +kernel)
theorem mc_129 : ∃ ci q, clsN 129 = some ci ∧ vwCl[ci]? = some q ∧ q.1 = (mN 129).cls := ⟨3, _, rfl, rfl, rfl⟩
theorem mo_130 : mOK 130 := ⟨gw_4 33 (by decide +kernel), by decide +kernel, gw_1 5 (by decide +kernel), by decide +kernel, by decide +kernel⟩
theorem mp_130 : mPar 130 0 := by unfold mPar; decide +kernel
theorem mi_130 : .instanceMethod (mN 130) ∈ gW := gw_4 32 (by decide +kernel)
theorem mv_130 : .selects (mN 130).cls (mN 130) (mN 130) ∈ gW := gw_p 30 (by decide +kernel)
theorem mc_130 : ∃ ci q, clsN 130 = some ci ∧ vwCl[ci]? = some q ∧ q.1 = (mN 130).cls := ⟨3, _, rfl, rfl, rfl⟩
theorem mo_131 : mOK 131 := ⟨gw_4 41 (by decide +kernel), by decide +kernel, gw_1 5 (by decide +kernel), by decide +kernel, by decide +kernel⟩
theorem mp_131 : mPar 131 0 := by unfold mPar; decide +kernel
theorem mi_131 : .instanceMethod (mN 131) ∈ gW := gw_4 40 (by decide +kernel)
theorem mv_131 : .selects (mN 131).cls (mN 131) (mN 131) ∈ gW := gw_p 32 (by decide +kernel)
theorem mc_131 : ∃ ci q, clsN 131 = some ci ∧ vwCl[ci]? = some q ∧ q.1 = (mN 131).cls := ⟨3, _, rfl, rfl, rfl⟩
theorem mo_132 : mOK 132 := ⟨gw_4 51 (by decide +kernel), by decide +kernel, gw_1 5 (by decide +kernel), by decide +kernel, by decide +kernel⟩
theorem mp_132 : mPar 132 0 := by unfold mPar; decide +kernel
theorem mi_132 : .instanceMethod (mN 132) ∈ gW := gw_4 50 (by decide +kernel)
theorem mv_132 : .selects (mN 132).cls (mN 132) (mN 132) ∈ gW := gw_p 34 (by decide +kernel)
theorem mc_132 : ∃ ci q, clsN 132 = some ci ∧ vwCl[ci]? = some q ∧ q.1 = (mN 132).cls := ⟨3, _, rfl, rfl, rfl⟩
theorem mo_133 : mOK 133 := ⟨gw_1 192 (by decide +kernel), by decide +kernel, gw_1 9 (by decide +kernel), by decide +kernel, by decide +kernel⟩
theorem mp_133 : mPar 133 0 := by unfold mPar; decide +kernel
theorem mi_133 : .instanceMethod (mN 133) ∈ gW := gw_1 191 (by decide +kernel)
theorem mo_134 : mOK 134 := ⟨gw_1 205 (by decide +kernel), by decide +kernel, gw_1 9 (by decide +kernel), by decide +kernel, by decide +kernel⟩
theorem mp_134 : mPar 134 3 := by unfold mPar; decide +kernel
theorem mi_134 : .instanceMethod (mN 134) ∈ gW := gw_1 204 (by decide +kernel)
theorem mv_134 : .selects (mN 134).cls (mN 134) (mN 134) ∈ gW := gw_p 2 (by decide +kernel)
theorem mc_134 : ∃ ci q, clsN 134 = some ci ∧ vwCl[ci]? = some q ∧ q.1 = (mN 134).cls := ⟨4, _, rfl, rfl, rfl⟩
theorem mo_135 : mOK 135 := ⟨gw_1 201 (by decide +kernel), by decide +kernel, gw_1 9 (by decide +kernel), by decide +kernel, by decide +kernel⟩
theorem mp_135 : mPar 135 1 := by unfold mPar; decide +kernel
theorem mi_135 : .instanceMethod (mN 135) ∈ gW := gw_1 200 (by decide +kernel)
theorem mv_135 : .selects (mN 135).cls (mN 135) (mN 135) ∈ gW := gw_p 1 (by decide +kernel)
theorem mc_135 : ∃ ci q, clsN 135 = some ci ∧ vwCl[ci]? = some q ∧ q.1 = (mN 135).cls := ⟨4, _, rfl, rfl, rfl⟩
theorem mo_136 : mOK 136 := ⟨gw_1 197 (by decide +kernel), by decide +kernel, gw_1 9 (by decide +kernel), by decide +kernel, by decide +kernel⟩
theorem mp_136 : mPar 136 3 := by unfold mPar; decide +kernel
theorem mi_136 : .instanceMethod (mN 136) ∈ gW := gw_1 196 (by decide +kernel)
theorem mv_136 : .selects (mN 136).cls (mN 136) (mN 136) ∈ gW := gw_p 0 (by decide +kernel)
theorem mc_136 : ∃ ci q, clsN 136 = some ci ∧ vwCl[ci]? = some q ∧ q.1 = (mN 136).cls := ⟨4, _, rfl, rfl, rfl⟩
theorem mo_137 : mOK 137 := ⟨gw_1 125 (by decide +kernel), by decide +kernel, gw_1 7 (by decide +kernel), by decide +kernel, by decide +kernel⟩
theorem mp_137 : mPar 137 0 := by unfold mPar; decide +kernel
theorem mi_137 : .instanceMethod (mN 137) ∈ gW := gw_1 124 (by decide +kernel)
theorem mo_138 : mOK 138 := ⟨gw_3 3 (by decide +kernel), by decide +kernel, gw_1 7 (by decide +kernel), by decide +kernel, by decide +kernel⟩
theorem mp_138 : mPar 138 2 := by unfold mPar; decide +kernel
theorem mi_138 : .instanceMethod (mN 138) ∈ gW := gw_3 1 (by decide +kernel)
theorem mv_138 : .selects (mN 138).cls (mN 138) (mN 138) ∈ gW := gw_3 2 (by decide +kernel)
theorem mc_138 : ∃ ci q, clsN 138 = some ci ∧ vwCl[ci]? = some q ∧ q.1 = (mN 138).cls := ⟨5, _, rfl, rfl, rfl⟩
theorem mo_139 : mOK 139 := ⟨gw_3 61 (by decide +kernel), by decide +kernel, gw_1 7 (by decide +kernel), by decide +kernel, by decide +kernel⟩
theorem mp_139 : mPar 139 0 := by unfold mPar; decide +kernel
theorem mi_139 : .instanceMethod (mN 139) ∈ gW := gw_3 59 (by decide +kernel)
theorem mv_139 : .selects (mN 139).cls (mN 139) (mN 139) ∈ gW := gw_3 60 (by decide +kernel)
theorem mc_139 : ∃ ci q, clsN 139 = some ci ∧ vwCl[ci]? = some q ∧ q.1 = (mN 139).cls := ⟨5, _, rfl, rfl, rfl⟩
theorem mo_140 : mOK 140 := ⟨gw_3 35 (by decide +kernel), by decide +kernel, gw_1 7 (by decide +kernel), by decide +kernel, by decide +kernel⟩
theorem mp_140 : mPar 140 3 := by unfold mPar; decide +kernel
theorem mi_140 : .instanceMethod (mN 140) ∈ gW := gw_3 33 (by decide +kernel)
theorem mv_140 : .selects (mN 140).cls (mN 140) (mN 140) ∈ gW := gw_3 34 (by decide +kernel)
theorem mc_140 : ∃ ci q, clsN 140 = some ci ∧ vwCl[ci]? = some q ∧ q.1 = (mN 140).cls := ⟨5, _, rfl, rfl, rfl⟩
theorem mo_141 : mOK 141 := ⟨gw_3 98 (by decide +kernel), by decide +kernel, gw_1 7 (by decide +kernel), by decide +kernel, by decide +kernel⟩
theorem mp_141 : mPar 141 1 := by unfold mPar; decide +kernel
theorem mi_141 : .instanceMethod (mN 141) ∈ gW := gw_3 96 (by decide +kernel)
theorem mv_141 : .selects (mN 141).cls (mN 141) (mN 141) ∈ gW := gw_3 97 (by decide +kernel)
theorem mc_141 : ∃ ci q, clsN 141 = some ci ∧ vwCl[ci]? = some q ∧ q.1 = (mN 141).cls := ⟨5, _, rfl, rfl, rfl⟩
theorem mo_142 : mOK 142 := ⟨gw_3 110 (by decide +kernel), by decide +kernel, gw_1 7 (by decide +kernel), by decide +kernel, by decide +kernel⟩
theorem mp_142 : mPar 142 1 := by unfold mPar; decide +kernel
theorem mi_142 : .instanceMethod (mN 142) ∈ gW := gw_3 108 (by decide +kernel)
theorem mv_142 : .selects (mN 142).cls (mN 142) (mN 142) ∈ gW := gw_3 109 (by decide +kernel)
theorem mc_142 : ∃ ci q, clsN 142 = some ci ∧ vwCl[ci]? = some q ∧ q.1 = (mN 142).cls := ⟨5, _, rfl, rfl, rfl⟩
theorem mo_143 : mOK 143 := ⟨gw_3 27 (by decide +kernel), by decide +kernel, gw_1 7 (by decide +kernel), by decide +kernel, by decide +kernel⟩
theorem mp_143 : mPar 143 2 := by unfold mPar; decide +kernel
theorem mi_143 : .instanceMethod (mN 143) ∈ gW := gw_3 25 (by decide +kernel)
theorem mv_143 : .selects (mN 143).cls (mN 143) (mN 143) ∈ gW := gw_3 26 (by decide +kernel)
theorem mc_143 : ∃ ci q, clsN 143 = some ci ∧ vwCl[ci]? = some q ∧ q.1 = (mN 143).cls := ⟨5, _, rfl, rfl, rfl⟩
theorem mo_144 : mOK 144 := ⟨gw_3 23 (by decide +kernel), by decide +kernel, gw_1 7 (by decide +kernel), by decide +kernel, by decide +kernel⟩
theorem mp_144 : mPar 144 1 := by unfold mPar; decide +kernel
theorem mi_144 : .instanceMethod (mN 144) ∈ gW := gw_3 22 (by decide +kernel)
theorem mv_144 : .selects (mN 144).cls (mN 144) (mN 144) ∈ gW := gw_p 14 (by decide +kernel)
theorem mc_144 : ∃ ci q, clsN 144 = some ci ∧ vwCl[ci]? = some q ∧ q.1 = (mN 144).cls := ⟨5, _, rfl, rfl, rfl⟩
theorem mo_145 : mOK 145 := ⟨gw_3 7 (by decide +kernel), by decide +kernel, gw_1 7 (by decide +kernel), by decide +kernel, by decide +kernel⟩
theorem mp_145 : mPar 145 3 := by unfold mPar; decide +kernel
theorem mi_145 : .instanceMethod (mN 145) ∈ gW := gw_3 6 (by decide +kernel)
theorem mv_145 : .selects (mN 145).cls (mN 145) (mN 145) ∈ gW := gw_p 12 (by decide +kernel)
theorem mc_145 : ∃ ci q, clsN 145 = some ci ∧ vwCl[ci]? = some q ∧ q.1 = (mN 145).cls := ⟨5, _, rfl, rfl, rfl⟩
theorem mo_146 : mOK 146 := ⟨gw_3 19 (by decide +kernel), by decide +kernel, gw_1 7 (by decide +kernel), by decide +kernel, by decide +kernel⟩
theorem mp_146 : mPar 146 1 := by unfold mPar; decide +kernel
theorem mi_146 : .instanceMethod (mN 146) ∈ gW := gw_3 18 (by decide +kernel)
theorem mv_146 : .selects (mN 146).cls (mN 146) (mN 146) ∈ gW := gw_p 13 (by decide +kernel)
theorem mc_146 : ∃ ci q, clsN 146 = some ci ∧ vwCl[ci]? = some q ∧ q.1 = (mN 146).cls := ⟨5, _, rfl, rfl, rfl⟩
theorem mo_147 : mOK 147 := ⟨gw_3 31 (by decide +kernel), by decide +kernel, gw_1 7 (by decide +kernel), by decide +kernel, by decide +kernel⟩
theorem mp_147 : mPar 147 2 := by unfold mPar; decide +kernel
theorem mi_147 : .instanceMethod (mN 147) ∈ gW := gw_3 30 (by decide +kernel)
theorem mv_147 : .selects (mN 147).cls (mN 147) (mN 147) ∈ gW := gw_p 15 (by decide +kernel)
theorem mc_147 : ∃ ci q, clsN 147 = some ci ∧ vwCl[ci]? = some q ∧ q.1 = (mN 147).cls := ⟨5, _, rfl, rfl, rfl⟩
theorem mo_148 : mOK 148 := ⟨gw_3 39 (by decide +kernel), by decide +kernel, gw_1 7 (by decide +kernel), by decide +kernel, by decide +kernel⟩
theorem mp_148 : mPar 148 4 := by unfold mPar; decide +kernel
theorem mi_148 : .instanceMethod (mN 148) ∈ gW := gw_3 38 (by decide +kernel)
theorem mv_148 : .selects (mN 148).cls (mN 148) (mN 148) ∈ gW := gw_p 16 (by decide +kernel)
theorem mc_148 : ∃ ci q, clsN 148 = some ci ∧ vwCl[ci]? = some q ∧ q.1 = (mN 148).cls := ⟨5, _, rfl, rfl, rfl⟩
theorem mo_149 : mOK 149 := ⟨gw_3 94 (by decide +kernel), by decide +kernel, gw_1 7 (by decide +kernel), by decide +kernel, by decide +kernel⟩
theorem mp_149 : mPar 149 3 := by unfold mPar; decide +kernel
theorem mi_149 : .instanceMethod (mN 149) ∈ gW := gw_3 92 (by decide +kernel)
theorem mv_149 : .selects (mN 149).cls (mN 149) (mN 149) ∈ gW := gw_3 93 (by decide +kernel)
theorem mc_149 : ∃ ci q, clsN 149 = some ci ∧ vwCl[ci]? = some q ∧ q.1 = (mN 149).cls := ⟨5, _, rfl, rfl, rfl⟩
theorem mo_150 : mOK 150 := ⟨gw_3 102 (by decide +kernel), by decide +kernel, gw_1 7 (by decide +kernel), by decide +kernel, by decide +kernel⟩
theorem mp_150 : mPar 150 5 := by unfold mPar; decide +kernel
theorem mi_150 : .instanceMethod (mN 150) ∈ gW := gw_3 101 (by decide +kernel)
theorem mv_150 : .selects (mN 150).cls (mN 150) (mN 150) ∈ gW := gw_p 23 (by decide +kernel)
theorem mc_150 : ∃ ci q, clsN 150 = some ci ∧ vwCl[ci]? = some q ∧ q.1 = (mN 150).cls := ⟨5, _, rfl, rfl, rfl⟩
theorem mo_151 : mOK 151 := ⟨gw_3 106 (by decide +kernel), by decide +kernel, gw_1 7 (by decide +kernel), by decide +kernel, by decide +kernel⟩
theorem mp_151 : mPar 151 4 := by unfold mPar; decide +kernel
theorem mi_151 : .instanceMethod (mN 151) ∈ gW := gw_3 105 (by decide +kernel)
theorem mv_151 : .selects (mN 151).cls (mN 151) (mN 151) ∈ gW := gw_p 24 (by decide +kernel)
theorem mc_151 : ∃ ci q, clsN 151 = some ci ∧ vwCl[ci]? = some q ∧ q.1 = (mN 151).cls := ⟨5, _, rfl, rfl, rfl⟩
theorem mo_152 : mOK 152 := ⟨gw_1 131 (by decide +kernel), by decide +kernel, gw_1 8 (by decide +kernel), by decide +kernel, by decide +kernel⟩
theorem mp_152 : mPar 152 0 := by unfold mPar; decide +kernel
theorem mi_152 : .instanceMethod (mN 152) ∈ gW := gw_1 130 (by decide +kernel)
theorem mo_153 : mOK 153 := ⟨gw_2 205 (by decide +kernel), by decide +kernel, gw_1 8 (by decide +kernel), by decide +kernel, by decide +kernel⟩
theorem mp_153 : mPar 153 1 := by unfold mPar; decide +kernel
theorem mi_153 : .instanceMethod (mN 153) ∈ gW := gw_2 203 (by decide +kernel)
theorem mv_153 : .selects (mN 153).cls (mN 153) (mN 153) ∈ gW := gw_2 204 (by decide +kernel)
theorem mc_153 : ∃ ci q, clsN 153 = some ci ∧ vwCl[ci]? = some q ∧ q.1 = (mN 153).cls := ⟨6, _, rfl, rfl, rfl⟩
theorem mo_154 : mOK 154 := ⟨gw_2 210 (by decide +kernel), by decide +kernel, gw_1 8 (by decide +kernel), by decide +kernel, by decide +kernel⟩
theorem mp_154 : mPar 154 1 := by unfold mPar; decide +kernel
theorem mi_154 : .instanceMethod (mN 154) ∈ gW := gw_2 208 (by decide +kernel)
theorem mv_154 : .selects (mN 154).cls (mN 154) (mN 154) ∈ gW := gw_2 209 (by decide +kernel)
theorem mc_154 : ∃ ci q, clsN 154 = some ci ∧ vwCl[ci]? = some q ∧ q.1 = (mN 154).cls := ⟨6, _, rfl, rfl, rfl⟩
theorem mo_155 : mOK 155 := ⟨gw_3 230 (by decide +kernel), by decide +kernel, gw_1 8 (by decide +kernel), by decide +kernel, by decide +kernel⟩
theorem mp_155 : mPar 155 1 := by unfold mPar; decide +kernel
theorem mi_155 : .instanceMethod (mN 155) ∈ gW := gw_3 228 (by decide +kernel)
theorem mv_155 : .selects (mN 155).cls (mN 155) (mN 155) ∈ gW := gw_3 229 (by decide +kernel)
theorem mc_155 : ∃ ci q, clsN 155 = some ci ∧ vwCl[ci]? = some q ∧ q.1 = (mN 155).cls := ⟨6, _, rfl, rfl, rfl⟩
theorem mo_156 : mOK 156 := ⟨gw_2 215 (by decide +kernel), by decide +kernel, gw_1 8 (by decide +kernel), by decide +kernel, by decide +kernel⟩
theorem mp_156 : mPar 156 0 := by unfold mPar; decide +kernel
theorem mi_156 : .instanceMethod (mN 156) ∈ gW := gw_2 214 (by decide +kernel)
theorem mv_156 : .selects (mN 156).cls (mN 156) (mN 156) ∈ gW := gw_p 7 (by decide +kernel)
theorem mc_156 : ∃ ci q, clsN 156 = some ci ∧ vwCl[ci]? = some q ∧ q.1 = (mN 156).cls := ⟨6, _, rfl, rfl, rfl⟩
theorem mo_157 : mOK 157 := ⟨gw_2 219 (by decide +kernel), by decide +kernel, gw_1 8 (by decide +kernel), by decide +kernel, by decide +kernel⟩
theorem mp_157 : mPar 157 1 := by unfold mPar; decide +kernel
theorem mi_157 : .instanceMethod (mN 157) ∈ gW := gw_2 217 (by decide +kernel)
theorem mv_157 : .selects (mN 157).cls (mN 157) (mN 157) ∈ gW := gw_2 218 (by decide +kernel)
theorem mc_157 : ∃ ci q, clsN 157 = some ci ∧ vwCl[ci]? = some q ∧ q.1 = (mN 157).cls := ⟨6, _, rfl, rfl, rfl⟩
theorem mo_158 : mOK 158 := ⟨gw_2 60 (by decide +kernel), by decide +kernel, gw_1 10 (by decide +kernel), by decide +kernel, by decide +kernel⟩
theorem mp_158 : mPar 158 0 := by unfold mPar; decide +kernel
theorem mi_158 : .instanceMethod (mN 158) ∈ gW := gw_2 59 (by decide +kernel)
theorem mo_159 : mOK 159 := ⟨gw_3 189 (by decide +kernel), by decide +kernel, gw_1 10 (by decide +kernel), by decide +kernel, by decide +kernel⟩
theorem mp_159 : mPar 159 2 := by unfold mPar; decide +kernel
theorem mi_159 : .instanceMethod (mN 159) ∈ gW := gw_3 187 (by decide +kernel)
theorem mv_159 : .selects (mN 159).cls (mN 159) (mN 159) ∈ gW := gw_3 188 (by decide +kernel)
theorem mc_159 : ∃ ci q, clsN 159 = some ci ∧ vwCl[ci]? = some q ∧ q.1 = (mN 159).cls := ⟨7, _, rfl, rfl, rfl⟩
theorem mo_160 : mOK 160 := ⟨gw_3 197 (by decide +kernel), by decide +kernel, gw_1 10 (by decide +kernel), by decide +kernel, by decide +kernel⟩
theorem mp_160 : mPar 160 2 := by unfold mPar; decide +kernel
theorem mi_160 : .instanceMethod (mN 160) ∈ gW := gw_3 195 (by decide +kernel)
theorem mv_160 : .selects (mN 160).cls (mN 160) (mN 160) ∈ gW := gw_3 196 (by decide +kernel)
theorem mc_160 : ∃ ci q, clsN 160 = some ci ∧ vwCl[ci]? = some q ∧ q.1 = (mN 160).cls := ⟨7, _, rfl, rfl, rfl⟩
theorem mo_161 : mOK 161 := ⟨gw_3 213 (by decide +kernel), by decide +kernel, gw_1 10 (by decide +kernel), by decide +kernel, by decide +kernel⟩
theorem mp_161 : mPar 161 1 := by unfold mPar; decide +kernel
theorem mi_161 : .instanceMethod (mN 161) ∈ gW := gw_3 211 (by decide +kernel)
theorem mv_161 : .selects (mN 161).cls (mN 161) (mN 161) ∈ gW := gw_3 212 (by decide +kernel)
theorem mc_161 : ∃ ci q, clsN 161 = some ci ∧ vwCl[ci]? = some q ∧ q.1 = (mN 161).cls := ⟨7, _, rfl, rfl, rfl⟩
theorem mo_162 : mOK 162 := ⟨gw_3 205 (by decide +kernel), by decide +kernel, gw_1 10 (by decide +kernel), by decide +kernel, by decide +kernel⟩
theorem mp_162 : mPar 162 2 := by unfold mPar; decide +kernel
theorem mi_162 : .instanceMethod (mN 162) ∈ gW := gw_3 203 (by decide +kernel)
theorem mv_162 : .selects (mN 162).cls (mN 162) (mN 162) ∈ gW := gw_3 204 (by decide +kernel)
theorem mc_162 : ∃ ci q, clsN 162 = some ci ∧ vwCl[ci]? = some q ∧ q.1 = (mN 162).cls := ⟨7, _, rfl, rfl, rfl⟩
theorem mo_163 : mOK 163 := ⟨gw_3 66 (by decide +kernel), by decide +kernel, gw_1 10 (by decide +kernel), by decide +kernel, by decide +kernel⟩
theorem mp_163 : mPar 163 1 := by unfold mPar; decide +kernel
theorem mi_163 : .instanceMethod (mN 163) ∈ gW := gw_3 64 (by decide +kernel)
theorem mv_163 : .selects (mN 163).cls (mN 163) (mN 163) ∈ gW := gw_3 65 (by decide +kernel)
theorem mc_163 : ∃ ci q, clsN 163 = some ci ∧ vwCl[ci]? = some q ∧ q.1 = (mN 163).cls := ⟨7, _, rfl, rfl, rfl⟩
theorem mo_164 : mOK 164 := ⟨gw_3 82 (by decide +kernel), by decide +kernel, gw_1 10 (by decide +kernel), by decide +kernel, by decide +kernel⟩
theorem mp_164 : mPar 164 5 := by unfold mPar; decide +kernel
theorem mi_164 : .instanceMethod (mN 164) ∈ gW := gw_3 80 (by decide +kernel)
theorem mv_164 : .selects (mN 164).cls (mN 164) (mN 164) ∈ gW := gw_3 81 (by decide +kernel)
theorem mc_164 : ∃ ci q, clsN 164 = some ci ∧ vwCl[ci]? = some q ∧ q.1 = (mN 164).cls := ⟨7, _, rfl, rfl, rfl⟩
theorem mo_165 : mOK 165 := ⟨gw_3 86 (by decide +kernel), by decide +kernel, gw_1 10 (by decide +kernel), by decide +kernel, by decide +kernel⟩
theorem mp_165 : mPar 165 1 := by unfold mPar; decide +kernel
theorem mi_165 : .instanceMethod (mN 165) ∈ gW := gw_3 84 (by decide +kernel)
theorem mv_165 : .selects (mN 165).cls (mN 165) (mN 165) ∈ gW := gw_3 85 (by decide +kernel)
theorem mc_165 : ∃ ci q, clsN 165 = some ci ∧ vwCl[ci]? = some q ∧ q.1 = (mN 165).cls := ⟨7, _, rfl, rfl, rfl⟩
theorem mo_166 : mOK 166 := ⟨gw_3 129 (by decide +kernel), by decide +kernel, gw_1 10 (by decide +kernel), by decide +kernel, by decide +kernel⟩
theorem mp_166 : mPar 166 1 := by unfold mPar; decide +kernel
theorem mi_166 : .instanceMethod (mN 166) ∈ gW := gw_3 127 (by decide +kernel)
theorem mv_166 : .selects (mN 166).cls (mN 166) (mN 166) ∈ gW := gw_3 128 (by decide +kernel)
theorem mc_166 : ∃ ci q, clsN 166 = some ci ∧ vwCl[ci]? = some q ∧ q.1 = (mN 166).cls := ⟨7, _, rfl, rfl, rfl⟩
theorem mo_167 : mOK 167 := ⟨gw_3 175 (by decide +kernel), by decide +kernel, gw_1 10 (by decide +kernel), by decide +kernel, by decide +kernel⟩
theorem mp_167 : mPar 167 1 := by unfold mPar; decide +kernel
theorem mi_167 : .instanceMethod (mN 167) ∈ gW := gw_3 173 (by decide +kernel)
theorem mv_167 : .selects (mN 167).cls (mN 167) (mN 167) ∈ gW := gw_3 174 (by decide +kernel)
theorem mc_167 : ∃ ci q, clsN 167 = some ci ∧ vwCl[ci]? = some q ∧ q.1 = (mN 167).cls := ⟨7, _, rfl, rfl, rfl⟩
theorem mo_168 : mOK 168 := ⟨gw_3 114 (by decide +kernel), by decide +kernel, gw_1 10 (by decide +kernel), by decide +kernel, by decide +kernel⟩
theorem mp_168 : mPar 168 5 := by unfold mPar; decide +kernel
theorem mi_168 : .instanceMethod (mN 168) ∈ gW := gw_3 112 (by decide +kernel)
theorem mv_168 : .selects (mN 168).cls (mN 168) (mN 168) ∈ gW := gw_3 113 (by decide +kernel)
theorem mc_168 : ∃ ci q, clsN 168 = some ci ∧ vwCl[ci]? = some q ∧ q.1 = (mN 168).cls := ⟨7, _, rfl, rfl, rfl⟩
theorem mo_169 : mOK 169 := ⟨gw_3 124 (by decide +kernel), by decide +kernel, gw_1 10 (by decide +kernel), by decide +kernel, by decide +kernel⟩
theorem mp_169 : mPar 169 6 := by unfold mPar; decide +kernel
theorem mi_169 : .instanceMethod (mN 169) ∈ gW := gw_3 123 (by decide +kernel)
theorem mv_169 : .selects (mN 169).cls (mN 169) (mN 169) ∈ gW := gw_p 26 (by decide +kernel)
theorem mc_169 : ∃ ci q, clsN 169 = some ci ∧ vwCl[ci]? = some q ∧ q.1 = (mN 169).cls := ⟨7, _, rfl, rfl, rfl⟩
theorem mo_170 : mOK 170 := ⟨gw_3 119 (by decide +kernel), by decide +kernel, gw_1 10 (by decide +kernel), by decide +kernel, by decide +kernel⟩
theorem mp_170 : mPar 170 1 := by unfold mPar; decide +kernel
theorem mi_170 : .instanceMethod (mN 170) ∈ gW := gw_3 118 (by decide +kernel)
theorem mv_170 : .selects (mN 170).cls (mN 170) (mN 170) ∈ gW := gw_p 25 (by decide +kernel)
theorem mc_170 : ∃ ci q, clsN 170 = some ci ∧ vwCl[ci]? = some q ∧ q.1 = (mN 170).cls := ⟨7, _, rfl, rfl, rfl⟩
theorem lk_0 (nm : String) (rt : Option FieldType) : lnk' RX8 nm rt (.invokespecial 1, 1005, 0, 0) := ⟨rfl, gw_has (by decide +kernel)⟩
theorem lk_1 (nm : String) (rt : Option FieldType) : lnk' RX8 nm rt (.new 7, 1, 0, 0) := ⟨_, rfl, gw_has (by decide +kernel), gw_has (by decide +kernel), gw_has (by decide +kernel)⟩
theorem lk_2 (nm : String) (rt : Option FieldType) : lnk' RX8 nm rt (.invokespecial 9, 101, 1, 0) := ⟨mo_101, ⟨_, rfl, mp_101⟩, Or.inl (gw_1 27 (by decide +kernel)), mi_101, rfl, rfl⟩
theorem lk_3 (rt : Option FieldType) : lnk' RX8 "<init>" rt (.putfield 10, 8, 0, 1) := ⟨_, rfl, by decide, gw_2 85 (by decide +kernel), by decide +kernel, fun h => absurd h (by decide), fun h => absurd h (by decide), fun _ => ⟨⟨.object "PlayedWritten$Score", by decide +kernel, Or.inl ⟨_, rfl⟩⟩, rfl, rfl, rfl⟩⟩
theorem lk_4 (nm : String) (rt : Option FieldType) : lnk' RX8 nm rt (.new 16, 0, 0, 0) := ⟨_, rfl, gw_has (by decide +kernel), gw_has (by decide +kernel), gw_has (by decide +kernel)⟩
theorem lk_5 (nm : String) (rt : Option FieldType) : lnk' RX8 nm rt (.invokespecial 18, 98, 1, 0) := ⟨mo_98, ⟨_, rfl, mp_98⟩, Or.inr ⟨"PlayedWritten", nw_has (by decide +kernel)⟩, mi_98, rfl, rfl⟩
theorem lk_6 (rt : Option FieldType) : lnk' RX8 "<init>" rt (.putfield 19, 8, 1, 1) := ⟨_, rfl, by decide, gw_2 86 (by decide +kernel), by decide +kernel, fun h => absurd h (by decide), fun h => absurd h (by decide), fun _ => ⟨⟨.object "PlayedWritten$History", by decide +kernel, Or.inl ⟨_, rfl⟩⟩, rfl, rfl, rfl⟩⟩
theorem lk_7 (nm : String) (rt : Option FieldType) : lnk' RX8 nm rt (.new 23, 3, 0, 0) := ⟨_, rfl, gw_has (by decide +kernel), gw_has (by decide +kernel), gw_has (by decide +kernel)⟩
theorem lk_8 (nm : String) (rt : Option FieldType) : lnk' RX8 nm rt (.invokespecial 25, 123, 1, 0) := ⟨mo_123, ⟨_, rfl, mp_123⟩, Or.inr ⟨"PlayedWritten", nw_has (by decide +kernel)⟩, mi_123, rfl, rfl⟩
theorem lk_9 (rt : Option FieldType) : lnk' RX8 "<init>" rt (.putfield 26, 8, 2, 1) := ⟨_, rfl, by decide, gw_2 87 (by decide +kernel), by decide +kernel, fun h => absurd h (by decide), fun h => absurd h (by decide), fun _ => ⟨⟨.object "PlayedWritten$Sheet", by decide +kernel, Or.inl ⟨_, rfl⟩⟩, rfl, rfl, rfl⟩⟩
theorem lk_10 (nm : String) (rt : Option FieldType) : lnk' RX8 nm rt (.new 30, 2, 0, 0) := ⟨_, rfl, gw_has (by decide +kernel), gw_has (by decide +kernel), gw_has (by decide +kernel)⟩
theorem lk_11 (nm : String) (rt : Option FieldType) : lnk' RX8 nm rt (.invokespecial 32, 109, 1, 0) := ⟨mo_109, ⟨_, rfl, mp_109⟩, Or.inr ⟨"PlayedWritten", nw_has (by decide +kernel)⟩, mi_109, rfl, rfl⟩
theorem lk_12 (rt : Option FieldType) : lnk' RX8 "<init>" rt (.putfield 33, 8, 3, 1) := ⟨_, rfl, by decide, gw_2 88 (by decide +kernel), by decide +kernel, fun h => absurd h (by decide), fun h => absurd h (by decide), fun _ => ⟨⟨.object "PlayedWritten$Search", by decide +kernel, Or.inl ⟨_, rfl⟩⟩, rfl, rfl, rfl⟩⟩
theorem lk_13 (nm : String) (rt : Option FieldType) : lnk' RX8 nm rt (.new 37, 7, 0, 0) := ⟨_, rfl, gw_has (by decide +kernel), gw_has (by decide +kernel), gw_has (by decide +kernel)⟩
theorem lk_14 (nm : String) (rt : Option FieldType) : lnk' RX8 nm rt (.invokespecial 39, 158, 1, 0) := ⟨mo_158, ⟨_, rfl, mp_158⟩, Or.inr ⟨"PlayedWritten", nw_has (by decide +kernel)⟩, mi_158, rfl, rfl⟩
theorem lk_15 (rt : Option FieldType) : lnk' RX8 "<init>" rt (.putfield 40, 8, 4, 1) := ⟨_, rfl, by decide, gw_2 89 (by decide +kernel), by decide +kernel, fun h => absurd h (by decide), fun h => absurd h (by decide), fun _ => ⟨⟨.object "PlayedWritten$Writing", by decide +kernel, Or.inl ⟨_, rfl⟩⟩, rfl, rfl, rfl⟩⟩
theorem lk_16 (rt : Option FieldType) : lnk' RX8 "<init>" rt (.putfield 44, 8, 5, 1) := ⟨_, rfl, by decide, gw_2 90 (by decide +kernel), by decide +kernel, fun h => absurd h (by decide), fun h => absurd h (by decide), fun _ => ⟨⟨.array .int, by decide +kernel, Or.inr ⟨_, rfl⟩⟩, rfl, rfl, rfl⟩⟩
theorem lk_17 (nm : String) (rt : Option FieldType) : lnk' RX8 nm rt (.putfield 48, 8, 6, 2) := ⟨_, rfl, by decide, gw_2 91 (by decide +kernel), by decide +kernel, fun h => absurd h (by decide), fun _ => ⟨by decide +kernel, rfl⟩, fun h => absurd h (by decide)⟩
theorem lk_18 (nm : String) (rt : Option FieldType) : lnk' RX8 nm rt (.invokestatic 52, 23, 1, 0) := ⟨mo_23, mp_23, Or.inl (gw_2 111 (by decide +kernel)), ms_23⟩
theorem lk_19 (nm : String) (rt : Option FieldType) : lnk' RX8 nm rt (.invokevirtual 56, 26, 2, 0) := ⟨mo_26, ⟨_, rfl, mp_26⟩, mc_26, gw_2 114 (by decide +kernel), mv_26, mi_26⟩
theorem lk_20 (nm : String) (rt : Option FieldType) : lnk' RX8 nm rt (.getfield 10, 8, 0, 1) := ⟨_, rfl, by decide, gw_2 85 (by decide +kernel), by decide +kernel⟩
theorem lk_21 (nm : String) (rt : Option FieldType) : lnk' RX8 nm rt (.getfield 60, 1, 2, 0) := ⟨_, rfl, by decide, gw_1 43 (by decide +kernel), by decide +kernel⟩
theorem lk_22 (nm : String) (rt : Option FieldType) : lnk' RX8 nm rt (.invokevirtual 64, 27, 1, 0) := ⟨mo_27, ⟨_, rfl, mp_27⟩, mc_27, gw_2 118 (by decide +kernel), mv_27, mi_27⟩
theorem lk_23 (nm : String) (rt : Option FieldType) : lnk' RX8 nm rt (.invokevirtual 67, 102, 2, 0) := ⟨mo_102, ⟨_, rfl, mp_102⟩, mc_102, gw_2 133 (by decide +kernel), mv_102, mi_102⟩
theorem lk_24 (nm : String) (rt : Option FieldType) : lnk' RX8 nm rt (.invokevirtual 70, 24, 2, 0) := ⟨mo_24, ⟨_, rfl, mp_24⟩, mc_24, gw_2 141 (by decide +kernel), mv_24, mi_24⟩
theorem lk_25 (nm : String) (rt : Option FieldType) : lnk' RX8 nm rt (.invokevirtual 73, 103, 2, 0) := ⟨mo_103, ⟨_, rfl, mp_103⟩, mc_103, gw_2 145 (by decide +kernel), mv_103, mi_103⟩
theorem lk_26 (nm : String) (rt : Option FieldType) : lnk' RX8 nm rt (.ldc 77, 0, 0, 999999) := ⟨in_R (by decide), gw_has (by decide +kernel)⟩
theorem lk_27 (nm : String) (rt : Option FieldType) : lnk' RX8 nm rt (.invokevirtual 78, 104, 3, 0) := ⟨mo_104, ⟨_, rfl, mp_104⟩, mc_104, gw_2 161 (by decide +kernel), mv_104, mi_104⟩
theorem lk_28 (nm : String) (rt : Option FieldType) : lnk' RX8 nm rt (.invokevirtual 82, 105, 2, 0) := ⟨mo_105, ⟨_, rfl, mp_105⟩, mc_105, gw_2 174 (by decide +kernel), mv_105, mi_105⟩
theorem lk_29 (nm : String) (rt : Option FieldType) : lnk' RX8 nm rt (.getstatic 85, 2, 0, 0) := ⟨_, _, rfl, by decide, Or.inl (gw_2 186 (by decide +kernel))⟩
theorem lk_30 (nm : String) (rt : Option FieldType) : lnk' RX8 nm rt (.getstatic 88, 3, 0, 0) := ⟨_, _, rfl, by decide, Or.inl (gw_2 188 (by decide +kernel))⟩
theorem lk_31 (nm : String) (rt : Option FieldType) : lnk' RX8 nm rt (.getfield 91, 1, 1, 1) := ⟨_, rfl, by decide, gw_1 41 (by decide +kernel), by decide +kernel⟩
theorem lk_32 (nm : String) (rt : Option FieldType) : lnk' RX8 nm rt (.getfield 94, 1, 0, 1) := ⟨_, rfl, by decide, gw_1 38 (by decide +kernel), by decide +kernel⟩
theorem lk_33 (nm : String) (rt : Option FieldType) : lnk' RX8 nm rt (.invokevirtual 97, 29, 1, 0) := ⟨mo_29, ⟨_, rfl, mp_29⟩, mc_29, gw_2 198 (by decide +kernel), mv_29, mi_29⟩
theorem lk_34 (nm : String) (rt : Option FieldType) : lnk' RX8 nm rt (.getfield 101, 7, 0, 0) := ⟨_, rfl, by decide, gw_2 63 (by decide +kernel), by decide +kernel⟩
theorem lk_35 (nm : String) (rt : Option FieldType) : lnk' RX8 nm rt (.invokevirtual 104, 25, 2, 0) := ⟨mo_25, ⟨_, rfl, mp_25⟩, mc_25, gw_3 182 (by decide +kernel), mv_25, mi_25⟩
theorem lk_36 (nm : String) (rt : Option FieldType) : lnk' RX8 nm rt (.invokevirtual 107, 159, 3, 0) := ⟨mo_159, ⟨_, rfl, mp_159⟩, mc_159, gw_3 186 (by decide +kernel), mv_159, mi_159⟩
theorem lk_37 (nm : String) (rt : Option FieldType) : lnk' RX8 nm rt (.invokevirtual 110, 160, 3, 0) := ⟨mo_160, ⟨_, rfl, mp_160⟩, mc_160, gw_3 194 (by decide +kernel), mv_160, mi_160⟩
theorem lk_38 (nm : String) (rt : Option FieldType) : lnk' RX8 nm rt (.invokevirtual 113, 162, 3, 0) := ⟨mo_162, ⟨_, rfl, mp_162⟩, mc_162, gw_3 202 (by decide +kernel), mv_162, mi_162⟩
theorem lk_39 (nm : String) (rt : Option FieldType) : lnk' RX8 nm rt (.invokevirtual 116, 161, 2, 0) := ⟨mo_161, ⟨_, rfl, mp_161⟩, mc_161, gw_3 210 (by decide +kernel), mv_161, mi_161⟩
theorem lk_40 (nm : String) (rt : Option FieldType) : lnk' RX8 nm rt (.getfield 33, 8, 3, 1) := ⟨_, rfl, by decide, gw_2 88 (by decide +kernel), by decide +kernel⟩
theorem lk_41 (nm : String) (rt : Option FieldType) : lnk' RX8 nm rt (.getfield 119, 2, 1, 1) := ⟨_, rfl, by decide, gw_2 44 (by decide +kernel), by decide +kernel⟩
theorem lk_42 (nm : String) (rt : Option FieldType) : lnk' RX8 nm rt (.invokevirtual 123, 153, 2, 0) := ⟨mo_153, ⟨_, rfl, mp_153⟩, mc_153, gw_2 202 (by decide +kernel), mv_153, mi_153⟩
theorem lk_43 (nm : String) (rt : Option FieldType) : lnk' RX8 nm rt (.putfield 129, 6, 7, 0) := ⟨_, rfl, by decide, gw_1 151 (by decide +kernel), by decide +kernel, fun _ => ⟨by decide +kernel, rfl⟩, fun h => absurd h (by decide), fun h => absurd h (by decide)⟩
theorem lk_44 (nm : String) (rt : Option FieldType) : lnk' RX8 nm rt (.invokevirtual 132, 110, 1, 0) := ⟨mo_110, ⟨_, rfl, mp_110⟩, mc_110, gw_2 220 (by decide +kernel), mv_110, mi_110⟩
theorem lk_45 (nm : String) (rt : Option FieldType) : lnk' RX8 nm rt (.invokevirtual 136, 154, 2, 0) := ⟨mo_154, ⟨_, rfl, mp_154⟩, mc_154, gw_3 222 (by decide +kernel), mv_154, mi_154⟩
theorem lk_46 (nm : String) (rt : Option FieldType) : lnk' RX8 nm rt (.invokevirtual 139, 155, 2, 0) := ⟨mo_155, ⟨_, rfl, mp_155⟩, mc_155, gw_3 227 (by decide +kernel), mv_155, mi_155⟩
theorem lk_47 (nm : String) (rt : Option FieldType) : lnk' RX8 nm rt (.putfield 142, 6, 10, 2) := ⟨_, rfl, by decide, gw_1 158 (by decide +kernel), by decide +kernel, fun h => absurd h (by decide), fun _ => ⟨by decide +kernel, rfl⟩, fun h => absurd h (by decide)⟩
theorem lk_48 (nm : String) (rt : Option FieldType) : lnk' RX8 nm rt (.ldc 145, 0, 0, 100000000) := ⟨in_R (by decide), gw_has (by decide +kernel)⟩
theorem lk_49 (nm : String) (rt : Option FieldType) : lnk' RX8 nm rt (.getfield 26, 8, 2, 1) := ⟨_, rfl, by decide, gw_2 87 (by decide +kernel), by decide +kernel⟩
theorem lk_50 (nm : String) (rt : Option FieldType) : lnk' RX8 nm rt (.getfield 146, 3, 1, 0) := ⟨_, rfl, by decide, gw_1 78 (by decide +kernel), by decide +kernel⟩
theorem lk_51 (nm : String) (rt : Option FieldType) : lnk' RX8 nm rt (.invokevirtual 149, 124, 2, 0) := ⟨mo_124, ⟨_, rfl, mp_124⟩, mc_124, gw_4 1 (by decide +kernel), mv_124, mi_124⟩
theorem lk_52 (nm : String) (rt : Option FieldType) : lnk' RX8 nm rt (.putfield 146, 3, 1, 0) := ⟨_, rfl, by decide, gw_1 78 (by decide +kernel), by decide +kernel, fun _ => ⟨by decide +kernel, rfl⟩, fun h => absurd h (by decide), fun h => absurd h (by decide)⟩
theorem lk_53 (nm : String) (rt : Option FieldType) : lnk' RX8 nm rt (.invokevirtual 152, 125, 1, 0) := ⟨mo_125, ⟨_, rfl, mp_125⟩, mc_125, gw_4 13 (by decide +kernel), mv_125, mi_125⟩
theorem lk_54 (nm : String) (rt : Option FieldType) : lnk' RX8 nm rt (.invokevirtual 155, 106, 2, 0) := ⟨mo_106, ⟨_, rfl, mp_106⟩, mc_106, gw_4 53 (by decide +kernel), mv_106, mi_106⟩
theorem lk_55 (nm : String) (rt : Option FieldType) : lnk' RX8 nm rt (.getfield 19, 8, 1, 1) := ⟨_, rfl, by decide, gw_2 86 (by decide +kernel), by decide +kernel⟩
theorem lk_56 (nm : String) (rt : Option FieldType) : lnk' RX8 nm rt (.getfield 159, 0, 2, 0) := ⟨_, rfl, by decide, gw_1 62 (by decide +kernel), by decide +kernel⟩
theorem lk_57 (nm : String) (rt : Option FieldType) : lnk' RX8 nm rt (.invokevirtual 162, 100, 2, 0) := ⟨mo_100, ⟨_, rfl, mp_100⟩, mc_100, gw_4 61 (by decide +kernel), mv_100, mi_100⟩
theorem lk_58 (nm : String) (rt : Option FieldType) : lnk' RX8 nm rt (.invokevirtual 165, 28, 2, 0) := ⟨mo_28, ⟨_, rfl, mp_28⟩, mc_28, gw_4 73 (by decide +kernel), mv_28, mi_28⟩
theorem lk_59 (nm : String) (rt : Option FieldType) : lnk' RX8 nm rt (.ldc2_w 168, 0, 0, 1772) := ⟨in_RL (by decide), gw_has (by decide +kernel)⟩
theorem lk_60 (nm : String) (rt : Option FieldType) : lnk' RX8 nm rt (.ldc2_w 170, 0, 0, 31) := ⟨in_RL (by decide), gw_has (by decide +kernel)⟩
theorem lk_61 (nm : String) (rt : Option FieldType) : lnk' RX8 nm rt (.getfield 44, 8, 5, 1) := ⟨_, rfl, by decide, gw_2 90 (by decide +kernel), by decide +kernel⟩
theorem lk_62 (nm : String) (rt : Option FieldType) : lnk' RX8 nm rt (.invokevirtual 172, 99, 2, 0) := ⟨mo_99, ⟨_, rfl, mp_99⟩, mc_99, gw_2 122 (by decide +kernel), mv_99, mi_99⟩
theorem lk_63 (nm : String) (rt : Option FieldType) : lnk' RX8 nm rt (.getfield 48, 8, 6, 2) := ⟨_, rfl, by decide, gw_2 91 (by decide +kernel), by decide +kernel⟩
theorem lk_64 (nm : String) (rt : Option FieldType) : lnk' RX8 nm rt (.getfield 40, 8, 4, 1) := ⟨_, rfl, by decide, gw_2 89 (by decide +kernel), by decide +kernel⟩
theorem lk_65 (nm : String) (rt : Option FieldType) : lnk' RX8 nm rt (.invokevirtual 175, 163, 2, 0) := ⟨mo_163, ⟨_, rfl, mp_163⟩, mc_163, gw_3 63 (by decide +kernel), mv_163, mi_163⟩
theorem lk_66 (nm : String) (rt : Option FieldType) : lnk' RX8 nm rt (.invokevirtual 178, 111, 2, 0) := ⟨mo_111, ⟨_, rfl, mp_111⟩, mc_111, gw_3 67 (by decide +kernel), mv_111, mi_111⟩
theorem lk_67 (nm : String) (rt : Option FieldType) : lnk' RX8 nm rt (.invokestatic 182, 1003, 0, 0) := Or.inr (Or.inr (Or.inr ⟨rfl, gw_has (by decide +kernel)⟩))
theorem lk_68 (nm : String) (rt : Option FieldType) : lnk' RX9 nm rt (.invokespecial 1, 1005, 0, 0) := ⟨rfl, gw_has (by decide +kernel)⟩
theorem lk_69 (rt : Option FieldType) : lnk' RX9 "<init>" rt (.putfield 7, 9, 0, 1) := ⟨_, rfl, by decide, gw_4 89 (by decide +kernel), by decide +kernel, fun h => absurd h (by decide), fun h => absurd h (by decide), fun _ => ⟨⟨.array .int, by decide +kernel, Or.inr ⟨_, rfl⟩⟩, rfl, rfl, rfl⟩⟩
theorem lk_70 (rt : Option FieldType) : lnk' RX9 "<init>" rt (.putfield 13, 9, 1, 1) := ⟨_, rfl, by decide, gw_4 90 (by decide +kernel), by decide +kernel, fun h => absurd h (by decide), fun h => absurd h (by decide), fun _ => ⟨⟨.array .int, by decide +kernel, Or.inr ⟨_, rfl⟩⟩, rfl, rfl, rfl⟩⟩
theorem lk_71 (rt : Option FieldType) : lnk' RX9 "<init>" rt (.putfield 16, 9, 3, 1) := ⟨_, rfl, by decide, gw_4 92 (by decide +kernel), by decide +kernel, fun h => absurd h (by decide), fun h => absurd h (by decide), fun _ => ⟨⟨.array .int, by decide +kernel, Or.inr ⟨_, rfl⟩⟩, rfl, rfl, rfl⟩⟩
theorem lk_72 (rt : Option FieldType) : lnk' RX9 "<init>" rt (.putfield 19, 9, 4, 1) := ⟨_, rfl, by decide, gw_4 93 (by decide +kernel), by decide +kernel, fun h => absurd h (by decide), fun h => absurd h (by decide), fun _ => ⟨⟨.array .int, by decide +kernel, Or.inr ⟨_, rfl⟩⟩, rfl, rfl, rfl⟩⟩
theorem lk_73 (rt : Option FieldType) : lnk' RX9 "<init>" rt (.putfield 22, 9, 6, 1) := ⟨_, rfl, by decide, gw_4 95 (by decide +kernel), by decide +kernel, fun h => absurd h (by decide), fun h => absurd h (by decide), fun _ => ⟨⟨.array .int, by decide +kernel, Or.inr ⟨_, rfl⟩⟩, rfl, rfl, rfl⟩⟩
theorem lk_74 (rt : Option FieldType) : lnk' RX9 "<init>" rt (.putfield 25, 9, 7, 1) := ⟨_, rfl, by decide, gw_4 96 (by decide +kernel), by decide +kernel, fun h => absurd h (by decide), fun h => absurd h (by decide), fun _ => ⟨⟨.array .int, by decide +kernel, Or.inr ⟨_, rfl⟩⟩, rfl, rfl, rfl⟩⟩
theorem lk_75 (rt : Option FieldType) : lnk' RX9 "<init>" rt (.putfield 28, 9, 8, 1) := ⟨_, rfl, by decide, gw_4 97 (by decide +kernel), by decide +kernel, fun h => absurd h (by decide), fun h => absurd h (by decide), fun _ => ⟨⟨.array .int, by decide +kernel, Or.inr ⟨_, rfl⟩⟩, rfl, rfl, rfl⟩⟩
theorem lk_76 (rt : Option FieldType) : lnk' RX9 "<init>" rt (.putfield 31, 9, 13, 1) := ⟨_, rfl, by decide, gw_4 102 (by decide +kernel), by decide +kernel, fun h => absurd h (by decide), fun h => absurd h (by decide), fun _ => ⟨⟨.array .int, by decide +kernel, Or.inr ⟨_, rfl⟩⟩, rfl, rfl, rfl⟩⟩
theorem lk_77 (rt : Option FieldType) : lnk' RX9 "<init>" rt (.putfield 34, 9, 14, 1) := ⟨_, rfl, by decide, gw_4 103 (by decide +kernel), by decide +kernel, fun h => absurd h (by decide), fun h => absurd h (by decide), fun _ => ⟨⟨.array .int, by decide +kernel, Or.inr ⟨_, rfl⟩⟩, rfl, rfl, rfl⟩⟩
theorem lk_78 (rt : Option FieldType) : lnk' RX9 "<init>" rt (.putfield 37, 9, 15, 1) := ⟨_, rfl, by decide, gw_4 104 (by decide +kernel), by decide +kernel, fun h => absurd h (by decide), fun h => absurd h (by decide), fun _ => ⟨⟨.array .int, by decide +kernel, Or.inr ⟨_, rfl⟩⟩, rfl, rfl, rfl⟩⟩
theorem lk_79 (rt : Option FieldType) : lnk' RX9 "<init>" rt (.putfield 40, 9, 16, 1) := ⟨_, rfl, by decide, gw_4 105 (by decide +kernel), by decide +kernel, fun h => absurd h (by decide), fun h => absurd h (by decide), fun _ => ⟨⟨.array .int, by decide +kernel, Or.inr ⟨_, rfl⟩⟩, rfl, rfl, rfl⟩⟩
theorem lk_80 (rt : Option FieldType) : lnk' RX9 "<init>" rt (.putfield 43, 9, 17, 1) := ⟨_, rfl, by decide, gw_4 106 (by decide +kernel), by decide +kernel, fun h => absurd h (by decide), fun h => absurd h (by decide), fun _ => ⟨⟨.array .int, by decide +kernel, Or.inr ⟨_, rfl⟩⟩, rfl, rfl, rfl⟩⟩
theorem lk_81 (rt : Option FieldType) : lnk' RX9 "<init>" rt (.putfield 46, 9, 19, 1) := ⟨_, rfl, by decide, gw_4 108 (by decide +kernel), by decide +kernel, fun h => absurd h (by decide), fun h => absurd h (by decide), fun _ => ⟨⟨.array .int, by decide +kernel, Or.inr ⟨_, rfl⟩⟩, rfl, rfl, rfl⟩⟩
theorem lk_82 (rt : Option FieldType) : lnk' RX9 "<init>" rt (.putfield 49, 9, 20, 1) := ⟨_, rfl, by decide, gw_4 109 (by decide +kernel), by decide +kernel, fun h => absurd h (by decide), fun h => absurd h (by decide), fun _ => ⟨⟨.array .int, by decide +kernel, Or.inr ⟨_, rfl⟩⟩, rfl, rfl, rfl⟩⟩
theorem lk_83 (rt : Option FieldType) : lnk' RX9 "<init>" rt (.putfield 52, 9, 21, 1) := ⟨_, rfl, by decide, gw_4 110 (by decide +kernel), by decide +kernel, fun h => absurd h (by decide), fun h => absurd h (by decide), fun _ => ⟨⟨.array .int, by decide +kernel, Or.inr ⟨_, rfl⟩⟩, rfl, rfl, rfl⟩⟩
theorem lk_84 (rt : Option FieldType) : lnk' RX9 "<init>" rt (.putfield 55, 9, 22, 1) := ⟨_, rfl, by decide, gw_4 111 (by decide +kernel), by decide +kernel, fun h => absurd h (by decide), fun h => absurd h (by decide), fun _ => ⟨⟨.array .int, by decide +kernel, Or.inr ⟨_, rfl⟩⟩, rfl, rfl, rfl⟩⟩
theorem lk_85 (rt : Option FieldType) : lnk' RX9 "<init>" rt (.putfield 58, 9, 24, 1) := ⟨_, rfl, by decide, gw_4 113 (by decide +kernel), by decide +kernel, fun h => absurd h (by decide), fun h => absurd h (by decide), fun _ => ⟨⟨.array .int, by decide +kernel, Or.inr ⟨_, rfl⟩⟩, rfl, rfl, rfl⟩⟩
theorem lk_86 (rt : Option FieldType) : lnk' RX9 "<init>" rt (.putfield 61, 9, 25, 1) := ⟨_, rfl, by decide, gw_4 114 (by decide +kernel), by decide +kernel, fun h => absurd h (by decide), fun h => absurd h (by decide), fun _ => ⟨⟨.array .int, by decide +kernel, Or.inr ⟨_, rfl⟩⟩, rfl, rfl, rfl⟩⟩
theorem lk_87 (rt : Option FieldType) : lnk' RX9 "<init>" rt (.putfield 64, 9, 26, 1) := ⟨_, rfl, by decide, gw_4 115 (by decide +kernel), by decide +kernel, fun h => absurd h (by decide), fun h => absurd h (by decide), fun _ => ⟨⟨.array .int, by decide +kernel, Or.inr ⟨_, rfl⟩⟩, rfl, rfl, rfl⟩⟩
theorem lk_88 (rt : Option FieldType) : lnk' RX9 "<init>" rt (.putfield 67, 9, 27, 1) := ⟨_, rfl, by decide, gw_4 116 (by decide +kernel), by decide +kernel, fun h => absurd h (by decide), fun h => absurd h (by decide), fun _ => ⟨⟨.array .int, by decide +kernel, Or.inr ⟨_, rfl⟩⟩, rfl, rfl, rfl⟩⟩
theorem lk_89 (rt : Option FieldType) : lnk' RX9 "<init>" rt (.putfield 70, 9, 28, 1) := ⟨_, rfl, by decide, gw_4 117 (by decide +kernel), by decide +kernel, fun h => absurd h (by decide), fun h => absurd h (by decide), fun _ => ⟨⟨.array .int, by decide +kernel, Or.inr ⟨_, rfl⟩⟩, rfl, rfl, rfl⟩⟩
theorem lk_90 (rt : Option FieldType) : lnk' RX9 "<init>" rt (.putfield 73, 9, 29, 1) := ⟨_, rfl, by decide, gw_4 118 (by decide +kernel), by decide +kernel, fun h => absurd h (by decide), fun h => absurd h (by decide), fun _ => ⟨⟨.array .int, by decide +kernel, Or.inr ⟨_, rfl⟩⟩, rfl, rfl, rfl⟩⟩
theorem lk_91 (rt : Option FieldType) : lnk' RX9 "<init>" rt (.putfield 76, 9, 30, 1) := ⟨_, rfl, by decide, gw_4 119 (by decide +kernel), by decide +kernel, fun h => absurd h (by decide), fun h => absurd h (by decide), fun _ => ⟨⟨.array .int, by decide +kernel, Or.inr ⟨_, rfl⟩⟩, rfl, rfl, rfl⟩⟩
theorem lk_92 (rt : Option FieldType) : lnk' RX9 "<init>" rt (.putfield 79, 9, 31, 1) := ⟨_, rfl, by decide, gw_4 120 (by decide +kernel), by decide +kernel, fun h => absurd h (by decide), fun h => absurd h (by decide), fun _ => ⟨⟨.array .int, by decide +kernel, Or.inr ⟨_, rfl⟩⟩, rfl, rfl, rfl⟩⟩
theorem lk_93 (rt : Option FieldType) : lnk' RX9 "<init>" rt (.putfield 82, 9, 32, 1) := ⟨_, rfl, by decide, gw_4 121 (by decide +kernel), by decide +kernel, fun h => absurd h (by decide), fun h => absurd h (by decide), fun _ => ⟨⟨.array .int, by decide +kernel, Or.inr ⟨_, rfl⟩⟩, rfl, rfl, rfl⟩⟩
theorem lk_94 (rt : Option FieldType) : lnk' RX9 "<init>" rt (.putfield 85, 9, 34, 1) := ⟨_, rfl, by decide, gw_4 123 (by decide +kernel), by decide +kernel, fun h => absurd h (by decide), fun h => absurd h (by decide), fun _ => ⟨⟨.array .int, by decide +kernel, Or.inr ⟨_, rfl⟩⟩, rfl, rfl, rfl⟩⟩
theorem lk_95 (rt : Option FieldType) : lnk' RX9 "<init>" rt (.putfield 88, 9, 38, 1) := ⟨_, rfl, by decide, gw_4 127 (by decide +kernel), by decide +kernel, fun h => absurd h (by decide), fun h => absurd h (by decide), fun _ => ⟨⟨.array .int, by decide +kernel, Or.inr ⟨_, rfl⟩⟩, rfl, rfl, rfl⟩⟩
theorem lk_96 (rt : Option FieldType) : lnk' RX9 "<init>" rt (.putfield 91, 9, 39, 1) := ⟨_, rfl, by decide, gw_4 128 (by decide +kernel), by decide +kernel, fun h => absurd h (by decide), fun h => absurd h (by decide), fun _ => ⟨⟨.array .int, by decide +kernel, Or.inr ⟨_, rfl⟩⟩, rfl, rfl, rfl⟩⟩
theorem lk_97 (rt : Option FieldType) : lnk' RX9 "<init>" rt (.putfield 94, 9, 40, 1) := ⟨_, rfl, by decide, gw_4 129 (by decide +kernel), by decide +kernel, fun h => absurd h (by decide), fun h => absurd h (by decide), fun _ => ⟨⟨.array .int, by decide +kernel, Or.inr ⟨_, rfl⟩⟩, rfl, rfl, rfl⟩⟩
theorem lk_98 (rt : Option FieldType) : lnk' RX9 "<init>" rt (.putfield 97, 9, 43, 1) := ⟨_, rfl, by decide, gw_4 132 (by decide +kernel), by decide +kernel, fun h => absurd h (by decide), fun h => absurd h (by decide), fun _ => ⟨⟨.array .int, by decide +kernel, Or.inr ⟨_, rfl⟩⟩, rfl, rfl, rfl⟩⟩
theorem lk_99 (rt : Option FieldType) : lnk' RX9 "<init>" rt (.putfield 100, 9, 44, 1) := ⟨_, rfl, by decide, gw_4 133 (by decide +kernel), by decide +kernel, fun h => absurd h (by decide), fun h => absurd h (by decide), fun _ => ⟨⟨.array .int, by decide +kernel, Or.inr ⟨_, rfl⟩⟩, rfl, rfl, rfl⟩⟩
theorem lk_100 (nm : String) (rt : Option FieldType) : lnk' RX9 nm rt (.getfield 7, 9, 0, 1) := ⟨_, rfl, by decide, gw_4 89 (by decide +kernel), by decide +kernel⟩
theorem lk_101 (nm : String) (rt : Option FieldType) : lnk' RX9 nm rt (.getfield 25, 9, 7, 1) := ⟨_, rfl, by decide, gw_4 96 (by decide +kernel), by decide +kernel⟩
theorem lk_102 (nm : String) (rt : Option FieldType) : lnk' RX9 nm rt (.getfield 22, 9, 6, 1) := ⟨_, rfl, by decide, gw_4 95 (by decide +kernel), by decide +kernel⟩
theorem lk_103 (nm : String) (rt : Option FieldType) : lnk' RX9 nm rt (.getfield 16, 9, 3, 1) := ⟨_, rfl, by decide, gw_4 92 (by decide +kernel), by decide +kernel⟩
theorem lk_104 (nm : String) (rt : Option FieldType) : lnk' RX9 nm rt (.getfield 103, 9, 2, 0) := ⟨_, rfl, by decide, gw_4 91 (by decide +kernel), by decide +kernel⟩
theorem lk_105 (nm : String) (rt : Option FieldType) : lnk' RX9 nm rt (.getfield 13, 9, 1, 1) := ⟨_, rfl, by decide, gw_4 90 (by decide +kernel), by decide +kernel⟩
theorem lk_106 (nm : String) (rt : Option FieldType) : lnk' RX9 nm rt (.putfield 103, 9, 2, 0) := ⟨_, rfl, by decide, gw_4 91 (by decide +kernel), by decide +kernel, fun _ => ⟨by decide +kernel, rfl⟩, fun h => absurd h (by decide), fun h => absurd h (by decide)⟩
theorem lk_107 (nm : String) (rt : Option FieldType) : lnk' RX9 nm rt (.putfield 107, 9, 23, 2) := ⟨_, rfl, by decide, gw_4 112 (by decide +kernel), by decide +kernel, fun h => absurd h (by decide), fun _ => ⟨by decide +kernel, rfl⟩, fun h => absurd h (by decide)⟩
theorem lk_108 (nm : String) (rt : Option FieldType) : lnk' RX9 nm rt (.invokestatic 111, 36, 3, 0) := ⟨mo_36, mp_36, Or.inl (gw_4 229 (by decide +kernel)), ms_36⟩
theorem lk_109 (nm : String) (rt : Option FieldType) : lnk' RX9 nm rt (.invokevirtual 115, 37, 2, 0) := ⟨mo_37, ⟨_, rfl, mp_37⟩, mc_37, gw_4 232 (by decide +kernel), mv_37, mi_37⟩
theorem lk_110 (nm : String) (rt : Option FieldType) : lnk' RX9 nm rt (.invokevirtual 119, 38, 1, 0) := ⟨mo_38, ⟨_, rfl, mp_38⟩, mc_38, gw_4 236 (by decide +kernel), mv_38, mi_38⟩
theorem lk_111 (nm : String) (rt : Option FieldType) : lnk' RX9 nm rt (.invokevirtual 122, 39, 2, 0) := ⟨mo_39, ⟨_, rfl, mp_39⟩, mc_39, gw_5 0 (by decide +kernel), mv_39, mi_39⟩
theorem lk_112 (nm : String) (rt : Option FieldType) : lnk' RX9 nm rt (.invokevirtual 125, 41, 2, 0) := ⟨mo_41, ⟨_, rfl, mp_41⟩, mc_41, gw_5 8 (by decide +kernel), mv_41, mi_41⟩
theorem lk_113 (nm : String) (rt : Option FieldType) : lnk' RX9 nm rt (.invokevirtual 129, 40, 2, 0) := ⟨mo_40, ⟨_, rfl, mp_40⟩, mc_40, gw_5 12 (by decide +kernel), mv_40, mi_40⟩
theorem lk_114 (nm : String) (rt : Option FieldType) : lnk' RX9 nm rt (.ldc 133, 0, 0, 999999) := ⟨in_R (by decide), gw_has (by decide +kernel)⟩
theorem lk_115 (nm : String) (rt : Option FieldType) : lnk' RX9 nm rt (.ldc2_w 134, 0, 0, 1103515245) := ⟨in_RL (by decide), gw_has (by decide +kernel)⟩
theorem lk_116 (nm : String) (rt : Option FieldType) : lnk' RX9 nm rt (.ldc2_w 136, 0, 0, 12345) := ⟨in_RL (by decide), gw_has (by decide +kernel)⟩
theorem lk_117 (nm : String) (rt : Option FieldType) : lnk' RX9 nm rt (.ldc2_w 138, 0, 0, 2147483648) := ⟨in_RL (by decide), gw_has (by decide +kernel)⟩
theorem lk_118 (nm : String) (rt : Option FieldType) : lnk' RX9 nm rt (.ldc2_w 140, 0, 0, 65536) := ⟨in_RL (by decide), gw_has (by decide +kernel)⟩
theorem lk_119 (nm : String) (rt : Option FieldType) : lnk' RX9 nm rt (.invokestatic 142, 47, 1, 0) := ⟨mo_47, mp_47, Or.inl (gw_5 37 (by decide +kernel)), ms_47⟩
theorem lk_120 (nm : String) (rt : Option FieldType) : lnk' RX9 nm rt (.invokestatic 145, 48, 1, 0) := ⟨mo_48, mp_48, Or.inl (gw_5 40 (by decide +kernel)), ms_48⟩
theorem lk_121 (nm : String) (rt : Option FieldType) : lnk' RX9 nm rt (.getfield 28, 9, 8, 1) := ⟨_, rfl, by decide, gw_4 97 (by decide +kernel), by decide +kernel⟩
theorem lk_122 (nm : String) (rt : Option FieldType) : lnk' RX9 nm rt (.getfield 148, 9, 9, 0) := ⟨_, rfl, by decide, gw_4 98 (by decide +kernel), by decide +kernel⟩
theorem lk_123 (nm : String) (rt : Option FieldType) : lnk' RX9 nm rt (.getfield 34, 9, 14, 1) := ⟨_, rfl, by decide, gw_4 103 (by decide +kernel), by decide +kernel⟩
theorem lk_124 (nm : String) (rt : Option FieldType) : lnk' RX9 nm rt (.invokevirtual 151, 52, 5, 0) := ⟨mo_52, ⟨_, rfl, mp_52⟩, mc_52, gw_5 79 (by decide +kernel), mv_52, mi_52⟩
theorem lk_125 (nm : String) (rt : Option FieldType) : lnk' RX9 nm rt (.getfield 155, 9, 12, 2) := ⟨_, rfl, by decide, gw_4 101 (by decide +kernel), by decide +kernel⟩
theorem lk_126 (nm : String) (rt : Option FieldType) : lnk' RX9 nm rt (.ldc 158, 0, 0, 100000000) := ⟨in_R (by decide), gw_has (by decide +kernel)⟩
theorem lk_127 (nm : String) (rt : Option FieldType) : lnk' RX9 nm rt (.invokevirtual 159, 53, 2, 0) := ⟨mo_53, ⟨_, rfl, mp_53⟩, mc_53, gw_5 83 (by decide +kernel), mv_53, mi_53⟩
theorem lk_128 (nm : String) (rt : Option FieldType) : lnk' RX9 nm rt (.getfield 31, 9, 13, 1) := ⟨_, rfl, by decide, gw_4 102 (by decide +kernel), by decide +kernel⟩
theorem lk_129 (nm : String) (rt : Option FieldType) : lnk' RX9 nm rt (.invokevirtual 162, 55, 4, 0) := ⟨mo_55, ⟨_, rfl, mp_55⟩, mc_55, gw_5 87 (by decide +kernel), mv_55, mi_55⟩
theorem lk_130 (nm : String) (rt : Option FieldType) : lnk' RX9 nm rt (.invokevirtual 166, 56, 4, 0) := ⟨mo_56, ⟨_, rfl, mp_56⟩, mc_56, gw_5 103 (by decide +kernel), mv_56, mi_56⟩
theorem lk_131 (nm : String) (rt : Option FieldType) : lnk' RX9 nm rt (.getfield 169, 9, 11, 0) := ⟨_, rfl, by decide, gw_4 100 (by decide +kernel), by decide +kernel⟩
theorem lk_132 (nm : String) (rt : Option FieldType) : lnk' RX9 nm rt (.invokevirtual 172, 58, 3, 0) := ⟨mo_58, ⟨_, rfl, mp_58⟩, mc_58, gw_5 91 (by decide +kernel), mv_58, mi_58⟩
theorem lk_133 (nm : String) (rt : Option FieldType) : lnk' RX9 nm rt (.invokevirtual 176, 57, 5, 0) := ⟨mo_57, ⟨_, rfl, mp_57⟩, mc_57, gw_5 99 (by decide +kernel), mv_57, mi_57⟩
theorem lk_134 (nm : String) (rt : Option FieldType) : lnk' RX9 nm rt (.getfield 85, 9, 34, 1) := ⟨_, rfl, by decide, gw_4 123 (by decide +kernel), by decide +kernel⟩
theorem lk_135 (nm : String) (rt : Option FieldType) : lnk' RX9 nm rt (.invokevirtual 179, 54, 4, 0) := ⟨mo_54, ⟨_, rfl, mp_54⟩, mc_54, gw_5 75 (by decide +kernel), mv_54, mi_54⟩
theorem lk_136 (nm : String) (rt : Option FieldType) : lnk' RX9 nm rt (.invokevirtual 183, 59, 4, 0) := ⟨mo_59, ⟨_, rfl, mp_59⟩, mc_59, gw_5 95 (by decide +kernel), mv_59, mi_59⟩
theorem lk_137 (nm : String) (rt : Option FieldType) : lnk' RX9 nm rt (.invokestatic 186, 51, 1, 0) := ⟨mo_51, mp_51, Or.inl (gw_5 68 (by decide +kernel)), ms_51⟩
theorem lk_138 (nm : String) (rt : Option FieldType) : lnk' RX9 nm rt (.invokevirtual 189, 60, 5, 0) := ⟨mo_60, ⟨_, rfl, mp_60⟩, mc_60, gw_5 71 (by decide +kernel), mv_60, mi_60⟩
theorem lk_139 (nm : String) (rt : Option FieldType) : lnk' RX9 nm rt (.getfield 193, 9, 10, 0) := ⟨_, rfl, by decide, gw_4 99 (by decide +kernel), by decide +kernel⟩
theorem lk_140 (nm : String) (rt : Option FieldType) : lnk' RX9 nm rt (.getfield 52, 9, 21, 1) := ⟨_, rfl, by decide, gw_4 110 (by decide +kernel), by decide +kernel⟩
theorem lk_141 (nm : String) (rt : Option FieldType) : lnk' RX9 nm rt (.getfield 46, 9, 19, 1) := ⟨_, rfl, by decide, gw_4 108 (by decide +kernel), by decide +kernel⟩
theorem lk_142 (nm : String) (rt : Option FieldType) : lnk' RX9 nm rt (.getfield 55, 9, 22, 1) := ⟨_, rfl, by decide, gw_4 111 (by decide +kernel), by decide +kernel⟩
theorem lk_143 (nm : String) (rt : Option FieldType) : lnk' RX9 nm rt (.getfield 49, 9, 20, 1) := ⟨_, rfl, by decide, gw_4 109 (by decide +kernel), by decide +kernel⟩
theorem lk_144 (nm : String) (rt : Option FieldType) : lnk' RX9 nm rt (.getfield 196, 9, 18, 0) := ⟨_, rfl, by decide, gw_4 107 (by decide +kernel), by decide +kernel⟩
theorem lk_145 (nm : String) (rt : Option FieldType) : lnk' RX9 nm rt (.invokevirtual 199, 64, 1, 0) := ⟨mo_64, ⟨_, rfl, mp_64⟩, mc_64, gw_5 119 (by decide +kernel), mv_64, mi_64⟩
theorem lk_146 (nm : String) (rt : Option FieldType) : lnk' RX9 nm rt (.putfield 196, 9, 18, 0) := ⟨_, rfl, by decide, gw_4 107 (by decide +kernel), by decide +kernel, fun _ => ⟨by decide +kernel, rfl⟩, fun h => absurd h (by decide), fun h => absurd h (by decide)⟩
theorem lk_147 (nm : String) (rt : Option FieldType) : lnk' RX9 nm rt (.getfield 40, 9, 16, 1) := ⟨_, rfl, by decide, gw_4 105 (by decide +kernel), by decide +kernel⟩
theorem lk_148 (nm : String) (rt : Option FieldType) : lnk' RX9 nm rt (.getfield 43, 9, 17, 1) := ⟨_, rfl, by decide, gw_4 106 (by decide +kernel), by decide +kernel⟩
theorem lk_149 (nm : String) (rt : Option FieldType) : lnk' RX9 nm rt (.invokevirtual 203, 65, 2, 0) := ⟨mo_65, ⟨_, rfl, mp_65⟩, mc_65, gw_5 115 (by decide +kernel), mv_65, mi_65⟩
theorem lk_150 (nm : String) (rt : Option FieldType) : lnk' RX9 nm rt (.invokevirtual 206, 66, 2, 0) := ⟨mo_66, ⟨_, rfl, mp_66⟩, mc_66, gw_5 127 (by decide +kernel), mv_66, mi_66⟩
theorem lk_151 (nm : String) (rt : Option FieldType) : lnk' RX9 nm rt (.invokevirtual 210, 62, 2, 0) := ⟨mo_62, ⟨_, rfl, mp_62⟩, mc_62, gw_5 60 (by decide +kernel), mv_62, mi_62⟩
theorem lk_152 (nm : String) (rt : Option FieldType) : lnk' RX9 nm rt (.invokevirtual 213, 61, 3, 0) := ⟨mo_61, ⟨_, rfl, mp_61⟩, mc_61, gw_5 64 (by decide +kernel), mv_61, mi_61⟩
theorem lk_153 (nm : String) (rt : Option FieldType) : lnk' RX9 nm rt (.invokevirtual 217, 63, 3, 0) := ⟨mo_63, ⟨_, rfl, mp_63⟩, mc_63, gw_5 107 (by decide +kernel), mv_63, mi_63⟩
theorem lk_154 (nm : String) (rt : Option FieldType) : lnk' RX9 nm rt (.invokevirtual 221, 67, 2, 0) := ⟨mo_67, ⟨_, rfl, mp_67⟩, mc_67, gw_5 111 (by decide +kernel), mv_67, mi_67⟩
theorem lk_155 (nm : String) (rt : Option FieldType) : lnk' RX9 nm rt (.invokevirtual 224, 68, 3, 0) := ⟨mo_68, ⟨_, rfl, mp_68⟩, mc_68, gw_5 131 (by decide +kernel), mv_68, mi_68⟩
theorem lk_156 (nm : String) (rt : Option FieldType) : lnk' RX9 nm rt (.putfield 148, 9, 9, 0) := ⟨_, rfl, by decide, gw_4 98 (by decide +kernel), by decide +kernel, fun _ => ⟨by decide +kernel, rfl⟩, fun h => absurd h (by decide), fun h => absurd h (by decide)⟩
theorem lk_157 (nm : String) (rt : Option FieldType) : lnk' RX9 nm rt (.putfield 193, 9, 10, 0) := ⟨_, rfl, by decide, gw_4 99 (by decide +kernel), by decide +kernel, fun _ => ⟨by decide +kernel, rfl⟩, fun h => absurd h (by decide), fun h => absurd h (by decide)⟩
theorem lk_158 (nm : String) (rt : Option FieldType) : lnk' RX9 nm rt (.putfield 169, 9, 11, 0) := ⟨_, rfl, by decide, gw_4 100 (by decide +kernel), by decide +kernel, fun _ => ⟨by decide +kernel, rfl⟩, fun h => absurd h (by decide), fun h => absurd h (by decide)⟩
theorem lk_159 (nm : String) (rt : Option FieldType) : lnk' RX9 nm rt (.putfield 155, 9, 12, 2) := ⟨_, rfl, by decide, gw_4 101 (by decide +kernel), by decide +kernel, fun h => absurd h (by decide), fun _ => ⟨by decide +kernel, rfl⟩, fun h => absurd h (by decide)⟩
theorem lk_160 (nm : String) (rt : Option FieldType) : lnk' RX9 nm rt (.invokevirtual 227, 69, 2, 0) := ⟨mo_69, ⟨_, rfl, mp_69⟩, mc_69, gw_5 123 (by decide +kernel), mv_69, mi_69⟩
theorem lk_161 (nm : String) (rt : Option FieldType) : lnk' RX9 nm rt (.getfield 73, 9, 29, 1) := ⟨_, rfl, by decide, gw_4 118 (by decide +kernel), by decide +kernel⟩
theorem lk_162 (nm : String) (rt : Option FieldType) : lnk' RX9 nm rt (.getfield 230, 9, 33, 0) := ⟨_, rfl, by decide, gw_4 122 (by decide +kernel), by decide +kernel⟩
theorem lk_163 (nm : String) (rt : Option FieldType) : lnk' RX9 nm rt (.getfield 76, 9, 30, 1) := ⟨_, rfl, by decide, gw_4 119 (by decide +kernel), by decide +kernel⟩
theorem lk_164 (nm : String) (rt : Option FieldType) : lnk' RX9 nm rt (.getfield 79, 9, 31, 1) := ⟨_, rfl, by decide, gw_4 120 (by decide +kernel), by decide +kernel⟩
theorem lk_165 (nm : String) (rt : Option FieldType) : lnk' RX9 nm rt (.getfield 82, 9, 32, 1) := ⟨_, rfl, by decide, gw_4 121 (by decide +kernel), by decide +kernel⟩
theorem lk_166 (nm : String) (rt : Option FieldType) : lnk' RX9 nm rt (.putfield 230, 9, 33, 0) := ⟨_, rfl, by decide, gw_4 122 (by decide +kernel), by decide +kernel, fun _ => ⟨by decide +kernel, rfl⟩, fun h => absurd h (by decide), fun h => absurd h (by decide)⟩
theorem lk_167 (nm : String) (rt : Option FieldType) : lnk' RX9 nm rt (.getfield 58, 9, 24, 1) := ⟨_, rfl, by decide, gw_4 113 (by decide +kernel), by decide +kernel⟩
theorem lk_168 (nm : String) (rt : Option FieldType) : lnk' RX9 nm rt (.getfield 61, 9, 25, 1) := ⟨_, rfl, by decide, gw_4 114 (by decide +kernel), by decide +kernel⟩
theorem lk_169 (nm : String) (rt : Option FieldType) : lnk' RX9 nm rt (.getfield 233, 9, 35, 0) := ⟨_, rfl, by decide, gw_4 124 (by decide +kernel), by decide +kernel⟩
theorem lk_170 (nm : String) (rt : Option FieldType) : lnk' RX9 nm rt (.getfield 236, 9, 36, 0) := ⟨_, rfl, by decide, gw_4 125 (by decide +kernel), by decide +kernel⟩
theorem lk_171 (nm : String) (rt : Option FieldType) : lnk' RX9 nm rt (.invokevirtual 239, 72, 3, 0) := ⟨mo_72, ⟨_, rfl, mp_72⟩, mc_72, gw_5 143 (by decide +kernel), mv_72, mi_72⟩
theorem lk_172 (nm : String) (rt : Option FieldType) : lnk' RX9 nm rt (.getfield 64, 9, 26, 1) := ⟨_, rfl, by decide, gw_4 115 (by decide +kernel), by decide +kernel⟩
theorem lk_173 (nm : String) (rt : Option FieldType) : lnk' RX9 nm rt (.getfield 70, 9, 28, 1) := ⟨_, rfl, by decide, gw_4 117 (by decide +kernel), by decide +kernel⟩
theorem lk_174 (nm : String) (rt : Option FieldType) : lnk' RX9 nm rt (.getfield 67, 9, 27, 1) := ⟨_, rfl, by decide, gw_4 116 (by decide +kernel), by decide +kernel⟩
theorem lk_175 (nm : String) (rt : Option FieldType) : lnk' RX9 nm rt (.invokevirtual 242, 71, 5, 0) := ⟨mo_71, ⟨_, rfl, mp_71⟩, mc_71, gw_5 139 (by decide +kernel), mv_71, mi_71⟩
theorem lk_176 (nm : String) (rt : Option FieldType) : lnk' RX9 nm rt (.invokevirtual 245, 73, 5, 0) := ⟨mo_73, ⟨_, rfl, mp_73⟩, mc_73, gw_5 147 (by decide +kernel), mv_73, mi_73⟩
theorem lk_177 (nm : String) (rt : Option FieldType) : lnk' RX9 nm rt (.invokevirtual 248, 74, 6, 0) := ⟨mo_74, ⟨_, rfl, mp_74⟩, mc_74, gw_5 151 (by decide +kernel), mv_74, mi_74⟩
theorem lk_178 (nm : String) (rt : Option FieldType) : lnk' RX9 nm rt (.invokevirtual 252, 75, 7, 0) := ⟨mo_75, ⟨_, rfl, mp_75⟩, mc_75, gw_5 155 (by decide +kernel), mv_75, mi_75⟩
theorem lk_179 (nm : String) (rt : Option FieldType) : lnk' RX9 nm rt (.getfield 107, 9, 23, 2) := ⟨_, rfl, by decide, gw_4 112 (by decide +kernel), by decide +kernel⟩
theorem lk_180 (nm : String) (rt : Option FieldType) : lnk' RX9 nm rt (.invokevirtual 256, 70, 5, 0) := ⟨mo_70, ⟨_, rfl, mp_70⟩, mc_70, gw_5 55 (by decide +kernel), mv_70, mi_70⟩
theorem lk_181 (nm : String) (rt : Option FieldType) : lnk' RX9 nm rt (.putfield 260, 9, 37, 0) := ⟨_, rfl, by decide, gw_4 126 (by decide +kernel), by decide +kernel, fun _ => ⟨by decide +kernel, rfl⟩, fun h => absurd h (by decide), fun h => absurd h (by decide)⟩
theorem lk_182 (nm : String) (rt : Option FieldType) : lnk' RX9 nm rt (.putfield 233, 9, 35, 0) := ⟨_, rfl, by decide, gw_4 124 (by decide +kernel), by decide +kernel, fun _ => ⟨by decide +kernel, rfl⟩, fun h => absurd h (by decide), fun h => absurd h (by decide)⟩
theorem lk_183 (nm : String) (rt : Option FieldType) : lnk' RX9 nm rt (.putfield 236, 9, 36, 0) := ⟨_, rfl, by decide, gw_4 125 (by decide +kernel), by decide +kernel, fun _ => ⟨by decide +kernel, rfl⟩, fun h => absurd h (by decide), fun h => absurd h (by decide)⟩
theorem lk_184 (nm : String) (rt : Option FieldType) : lnk' RX9 nm rt (.invokevirtual 263, 76, 4, 0) := ⟨mo_76, ⟨_, rfl, mp_76⟩, mc_76, gw_5 135 (by decide +kernel), mv_76, mi_76⟩
theorem lk_185 (nm : String) (rt : Option FieldType) : lnk' RX9 nm rt (.invokevirtual 266, 77, 1, 0) := ⟨mo_77, ⟨_, rfl, mp_77⟩, mc_77, gw_5 51 (by decide +kernel), mv_77, mi_77⟩
theorem lk_186 (nm : String) (rt : Option FieldType) : lnk' RX9 nm rt (.getfield 260, 9, 37, 0) := ⟨_, rfl, by decide, gw_4 126 (by decide +kernel), by decide +kernel⟩
theorem lk_187 (nm : String) (rt : Option FieldType) : lnk' RX9 nm rt (.invokevirtual 269, 79, 2, 0) := ⟨mo_79, ⟨_, rfl, mp_79⟩, mc_79, gw_5 163 (by decide +kernel), mv_79, mi_79⟩
theorem lk_188 (nm : String) (rt : Option FieldType) : lnk' RX9 nm rt (.getfield 272, 9, 5, 0) := ⟨_, rfl, by decide, gw_4 94 (by decide +kernel), by decide +kernel⟩
theorem lk_189 (nm : String) (rt : Option FieldType) : lnk' RX9 nm rt (.getfield 19, 9, 4, 1) := ⟨_, rfl, by decide, gw_4 93 (by decide +kernel), by decide +kernel⟩
theorem lk_190 (nm : String) (rt : Option FieldType) : lnk' RX9 nm rt (.putfield 272, 9, 5, 0) := ⟨_, rfl, by decide, gw_4 94 (by decide +kernel), by decide +kernel, fun _ => ⟨by decide +kernel, rfl⟩, fun h => absurd h (by decide), fun h => absurd h (by decide)⟩
theorem lk_191 (nm : String) (rt : Option FieldType) : lnk' RX9 nm rt (.getfield 97, 9, 43, 1) := ⟨_, rfl, by decide, gw_4 132 (by decide +kernel), by decide +kernel⟩
theorem lk_192 (nm : String) (rt : Option FieldType) : lnk' RX9 nm rt (.getfield 275, 9, 42, 0) := ⟨_, rfl, by decide, gw_4 131 (by decide +kernel), by decide +kernel⟩
theorem lk_193 (nm : String) (rt : Option FieldType) : lnk' RX9 nm rt (.getfield 100, 9, 44, 1) := ⟨_, rfl, by decide, gw_4 133 (by decide +kernel), by decide +kernel⟩
theorem lk_194 (nm : String) (rt : Option FieldType) : lnk' RX9 nm rt (.getfield 278, 9, 41, 0) := ⟨_, rfl, by decide, gw_4 130 (by decide +kernel), by decide +kernel⟩
theorem lk_195 (nm : String) (rt : Option FieldType) : lnk' RX9 nm rt (.putfield 275, 9, 42, 0) := ⟨_, rfl, by decide, gw_4 131 (by decide +kernel), by decide +kernel, fun _ => ⟨by decide +kernel, rfl⟩, fun h => absurd h (by decide), fun h => absurd h (by decide)⟩
theorem lk_196 (nm : String) (rt : Option FieldType) : lnk' RX9 nm rt (.putfield 278, 9, 41, 0) := ⟨_, rfl, by decide, gw_4 130 (by decide +kernel), by decide +kernel, fun _ => ⟨by decide +kernel, rfl⟩, fun h => absurd h (by decide), fun h => absurd h (by decide)⟩
theorem lk_197 (nm : String) (rt : Option FieldType) : lnk' RX9 nm rt (.invokestatic 281, 90, 1, 0) := ⟨mo_90, mp_90, Or.inl (gw_5 211 (by decide +kernel)), ms_90⟩
theorem lk_198 (nm : String) (rt : Option FieldType) : lnk' RX9 nm rt (.getfield 94, 9, 40, 1) := ⟨_, rfl, by decide, gw_4 129 (by decide +kernel), by decide +kernel⟩
theorem lk_199 (nm : String) (rt : Option FieldType) : lnk' RX9 nm rt (.getfield 91, 9, 39, 1) := ⟨_, rfl, by decide, gw_4 128 (by decide +kernel), by decide +kernel⟩
theorem lk_200 (nm : String) (rt : Option FieldType) : lnk' RX9 nm rt (.getfield 88, 9, 38, 1) := ⟨_, rfl, by decide, gw_4 127 (by decide +kernel), by decide +kernel⟩
theorem lk_201 (nm : String) (rt : Option FieldType) : lnk' RX9 nm rt (.invokevirtual 284, 91, 3, 0) := ⟨mo_91, ⟨_, rfl, mp_91⟩, mc_91, gw_5 214 (by decide +kernel), mv_91, mi_91⟩
theorem lk_202 (nm : String) (rt : Option FieldType) : lnk' RX9 nm rt (.invokevirtual 287, 92, 1, 0) := ⟨mo_92, ⟨_, rfl, mp_92⟩, mc_92, gw_5 207 (by decide +kernel), mv_92, mi_92⟩
theorem lk_203 (nm : String) (rt : Option FieldType) : lnk' RX9 nm rt (.invokevirtual 291, 95, 2, 0) := ⟨mo_95, ⟨_, rfl, mp_95⟩, mc_95, gw_5 226 (by decide +kernel), mv_95, mi_95⟩
theorem lk_204 (nm : String) (rt : Option FieldType) : lnk' RX9 nm rt (.ldc2_w 294, 0, 0, 1772) := ⟨in_RL (by decide), gw_has (by decide +kernel)⟩
theorem lk_205 (nm : String) (rt : Option FieldType) : lnk' RX9 nm rt (.ldc2_w 296, 0, 0, 31) := ⟨in_RL (by decide), gw_has (by decide +kernel)⟩
theorem lk_206 (nm : String) (rt : Option FieldType) : lnk' RX0 nm rt (.invokespecial 3, 1005, 0, 0) := ⟨rfl, gw_has (by decide +kernel)⟩
theorem lk_207 (rt : Option FieldType) : lnk' RX0 "<init>" rt (.putfield 11, 0, 0, 1) := ⟨_, rfl, by decide, gw_1 59 (by decide +kernel), by decide +kernel, fun h => absurd h (by decide), fun h => absurd h (by decide), fun _ => ⟨⟨.array .int, by decide +kernel, Or.inr ⟨_, rfl⟩⟩, rfl, rfl, rfl⟩⟩
theorem lk_208 (nm : String) (rt : Option FieldType) : lnk' RX0 nm rt (.putfield 17, 0, 1, 0) := ⟨_, rfl, by decide, gw_1 60 (by decide +kernel), by decide +kernel, fun _ => ⟨by decide +kernel, rfl⟩, fun h => absurd h (by decide), fun h => absurd h (by decide)⟩
theorem lk_209 (nm : String) (rt : Option FieldType) : lnk' RX0 nm rt (.putfield 21, 0, 2, 0) := ⟨_, rfl, by decide, gw_1 61 (by decide +kernel), by decide +kernel, fun _ => ⟨by decide +kernel, rfl⟩, fun h => absurd h (by decide), fun h => absurd h (by decide)⟩
theorem lk_210 (nm : String) (rt : Option FieldType) : lnk' RX0 nm rt (.getfield 11, 0, 0, 1) := ⟨_, rfl, by decide, gw_1 59 (by decide +kernel), by decide +kernel⟩
theorem lk_211 (nm : String) (rt : Option FieldType) : lnk' RX0 nm rt (.getfield 17, 0, 1, 0) := ⟨_, rfl, by decide, gw_1 60 (by decide +kernel), by decide +kernel⟩
theorem lk_212 (nm : String) (rt : Option FieldType) : lnk' RX0 nm rt (.invokevirtual 24, 107, 3, 0) := ⟨mo_107, ⟨_, rfl, mp_107⟩, mc_107, gw_2 126 (by decide +kernel), mv_107, mi_107⟩
theorem lk_213 (nm : String) (rt : Option FieldType) : lnk' RX0 nm rt (.getfield 21, 0, 2, 0) := ⟨_, rfl, by decide, gw_1 61 (by decide +kernel), by decide +kernel⟩
theorem lk_214 (nm : String) (rt : Option FieldType) : lnk' RX0 nm rt (.invokestatic 28, 1001, 0, 0) := Or.inr (Or.inl ⟨rfl, gw_has (by decide +kernel)⟩)
theorem lk_215 (nm : String) (rt : Option FieldType) : lnk' RX0 nm rt (.invokevirtual 34, 108, 3, 0) := ⟨mo_108, ⟨_, rfl, mp_108⟩, mc_108, gw_4 65 (by decide +kernel), mv_108, mi_108⟩
theorem lk_216 (nm : String) (rt : Option FieldType) : lnk' RX1 nm rt (.invokespecial 3, 1005, 0, 0) := ⟨rfl, gw_has (by decide +kernel)⟩
theorem lk_217 (rt : Option FieldType) : lnk' RX1 "<init>" rt (.putfield 9, 1, 0, 1) := ⟨_, rfl, by decide, gw_1 36 (by decide +kernel), by decide +kernel, fun h => absurd h (by decide), fun h => absurd h (by decide), fun _ => ⟨⟨.array .int, by decide +kernel, Or.inr ⟨_, rfl⟩⟩, rfl, rfl, rfl⟩⟩
theorem lk_218 (rt : Option FieldType) : lnk' RX1 "<init>" rt (.putfield 15, 1, 1, 1) := ⟨_, rfl, by decide, gw_1 39 (by decide +kernel), by decide +kernel, fun h => absurd h (by decide), fun h => absurd h (by decide), fun _ => ⟨⟨.array .int, by decide +kernel, Or.inr ⟨_, rfl⟩⟩, rfl, rfl, rfl⟩⟩
theorem lk_219 (nm : String) (rt : Option FieldType) : lnk' RX1 nm rt (.putfield 18, 1, 2, 0) := ⟨_, rfl, by decide, gw_1 42 (by decide +kernel), by decide +kernel, fun _ => ⟨by decide +kernel, rfl⟩, fun h => absurd h (by decide), fun h => absurd h (by decide)⟩
theorem lk_220 (nm : String) (rt : Option FieldType) : lnk' RX1 nm rt (.getstatic 22, 4, 0, 0) := ⟨_, _, rfl, by decide, Or.inr ⟨"PlayedWritten", nw_has (by decide +kernel)⟩⟩
theorem lk_221 (nm : String) (rt : Option FieldType) : lnk' RX1 nm rt (.getfield 15, 1, 1, 1) := ⟨_, rfl, by decide, gw_1 39 (by decide +kernel), by decide +kernel⟩
theorem lk_222 (nm : String) (rt : Option FieldType) : lnk' RX1 nm rt (.invokestatic 25, 1000, 0, 0) := Or.inl ⟨rfl, gw_has (by decide +kernel)⟩
theorem lk_223 (nm : String) (rt : Option FieldType) : lnk' RX1 nm rt (.getfield 18, 1, 2, 0) := ⟨_, rfl, by decide, gw_1 42 (by decide +kernel), by decide +kernel⟩
theorem lk_224 (nm : String) (rt : Option FieldType) : lnk' RX1 nm rt (.getfield 9, 1, 0, 1) := ⟨_, rfl, by decide, gw_1 36 (by decide +kernel), by decide +kernel⟩
theorem lk_225 (nm : String) (rt : Option FieldType) : lnk' RX1 nm rt (.invokestatic 31, 30, 3, 0) := ⟨mo_30, mp_30, Or.inr ⟨"PlayedWritten", nw_has (by decide +kernel)⟩, ms_30⟩
theorem lk_226 (nm : String) (rt : Option FieldType) : lnk' RX1 nm rt (.ldc2_w 35, 0, 0, 1103515245) := ⟨in_RL (by decide), gw_has (by decide +kernel)⟩
theorem lk_227 (nm : String) (rt : Option FieldType) : lnk' RX1 nm rt (.ldc2_w 37, 0, 0, 12345) := ⟨in_RL (by decide), gw_has (by decide +kernel)⟩
theorem lk_228 (nm : String) (rt : Option FieldType) : lnk' RX1 nm rt (.ldc2_w 39, 0, 0, 2147483648) := ⟨in_RL (by decide), gw_has (by decide +kernel)⟩
theorem lk_229 (nm : String) (rt : Option FieldType) : lnk' RX1 nm rt (.ldc2_w 41, 0, 0, 65536) := ⟨in_RL (by decide), gw_has (by decide +kernel)⟩
theorem lk_230 (nm : String) (rt : Option FieldType) : lnk' RX1 nm rt (.invokevirtual 43, 102, 2, 0) := ⟨mo_102, ⟨_, rfl, mp_102⟩, mc_102, gw_2 169 (by decide +kernel), mv_102, mi_102⟩
theorem lk_231 (nm : String) (rt : Option FieldType) : lnk' RX1 nm rt (.invokestatic 47, 1001, 0, 0) := Or.inr (Or.inl ⟨rfl, gw_has (by decide +kernel)⟩)
theorem lk_232 (nm : String) (rt : Option FieldType) : lnk' RX1 nm rt (.invokestatic 53, 1002, 0, 0) := Or.inr (Or.inr (Or.inl ⟨rfl, gw_has (by decide +kernel)⟩))
theorem lk_233 (nm : String) (rt : Option FieldType) : lnk' RX1 nm rt (.getfield 56, 3, 4, 0) := ⟨_, rfl, by decide, gw_1 84 (by decide +kernel), by decide +kernel⟩
theorem lk_234 (nm : String) (rt : Option FieldType) : lnk' RX1 nm rt (.getfield 61, 3, 5, 0) := ⟨_, rfl, by decide, gw_1 86 (by decide +kernel), by decide +kernel⟩
theorem lk_235 (nm : String) (rt : Option FieldType) : lnk' RX1 nm rt (.getfield 64, 3, 2, 1) := ⟨_, rfl, by decide, gw_1 80 (by decide +kernel), by decide +kernel⟩
theorem lk_236 (nm : String) (rt : Option FieldType) : lnk' RX1 nm rt (.getfield 67, 3, 3, 1) := ⟨_, rfl, by decide, gw_1 82 (by decide +kernel), by decide +kernel⟩
theorem lk_237 (nm : String) (rt : Option FieldType) : lnk' RX2 nm rt (.invokespecial 3, 1005, 0, 0) := ⟨rfl, gw_has (by decide +kernel)⟩
theorem lk_238 (nm : String) (rt : Option FieldType) : lnk' RX2 nm rt (.new 9, 5, 0, 0) := ⟨_, rfl, gw_has (by decide +kernel), gw_has (by decide +kernel), gw_has (by decide +kernel)⟩
theorem lk_239 (nm : String) (rt : Option FieldType) : lnk' RX2 nm rt (.invokespecial 11, 137, 1, 0) := ⟨mo_137, ⟨_, rfl, mp_137⟩, Or.inr ⟨"PlayedWritten", nw_has (by decide +kernel)⟩, mi_137, rfl, rfl⟩
theorem lk_240 (rt : Option FieldType) : lnk' RX2 "<init>" rt (.putfield 12, 2, 0, 1) := ⟨_, rfl, by decide, gw_2 42 (by decide +kernel), by decide +kernel, fun h => absurd h (by decide), fun h => absurd h (by decide), fun _ => ⟨⟨.object "PlayedWritten$Tables", by decide +kernel, Or.inl ⟨_, rfl⟩⟩, rfl, rfl, rfl⟩⟩
theorem lk_241 (nm : String) (rt : Option FieldType) : lnk' RX2 nm rt (.getfield 12, 2, 0, 1) := ⟨_, rfl, by decide, gw_2 42 (by decide +kernel), by decide +kernel⟩
theorem lk_242 (nm : String) (rt : Option FieldType) : lnk' RX2 nm rt (.getfield 18, 5, 0, 1) := ⟨_, rfl, by decide, gw_2 14 (by decide +kernel), by decide +kernel⟩
theorem lk_243 (rt : Option FieldType) : lnk' RX2 "<init>" rt (.putfield 22, 2, 1, 1) := ⟨_, rfl, by decide, gw_2 43 (by decide +kernel), by decide +kernel, fun h => absurd h (by decide), fun h => absurd h (by decide), fun _ => ⟨⟨.object "PlayedWritten$Task", by decide +kernel, Or.inl ⟨_, rfl⟩⟩, rfl, rfl, rfl⟩⟩
theorem lk_244 (rt : Option FieldType) : lnk' RX2 "<init>" rt (.putfield 23, 2, 2, 1) := ⟨_, rfl, by decide, gw_2 45 (by decide +kernel), by decide +kernel, fun h => absurd h (by decide), fun h => absurd h (by decide), fun _ => ⟨⟨.array .int, by decide +kernel, Or.inr ⟨_, rfl⟩⟩, rfl, rfl, rfl⟩⟩
theorem lk_245 (rt : Option FieldType) : lnk' RX2 "<init>" rt (.putfield 27, 2, 3, 1) := ⟨_, rfl, by decide, gw_2 46 (by decide +kernel), by decide +kernel, fun h => absurd h (by decide), fun h => absurd h (by decide), fun _ => ⟨⟨.array .int, by decide +kernel, Or.inr ⟨_, rfl⟩⟩, rfl, rfl, rfl⟩⟩
theorem lk_246 (nm : String) (rt : Option FieldType) : lnk' RX2 nm rt (.getfield 22, 2, 1, 1) := ⟨_, rfl, by decide, gw_2 43 (by decide +kernel), by decide +kernel⟩
theorem lk_247 (nm : String) (rt : Option FieldType) : lnk' RX2 nm rt (.getfield 30, 6, 5, 0) := ⟨_, rfl, by decide, gw_1 146 (by decide +kernel), by decide +kernel⟩
theorem lk_248 (nm : String) (rt : Option FieldType) : lnk' RX2 nm rt (.invokevirtual 36, 112, 1, 0) := ⟨mo_112, ⟨_, rfl, mp_112⟩, mc_112, gw_2 224 (by decide +kernel), mv_112, mi_112⟩
theorem lk_249 (nm : String) (rt : Option FieldType) : lnk' RX2 nm rt (.invokevirtual 40, 116, 4, 0) := ⟨mo_116, ⟨_, rfl, mp_116⟩, mc_116, gw_2 228 (by decide +kernel), mv_116, mi_116⟩
theorem lk_250 (nm : String) (rt : Option FieldType) : lnk' RX2 nm rt (.invokevirtual 44, 118, 5, 0) := ⟨mo_118, ⟨_, rfl, mp_118⟩, mc_118, gw_3 44 (by decide +kernel), mv_118, mi_118⟩
theorem lk_251 (nm : String) (rt : Option FieldType) : lnk' RX2 nm rt (.invokevirtual 48, 120, 5, 0) := ⟨mo_120, ⟨_, rfl, mp_120⟩, mc_120, gw_3 71 (by decide +kernel), mv_120, mi_120⟩
theorem lk_252 (nm : String) (rt : Option FieldType) : lnk' RX2 nm rt (.invokevirtual 51, 113, 3, 0) := ⟨mo_113, ⟨_, rfl, mp_113⟩, mc_113, gw_2 232 (by decide +kernel), mv_113, mi_113⟩
theorem lk_253 (nm : String) (rt : Option FieldType) : lnk' RX2 nm rt (.invokevirtual 55, 114, 2, 0) := ⟨mo_114, ⟨_, rfl, mp_114⟩, mc_114, gw_2 236 (by decide +kernel), mv_114, mi_114⟩
theorem lk_254 (nm : String) (rt : Option FieldType) : lnk' RX2 nm rt (.invokevirtual 59, 138, 3, 0) := ⟨mo_138, ⟨_, rfl, mp_138⟩, mc_138, gw_3 0 (by decide +kernel), mv_138, mi_138⟩
theorem lk_255 (nm : String) (rt : Option FieldType) : lnk' RX2 nm rt (.invokevirtual 63, 115, 4, 0) := ⟨mo_115, ⟨_, rfl, mp_115⟩, mc_115, gw_3 40 (by decide +kernel), mv_115, mi_115⟩
theorem lk_256 (nm : String) (rt : Option FieldType) : lnk' RX2 nm rt (.invokevirtual 66, 121, 5, 0) := ⟨mo_121, ⟨_, rfl, mp_121⟩, mc_121, gw_3 75 (by decide +kernel), mv_121, mi_121⟩
theorem lk_257 (nm : String) (rt : Option FieldType) : lnk' RX2 nm rt (.invokevirtual 69, 164, 6, 0) := ⟨mo_164, ⟨_, rfl, mp_164⟩, mc_164, gw_3 79 (by decide +kernel), mv_164, mi_164⟩
theorem lk_258 (nm : String) (rt : Option FieldType) : lnk' RX2 nm rt (.invokestatic 75, 1003, 0, 0) := Or.inr (Or.inr (Or.inr ⟨rfl, gw_has (by decide +kernel)⟩))
theorem lk_259 (nm : String) (rt : Option FieldType) : lnk' RX2 nm rt (.getfield 80, 6, 7, 0) := ⟨_, rfl, by decide, gw_1 150 (by decide +kernel), by decide +kernel⟩
theorem lk_260 (nm : String) (rt : Option FieldType) : lnk' RX2 nm rt (.invokevirtual 83, 165, 2, 0) := ⟨mo_165, ⟨_, rfl, mp_165⟩, mc_165, gw_3 83 (by decide +kernel), mv_165, mi_165⟩
theorem lk_261 (nm : String) (rt : Option FieldType) : lnk' RX2 nm rt (.invokevirtual 87, 139, 1, 0) := ⟨mo_139, ⟨_, rfl, mp_139⟩, mc_139, gw_3 58 (by decide +kernel), mv_139, mi_139⟩
theorem lk_262 (nm : String) (rt : Option FieldType) : lnk' RX2 nm rt (.invokevirtual 90, 122, 6, 0) := ⟨mo_122, ⟨_, rfl, mp_122⟩, mc_122, gw_3 87 (by decide +kernel), mv_122, mi_122⟩
theorem lk_263 (nm : String) (rt : Option FieldType) : lnk' RX2 nm rt (.getfield 94, 6, 6, 0) := ⟨_, rfl, by decide, gw_1 148 (by decide +kernel), by decide +kernel⟩
theorem lk_264 (nm : String) (rt : Option FieldType) : lnk' RX2 nm rt (.getfield 97, 6, 4, 0) := ⟨_, rfl, by decide, gw_1 143 (by decide +kernel), by decide +kernel⟩
theorem lk_265 (nm : String) (rt : Option FieldType) : lnk' RX2 nm rt (.getfield 27, 2, 3, 1) := ⟨_, rfl, by decide, gw_2 46 (by decide +kernel), by decide +kernel⟩
theorem lk_266 (nm : String) (rt : Option FieldType) : lnk' RX2 nm rt (.invokestatic 100, 117, 3, 0) := ⟨mo_117, mp_117, Or.inl (gw_3 54 (by decide +kernel)), ms_117⟩
theorem lk_267 (nm : String) (rt : Option FieldType) : lnk' RX2 nm rt (.ldc 104, 0, 0, 100000000) := ⟨in_R (by decide), gw_has (by decide +kernel)⟩
theorem lk_268 (nm : String) (rt : Option FieldType) : lnk' RX2 nm rt (.invokevirtual 105, 140, 4, 0) := ⟨mo_140, ⟨_, rfl, mp_140⟩, mc_140, gw_3 62 (by decide +kernel), mv_140, mi_140⟩
theorem lk_269 (nm : String) (rt : Option FieldType) : lnk' RX2 nm rt (.invokestatic 108, 1001, 0, 0) := Or.inr (Or.inl ⟨rfl, gw_has (by decide +kernel)⟩)
theorem lk_270 (nm : String) (rt : Option FieldType) : lnk' RX2 nm rt (.getfield 23, 2, 2, 1) := ⟨_, rfl, by decide, gw_2 45 (by decide +kernel), by decide +kernel⟩
theorem lk_271 (nm : String) (rt : Option FieldType) : lnk' RX2 nm rt (.invokevirtual 111, 119, 6, 0) := ⟨mo_119, ⟨_, rfl, mp_119⟩, mc_119, gw_3 49 (by decide +kernel), mv_119, mi_119⟩
theorem lk_272 (nm : String) (rt : Option FieldType) : lnk' RX2 nm rt (.getfield 115, 6, 9, 0) := ⟨_, rfl, by decide, gw_1 155 (by decide +kernel), by decide +kernel⟩
theorem lk_273 (nm : String) (rt : Option FieldType) : lnk' RX2 nm rt (.invokevirtual 118, 149, 4, 0) := ⟨mo_149, ⟨_, rfl, mp_149⟩, mc_149, gw_3 91 (by decide +kernel), mv_149, mi_149⟩
theorem lk_274 (nm : String) (rt : Option FieldType) : lnk' RX2 nm rt (.getfield 121, 5, 5, 0) := ⟨_, rfl, by decide, gw_2 20 (by decide +kernel), by decide +kernel⟩
theorem lk_275 (nm : String) (rt : Option FieldType) : lnk' RX2 nm rt (.invokevirtual 124, 142, 2, 0) := ⟨mo_142, ⟨_, rfl, mp_142⟩, mc_142, gw_3 107 (by decide +kernel), mv_142, mi_142⟩
theorem lk_276 (nm : String) (rt : Option FieldType) : lnk' RX2 nm rt (.invokevirtual 127, 168, 6, 0) := ⟨mo_168, ⟨_, rfl, mp_168⟩, mc_168, gw_3 111 (by decide +kernel), mv_168, mi_168⟩
theorem lk_277 (nm : String) (rt : Option FieldType) : lnk' RX2 nm rt (.getfield 131, 5, 6, 0) := ⟨_, rfl, by decide, gw_2 22 (by decide +kernel), by decide +kernel⟩
theorem lk_278 (nm : String) (rt : Option FieldType) : lnk' RX2 nm rt (.getfield 134, 5, 7, 0) := ⟨_, rfl, by decide, gw_2 24 (by decide +kernel), by decide +kernel⟩
theorem lk_279 (nm : String) (rt : Option FieldType) : lnk' RX2 nm rt (.invokevirtual 137, 166, 2, 0) := ⟨mo_166, ⟨_, rfl, mp_166⟩, mc_166, gw_3 126 (by decide +kernel), mv_166, mi_166⟩
theorem lk_280 (nm : String) (rt : Option FieldType) : lnk' RX2 nm rt (.invokevirtual 142, 143, 3, 0) := ⟨mo_143, ⟨_, rfl, mp_143⟩, mc_143, gw_3 171 (by decide +kernel), mv_143, mi_143⟩
theorem lk_281 (nm : String) (rt : Option FieldType) : lnk' RX2 nm rt (.invokevirtual 145, 167, 2, 0) := ⟨mo_167, ⟨_, rfl, mp_167⟩, mc_167, gw_3 172 (by decide +kernel), mv_167, mi_167⟩
theorem lk_282 (nm : String) (rt : Option FieldType) : lnk' RX3 nm rt (.invokespecial 3, 1005, 0, 0) := ⟨rfl, gw_has (by decide +kernel)⟩
theorem lk_283 (rt : Option FieldType) : lnk' RX3 "<init>" rt (.putfield 9, 3, 0, 1) := ⟨_, rfl, by decide, gw_1 76 (by decide +kernel), by decide +kernel, fun h => absurd h (by decide), fun h => absurd h (by decide), fun _ => ⟨⟨.array .int, by decide +kernel, Or.inr ⟨_, rfl⟩⟩, rfl, rfl, rfl⟩⟩
theorem lk_284 (nm : String) (rt : Option FieldType) : lnk' RX3 nm rt (.putfield 15, 3, 1, 0) := ⟨_, rfl, by decide, gw_1 77 (by decide +kernel), by decide +kernel, fun _ => ⟨by decide +kernel, rfl⟩, fun h => absurd h (by decide), fun h => absurd h (by decide)⟩
theorem lk_285 (rt : Option FieldType) : lnk' RX3 "<init>" rt (.putfield 19, 3, 2, 1) := ⟨_, rfl, by decide, gw_1 79 (by decide +kernel), by decide +kernel, fun h => absurd h (by decide), fun h => absurd h (by decide), fun _ => ⟨⟨.array .int, by decide +kernel, Or.inr ⟨_, rfl⟩⟩, rfl, rfl, rfl⟩⟩
theorem lk_286 (rt : Option FieldType) : lnk' RX3 "<init>" rt (.putfield 22, 3, 3, 1) := ⟨_, rfl, by decide, gw_1 81 (by decide +kernel), by decide +kernel, fun h => absurd h (by decide), fun h => absurd h (by decide), fun _ => ⟨⟨.array .int, by decide +kernel, Or.inr ⟨_, rfl⟩⟩, rfl, rfl, rfl⟩⟩
theorem lk_287 (nm : String) (rt : Option FieldType) : lnk' RX3 nm rt (.putfield 25, 3, 4, 0) := ⟨_, rfl, by decide, gw_1 83 (by decide +kernel), by decide +kernel, fun _ => ⟨by decide +kernel, rfl⟩, fun h => absurd h (by decide), fun h => absurd h (by decide)⟩
theorem lk_288 (nm : String) (rt : Option FieldType) : lnk' RX3 nm rt (.putfield 28, 3, 5, 0) := ⟨_, rfl, by decide, gw_1 85 (by decide +kernel), by decide +kernel, fun _ => ⟨by decide +kernel, rfl⟩, fun h => absurd h (by decide), fun h => absurd h (by decide)⟩
theorem lk_289 (rt : Option FieldType) : lnk' RX3 "<init>" rt (.putfield 31, 3, 6, 1) := ⟨_, rfl, by decide, gw_1 87 (by decide +kernel), by decide +kernel, fun h => absurd h (by decide), fun h => absurd h (by decide), fun _ => ⟨⟨.array .int, by decide +kernel, Or.inr ⟨_, rfl⟩⟩, rfl, rfl, rfl⟩⟩
theorem lk_290 (rt : Option FieldType) : lnk' RX3 "<init>" rt (.putfield 34, 3, 7, 1) := ⟨_, rfl, by decide, gw_1 88 (by decide +kernel), by decide +kernel, fun h => absurd h (by decide), fun h => absurd h (by decide), fun _ => ⟨⟨.array .int, by decide +kernel, Or.inr ⟨_, rfl⟩⟩, rfl, rfl, rfl⟩⟩
theorem lk_291 (rt : Option FieldType) : lnk' RX3 "<init>" rt (.putfield 37, 3, 8, 1) := ⟨_, rfl, by decide, gw_1 89 (by decide +kernel), by decide +kernel, fun h => absurd h (by decide), fun h => absurd h (by decide), fun _ => ⟨⟨.array .int, by decide +kernel, Or.inr ⟨_, rfl⟩⟩, rfl, rfl, rfl⟩⟩
theorem lk_292 (rt : Option FieldType) : lnk' RX3 "<init>" rt (.putfield 40, 3, 9, 1) := ⟨_, rfl, by decide, gw_1 90 (by decide +kernel), by decide +kernel, fun h => absurd h (by decide), fun h => absurd h (by decide), fun _ => ⟨⟨.array .int, by decide +kernel, Or.inr ⟨_, rfl⟩⟩, rfl, rfl, rfl⟩⟩
theorem lk_293 (nm : String) (rt : Option FieldType) : lnk' RX3 nm rt (.putfield 43, 3, 10, 0) := ⟨_, rfl, by decide, gw_1 91 (by decide +kernel), by decide +kernel, fun _ => ⟨by decide +kernel, rfl⟩, fun h => absurd h (by decide), fun h => absurd h (by decide)⟩
theorem lk_294 (nm : String) (rt : Option FieldType) : lnk' RX3 nm rt (.getfield 15, 3, 1, 0) := ⟨_, rfl, by decide, gw_1 77 (by decide +kernel), by decide +kernel⟩
theorem lk_295 (nm : String) (rt : Option FieldType) : lnk' RX3 nm rt (.getfield 9, 3, 0, 1) := ⟨_, rfl, by decide, gw_1 76 (by decide +kernel), by decide +kernel⟩
theorem lk_296 (nm : String) (rt : Option FieldType) : lnk' RX3 nm rt (.invokevirtual 46, 126, 2, 0) := ⟨mo_126, ⟨_, rfl, mp_126⟩, mc_126, gw_4 17 (by decide +kernel), mv_126, mi_126⟩
theorem lk_297 (nm : String) (rt : Option FieldType) : lnk' RX3 nm rt (.getfield 43, 3, 10, 0) := ⟨_, rfl, by decide, gw_1 91 (by decide +kernel), by decide +kernel⟩
theorem lk_298 (nm : String) (rt : Option FieldType) : lnk' RX3 nm rt (.getfield 25, 3, 4, 0) := ⟨_, rfl, by decide, gw_1 83 (by decide +kernel), by decide +kernel⟩
theorem lk_299 (nm : String) (rt : Option FieldType) : lnk' RX3 nm rt (.getfield 34, 3, 7, 1) := ⟨_, rfl, by decide, gw_1 88 (by decide +kernel), by decide +kernel⟩
theorem lk_300 (nm : String) (rt : Option FieldType) : lnk' RX3 nm rt (.getfield 31, 3, 6, 1) := ⟨_, rfl, by decide, gw_1 87 (by decide +kernel), by decide +kernel⟩
theorem lk_301 (nm : String) (rt : Option FieldType) : lnk' RX3 nm rt (.invokestatic 50, 31, 1, 0) := ⟨mo_31, mp_31, Or.inr ⟨"PlayedWritten", nw_has (by decide +kernel)⟩, ms_31⟩
theorem lk_302 (nm : String) (rt : Option FieldType) : lnk' RX3 nm rt (.invokevirtual 54, 127, 2, 0) := ⟨mo_127, ⟨_, rfl, mp_127⟩, mc_127, gw_4 24 (by decide +kernel), mv_127, mi_127⟩
theorem lk_303 (nm : String) (rt : Option FieldType) : lnk' RX3 nm rt (.invokevirtual 57, 130, 1, 0) := ⟨mo_130, ⟨_, rfl, mp_130⟩, mc_130, gw_4 30 (by decide +kernel), mv_130, mi_130⟩
theorem lk_304 (nm : String) (rt : Option FieldType) : lnk' RX3 nm rt (.invokevirtual 60, 128, 2, 0) := ⟨mo_128, ⟨_, rfl, mp_128⟩, mc_128, gw_4 34 (by decide +kernel), mv_128, mi_128⟩
theorem lk_305 (nm : String) (rt : Option FieldType) : lnk' RX3 nm rt (.invokevirtual 63, 129, 2, 0) := ⟨mo_129, ⟨_, rfl, mp_129⟩, mc_129, gw_4 43 (by decide +kernel), mv_129, mi_129⟩
theorem lk_306 (nm : String) (rt : Option FieldType) : lnk' RX3 nm rt (.ldc 66, 1, 8, 0) := ⟨by decide, "-]>}", by decide +kernel⟩
theorem lk_307 (nm : String) (rt : Option FieldType) : lnk' RX3 nm rt (.invokevirtual 68, 1004, 0, 0) := ⟨rfl, gw_has (by decide +kernel)⟩
theorem lk_308 (nm : String) (rt : Option FieldType) : lnk' RX3 nm rt (.getfield 28, 3, 5, 0) := ⟨_, rfl, by decide, gw_1 85 (by decide +kernel), by decide +kernel⟩
theorem lk_309 (nm : String) (rt : Option FieldType) : lnk' RX3 nm rt (.invokevirtual 74, 131, 1, 0) := ⟨mo_131, ⟨_, rfl, mp_131⟩, mc_131, gw_4 38 (by decide +kernel), mv_131, mi_131⟩
theorem lk_310 (nm : String) (rt : Option FieldType) : lnk' RX3 nm rt (.getfield 19, 3, 2, 1) := ⟨_, rfl, by decide, gw_1 79 (by decide +kernel), by decide +kernel⟩
theorem lk_311 (nm : String) (rt : Option FieldType) : lnk' RX3 nm rt (.getfield 22, 3, 3, 1) := ⟨_, rfl, by decide, gw_1 81 (by decide +kernel), by decide +kernel⟩
theorem lk_312 (nm : String) (rt : Option FieldType) : lnk' RX3 nm rt (.ldc 78, 1, 7, 0) := ⟨by decide, "-[<{", by decide +kernel⟩
theorem lk_313 (nm : String) (rt : Option FieldType) : lnk' RX3 nm rt (.invokevirtual 80, 132, 1, 0) := ⟨mo_132, ⟨_, rfl, mp_132⟩, mc_132, gw_4 48 (by decide +kernel), mv_132, mi_132⟩
theorem lk_314 (nm : String) (rt : Option FieldType) : lnk' RX3 nm rt (.getfield 37, 3, 8, 1) := ⟨_, rfl, by decide, gw_1 89 (by decide +kernel), by decide +kernel⟩
theorem lk_315 (nm : String) (rt : Option FieldType) : lnk' RX3 nm rt (.getfield 40, 3, 9, 1) := ⟨_, rfl, by decide, gw_1 90 (by decide +kernel), by decide +kernel⟩
theorem lk_316 (nm : String) (rt : Option FieldType) : lnk' RX3 nm rt (.invokestatic 83, 32, 4, 0) := ⟨mo_32, mp_32, Or.inr ⟨"PlayedWritten", nw_has (by decide +kernel)⟩, ms_32⟩
theorem lk_317 (nm : String) (rt : Option FieldType) : lnk' RX3 nm rt (.invokestatic 87, 33, 3, 0) := ⟨mo_33, mp_33, Or.inr ⟨"PlayedWritten", nw_has (by decide +kernel)⟩, ms_33⟩
theorem lk_318 (nm : String) (rt : Option FieldType) : lnk' RX4 nm rt (.invokespecial 3, 1005, 0, 0) := ⟨rfl, gw_has (by decide +kernel)⟩
theorem lk_319 (rt : Option FieldType) : lnk' RX4 "<init>" rt (.putfield 11, 4, 0, 1) := ⟨_, rfl, by decide, gw_1 216 (by decide +kernel), by decide +kernel, fun h => absurd h (by decide), fun h => absurd h (by decide), fun _ => ⟨⟨.array .int, by decide +kernel, Or.inr ⟨_, rfl⟩⟩, rfl, rfl, rfl⟩⟩
theorem lk_320 (rt : Option FieldType) : lnk' RX4 "<init>" rt (.putfield 15, 4, 1, 1) := ⟨_, rfl, by decide, gw_1 218 (by decide +kernel), by decide +kernel, fun h => absurd h (by decide), fun h => absurd h (by decide), fun _ => ⟨⟨.array .int, by decide +kernel, Or.inr ⟨_, rfl⟩⟩, rfl, rfl, rfl⟩⟩
theorem lk_321 (rt : Option FieldType) : lnk' RX4 "<init>" rt (.putfield 18, 4, 2, 1) := ⟨_, rfl, by decide, gw_1 220 (by decide +kernel), by decide +kernel, fun h => absurd h (by decide), fun h => absurd h (by decide), fun _ => ⟨⟨.array .int, by decide +kernel, Or.inr ⟨_, rfl⟩⟩, rfl, rfl, rfl⟩⟩
theorem lk_322 (rt : Option FieldType) : lnk' RX4 "<init>" rt (.putfield 21, 4, 3, 1) := ⟨_, rfl, by decide, gw_1 222 (by decide +kernel), by decide +kernel, fun h => absurd h (by decide), fun h => absurd h (by decide), fun _ => ⟨⟨.array .int, by decide +kernel, Or.inr ⟨_, rfl⟩⟩, rfl, rfl, rfl⟩⟩
theorem lk_323 (rt : Option FieldType) : lnk' RX4 "<init>" rt (.putfield 24, 4, 4, 1) := ⟨_, rfl, by decide, gw_1 224 (by decide +kernel), by decide +kernel, fun h => absurd h (by decide), fun h => absurd h (by decide), fun _ => ⟨⟨.array .int, by decide +kernel, Or.inr ⟨_, rfl⟩⟩, rfl, rfl, rfl⟩⟩
theorem lk_324 (rt : Option FieldType) : lnk' RX4 "<init>" rt (.putfield 27, 4, 5, 1) := ⟨_, rfl, by decide, gw_1 226 (by decide +kernel), by decide +kernel, fun h => absurd h (by decide), fun h => absurd h (by decide), fun _ => ⟨⟨.array .int, by decide +kernel, Or.inr ⟨_, rfl⟩⟩, rfl, rfl, rfl⟩⟩
theorem lk_325 (rt : Option FieldType) : lnk' RX4 "<init>" rt (.putfield 30, 4, 6, 1) := ⟨_, rfl, by decide, gw_1 228 (by decide +kernel), by decide +kernel, fun h => absurd h (by decide), fun h => absurd h (by decide), fun _ => ⟨⟨.array .int, by decide +kernel, Or.inr ⟨_, rfl⟩⟩, rfl, rfl, rfl⟩⟩
theorem lk_326 (rt : Option FieldType) : lnk' RX4 "<init>" rt (.putfield 33, 4, 7, 1) := ⟨_, rfl, by decide, gw_1 229 (by decide +kernel), by decide +kernel, fun h => absurd h (by decide), fun h => absurd h (by decide), fun _ => ⟨⟨.array .int, by decide +kernel, Or.inr ⟨_, rfl⟩⟩, rfl, rfl, rfl⟩⟩
theorem lk_327 (nm : String) (rt : Option FieldType) : lnk' RX4 nm rt (.putfield 36, 4, 8, 0) := ⟨_, rfl, by decide, gw_1 230 (by decide +kernel), by decide +kernel, fun _ => ⟨by decide +kernel, rfl⟩, fun h => absurd h (by decide), fun h => absurd h (by decide)⟩
theorem lk_328 (nm : String) (rt : Option FieldType) : lnk' RX4 nm rt (.putfield 40, 4, 9, 0) := ⟨_, rfl, by decide, gw_1 231 (by decide +kernel), by decide +kernel, fun _ => ⟨by decide +kernel, rfl⟩, fun h => absurd h (by decide), fun h => absurd h (by decide)⟩
theorem lk_329 (nm : String) (rt : Option FieldType) : lnk' RX4 nm rt (.invokevirtual 43, 136, 4, 0) := ⟨mo_136, ⟨_, rfl, mp_136⟩, mc_136, gw_1 194 (by decide +kernel), mv_136, mi_136⟩
theorem lk_330 (nm : String) (rt : Option FieldType) : lnk' RX4 nm rt (.getfield 18, 4, 2, 1) := ⟨_, rfl, by decide, gw_1 220 (by decide +kernel), by decide +kernel⟩
theorem lk_331 (nm : String) (rt : Option FieldType) : lnk' RX4 nm rt (.getfield 36, 4, 8, 0) := ⟨_, rfl, by decide, gw_1 230 (by decide +kernel), by decide +kernel⟩
theorem lk_332 (nm : String) (rt : Option FieldType) : lnk' RX4 nm rt (.getfield 40, 4, 9, 0) := ⟨_, rfl, by decide, gw_1 231 (by decide +kernel), by decide +kernel⟩
theorem lk_333 (nm : String) (rt : Option FieldType) : lnk' RX4 nm rt (.invokevirtual 47, 134, 4, 0) := ⟨mo_134, ⟨_, rfl, mp_134⟩, mc_134, gw_1 202 (by decide +kernel), mv_134, mi_134⟩
theorem lk_334 (nm : String) (rt : Option FieldType) : lnk' RX4 nm rt (.getfield 21, 4, 3, 1) := ⟨_, rfl, by decide, gw_1 222 (by decide +kernel), by decide +kernel⟩
theorem lk_335 (nm : String) (rt : Option FieldType) : lnk' RX4 nm rt (.getstatic 51, 5, 0, 0) := ⟨_, _, rfl, by decide, Or.inl (gw_1 206 (by decide +kernel))⟩
theorem lk_336 (nm : String) (rt : Option FieldType) : lnk' RX4 nm rt (.getstatic 54, 6, 0, 0) := ⟨_, _, rfl, by decide, Or.inl (gw_1 208 (by decide +kernel))⟩
theorem lk_337 (nm : String) (rt : Option FieldType) : lnk' RX4 nm rt (.getfield 30, 4, 6, 1) := ⟨_, rfl, by decide, gw_1 228 (by decide +kernel), by decide +kernel⟩
theorem lk_338 (nm : String) (rt : Option FieldType) : lnk' RX4 nm rt (.getfield 33, 4, 7, 1) := ⟨_, rfl, by decide, gw_1 229 (by decide +kernel), by decide +kernel⟩
theorem lk_339 (nm : String) (rt : Option FieldType) : lnk' RX4 nm rt (.invokestatic 57, 32, 4, 0) := ⟨mo_32, mp_32, Or.inr ⟨"PlayedWritten", nw_has (by decide +kernel)⟩, ms_32⟩
theorem lk_340 (nm : String) (rt : Option FieldType) : lnk' RX4 nm rt (.invokestatic 61, 33, 3, 0) := ⟨mo_33, mp_33, Or.inr ⟨"PlayedWritten", nw_has (by decide +kernel)⟩, ms_33⟩
theorem lk_341 (nm : String) (rt : Option FieldType) : lnk' RX4 nm rt (.getfield 24, 4, 4, 1) := ⟨_, rfl, by decide, gw_1 224 (by decide +kernel), by decide +kernel⟩
theorem lk_342 (nm : String) (rt : Option FieldType) : lnk' RX4 nm rt (.invokevirtual 64, 135, 2, 0) := ⟨mo_135, ⟨_, rfl, mp_135⟩, mc_135, gw_1 198 (by decide +kernel), mv_135, mi_135⟩
theorem lk_343 (nm : String) (rt : Option FieldType) : lnk' RX4 nm rt (.getfield 27, 4, 5, 1) := ⟨_, rfl, by decide, gw_1 226 (by decide +kernel), by decide +kernel⟩
theorem lk_344 (nm : String) (rt : Option FieldType) : lnk' RX4 nm rt (.getfield 11, 4, 0, 1) := ⟨_, rfl, by decide, gw_1 216 (by decide +kernel), by decide +kernel⟩
theorem lk_345 (nm : String) (rt : Option FieldType) : lnk' RX4 nm rt (.getfield 15, 4, 1, 1) := ⟨_, rfl, by decide, gw_1 218 (by decide +kernel), by decide +kernel⟩
theorem lk_346 (nm : String) (rt : Option FieldType) : lnk' RX5 nm rt (.invokespecial 7, 1005, 0, 0) := ⟨rfl, gw_has (by decide +kernel)⟩
theorem lk_347 (nm : String) (rt : Option FieldType) : lnk' RX5 nm rt (.new 13, 6, 0, 0) := ⟨_, rfl, gw_has (by decide +kernel), gw_has (by decide +kernel), gw_has (by decide +kernel)⟩
theorem lk_348 (nm : String) (rt : Option FieldType) : lnk' RX5 nm rt (.invokespecial 15, 152, 1, 0) := ⟨mo_152, ⟨_, rfl, mp_152⟩, Or.inr ⟨"PlayedWritten", nw_has (by decide +kernel)⟩, mi_152, rfl, rfl⟩
theorem lk_349 (rt : Option FieldType) : lnk' RX5 "<init>" rt (.putfield 16, 5, 0, 1) := ⟨_, rfl, by decide, gw_2 13 (by decide +kernel), by decide +kernel, fun h => absurd h (by decide), fun h => absurd h (by decide), fun _ => ⟨⟨.object "PlayedWritten$Task", by decide +kernel, Or.inl ⟨_, rfl⟩⟩, rfl, rfl, rfl⟩⟩
theorem lk_350 (nm : String) (rt : Option FieldType) : lnk' RX5 nm rt (.new 3, 4, 0, 0) := ⟨_, rfl, gw_has (by decide +kernel), gw_has (by decide +kernel), gw_has (by decide +kernel)⟩
theorem lk_351 (nm : String) (rt : Option FieldType) : lnk' RX5 nm rt (.invokespecial 20, 133, 1, 0) := ⟨mo_133, ⟨_, rfl, mp_133⟩, Or.inl (gw_1 190 (by decide +kernel)), mi_133, rfl, rfl⟩
theorem lk_352 (rt : Option FieldType) : lnk' RX5 "<init>" rt (.putfield 21, 5, 1, 1) := ⟨_, rfl, by decide, gw_2 15 (by decide +kernel), by decide +kernel, fun h => absurd h (by decide), fun h => absurd h (by decide), fun _ => ⟨⟨.object "PlayedWritten$Spans", by decide +kernel, Or.inl ⟨_, rfl⟩⟩, rfl, rfl, rfl⟩⟩
theorem lk_353 (rt : Option FieldType) : lnk' RX5 "<init>" rt (.putfield 25, 5, 2, 1) := ⟨_, rfl, by decide, gw_2 16 (by decide +kernel), by decide +kernel, fun h => absurd h (by decide), fun h => absurd h (by decide), fun _ => ⟨⟨.array .int, by decide +kernel, Or.inr ⟨_, rfl⟩⟩, rfl, rfl, rfl⟩⟩
theorem lk_354 (rt : Option FieldType) : lnk' RX5 "<init>" rt (.putfield 29, 5, 3, 1) := ⟨_, rfl, by decide, gw_2 17 (by decide +kernel), by decide +kernel, fun h => absurd h (by decide), fun h => absurd h (by decide), fun _ => ⟨⟨.array .int, by decide +kernel, Or.inr ⟨_, rfl⟩⟩, rfl, rfl, rfl⟩⟩
theorem lk_355 (nm : String) (rt : Option FieldType) : lnk' RX5 nm rt (.putfield 32, 5, 4, 0) := ⟨_, rfl, by decide, gw_2 18 (by decide +kernel), by decide +kernel, fun _ => ⟨by decide +kernel, rfl⟩, fun h => absurd h (by decide), fun h => absurd h (by decide)⟩
theorem lk_356 (nm : String) (rt : Option FieldType) : lnk' RX5 nm rt (.putfield 36, 5, 5, 0) := ⟨_, rfl, by decide, gw_2 19 (by decide +kernel), by decide +kernel, fun _ => ⟨by decide +kernel, rfl⟩, fun h => absurd h (by decide), fun h => absurd h (by decide)⟩
theorem lk_357 (nm : String) (rt : Option FieldType) : lnk' RX5 nm rt (.putfield 39, 5, 6, 0) := ⟨_, rfl, by decide, gw_2 21 (by decide +kernel), by decide +kernel, fun _ => ⟨by decide +kernel, rfl⟩, fun h => absurd h (by decide), fun h => absurd h (by decide)⟩
theorem lk_358 (nm : String) (rt : Option FieldType) : lnk' RX5 nm rt (.putfield 42, 5, 7, 0) := ⟨_, rfl, by decide, gw_2 23 (by decide +kernel), by decide +kernel, fun _ => ⟨by decide +kernel, rfl⟩, fun h => absurd h (by decide), fun h => absurd h (by decide)⟩
theorem lk_359 (nm : String) (rt : Option FieldType) : lnk' RX5 nm rt (.getfield 16, 5, 0, 1) := ⟨_, rfl, by decide, gw_2 13 (by decide +kernel), by decide +kernel⟩
theorem lk_360 (nm : String) (rt : Option FieldType) : lnk' RX5 nm rt (.getfield 45, 6, 8, 0) := ⟨_, rfl, by decide, gw_1 153 (by decide +kernel), by decide +kernel⟩
theorem lk_361 (nm : String) (rt : Option FieldType) : lnk' RX5 nm rt (.getfield 21, 5, 1, 1) := ⟨_, rfl, by decide, gw_2 15 (by decide +kernel), by decide +kernel⟩
theorem lk_362 (nm : String) (rt : Option FieldType) : lnk' RX5 nm rt (.getfield 48, 4, 3, 1) := ⟨_, rfl, by decide, gw_1 223 (by decide +kernel), by decide +kernel⟩
theorem lk_363 (nm : String) (rt : Option FieldType) : lnk' RX5 nm rt (.getfield 51, 4, 2, 1) := ⟨_, rfl, by decide, gw_1 221 (by decide +kernel), by decide +kernel⟩
theorem lk_364 (nm : String) (rt : Option FieldType) : lnk' RX5 nm rt (.invokevirtual 54, 145, 4, 0) := ⟨mo_145, ⟨_, rfl, mp_145⟩, mc_145, gw_3 4 (by decide +kernel), mv_145, mi_145⟩
theorem lk_365 (nm : String) (rt : Option FieldType) : lnk' RX5 nm rt (.invokevirtual 58, 146, 2, 0) := ⟨mo_146, ⟨_, rfl, mp_146⟩, mc_146, gw_3 16 (by decide +kernel), mv_146, mi_146⟩
theorem lk_366 (nm : String) (rt : Option FieldType) : lnk' RX5 nm rt (.getfield 25, 5, 2, 1) := ⟨_, rfl, by decide, gw_2 16 (by decide +kernel), by decide +kernel⟩
theorem lk_367 (nm : String) (rt : Option FieldType) : lnk' RX5 nm rt (.getfield 62, 4, 0, 1) := ⟨_, rfl, by decide, gw_1 217 (by decide +kernel), by decide +kernel⟩
theorem lk_368 (nm : String) (rt : Option FieldType) : lnk' RX5 nm rt (.invokevirtual 65, 141, 2, 0) := ⟨mo_141, ⟨_, rfl, mp_141⟩, mc_141, gw_3 95 (by decide +kernel), mv_141, mi_141⟩
theorem lk_369 (nm : String) (rt : Option FieldType) : lnk' RX5 nm rt (.getfield 69, 4, 1, 1) := ⟨_, rfl, by decide, gw_1 219 (by decide +kernel), by decide +kernel⟩
theorem lk_370 (nm : String) (rt : Option FieldType) : lnk' RX5 nm rt (.getfield 32, 5, 4, 0) := ⟨_, rfl, by decide, gw_2 18 (by decide +kernel), by decide +kernel⟩
theorem lk_371 (nm : String) (rt : Option FieldType) : lnk' RX5 nm rt (.getfield 72, 4, 4, 1) := ⟨_, rfl, by decide, gw_1 225 (by decide +kernel), by decide +kernel⟩
theorem lk_372 (nm : String) (rt : Option FieldType) : lnk' RX5 nm rt (.getfield 75, 4, 5, 1) := ⟨_, rfl, by decide, gw_1 227 (by decide +kernel), by decide +kernel⟩
theorem lk_373 (nm : String) (rt : Option FieldType) : lnk' RX5 nm rt (.getfield 78, 6, 3, 1) := ⟨_, rfl, by decide, gw_1 141 (by decide +kernel), by decide +kernel⟩
theorem lk_374 (nm : String) (rt : Option FieldType) : lnk' RX5 nm rt (.getfield 81, 6, 2, 1) := ⟨_, rfl, by decide, gw_1 139 (by decide +kernel), by decide +kernel⟩
theorem lk_375 (nm : String) (rt : Option FieldType) : lnk' RX5 nm rt (.getfield 84, 6, 4, 0) := ⟨_, rfl, by decide, gw_1 144 (by decide +kernel), by decide +kernel⟩
theorem lk_376 (nm : String) (rt : Option FieldType) : lnk' RX5 nm rt (.getfield 87, 6, 0, 1) := ⟨_, rfl, by decide, gw_1 134 (by decide +kernel), by decide +kernel⟩
theorem lk_377 (nm : String) (rt : Option FieldType) : lnk' RX5 nm rt (.invokestatic 90, 34, 4, 0) := ⟨mo_34, mp_34, Or.inr ⟨"PlayedWritten", nw_has (by decide +kernel)⟩, ms_34⟩
theorem lk_378 (nm : String) (rt : Option FieldType) : lnk' RX5 nm rt (.getfield 29, 5, 3, 1) := ⟨_, rfl, by decide, gw_2 17 (by decide +kernel), by decide +kernel⟩
theorem lk_379 (nm : String) (rt : Option FieldType) : lnk' RX5 nm rt (.getfield 94, 6, 10, 2) := ⟨_, rfl, by decide, gw_1 157 (by decide +kernel), by decide +kernel⟩
theorem lk_380 (nm : String) (rt : Option FieldType) : lnk' RX5 nm rt (.ldc 98, 0, 0, 100000000) := ⟨in_R (by decide), gw_has (by decide +kernel)⟩
theorem lk_381 (nm : String) (rt : Option FieldType) : lnk' RX5 nm rt (.getfield 99, 6, 1, 1) := ⟨_, rfl, by decide, gw_1 137 (by decide +kernel), by decide +kernel⟩
theorem lk_382 (nm : String) (rt : Option FieldType) : lnk' RX5 nm rt (.invokestatic 102, 1001, 0, 0) := Or.inr (Or.inl ⟨rfl, gw_has (by decide +kernel)⟩)
theorem lk_383 (nm : String) (rt : Option FieldType) : lnk' RX5 nm rt (.invokevirtual 108, 144, 2, 0) := ⟨mo_144, ⟨_, rfl, mp_144⟩, mc_144, gw_3 20 (by decide +kernel), mv_144, mi_144⟩
theorem lk_384 (nm : String) (rt : Option FieldType) : lnk' RX5 nm rt (.invokevirtual 112, 143, 3, 0) := ⟨mo_143, ⟨_, rfl, mp_143⟩, mc_143, gw_3 24 (by decide +kernel), mv_143, mi_143⟩
theorem lk_385 (nm : String) (rt : Option FieldType) : lnk' RX5 nm rt (.invokevirtual 115, 147, 3, 0) := ⟨mo_147, ⟨_, rfl, mp_147⟩, mc_147, gw_3 28 (by decide +kernel), mv_147, mi_147⟩
theorem lk_386 (nm : String) (rt : Option FieldType) : lnk' RX5 nm rt (.invokevirtual 119, 140, 4, 0) := ⟨mo_140, ⟨_, rfl, mp_140⟩, mc_140, gw_3 32 (by decide +kernel), mv_140, mi_140⟩
theorem lk_387 (nm : String) (rt : Option FieldType) : lnk' RX5 nm rt (.invokevirtual 123, 148, 5, 0) := ⟨mo_148, ⟨_, rfl, mp_148⟩, mc_148, gw_3 36 (by decide +kernel), mv_148, mi_148⟩
theorem lk_388 (nm : String) (rt : Option FieldType) : lnk' RX5 nm rt (.invokevirtual 126, 150, 6, 0) := ⟨mo_150, ⟨_, rfl, mp_150⟩, mc_150, gw_3 99 (by decide +kernel), mv_150, mi_150⟩
theorem lk_389 (nm : String) (rt : Option FieldType) : lnk' RX5 nm rt (.invokevirtual 130, 151, 5, 0) := ⟨mo_151, ⟨_, rfl, mp_151⟩, mc_151, gw_3 103 (by decide +kernel), mv_151, mi_151⟩
theorem lk_390 (nm : String) (rt : Option FieldType) : lnk' RX6 nm rt (.invokespecial 3, 1005, 0, 0) := ⟨rfl, gw_has (by decide +kernel)⟩
theorem lk_391 (rt : Option FieldType) : lnk' RX6 "<init>" rt (.putfield 9, 6, 0, 1) := ⟨_, rfl, by decide, gw_1 133 (by decide +kernel), by decide +kernel, fun h => absurd h (by decide), fun h => absurd h (by decide), fun _ => ⟨⟨.array .int, by decide +kernel, Or.inr ⟨_, rfl⟩⟩, rfl, rfl, rfl⟩⟩
theorem lk_392 (rt : Option FieldType) : lnk' RX6 "<init>" rt (.putfield 15, 6, 1, 1) := ⟨_, rfl, by decide, gw_1 136 (by decide +kernel), by decide +kernel, fun h => absurd h (by decide), fun h => absurd h (by decide), fun _ => ⟨⟨.array .int, by decide +kernel, Or.inr ⟨_, rfl⟩⟩, rfl, rfl, rfl⟩⟩
theorem lk_393 (rt : Option FieldType) : lnk' RX6 "<init>" rt (.putfield 18, 6, 2, 1) := ⟨_, rfl, by decide, gw_1 138 (by decide +kernel), by decide +kernel, fun h => absurd h (by decide), fun h => absurd h (by decide), fun _ => ⟨⟨.array .int, by decide +kernel, Or.inr ⟨_, rfl⟩⟩, rfl, rfl, rfl⟩⟩
theorem lk_394 (rt : Option FieldType) : lnk' RX6 "<init>" rt (.putfield 21, 6, 3, 1) := ⟨_, rfl, by decide, gw_1 140 (by decide +kernel), by decide +kernel, fun h => absurd h (by decide), fun h => absurd h (by decide), fun _ => ⟨⟨.array .int, by decide +kernel, Or.inr ⟨_, rfl⟩⟩, rfl, rfl, rfl⟩⟩
theorem lk_395 (nm : String) (rt : Option FieldType) : lnk' RX6 nm rt (.putfield 24, 6, 4, 0) := ⟨_, rfl, by decide, gw_1 142 (by decide +kernel), by decide +kernel, fun _ => ⟨by decide +kernel, rfl⟩, fun h => absurd h (by decide), fun h => absurd h (by decide)⟩
theorem lk_396 (nm : String) (rt : Option FieldType) : lnk' RX6 nm rt (.putfield 28, 6, 5, 0) := ⟨_, rfl, by decide, gw_1 145 (by decide +kernel), by decide +kernel, fun _ => ⟨by decide +kernel, rfl⟩, fun h => absurd h (by decide), fun h => absurd h (by decide)⟩
theorem lk_397 (nm : String) (rt : Option FieldType) : lnk' RX6 nm rt (.putfield 31, 6, 6, 0) := ⟨_, rfl, by decide, gw_1 147 (by decide +kernel), by decide +kernel, fun _ => ⟨by decide +kernel, rfl⟩, fun h => absurd h (by decide), fun h => absurd h (by decide)⟩
theorem lk_398 (nm : String) (rt : Option FieldType) : lnk' RX6 nm rt (.putfield 34, 6, 7, 0) := ⟨_, rfl, by decide, gw_1 149 (by decide +kernel), by decide +kernel, fun _ => ⟨by decide +kernel, rfl⟩, fun h => absurd h (by decide), fun h => absurd h (by decide)⟩
theorem lk_399 (nm : String) (rt : Option FieldType) : lnk' RX6 nm rt (.putfield 37, 6, 8, 0) := ⟨_, rfl, by decide, gw_1 152 (by decide +kernel), by decide +kernel, fun _ => ⟨by decide +kernel, rfl⟩, fun h => absurd h (by decide), fun h => absurd h (by decide)⟩
theorem lk_400 (nm : String) (rt : Option FieldType) : lnk' RX6 nm rt (.putfield 40, 6, 9, 0) := ⟨_, rfl, by decide, gw_1 154 (by decide +kernel), by decide +kernel, fun _ => ⟨by decide +kernel, rfl⟩, fun h => absurd h (by decide), fun h => absurd h (by decide)⟩
theorem lk_401 (nm : String) (rt : Option FieldType) : lnk' RX6 nm rt (.putfield 43, 6, 10, 2) := ⟨_, rfl, by decide, gw_1 156 (by decide +kernel), by decide +kernel, fun h => absurd h (by decide), fun _ => ⟨by decide +kernel, rfl⟩, fun h => absurd h (by decide)⟩
theorem lk_402 (nm : String) (rt : Option FieldType) : lnk' RX6 nm rt (.putfield 47, 6, 11, 0) := ⟨_, rfl, by decide, gw_1 159 (by decide +kernel), by decide +kernel, fun _ => ⟨by decide +kernel, rfl⟩, fun h => absurd h (by decide), fun h => absurd h (by decide)⟩
theorem lk_403 (nm : String) (rt : Option FieldType) : lnk' RX6 nm rt (.putfield 50, 6, 12, 0) := ⟨_, rfl, by decide, gw_1 160 (by decide +kernel), by decide +kernel, fun _ => ⟨by decide +kernel, rfl⟩, fun h => absurd h (by decide), fun h => absurd h (by decide)⟩
theorem lk_404 (nm : String) (rt : Option FieldType) : lnk' RX6 nm rt (.getfield 53, 1, 1, 1) := ⟨_, rfl, by decide, gw_1 40 (by decide +kernel), by decide +kernel⟩
theorem lk_405 (nm : String) (rt : Option FieldType) : lnk' RX6 nm rt (.getfield 58, 1, 0, 1) := ⟨_, rfl, by decide, gw_1 37 (by decide +kernel), by decide +kernel⟩
theorem lk_406 (nm : String) (rt : Option FieldType) : lnk' RX6 nm rt (.getfield 9, 6, 0, 1) := ⟨_, rfl, by decide, gw_1 133 (by decide +kernel), by decide +kernel⟩
theorem lk_407 (nm : String) (rt : Option FieldType) : lnk' RX6 nm rt (.invokestatic 59, 1000, 0, 0) := Or.inl ⟨rfl, gw_has (by decide +kernel)⟩
theorem lk_408 (nm : String) (rt : Option FieldType) : lnk' RX6 nm rt (.getfield 65, 1, 2, 0) := ⟨_, rfl, by decide, gw_1 44 (by decide +kernel), by decide +kernel⟩
theorem lk_409 (nm : String) (rt : Option FieldType) : lnk' RX6 nm rt (.getfield 18, 6, 2, 1) := ⟨_, rfl, by decide, gw_1 138 (by decide +kernel), by decide +kernel⟩
theorem lk_410 (nm : String) (rt : Option FieldType) : lnk' RX6 nm rt (.invokevirtual 66, 154, 2, 0) := ⟨mo_154, ⟨_, rfl, mp_154⟩, mc_154, gw_2 207 (by decide +kernel), mv_154, mi_154⟩
theorem lk_411 (nm : String) (rt : Option FieldType) : lnk' RX6 nm rt (.invokevirtual 70, 156, 1, 0) := ⟨mo_156, ⟨_, rfl, mp_156⟩, mc_156, gw_2 212 (by decide +kernel), mv_156, mi_156⟩
theorem lk_412 (nm : String) (rt : Option FieldType) : lnk' RX6 nm rt (.getfield 21, 6, 3, 1) := ⟨_, rfl, by decide, gw_1 140 (by decide +kernel), by decide +kernel⟩
theorem lk_413 (nm : String) (rt : Option FieldType) : lnk' RX6 nm rt (.ldc 73, 0, 0, 100000000) := ⟨in_R (by decide), gw_has (by decide +kernel)⟩
theorem lk_414 (nm : String) (rt : Option FieldType) : lnk' RX6 nm rt (.getfield 24, 6, 4, 0) := ⟨_, rfl, by decide, gw_1 142 (by decide +kernel), by decide +kernel⟩
theorem lk_415 (nm : String) (rt : Option FieldType) : lnk' RX6 nm rt (.invokestatic 74, 30, 3, 0) := ⟨mo_30, mp_30, Or.inr ⟨"PlayedWritten", nw_has (by decide +kernel)⟩, ms_30⟩
theorem lk_416 (nm : String) (rt : Option FieldType) : lnk' RX6 nm rt (.getfield 15, 6, 1, 1) := ⟨_, rfl, by decide, gw_1 136 (by decide +kernel), by decide +kernel⟩
theorem lk_417 (nm : String) (rt : Option FieldType) : lnk' RX6 nm rt (.invokevirtual 78, 157, 2, 0) := ⟨mo_157, ⟨_, rfl, mp_157⟩, mc_157, gw_2 216 (by decide +kernel), mv_157, mi_157⟩
theorem lk_418 (nm : String) (rt : Option FieldType) : lnk' RX6 nm rt (.getfield 47, 6, 11, 0) := ⟨_, rfl, by decide, gw_1 159 (by decide +kernel), by decide +kernel⟩
theorem lk_419 (nm : String) (rt : Option FieldType) : lnk' RX6 nm rt (.getfield 50, 6, 12, 0) := ⟨_, rfl, by decide, gw_1 160 (by decide +kernel), by decide +kernel⟩
theorem lk_420 (nm : String) (rt : Option FieldType) : lnk' RX7 nm rt (.invokespecial 3, 1005, 0, 0) := ⟨rfl, gw_has (by decide +kernel)⟩
theorem lk_421 (nm : String) (rt : Option FieldType) : lnk' RX7 nm rt (.putfield 9, 7, 0, 0) := ⟨_, rfl, by decide, gw_2 62 (by decide +kernel), by decide +kernel, fun _ => ⟨by decide +kernel, rfl⟩, fun h => absurd h (by decide), fun h => absurd h (by decide)⟩
theorem lk_422 (rt : Option FieldType) : lnk' RX7 "<init>" rt (.putfield 15, 7, 1, 1) := ⟨_, rfl, by decide, gw_2 64 (by decide +kernel), by decide +kernel, fun h => absurd h (by decide), fun h => absurd h (by decide), fun _ => ⟨⟨.array .int, by decide +kernel, Or.inr ⟨_, rfl⟩⟩, rfl, rfl, rfl⟩⟩
theorem lk_423 (rt : Option FieldType) : lnk' RX7 "<init>" rt (.putfield 19, 7, 2, 1) := ⟨_, rfl, by decide, gw_2 65 (by decide +kernel), by decide +kernel, fun h => absurd h (by decide), fun h => absurd h (by decide), fun _ => ⟨⟨.array .int, by decide +kernel, Or.inr ⟨_, rfl⟩⟩, rfl, rfl, rfl⟩⟩
theorem lk_424 (rt : Option FieldType) : lnk' RX7 "<init>" rt (.putfield 22, 7, 3, 1) := ⟨_, rfl, by decide, gw_2 66 (by decide +kernel), by decide +kernel, fun h => absurd h (by decide), fun h => absurd h (by decide), fun _ => ⟨⟨.array .int, by decide +kernel, Or.inr ⟨_, rfl⟩⟩, rfl, rfl, rfl⟩⟩
theorem lk_425 (rt : Option FieldType) : lnk' RX7 "<init>" rt (.putfield 25, 7, 4, 1) := ⟨_, rfl, by decide, gw_2 67 (by decide +kernel), by decide +kernel, fun h => absurd h (by decide), fun h => absurd h (by decide), fun _ => ⟨⟨.array .int, by decide +kernel, Or.inr ⟨_, rfl⟩⟩, rfl, rfl, rfl⟩⟩
theorem lk_426 (rt : Option FieldType) : lnk' RX7 "<init>" rt (.putfield 28, 7, 5, 1) := ⟨_, rfl, by decide, gw_2 68 (by decide +kernel), by decide +kernel, fun h => absurd h (by decide), fun h => absurd h (by decide), fun _ => ⟨⟨.array .int, by decide +kernel, Or.inr ⟨_, rfl⟩⟩, rfl, rfl, rfl⟩⟩
theorem lk_427 (nm : String) (rt : Option FieldType) : lnk' RX7 nm rt (.putfield 31, 7, 6, 0) := ⟨_, rfl, by decide, gw_2 69 (by decide +kernel), by decide +kernel, fun _ => ⟨by decide +kernel, rfl⟩, fun h => absurd h (by decide), fun h => absurd h (by decide)⟩
theorem lk_428 (nm : String) (rt : Option FieldType) : lnk' RX7 nm rt (.getfield 15, 7, 1, 1) := ⟨_, rfl, by decide, gw_2 64 (by decide +kernel), by decide +kernel⟩
theorem lk_429 (nm : String) (rt : Option FieldType) : lnk' RX7 nm rt (.getfield 19, 7, 2, 1) := ⟨_, rfl, by decide, gw_2 65 (by decide +kernel), by decide +kernel⟩
theorem lk_430 (nm : String) (rt : Option FieldType) : lnk' RX7 nm rt (.getfield 22, 7, 3, 1) := ⟨_, rfl, by decide, gw_2 66 (by decide +kernel), by decide +kernel⟩
theorem lk_431 (nm : String) (rt : Option FieldType) : lnk' RX7 nm rt (.getfield 28, 7, 5, 1) := ⟨_, rfl, by decide, gw_2 68 (by decide +kernel), by decide +kernel⟩
theorem lk_432 (nm : String) (rt : Option FieldType) : lnk' RX7 nm rt (.getfield 25, 7, 4, 1) := ⟨_, rfl, by decide, gw_2 67 (by decide +kernel), by decide +kernel⟩
theorem lk_433 (nm : String) (rt : Option FieldType) : lnk' RX7 nm rt (.getfield 31, 7, 6, 0) := ⟨_, rfl, by decide, gw_2 69 (by decide +kernel), by decide +kernel⟩
theorem lk_434 (nm : String) (rt : Option FieldType) : lnk' RX7 nm rt (.ldc 36, 1, 7, 0) := ⟨by decide, "-[<{", by decide +kernel⟩
theorem lk_435 (nm : String) (rt : Option FieldType) : lnk' RX7 nm rt (.invokevirtual 38, 1004, 0, 0) := ⟨rfl, gw_has (by decide +kernel)⟩
theorem lk_436 (nm : String) (rt : Option FieldType) : lnk' RX7 nm rt (.invokevirtual 44, 170, 2, 0) := ⟨mo_170, ⟨_, rfl, mp_170⟩, mc_170, gw_3 116 (by decide +kernel), mv_170, mi_170⟩
theorem lk_437 (nm : String) (rt : Option FieldType) : lnk' RX7 nm rt (.ldc 48, 1, 8, 0) := ⟨by decide, "-]>}", by decide +kernel⟩
theorem lk_438 (nm : String) (rt : Option FieldType) : lnk' RX7 nm rt (.invokestatic 50, 1002, 0, 0) := Or.inr (Or.inr (Or.inl ⟨rfl, gw_has (by decide +kernel)⟩))
theorem lk_439 (nm : String) (rt : Option FieldType) : lnk' RX7 nm rt (.invokevirtual 56, 157, 2, 0) := ⟨mo_157, ⟨_, rfl, mp_157⟩, mc_157, gw_3 120 (by decide +kernel), mv_157, mi_157⟩
theorem lk_440 (nm : String) (rt : Option FieldType) : lnk' RX7 nm rt (.invokevirtual 62, 169, 7, 0) := ⟨mo_169, ⟨_, rfl, mp_169⟩, mc_169, gw_3 121 (by decide +kernel), mv_169, mi_169⟩
theorem lk_441 (nm : String) (rt : Option FieldType) : lnk' RX7 nm rt (.getfield 66, 6, 0, 1) := ⟨_, rfl, by decide, gw_1 135 (by decide +kernel), by decide +kernel⟩
theorem lk_442 (nm : String) (rt : Option FieldType) : lnk' RX7 nm rt (.invokestatic 69, 34, 4, 0) := ⟨mo_34, mp_34, Or.inr ⟨"PlayedWritten", nw_has (by decide +kernel)⟩, ms_34⟩
theorem lk_443 (nm : String) (rt : Option FieldType) : lnk' RL nm rt (.new 7, 8, 0, 0) := ⟨_, rfl, gw_has (by decide +kernel), gw_has (by decide +kernel), gw_has (by decide +kernel)⟩
theorem lk_444 (nm : String) (rt : Option FieldType) : lnk' RL nm rt (.invokespecial 9, 0, 1, 0) := ⟨mo_0, ⟨_, rfl, mp_0⟩, Or.inl (gw_1 19 (by decide +kernel)), mi_0, rfl, rfl⟩
theorem lk_445 (nm : String) (rt : Option FieldType) : lnk' RL nm rt (.new 10, 9, 0, 0) := ⟨_, rfl, gw_has (by decide +kernel), gw_has (by decide +kernel), gw_has (by decide +kernel)⟩
theorem lk_446 (nm : String) (rt : Option FieldType) : lnk' RL nm rt (.invokespecial 12, 35, 1, 0) := ⟨mo_35, ⟨_, rfl, mp_35⟩, Or.inl (gw_4 85 (by decide +kernel)), mi_35, rfl, rfl⟩
theorem lk_447 (nm : String) (rt : Option FieldType) : lnk' RL nm rt (.invokevirtual 13, 1, 2, 0) := ⟨mo_1, ⟨_, rfl, mp_1⟩, mc_1, gw_2 107 (by decide +kernel), mv_1, mi_1⟩
theorem lk_448 (nm : String) (rt : Option FieldType) : lnk' RL nm rt (.invokevirtual 17, 42, 2, 0) := ⟨mo_42, ⟨_, rfl, mp_42⟩, mc_42, gw_4 225 (by decide +kernel), mv_42, mi_42⟩
theorem lk_449 (nm : String) (rt : Option FieldType) : lnk' RL nm rt (.invokevirtual 18, 2, 2, 0) := ⟨mo_2, ⟨_, rfl, mp_2⟩, mc_2, gw_2 137 (by decide +kernel), mv_2, mi_2⟩
theorem lk_450 (nm : String) (rt : Option FieldType) : lnk' RL nm rt (.invokevirtual 21, 43, 2, 0) := ⟨mo_43, ⟨_, rfl, mp_43⟩, mc_43, gw_5 4 (by decide +kernel), mv_43, mi_43⟩
theorem lk_451 (nm : String) (rt : Option FieldType) : lnk' RL nm rt (.invokevirtual 22, 3, 3, 0) := ⟨mo_3, ⟨_, rfl, mp_3⟩, mc_3, gw_2 152 (by decide +kernel), mv_3, mi_3⟩
theorem lk_452 (nm : String) (rt : Option FieldType) : lnk' RL nm rt (.invokevirtual 26, 44, 3, 0) := ⟨mo_44, ⟨_, rfl, mp_44⟩, mc_44, gw_5 16 (by decide +kernel), mv_44, mi_44⟩
theorem lk_453 (nm : String) (rt : Option FieldType) : lnk' RL nm rt (.invokevirtual 27, 4, 3, 0) := ⟨mo_4, ⟨_, rfl, mp_4⟩, mc_4, gw_2 156 (by decide +kernel), mv_4, mi_4⟩
theorem lk_454 (nm : String) (rt : Option FieldType) : lnk' RL nm rt (.invokevirtual 30, 45, 3, 0) := ⟨mo_45, ⟨_, rfl, mp_45⟩, mc_45, gw_5 20 (by decide +kernel), mv_45, mi_45⟩
theorem lk_455 (nm : String) (rt : Option FieldType) : lnk' RL nm rt (.invokevirtual 31, 5, 2, 0) := ⟨mo_5, ⟨_, rfl, mp_5⟩, mc_5, gw_2 170 (by decide +kernel), mv_5, mi_5⟩
theorem lk_456 (nm : String) (rt : Option FieldType) : lnk' RL nm rt (.invokevirtual 34, 46, 2, 0) := ⟨mo_46, ⟨_, rfl, mp_46⟩, mc_46, gw_5 29 (by decide +kernel), mv_46, mi_46⟩
theorem lk_457 (nm : String) (rt : Option FieldType) : lnk' RL nm rt (.invokevirtual 35, 6, 3, 0) := ⟨mo_6, ⟨_, rfl, mp_6⟩, mc_6, gw_2 182 (by decide +kernel), mv_6, mi_6⟩
theorem lk_458 (nm : String) (rt : Option FieldType) : lnk' RL nm rt (.invokevirtual 38, 49, 3, 0) := ⟨mo_49, ⟨_, rfl, mp_49⟩, mc_49, gw_5 33 (by decide +kernel), mv_49, mi_49⟩
theorem lk_459 (nm : String) (rt : Option FieldType) : lnk' RL nm rt (.invokevirtual 39, 7, 2, 0) := ⟨mo_7, ⟨_, rfl, mp_7⟩, mc_7, gw_2 190 (by decide +kernel), mv_7, mi_7⟩
theorem lk_460 (nm : String) (rt : Option FieldType) : lnk' RL nm rt (.invokevirtual 42, 50, 2, 0) := ⟨mo_50, ⟨_, rfl, mp_50⟩, mc_50, gw_5 43 (by decide +kernel), mv_50, mi_50⟩
theorem lk_461 (nm : String) (rt : Option FieldType) : lnk' RL nm rt (.invokevirtual 43, 8, 1, 0) := ⟨mo_8, ⟨_, rfl, mp_8⟩, mc_8, gw_2 194 (by decide +kernel), mv_8, mi_8⟩
theorem lk_462 (nm : String) (rt : Option FieldType) : lnk' RL nm rt (.invokevirtual 47, 78, 1, 0) := ⟨mo_78, ⟨_, rfl, mp_78⟩, mc_78, gw_5 47 (by decide +kernel), mv_78, mi_78⟩
theorem lk_463 (nm : String) (rt : Option FieldType) : lnk' RL nm rt (.invokevirtual 48, 9, 3, 0) := ⟨mo_9, ⟨_, rfl, mp_9⟩, mc_9, gw_3 178 (by decide +kernel), mv_9, mi_9⟩
theorem lk_464 (nm : String) (rt : Option FieldType) : lnk' RL nm rt (.invokevirtual 51, 80, 3, 0) := ⟨mo_80, ⟨_, rfl, mp_80⟩, mc_80, gw_5 159 (by decide +kernel), mv_80, mi_80⟩
theorem lk_465 (nm : String) (rt : Option FieldType) : lnk' RL nm rt (.invokevirtual 52, 10, 3, 0) := ⟨mo_10, ⟨_, rfl, mp_10⟩, mc_10, gw_3 190 (by decide +kernel), mv_10, mi_10⟩
theorem lk_466 (nm : String) (rt : Option FieldType) : lnk' RL nm rt (.invokevirtual 55, 81, 3, 0) := ⟨mo_81, ⟨_, rfl, mp_81⟩, mc_81, gw_5 167 (by decide +kernel), mv_81, mi_81⟩
theorem lk_467 (nm : String) (rt : Option FieldType) : lnk' RL nm rt (.invokevirtual 56, 11, 3, 0) := ⟨mo_11, ⟨_, rfl, mp_11⟩, mc_11, gw_3 198 (by decide +kernel), mv_11, mi_11⟩
theorem lk_468 (nm : String) (rt : Option FieldType) : lnk' RL nm rt (.invokevirtual 59, 82, 3, 0) := ⟨mo_82, ⟨_, rfl, mp_82⟩, mc_82, gw_5 171 (by decide +kernel), mv_82, mi_82⟩
theorem lk_469 (nm : String) (rt : Option FieldType) : lnk' RL nm rt (.invokevirtual 60, 12, 2, 0) := ⟨mo_12, ⟨_, rfl, mp_12⟩, mc_12, gw_3 206 (by decide +kernel), mv_12, mi_12⟩
theorem lk_470 (nm : String) (rt : Option FieldType) : lnk' RL nm rt (.invokevirtual 63, 83, 2, 0) := ⟨mo_83, ⟨_, rfl, mp_83⟩, mc_83, gw_5 175 (by decide +kernel), mv_83, mi_83⟩
theorem lk_471 (nm : String) (rt : Option FieldType) : lnk' RL nm rt (.invokevirtual 64, 13, 2, 0) := ⟨mo_13, ⟨_, rfl, mp_13⟩, mc_13, gw_3 214 (by decide +kernel), mv_13, mi_13⟩
theorem lk_472 (nm : String) (rt : Option FieldType) : lnk' RL nm rt (.invokevirtual 67, 84, 2, 0) := ⟨mo_84, ⟨_, rfl, mp_84⟩, mc_84, gw_5 179 (by decide +kernel), mv_84, mi_84⟩
theorem lk_473 (nm : String) (rt : Option FieldType) : lnk' RL nm rt (.invokevirtual 68, 14, 2, 0) := ⟨mo_14, ⟨_, rfl, mp_14⟩, mc_14, gw_3 218 (by decide +kernel), mv_14, mi_14⟩
theorem lk_474 (nm : String) (rt : Option FieldType) : lnk' RL nm rt (.invokevirtual 71, 85, 2, 0) := ⟨mo_85, ⟨_, rfl, mp_85⟩, mc_85, gw_5 183 (by decide +kernel), mv_85, mi_85⟩
theorem lk_475 (nm : String) (rt : Option FieldType) : lnk' RL nm rt (.invokevirtual 72, 15, 2, 0) := ⟨mo_15, ⟨_, rfl, mp_15⟩, mc_15, gw_3 223 (by decide +kernel), mv_15, mi_15⟩
theorem lk_476 (nm : String) (rt : Option FieldType) : lnk' RL nm rt (.invokevirtual 75, 86, 2, 0) := ⟨mo_86, ⟨_, rfl, mp_86⟩, mc_86, gw_5 187 (by decide +kernel), mv_86, mi_86⟩
theorem lk_477 (nm : String) (rt : Option FieldType) : lnk' RL nm rt (.invokevirtual 76, 16, 1, 0) := ⟨mo_16, ⟨_, rfl, mp_16⟩, mc_16, gw_3 232 (by decide +kernel), mv_16, mi_16⟩
theorem lk_478 (nm : String) (rt : Option FieldType) : lnk' RL nm rt (.invokevirtual 79, 87, 1, 0) := ⟨mo_87, ⟨_, rfl, mp_87⟩, mc_87, gw_5 191 (by decide +kernel), mv_87, mi_87⟩
theorem lk_479 (nm : String) (rt : Option FieldType) : lnk' RL nm rt (.invokevirtual 80, 17, 2, 0) := ⟨mo_17, ⟨_, rfl, mp_17⟩, mc_17, gw_3 237 (by decide +kernel), mv_17, mi_17⟩
theorem lk_480 (nm : String) (rt : Option FieldType) : lnk' RL nm rt (.invokevirtual 83, 88, 2, 0) := ⟨mo_88, ⟨_, rfl, mp_88⟩, mc_88, gw_5 195 (by decide +kernel), mv_88, mi_88⟩
theorem lk_481 (nm : String) (rt : Option FieldType) : lnk' RL nm rt (.invokevirtual 84, 18, 1, 0) := ⟨mo_18, ⟨_, rfl, mp_18⟩, mc_18, gw_4 5 (by decide +kernel), mv_18, mi_18⟩
theorem lk_482 (nm : String) (rt : Option FieldType) : lnk' RL nm rt (.invokevirtual 87, 89, 1, 0) := ⟨mo_89, ⟨_, rfl, mp_89⟩, mc_89, gw_5 199 (by decide +kernel), mv_89, mi_89⟩
theorem lk_483 (nm : String) (rt : Option FieldType) : lnk' RL nm rt (.invokevirtual 88, 19, 1, 0) := ⟨mo_19, ⟨_, rfl, mp_19⟩, mc_19, gw_4 9 (by decide +kernel), mv_19, mi_19⟩
theorem lk_484 (nm : String) (rt : Option FieldType) : lnk' RL nm rt (.invokevirtual 91, 93, 1, 0) := ⟨mo_93, ⟨_, rfl, mp_93⟩, mc_93, gw_5 203 (by decide +kernel), mv_93, mi_93⟩
theorem lk_485 (nm : String) (rt : Option FieldType) : lnk' RL nm rt (.invokevirtual 92, 20, 1, 0) := ⟨mo_20, ⟨_, rfl, mp_20⟩, mc_20, gw_4 57 (by decide +kernel), mv_20, mi_20⟩
theorem lk_486 (nm : String) (rt : Option FieldType) : lnk' RL nm rt (.invokevirtual 95, 94, 1, 0) := ⟨mo_94, ⟨_, rfl, mp_94⟩, mc_94, gw_5 218 (by decide +kernel), mv_94, mi_94⟩
theorem lk_487 (nm : String) (rt : Option FieldType) : lnk' RL nm rt (.invokevirtual 96, 21, 2, 0) := ⟨mo_21, ⟨_, rfl, mp_21⟩, mc_21, gw_4 69 (by decide +kernel), mv_21, mi_21⟩
theorem lk_488 (nm : String) (rt : Option FieldType) : lnk' RL nm rt (.invokevirtual 99, 96, 2, 0) := ⟨mo_96, ⟨_, rfl, mp_96⟩, mc_96, gw_5 222 (by decide +kernel), mv_96, mi_96⟩
theorem lk_489 (nm : String) (rt : Option FieldType) : lnk' RL nm rt (.invokevirtual 100, 22, 1, 0) := ⟨mo_22, ⟨_, rfl, mp_22⟩, mc_22, gw_4 77 (by decide +kernel), mv_22, mi_22⟩
theorem lk_490 (nm : String) (rt : Option FieldType) : lnk' RL nm rt (.invokevirtual 104, 97, 1, 0) := ⟨mo_97, ⟨_, rfl, mp_97⟩, mc_97, gw_5 230 (by decide +kernel), mv_97, mi_97⟩
