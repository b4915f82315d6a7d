/-! THE CLASS: the search over bars -/
section CLSEARCH
variable {G : Gx} {d : Nat} {g : Nat → Int → Int} {Q : Qx} {q : Qe}
def rcQ (q : Qe) : Int := if q.2.2.2.1 = 0 then 0 else 1
def stQ (q : Qe) (b lean : Int) : Int := b * q.2.2.1 1 + lean * q.2.2.2.1
def tkQ (q : Qe) (e : Int) : Int := q.2.2.1 1 + e * q.2.2.2.1
def oAt (b lean e : Int) : Int := 9 * (3 * (5 * b + lean + 2) + e + 1)
/-- a bar, and where it may begin -/
def BL (q : Qe) (b lean e : Int) : Prop := (0 ≤ b ∧ b < q.2.2.1 0) ∧ (-(b * rcQ q) ≤ lean ∧ lean ≤ b * rcQ q) ∧ -rcQ q ≤ e ∧ e ≤ rcQ q
theorem rcQ_cs : (q.2.2.2.1 = 0 ∧ rcQ q = 0) ∨ (q.2.2.2.1 ≠ 0 ∧ rcQ q = 1) := by unfold rcQ; by_cases h : q.2.2.2.1 = 0 <;> simp [h]
theorem BL.bd {b lean e : Int} (hq : QeOK q) (h : BL q b lean e) : (0 ≤ b ∧ b ≤ 2) ∧ (-b ≤ lean ∧ lean ≤ b) ∧ (-1 ≤ e ∧ e ≤ 1) ∧ (q.2.2.2.1 = 0 → lean = 0 ∧ e = 0) := by
  have := hq.bars
  obtain ⟨h1, h2, h3⟩ := h
  rcases rcQ_cs (q := q) with ⟨a, b'⟩ | ⟨a, b'⟩
  · rw [b'] at h2 h3
    simp at h2
    omega
  · rw [b'] at h2 h3
    simp at h2
    omega
theorem tk_in (hq : QeOK q) {e : Int} (he : -1 ≤ e ∧ e ≤ 1) : 24 ≤ tkQ q e ∧ tkQ q e ≤ 456 := by
  have h1 := hq.len
  have h2 := hq.2.2.2.1
  have he : e = -1 ∨ e = 0 ∨ e = 1 := by omega
  unfold tkQ
  rcases he with rfl | rfl | rfl <;> omega
theorem st_in (hq : QeOK q) {b lean : Int} (hb : 0 ≤ b ∧ b ≤ 2) (hl : -b ≤ lean ∧ lean ≤ b) : 0 ≤ stQ q b lean ∧ stQ q b lean ≤ 912 := by
  have h1 := hq.len
  have h2 := hq.2.2.2.1
  have hb : b = 0 ∨ b = 1 ∨ b = 2 := by omega
  have hl' : lean = -2 ∨ lean = -1 ∨ lean = 0 ∨ lean = 1 ∨ lean = 2 := by omega
  unfold stQ
  rcases hb with rfl | rfl | rfl <;> rcases hl' with rfl | rfl | rfl | rfl | rfl <;> omega
theorem st_add {b lean e : Int} : stQ q b lean + tkQ q e = stQ q (b + 1) (lean + e) := by
  unfold stQ tkQ
  rw [Int.add_mul, Int.add_mul]
  omega
theorem BL.bt (hq : QeOK q) {b lean e : Int} (h : BL q b lean e) : BtOK (stQ q b lean) (tkQ q e) := by
  obtain ⟨h1, h2, h3, h4⟩ := h.bd hq
  have a1 := st_in hq h1 h2
  have a2 := tk_in hq h3
  exact ⟨⟨a1.1, by omega⟩, by omega, by omega⟩
theorem oAt_in {b lean e : Int} (hb : 0 ≤ b ∧ b ≤ 2) (hl : -b ≤ lean ∧ lean ≤ b) (he : -1 ≤ e ∧ e ≤ 1) : 0 ≤ oAt b lean e ∧ oAt b lean e ≤ 396 := by unfold oAt; omega
theorem oAt_inj {b lean e b' lean' e' i i' : Int} (hl : -2 ≤ lean ∧ lean ≤ 2) (he : -1 ≤ e ∧ e ≤ 1) (hl' : -2 ≤ lean' ∧ lean' ≤ 2) (he' : -1 ≤ e' ∧ e' ≤ 1) (hi : 0 ≤ i ∧ i ≤ 8) (hi' : 0 ≤ i' ∧ i' ≤ 8) (h : oAt b lean e + i = oAt b' lean' e' + i') : b = b' ∧ lean = lean' ∧ e = e' ∧ i = i' := by
  unfold oAt at h; omega
theorem ch_eq {e be : Int} (hq : QeOK q) (he : -1 ≤ e ∧ e ≤ 1) (hb : -1 ≤ be ∧ be ≤ 1) : chQ q (tkQ q e) (tkQ q be) = (if 0 ≤ e - be then e - be else be - e) * q.2.2.2.1 * (216 * q.2.2.1 8) := by
  have h2 := hq.2.2.2.1
  have hk : (if tkQ q e < tkQ q be then tkQ q be - tkQ q e else tkQ q e - tkQ q be) = (if 0 ≤ e - be then e - be else be - e) * q.2.2.2.1 := by
    unfold tkQ
    have he : e = -1 ∨ e = 0 ∨ e = 1 := by omega
    have hb : be = -1 ∨ be = 0 ∨ be = 1 := by omega
    rcases he with rfl | rfl | rfl <;> rcases hb with rfl | rfl | rfl <;> simp <;> split <;> omega
  unfold chQ
  rw [hk, Int.mul_comm]
theorem q_reach (hK : TK g q) (h : Q (some (vi (rcQ q))) (Mw g)) : Cg G d 112 [vr 14] (Mw g) Q := by
  have e1 : g 16 7 = q.2.2.2.1 := hK.1.2.2.2.1
  refine C_t (a := [vr 14]) mo_112 rfl rfl (Nat.le_of_ble_eq_true rfl) ?_
  change Tg G _ (73, 42835) 112 0 [vr 14] [] (Mw _) _
  refine T_b ok_X2_reach_0 ?_
  simp only [vI_i, vJ_l, isI_i, isR_r, isR_c, aN_s, isA_s, okS_0, okS_s, isL_i, isL_l, isL_r, szV_i, szV_l, szV_r, szS_n, szS_c, pops_0, pops_s, icm_eq, icm_ne, icm_lt, icm_ge, icm_gt, icm_le, aG_s, oG_s, u_nil, v_aload0, u_astore0, u_astorec0, v_iload0, u_istore0, v_lload0, u_lstore0, v_aload1, u_astore1, u_astorec1, v_iload1, u_istore1, v_lload1, u_lstore1, v_aload2, u_astore2, u_astorec2, v_iload2, u_istore2, v_lload2, u_lstore2, v_aload3, u_astore3, u_astorec3, v_iload3, u_istore3, v_lload3, u_lstore3, v_aload, u_astore, v_iload, u_istore, v_lload, u_lstore, u_iconst, u_bipush, u_sipush, u_ldc, u_ldcs, u_ldc2, v_iinc, u_iadd, u_isub, u_imul, u_iand, u_idiv, u_irem, u_ineg, u_ladd, u_lmul, u_ldiv, u_lrem, u_lcmp, u_i2l, u_l2i, u_dup, u_dup2, u_pop, u_if, u_icmp, u_goto, u_switch, u_getf0, u_getf2, u_getf1, u_putf0, u_putf2, u_putf1, u_getst, v_iald, u_ialdc, v_iast, u_alen, u_newa, u_new, u_virt, u_spec, u_stat, w_iret, w_zret, u_lret, u_aret, u_vret, cV_s, cS_s, wc_v, wc_i, wc_s, vc_copy, uc_copyc, uc_min, uc_max, uc_abs, uc_char, uc_obj, gl_0, gl_s, sl_0, sl_s, wA, wR, wK, ceW_1, ceN_2, ceN_3, ceN_4, ceN_5, ceN_6, ceN_7, ceN_8, c_t, bu, QW_w, true_and, and_true, Bool.not_false, Option.toList_some, Option.toList_none, List.cons_append, List.nil_append, List.singleton_append, Int.cast_ofNat_Int, Int.natCast_zero, Int.natCast_one, true_implies, implies_true, not_true_eq_false, not_false_eq_true, ne_eq, eq_self, true_or, or_true, or_false, false_or, and_self, Int.reduceNeg, Int.reduceLE, Int.reduceLT, Int.reduceEq, Int.reduceAdd, Int.reduceSub, Int.reduceMul, Int.reduceNe, Nat.reduceAdd, Nat.reduceSub, Nat.reduceLeDiff, Nat.reduceLT, Nat.reduceEqDiff, Int.reduceToNat, Int.reduceNatCast, Int.reduceTDiv, Int.reduceTMod, false_implies, false_and, and_false, reduceIte, ite_true, ite_false, e1]
  rcases rcQ_cs (q := q) with ⟨a, b⟩ | ⟨a, b⟩
  · refine ⟨fun z => absurd a z, fun _ => ?_⟩
    rw [b] at h
    refine T_b ok_X2_reach_15 ?_
    simp only [vI_i, vJ_l, isI_i, isR_r, isR_c, aN_s, isA_s, okS_0, okS_s, isL_i, isL_l, isL_r, szV_i, szV_l, szV_r, szS_n, szS_c, pops_0, pops_s, icm_eq, icm_ne, icm_lt, icm_ge, icm_gt, icm_le, aG_s, oG_s, u_nil, v_aload0, u_astore0, u_astorec0, v_iload0, u_istore0, v_lload0, u_lstore0, v_aload1, u_astore1, u_astorec1, v_iload1, u_istore1, v_lload1, u_lstore1, v_aload2, u_astore2, u_astorec2, v_iload2, u_istore2, v_lload2, u_lstore2, v_aload3, u_astore3, u_astorec3, v_iload3, u_istore3, v_lload3, u_lstore3, v_aload, u_astore, v_iload, u_istore, v_lload, u_lstore, u_iconst, u_bipush, u_sipush, u_ldc, u_ldcs, u_ldc2, v_iinc, u_iadd, u_isub, u_imul, u_iand, u_idiv, u_irem, u_ineg, u_ladd, u_lmul, u_ldiv, u_lrem, u_lcmp, u_i2l, u_l2i, u_dup, u_dup2, u_pop, u_if, u_icmp, u_goto, u_switch, u_getf0, u_getf2, u_getf1, u_putf0, u_putf2, u_putf1, u_getst, v_iald, u_ialdc, v_iast, u_alen, u_newa, u_new, u_virt, u_spec, u_stat, w_iret, w_zret, u_lret, u_aret, u_vret, cV_s, cS_s, wc_v, wc_i, wc_s, vc_copy, uc_copyc, uc_min, uc_max, uc_abs, uc_char, uc_obj, gl_0, gl_s, sl_0, sl_s, wA, wR, wK, ceW_1, ceN_2, ceN_3, ceN_4, ceN_5, ceN_6, ceN_7, ceN_8, c_t, bu, QW_w, true_and, and_true, Bool.not_false, Option.toList_some, Option.toList_none, List.cons_append, List.nil_append, List.singleton_append, Int.cast_ofNat_Int, Int.natCast_zero, Int.natCast_one, true_implies, implies_true, not_true_eq_false, not_false_eq_true, ne_eq, eq_self, true_or, or_true, or_false, false_or, and_self, Int.reduceNeg, Int.reduceLE, Int.reduceLT, Int.reduceEq, Int.reduceAdd, Int.reduceSub, Int.reduceMul, Int.reduceNe, Nat.reduceAdd, Nat.reduceSub, Nat.reduceLeDiff, Nat.reduceLT, Nat.reduceEqDiff, Int.reduceToNat, Int.reduceNatCast, Int.reduceTDiv, Int.reduceTMod, false_implies, false_and, and_false, reduceIte, ite_true, ite_false]
    exact h
  · refine ⟨fun _ => ?_, fun z => absurd a z⟩
    rw [b] at h
    refine T_b ok_X2_reach_14 ?_
    simp only [vI_i, vJ_l, isI_i, isR_r, isR_c, aN_s, isA_s, okS_0, okS_s, isL_i, isL_l, isL_r, szV_i, szV_l, szV_r, szS_n, szS_c, pops_0, pops_s, icm_eq, icm_ne, icm_lt, icm_ge, icm_gt, icm_le, aG_s, oG_s, u_nil, v_aload0, u_astore0, u_astorec0, v_iload0, u_istore0, v_lload0, u_lstore0, v_aload1, u_astore1, u_astorec1, v_iload1, u_istore1, v_lload1, u_lstore1, v_aload2, u_astore2, u_astorec2, v_iload2, u_istore2, v_lload2, u_lstore2, v_aload3, u_astore3, u_astorec3, v_iload3, u_istore3, v_lload3, u_lstore3, v_aload, u_astore, v_iload, u_istore, v_lload, u_lstore, u_iconst, u_bipush, u_sipush, u_ldc, u_ldcs, u_ldc2, v_iinc, u_iadd, u_isub, u_imul, u_iand, u_idiv, u_irem, u_ineg, u_ladd, u_lmul, u_ldiv, u_lrem, u_lcmp, u_i2l, u_l2i, u_dup, u_dup2, u_pop, u_if, u_icmp, u_goto, u_switch, u_getf0, u_getf2, u_getf1, u_putf0, u_putf2, u_putf1, u_getst, v_iald, u_ialdc, v_iast, u_alen, u_newa, u_new, u_virt, u_spec, u_stat, w_iret, w_zret, u_lret, u_aret, u_vret, cV_s, cS_s, wc_v, wc_i, wc_s, vc_copy, uc_copyc, uc_min, uc_max, uc_abs, uc_char, uc_obj, gl_0, gl_s, sl_0, sl_s, wA, wR, wK, ceW_1, ceN_2, ceN_3, ceN_4, ceN_5, ceN_6, ceN_7, ceN_8, c_t, bu, QW_w, true_and, and_true, Bool.not_false, Option.toList_some, Option.toList_none, List.cons_append, List.nil_append, List.singleton_append, Int.cast_ofNat_Int, Int.natCast_zero, Int.natCast_one, true_implies, implies_true, not_true_eq_false, not_false_eq_true, ne_eq, eq_self, true_or, or_true, or_false, false_or, and_self, Int.reduceNeg, Int.reduceLE, Int.reduceLT, Int.reduceEq, Int.reduceAdd, Int.reduceSub, Int.reduceMul, Int.reduceNe, Nat.reduceAdd, Nat.reduceSub, Nat.reduceLeDiff, Nat.reduceLT, Nat.reduceEqDiff, Int.reduceToNat, Int.reduceNatCast, Int.reduceTDiv, Int.reduceTMod, false_implies, false_and, and_false, reduceIte, ite_true, ite_false]
    refine T_b ok_X2_reach_15 ?_
    simp only [vI_i, vJ_l, isI_i, isR_r, isR_c, aN_s, isA_s, okS_0, okS_s, isL_i, isL_l, isL_r, szV_i, szV_l, szV_r, szS_n, szS_c, pops_0, pops_s, icm_eq, icm_ne, icm_lt, icm_ge, icm_gt, icm_le, aG_s, oG_s, u_nil, v_aload0, u_astore0, u_astorec0, v_iload0, u_istore0, v_lload0, u_lstore0, v_aload1, u_astore1, u_astorec1, v_iload1, u_istore1, v_lload1, u_lstore1, v_aload2, u_astore2, u_astorec2, v_iload2, u_istore2, v_lload2, u_lstore2, v_aload3, u_astore3, u_astorec3, v_iload3, u_istore3, v_lload3, u_lstore3, v_aload, u_astore, v_iload, u_istore, v_lload, u_lstore, u_iconst, u_bipush, u_sipush, u_ldc, u_ldcs, u_ldc2, v_iinc, u_iadd, u_isub, u_imul, u_iand, u_idiv, u_irem, u_ineg, u_ladd, u_lmul, u_ldiv, u_lrem, u_lcmp, u_i2l, u_l2i, u_dup, u_dup2, u_pop, u_if, u_icmp, u_goto, u_switch, u_getf0, u_getf2, u_getf1, u_putf0, u_putf2, u_putf1, u_getst, v_iald, u_ialdc, v_iast, u_alen, u_newa, u_new, u_virt, u_spec, u_stat, w_iret, w_zret, u_lret, u_aret, u_vret, cV_s, cS_s, wc_v, wc_i, wc_s, vc_copy, uc_copyc, uc_min, uc_max, uc_abs, uc_char, uc_obj, gl_0, gl_s, sl_0, sl_s, wA, wR, wK, ceW_1, ceN_2, ceN_3, ceN_4, ceN_5, ceN_6, ceN_7, ceN_8, c_t, bu, QW_w, true_and, and_true, Bool.not_false, Option.toList_some, Option.toList_none, List.cons_append, List.nil_append, List.singleton_append, Int.cast_ofNat_Int, Int.natCast_zero, Int.natCast_one, true_implies, implies_true, not_true_eq_false, not_false_eq_true, ne_eq, eq_self, true_or, or_true, or_false, false_or, and_self, Int.reduceNeg, Int.reduceLE, Int.reduceLT, Int.reduceEq, Int.reduceAdd, Int.reduceSub, Int.reduceMul, Int.reduceNe, Nat.reduceAdd, Nat.reduceSub, Nat.reduceLeDiff, Nat.reduceLT, Nat.reduceEqDiff, Int.reduceToNat, Int.reduceNatCast, Int.reduceTDiv, Int.reduceTMod, false_implies, false_and, and_false, reduceIte, ite_true, ite_false]
    exact h
theorem q_beginOf (hK : TK g q) (hq : QeOK q) {b lean : Int} (hb : 0 ≤ b ∧ b ≤ 2) (hl : -b ≤ lean ∧ lean ≤ b) (h : Q (some (vi (stQ q b lean))) (Mw g)) : Cg G d 113 [vr 14, vi b, vi lean] (Mw g) Q := by
  have e1 : g 16 7 = q.2.2.2.1 := hK.1.2.2.2.1
  have e2 : g 16 6 = q.2.2.1 1 := hK.1.2.2.1
  have h1 := hq.len
  have h2 := hq.2.2.2.1
  have hs := st_in hq hb hl
  have l1 : 0 ≤ b * q.2.2.1 1 := Int.mul_nonneg hb.1 (by omega)
  have l2 : b * q.2.2.1 1 ≤ 2 * 432 := Int.mul_le_mul hb.2 h1.2 (by omega) (by omega)
  have hs' := hs
  unfold stQ at hs'
  have w1 : wr (b * q.2.2.1 1) = b * q.2.2.1 1 := wr_of (by omega) (by omega)
  have w2 : wr (lean * q.2.2.2.1) = lean * q.2.2.2.1 := wr_of (by omega) (by omega)
  have w3 : wr (b * q.2.2.1 1 + lean * q.2.2.2.1) = stQ q b lean := by rw [wr_of (by omega) (by omega)]; rfl
  refine C_t (a := [vr 14, vi b, vi lean]) mo_113 rfl rfl (Nat.le_of_ble_eq_true rfl) ?_
  change Tg G _ (73, 42835) 113 0 [vr 14, vi b, vi lean] [] (Mw _) _
  refine T_b ok_X2_beginOf_0 ?_
  simp only [vI_i, vJ_l, isI_i, isR_r, isR_c, aN_s, isA_s, okS_0, okS_s, isL_i, isL_l, isL_r, szV_i, szV_l, szV_r, szS_n, szS_c, pops_0, pops_s, icm_eq, icm_ne, icm_lt, icm_ge, icm_gt, icm_le, aG_s, oG_s, u_nil, v_aload0, u_astore0, u_astorec0, v_iload0, u_istore0, v_lload0, u_lstore0, v_aload1, u_astore1, u_astorec1, v_iload1, u_istore1, v_lload1, u_lstore1, v_aload2, u_astore2, u_astorec2, v_iload2, u_istore2, v_lload2, u_lstore2, v_aload3, u_astore3, u_astorec3, v_iload3, u_istore3, v_lload3, u_lstore3, v_aload, u_astore, v_iload, u_istore, v_lload, u_lstore, u_iconst, u_bipush, u_sipush, u_ldc, u_ldcs, u_ldc2, v_iinc, u_iadd, u_isub, u_imul, u_iand, u_idiv, u_irem, u_ineg, u_ladd, u_lmul, u_ldiv, u_lrem, u_lcmp, u_i2l, u_l2i, u_dup, u_dup2, u_pop, u_if, u_icmp, u_goto, u_switch, u_getf0, u_getf2, u_getf1, u_putf0, u_putf2, u_putf1, u_getst, v_iald, u_ialdc, v_iast, u_alen, u_newa, u_new, u_virt, u_spec, u_stat, w_iret, w_zret, u_lret, u_aret, u_vret, cV_s, cS_s, wc_v, wc_i, wc_s, vc_copy, uc_copyc, uc_min, uc_max, uc_abs, uc_char, uc_obj, gl_0, gl_s, sl_0, sl_s, wA, wR, wK, ceW_1, ceN_2, ceN_3, ceN_4, ceN_5, ceN_6, ceN_7, ceN_8, c_t, bu, QW_w, true_and, and_true, Bool.not_false, Option.toList_some, Option.toList_none, List.cons_append, List.nil_append, List.singleton_append, Int.cast_ofNat_Int, Int.natCast_zero, Int.natCast_one, true_implies, implies_true, not_true_eq_false, not_false_eq_true, ne_eq, eq_self, true_or, or_true, or_false, false_or, and_self, Int.reduceNeg, Int.reduceLE, Int.reduceLT, Int.reduceEq, Int.reduceAdd, Int.reduceSub, Int.reduceMul, Int.reduceNe, Nat.reduceAdd, Nat.reduceSub, Nat.reduceLeDiff, Nat.reduceLT, Nat.reduceEqDiff, Int.reduceToNat, Int.reduceNatCast, Int.reduceTDiv, Int.reduceTMod, false_implies, false_and, and_false, reduceIte, ite_true, ite_false, e1, e2, w1, w2, w3]
  exact h
theorem q_ticksOf (hK : TK g q) (hq : QeOK q) {e : Int} (he : -1 ≤ e ∧ e ≤ 1) (h : Q (some (vi (tkQ q e))) (Mw g)) : Cg G d 114 [vr 14, vi e] (Mw g) Q := by
  have e1 : g 16 7 = q.2.2.2.1 := hK.1.2.2.2.1
  have e2 : g 16 6 = q.2.2.1 1 := hK.1.2.2.1
  have h1 := hq.len
  have hs := tk_in hq he
  unfold tkQ at hs
  have w2 : wr (e * q.2.2.2.1) = e * q.2.2.2.1 := wr_of (by omega) (by omega)
  have w3 : wr (q.2.2.1 1 + e * q.2.2.2.1) = tkQ q e := by rw [wr_of (by omega) (by omega)]; rfl
  refine C_t (a := [vr 14, vi e]) mo_114 rfl rfl (Nat.le_of_ble_eq_true rfl) ?_
  change Tg G _ (73, 42835) 114 0 [vr 14, vi e] [] (Mw _) _
  refine T_b ok_X2_ticksOf_0 ?_
  simp only [vI_i, vJ_l, isI_i, isR_r, isR_c, aN_s, isA_s, okS_0, okS_s, isL_i, isL_l, isL_r, szV_i, szV_l, szV_r, szS_n, szS_c, pops_0, pops_s, icm_eq, icm_ne, icm_lt, icm_ge, icm_gt, icm_le, aG_s, oG_s, u_nil, v_aload0, u_astore0, u_astorec0, v_iload0, u_istore0, v_lload0, u_lstore0, v_aload1, u_astore1, u_astorec1, v_iload1, u_istore1, v_lload1, u_lstore1, v_aload2, u_astore2, u_astorec2, v_iload2, u_istore2, v_lload2, u_lstore2, v_aload3, u_astore3, u_astorec3, v_iload3, u_istore3, v_lload3, u_lstore3, v_aload, u_astore, v_iload, u_istore, v_lload, u_lstore, u_iconst, u_bipush, u_sipush, u_ldc, u_ldcs, u_ldc2, v_iinc, u_iadd, u_isub, u_imul, u_iand, u_idiv, u_irem, u_ineg, u_ladd, u_lmul, u_ldiv, u_lrem, u_lcmp, u_i2l, u_l2i, u_dup, u_dup2, u_pop, u_if, u_icmp, u_goto, u_switch, u_getf0, u_getf2, u_getf1, u_putf0, u_putf2, u_putf1, u_getst, v_iald, u_ialdc, v_iast, u_alen, u_newa, u_new, u_virt, u_spec, u_stat, w_iret, w_zret, u_lret, u_aret, u_vret, cV_s, cS_s, wc_v, wc_i, wc_s, vc_copy, uc_copyc, uc_min, uc_max, uc_abs, uc_char, uc_obj, gl_0, gl_s, sl_0, sl_s, wA, wR, wK, ceW_1, ceN_2, ceN_3, ceN_4, ceN_5, ceN_6, ceN_7, ceN_8, c_t, bu, QW_w, true_and, and_true, Bool.not_false, Option.toList_some, Option.toList_none, List.cons_append, List.nil_append, List.singleton_append, Int.cast_ofNat_Int, Int.natCast_zero, Int.natCast_one, true_implies, implies_true, not_true_eq_false, not_false_eq_true, ne_eq, eq_self, true_or, or_true, or_false, false_or, and_self, Int.reduceNeg, Int.reduceLE, Int.reduceLT, Int.reduceEq, Int.reduceAdd, Int.reduceSub, Int.reduceMul, Int.reduceNe, Nat.reduceAdd, Nat.reduceSub, Nat.reduceLeDiff, Nat.reduceLT, Nat.reduceEqDiff, Int.reduceToNat, Int.reduceNatCast, Int.reduceTDiv, Int.reduceTMod, false_implies, false_and, and_false, reduceIte, ite_true, ite_false, e1, e2, w2, w3]
  exact h
theorem q_onwardAt {b lean e : Int} (hb : 0 ≤ b ∧ b ≤ 2) (hl : -b ≤ lean ∧ lean ≤ b) (he : -1 ≤ e ∧ e ≤ 1) (h : Q (some (vi (oAt b lean e))) (Mw g)) : Cg G d 117 [vi b, vi lean, vi e] (Mw g) Q := by
  have w1 : wr (b * 5) = 5 * b := by rw [wr_of (by omega) (by omega)]; omega
  have w2 : wr (5 * b + lean) = 5 * b + lean := wr_of (by omega) (by omega)
  have w3 : wr (5 * b + lean + 3) = 5 * b + lean + 3 := wr_of (by omega) (by omega)
  have w4 : wr (5 * b + lean + 3 - 1) = 5 * b + lean + 2 := by rw [wr_of (by omega) (by omega)]; omega
  have w5 : wr ((5 * b + lean + 2) * 3) = 3 * (5 * b + lean + 2) := by rw [wr_of (by omega) (by omega)]; omega
  have w6 : wr (3 * (5 * b + lean + 2) + e) = 3 * (5 * b + lean + 2) + e := wr_of (by omega) (by omega)
  have w7 : wr (3 * (5 * b + lean + 2) + e + 1) = 3 * (5 * b + lean + 2) + e + 1 := wr_of (by omega) (by omega)
  have w8 : wr ((3 * (5 * b + lean + 2) + e + 1) * 9) = oAt b lean e := by rw [wr_of (by omega) (by omega)]; unfold oAt; omega
  refine C_t (a := [vi b, vi lean, vi e]) mo_117 rfl rfl (Nat.le_of_ble_eq_true rfl) ?_
  change Tg G _ (73, 42835) 117 0 [vi b, vi lean, vi e] [] (Mw _) _
  refine T_b ok_X2_onwardAt_0 ?_
  simp only [vI_i, vJ_l, isI_i, isR_r, isR_c, aN_s, isA_s, okS_0, okS_s, isL_i, isL_l, isL_r, szV_i, szV_l, szV_r, szS_n, szS_c, pops_0, pops_s, icm_eq, icm_ne, icm_lt, icm_ge, icm_gt, icm_le, aG_s, oG_s, u_nil, v_aload0, u_astore0, u_astorec0, v_iload0, u_istore0, v_lload0, u_lstore0, v_aload1, u_astore1, u_astorec1, v_iload1, u_istore1, v_lload1, u_lstore1, v_aload2, u_astore2, u_astorec2, v_iload2, u_istore2, v_lload2, u_lstore2, v_aload3, u_astore3, u_astorec3, v_iload3, u_istore3, v_lload3, u_lstore3, v_aload, u_astore, v_iload, u_istore, v_lload, u_lstore, u_iconst, u_bipush, u_sipush, u_ldc, u_ldcs, u_ldc2, v_iinc, u_iadd, u_isub, u_imul, u_iand, u_idiv, u_irem, u_ineg, u_ladd, u_lmul, u_ldiv, u_lrem, u_lcmp, u_i2l, u_l2i, u_dup, u_dup2, u_pop, u_if, u_icmp, u_goto, u_switch, u_getf0, u_getf2, u_getf1, u_putf0, u_putf2, u_putf1, u_getst, v_iald, u_ialdc, v_iast, u_alen, u_newa, u_new, u_virt, u_spec, u_stat, w_iret, w_zret, u_lret, u_aret, u_vret, cV_s, cS_s, wc_v, wc_i, wc_s, vc_copy, uc_copyc, uc_min, uc_max, uc_abs, uc_char, uc_obj, gl_0, gl_s, sl_0, sl_s, wA, wR, wK, ceW_1, ceN_2, ceN_3, ceN_4, ceN_5, ceN_6, ceN_7, ceN_8, c_t, bu, QW_w, true_and, and_true, Bool.not_false, Option.toList_some, Option.toList_none, List.cons_append, List.nil_append, List.singleton_append, Int.cast_ofNat_Int, Int.natCast_zero, Int.natCast_one, true_implies, implies_true, not_true_eq_false, not_false_eq_true, ne_eq, eq_self, true_or, or_true, or_false, false_or, and_self, Int.reduceNeg, Int.reduceLE, Int.reduceLT, Int.reduceEq, Int.reduceAdd, Int.reduceSub, Int.reduceMul, Int.reduceNe, Nat.reduceAdd, Nat.reduceSub, Nat.reduceLeDiff, Nat.reduceLT, Nat.reduceEqDiff, Int.reduceToNat, Int.reduceNatCast, Int.reduceTDiv, Int.reduceTMod, false_implies, false_and, and_false, reduceIte, ite_true, ite_false, w1, w2, w3, w4, w5, w6, w7, w8]
  exact h
/-- what may be asked of bar b: which strokes it may begin with -/
def FI (q : Qe) (b i : Int) : Prop := 0 ≤ i ∧ i ≤ (if b = 0 then 0 else (q.1 : Int))
/-- onward is right for all bars from k on -/
def OW (g : Nat → Int → Int) (q : Qe) (k : Int) : Prop := ∀ b lean e i : Int, k ≤ b → BL q b lean e → FI q b i → g 32 (oAt b lean e + i) = owQ q (q.2.2.1 0 - 1 - b).toNat (stQ q b lean) (tkQ q e) i
theorem q_costWith (hK : TK g q) (hq : QeOK q) {b lean be e i k : Int} (hO : OW g q k) (hk : k ≤ b) (hB : BL q b lean e) (hbe : -1 ≤ be ∧ be ≤ 1) (hi : FI q b i) (h : Q (some (vi (chQ q (tkQ q e) (tkQ q be) + owQ q (q.2.2.1 0 - 1 - b).toNat (stQ q b lean) (tkQ q e) i))) (Mw g)) :
    Cg G (d + 1) 119 [vr 14, vi b, vi lean, vi be, vi e, vi i] (Mw g) Q := by
  obtain ⟨h1, h2, h3, h4⟩ := hB.bd hq
  have e1 : g 16 7 = q.2.2.2.1 := hK.1.2.2.2.1
  have e2 : g 16 9 = 216 * q.2.2.1 8 := hK.1.2.2.2.2.2.1
  have s8 := hq.st 8 (by omega) (by omega)
  have hv := hq.2.2.2.1
  have hn := hq.1
  have hii : 0 ≤ i ∧ i ≤ 8 := by
    unfold FI at hi
    split at hi <;> omega
  have ho := hO b lean e i hk hB hi
  have hc := owQ_cap hq (q.2.2.1 0 - 1 - b).toNat (stQ q b lean) (tkQ q e) i
  have hf := fa_def
  have hA := oAt_in h1 h2 h3
  rw [ch_eq hq h3 hbe] at h
  generalize ha : (if 0 ≤ e - be then e - be else be - e) = ab at h
  have hab : 0 ≤ ab ∧ ab ≤ 2 := by rw [← ha]; split <;> omega
  have w1 : wr (e - be) = e - be := wr_of (by omega) (by omega)
  have w2 : iab (e - be) = ab := by
    unfold iab
    rw [← ha]
    split
    · rfl
    · rw [wr_of (by omega) (by omega)]; omega
  have l1 : 0 ≤ ab * q.2.2.2.1 := Int.mul_nonneg hab.1 hv.1
  have l2 : ab * q.2.2.2.1 ≤ 2 * 24 := Int.mul_le_mul hab.2 hv.2 hv.1 (by omega)
  have l3 : 0 ≤ ab * q.2.2.2.1 * (216 * q.2.2.1 8) := Int.mul_nonneg l1 (by omega)
  have l4 : ab * q.2.2.2.1 * (216 * q.2.2.1 8) ≤ (2 * 24) * 21384 := Int.mul_le_mul l2 (by omega) (by omega) (by omega)
  have w3 : wr (ab * q.2.2.2.1) = ab * q.2.2.2.1 := wr_of (by omega) (by omega)
  have w4 : wr (ab * q.2.2.2.1 * (216 * q.2.2.1 8)) = ab * q.2.2.2.1 * (216 * q.2.2.1 8) := wr_of (by omega) (by omega)
  have w5 : wr (oAt b lean e + i) = oAt b lean e + i := wr_of (by omega) (by omega)
  have w6 : wr (ab * q.2.2.2.1 * (216 * q.2.2.1 8) + owQ q (q.2.2.1 0 - 1 - b).toNat (stQ q b lean) (tkQ q e) i) = ab * q.2.2.2.1 * (216 * q.2.2.1 8) + owQ q (q.2.2.1 0 - 1 - b).toNat (stQ q b lean) (tkQ q e) i := wr_of (by omega) (by omega)
  refine C_t (a := [vr 14, vi b, vi lean, vi be, vi e, vi i]) mo_119 rfl rfl (Nat.le_of_ble_eq_true rfl) ?_
  change Tg G _ (73, 42835) 119 0 [vr 14, vi b, vi lean, vi be, vi e, vi i, vc 0] [] (Mw _) _
  refine T_b ok_X2_costWith_0 ?_
  simp only [vI_i, vJ_l, isI_i, isR_r, isR_c, aN_s, isA_s, okS_0, okS_s, isL_i, isL_l, isL_r, szV_i, szV_l, szV_r, szS_n, szS_c, pops_0, pops_s, icm_eq, icm_ne, icm_lt, icm_ge, icm_gt, icm_le, aG_s, oG_s, u_nil, v_aload0, u_astore0, u_astorec0, v_iload0, u_istore0, v_lload0, u_lstore0, v_aload1, u_astore1, u_astorec1, v_iload1, u_istore1, v_lload1, u_lstore1, v_aload2, u_astore2, u_astorec2, v_iload2, u_istore2, v_lload2, u_lstore2, v_aload3, u_astore3, u_astorec3, v_iload3, u_istore3, v_lload3, u_lstore3, v_aload, u_astore, v_iload, u_istore, v_lload, u_lstore, u_iconst, u_bipush, u_sipush, u_ldc, u_ldcs, u_ldc2, v_iinc, u_iadd, u_isub, u_imul, u_iand, u_idiv, u_irem, u_ineg, u_ladd, u_lmul, u_ldiv, u_lrem, u_lcmp, u_i2l, u_l2i, u_dup, u_dup2, u_pop, u_if, u_icmp, u_goto, u_switch, u_getf0, u_getf2, u_getf1, u_putf0, u_putf2, u_putf1, u_getst, v_iald, u_ialdc, v_iast, u_alen, u_newa, u_new, u_virt, u_spec, u_stat, w_iret, w_zret, u_lret, u_aret, u_vret, cV_s, cS_s, wc_v, wc_i, wc_s, vc_copy, uc_copyc, uc_min, uc_max, uc_abs, uc_char, uc_obj, gl_0, gl_s, sl_0, sl_s, wA, wR, wK, ceW_1, ceN_2, ceN_3, ceN_4, ceN_5, ceN_6, ceN_7, ceN_8, c_t, bu, QW_w, true_and, and_true, Bool.not_false, Option.toList_some, Option.toList_none, List.cons_append, List.nil_append, List.singleton_append, Int.cast_ofNat_Int, Int.natCast_zero, Int.natCast_one, true_implies, implies_true, not_true_eq_false, not_false_eq_true, ne_eq, eq_self, true_or, or_true, or_false, false_or, and_self, Int.reduceNeg, Int.reduceLE, Int.reduceLT, Int.reduceEq, Int.reduceAdd, Int.reduceSub, Int.reduceMul, Int.reduceNe, Nat.reduceAdd, Nat.reduceSub, Nat.reduceLeDiff, Nat.reduceLT, Nat.reduceEqDiff, Int.reduceToNat, Int.reduceNatCast, Int.reduceTDiv, Int.reduceTMod, false_implies, false_and, and_false, reduceIte, ite_true, ite_false, e1, e2, w1, w2, w3, w4]
  refine q_onwardAt h1 h2 h3 ?_
  simp only [vI_i, vJ_l, isI_i, isR_r, isR_c, aN_s, isA_s, okS_0, okS_s, isL_i, isL_l, isL_r, szV_i, szV_l, szV_r, szS_n, szS_c, pops_0, pops_s, icm_eq, icm_ne, icm_lt, icm_ge, icm_gt, icm_le, aG_s, oG_s, u_nil, v_aload0, u_astore0, u_astorec0, v_iload0, u_istore0, v_lload0, u_lstore0, v_aload1, u_astore1, u_astorec1, v_iload1, u_istore1, v_lload1, u_lstore1, v_aload2, u_astore2, u_astorec2, v_iload2, u_istore2, v_lload2, u_lstore2, v_aload3, u_astore3, u_astorec3, v_iload3, u_istore3, v_lload3, u_lstore3, v_aload, u_astore, v_iload, u_istore, v_lload, u_lstore, u_iconst, u_bipush, u_sipush, u_ldc, u_ldcs, u_ldc2, v_iinc, u_iadd, u_isub, u_imul, u_iand, u_idiv, u_irem, u_ineg, u_ladd, u_lmul, u_ldiv, u_lrem, u_lcmp, u_i2l, u_l2i, u_dup, u_dup2, u_pop, u_if, u_icmp, u_goto, u_switch, u_getf0, u_getf2, u_getf1, u_putf0, u_putf2, u_putf1, u_getst, v_iald, u_ialdc, v_iast, u_alen, u_newa, u_new, u_virt, u_spec, u_stat, w_iret, w_zret, u_lret, u_aret, u_vret, cV_s, cS_s, wc_v, wc_i, wc_s, vc_copy, uc_copyc, uc_min, uc_max, uc_abs, uc_char, uc_obj, gl_0, gl_s, sl_0, sl_s, wA, wR, wK, ceW_1, ceN_2, ceN_3, ceN_4, ceN_5, ceN_6, ceN_7, ceN_8, c_t, bu, QW_w, true_and, and_true, Bool.not_false, Option.toList_some, Option.toList_none, List.cons_append, List.nil_append, List.singleton_append, Int.cast_ofNat_Int, Int.natCast_zero, Int.natCast_one, true_implies, implies_true, not_true_eq_false, not_false_eq_true, ne_eq, eq_self, true_or, or_true, or_false, false_or, and_self, Int.reduceNeg, Int.reduceLE, Int.reduceLT, Int.reduceEq, Int.reduceAdd, Int.reduceSub, Int.reduceMul, Int.reduceNe, Nat.reduceAdd, Nat.reduceSub, Nat.reduceLeDiff, Nat.reduceLT, Nat.reduceEqDiff, Int.reduceToNat, Int.reduceNatCast, Int.reduceTDiv, Int.reduceTMod, false_implies, false_and, and_false, reduceIte, ite_true, ite_false, w5, ho, w6]
  exact ⟨by omega, h⟩
end CLSEARCH
