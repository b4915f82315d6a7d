/-! THE REFERENCE'S MAKER; printed by wip/whole/gen_init6.py -/
section INI6
variable {G : Gx} {d : Nat} {g : Nat → Int → Int} {Q : Qx}
def x9S (r s : Int) : Int := if r < 2 then s / 2 else if r = 2 then s / 3 * 2 else s / 3
def x9A (r s : Int) : Int := if r = 1 then s / 2 else if r = 3 ∨ r = 6 then s / 3 * 2 else if r = 5 then s / 3 else 0
def XI (g : Nat → Int → Int) (i : Int) : Prop := (g 46 0 = 0 ∧ g 47 0 = 216) ∧ (∀ j : Int, 0 ≤ j → j < i → 0 ≤ g 46 j ∧ 0 ≤ g 47 j ∧ g 46 j + g 47 j ≤ 216) ∧ ∀ o r : Int, 0 ≤ o → 0 ≤ r → r < 7 → 7 * o + 1 + r < i → g 46 (7 * o + 1 + r) = g 46 o + x9A r (g 47 o) ∧ g 47 (7 * o + 1 + r) = x9S r (g 47 o)
theorem x9_in {r b s : Int} (h0 : 0 ≤ r) (h7 : r < 7) (hb : 0 ≤ b) (hs : 0 ≤ s) (hbs : b + s ≤ 216) : 0 ≤ b + x9A r s ∧ 0 ≤ x9S r s ∧ b + x9A r s + x9S r s ≤ 216 := by
  unfold x9A x9S
  rcases (by omega : r = 0 ∨ r = 1 ∨ r = 2 ∨ r = 3 ∨ r = 4 ∨ r = 5 ∨ r = 6) with e | e | e | e | e | e | e <;> subst e <;> simp <;> omega
theorem XI.step {i o r : Int} (h : XI g i) (e : i = 7 * o + 1 + r) (ho : 0 ≤ o) (h0 : 0 ≤ r) (h7 : r < 7) : XI (st (st g 47 i (x9S r (g 47 o))) 46 i (g 46 o + x9A r (g 47 o))) (i + 1) := by
  have k6 : ∀ j : Int, st (st g 47 i (x9S r (g 47 o))) 46 i (g 46 o + x9A r (g 47 o)) 46 j = if j = i then g 46 o + x9A r (g 47 o) else g 46 j := fun j => by
    unfold st
    by_cases u : j = i
    · rw [if_pos ⟨rfl, u⟩, if_pos u]
    · rw [if_neg (fun w => u w.2), if_neg (fun w => absurd w.1 (by decide)), if_neg u]
  have k7 : ∀ j : Int, st (st g 47 i (x9S r (g 47 o))) 46 i (g 46 o + x9A r (g 47 o)) 47 j = if j = i then x9S r (g 47 o) else g 47 j := fun j => by
    unfold st
    rw [if_neg (fun w => absurd w.1 (by decide))]
    by_cases u : j = i
    · rw [if_pos ⟨rfl, u⟩, if_pos u]
    · rw [if_neg (fun w => u w.2), if_neg u]
  generalize st (st g 47 i (x9S r (g 47 o))) 46 i (g 46 o + x9A r (g 47 o)) = g' at k6 k7 ⊢
  obtain ⟨⟨a1, a2⟩, a3, a4⟩ := h
  refine ⟨⟨?_, ?_⟩, fun j u v => ?_, fun o' r' u1 u2 u3 u4 => ?_⟩
  · rw [k6, if_neg (by omega)]; exact a1
  · rw [k7, if_neg (by omega)]; exact a2
  · rw [k6, k7]
    by_cases c : j = i
    · rw [if_pos c, if_pos c]
      obtain ⟨b1, b2, b3⟩ := a3 o ho (by omega)
      exact x9_in h0 h7 b1 b2 b3
    · rw [if_neg c, if_neg c]
      exact a3 j u (by omega)
  · rw [k6 (7 * o' + 1 + r'), k7 (7 * o' + 1 + r'), k6 o', k7 o', if_neg (show ¬ o' = i by omega), if_neg (show ¬ o' = i by omega)]
    by_cases c : 7 * o' + 1 + r' = i
    · rw [if_pos c, if_pos c]
      have c1 : o' = o := by omega
      have c2 : r' = r := by omega
      rw [c1, c2]
      exact ⟨rfl, rfl⟩
    · rw [if_neg c, if_neg c]
      exact a4 o' r' u1 u2 u3 (by omega)
theorem XI.mt (h : XI g 400) : MT g := by
  obtain ⟨⟨a1, a2⟩, a3, a4⟩ := h
  refine ⟨a1, a2, fun o k p u v hk p0 hp => ?_⟩
  unfold pcn at hp
  rcases hk with e | e | e <;> subst e
  · have hp' : p < 2 := hp
    rw [show 7 * o + wo 1 + p = 7 * o + 1 + p from rfl]
    obtain ⟨b1, b2⟩ := a4 o p u p0 (by omega) (by omega)
    rw [b1, b2]
    rcases (by omega : p = 0 ∨ p = 1) with e | e <;> subst e <;> refine ⟨?_, ?_⟩ <;> simp [pfr, psz, x9A, x9S]
  · have hp' : p < 2 := hp
    rw [show 7 * o + wo 2 + p = 7 * o + 1 + (p + 2) from (by show 7 * o + 3 + p = _; omega)]
    obtain ⟨b1, b2⟩ := a4 o (p + 2) u (by omega) (by omega) (by omega)
    rw [b1, b2]
    rcases (by omega : p = 0 ∨ p = 1) with e | e <;> subst e <;> refine ⟨?_, ?_⟩ <;> simp [pfr, psz, x9A, x9S]
  · have hp' : p < 3 := hp
    rw [show 7 * o + wo 3 + p = 7 * o + 1 + (p + 4) from (by show 7 * o + 5 + p = _; omega)]
    obtain ⟨b1, b2⟩ := a4 o (p + 4) u (by omega) (by omega) (by omega)
    rw [b1, b2]
    rcases (by omega : p = 0 ∨ p = 1 ∨ p = 2) with e | e | e <;> subst e <;> refine ⟨?_, ?_⟩ <;> simp [pfr, psz, x9A, x9S] <;> omega
theorem t_x9 {g0 : Nat → Int → Int} (hQ : ∀ g' : Nat → Int → Int, XI g' 400 → (∀ (q : Nat) (x : Int), q ≠ 46 → q ≠ 47 → g' q x = g0 q x) → Q none (Mw g')) : ∀ (n : Nat) (i : Int) (g : Nat → Int → Int) (a b c : Vx), 1 ≤ i → i + n = 400 → XI g i → (∀ (q : Nat) (x : Int), q ≠ 46 → q ≠ 47 → g q x = g0 q x) → Tg G d (73, 42835) 35 335 [vr 41, vi i, a, b, c] [] (Mw g) (QW Q)
  | 0, i, g, a, b, c, h1, hn, hx, hf => by
    have e : i = 400 := by omega
    subst e
    refine T_b ok_X9_init_335 ?_
    simp only [vI_i, vJ_l, isI_i, isR_r, isR_c, aN_s, isA_s, okS_0, okS_s, isL_i, isL_l, isL_r, szV_i, szV_l, szV_r, szS_n, szS_c, pops_0, pops_s, icm_eq, icm_ne, icm_lt, icm_ge, icm_gt, icm_le, aG_s, oG_s, u_nil, v_aload0, u_astore0, u_astorec0, v_iload0, u_istore0, v_lload0, u_lstore0, v_aload1, u_astore1, u_astorec1, v_iload1, u_istore1, v_lload1, u_lstore1, v_aload2, u_astore2, u_astorec2, v_iload2, u_istore2, v_lload2, u_lstore2, v_aload3, u_astore3, u_astorec3, v_iload3, u_istore3, v_lload3, u_lstore3, v_aload, u_astore, v_iload, u_istore, v_lload, u_lstore, u_iconst, u_bipush, u_sipush, u_ldc, u_ldcs, u_ldc2, v_iinc, u_iadd, u_isub, u_imul, u_iand, u_idiv, u_irem, u_ineg, u_ladd, u_lmul, u_ldiv, u_lrem, u_lcmp, u_i2l, u_l2i, u_dup, u_dup2, u_pop, u_if, u_icmp, u_goto, u_switch, u_getf0, u_getf2, u_getf1, u_putf0, u_putf2, u_putf1, u_getst, v_iald, u_ialdc, v_iast, u_alen, u_newa, u_new, u_virt, u_spec, u_stat, w_iret, w_zret, u_lret, u_aret, u_vret, cV_s, cS_s, wc_v, wc_i, wc_s, vc_copy, uc_copyc, uc_min, uc_max, uc_abs, uc_char, uc_obj, gl_0, gl_s, sl_0, sl_s, wA, wR, wK, ceW_1, ceN_2, ceN_3, ceN_4, ceN_5, ceN_6, ceN_7, ceN_8, c_t, bu, QW_w, true_and, and_true, Bool.not_false, Option.toList_some, Option.toList_none, List.cons_append, List.nil_append, List.singleton_append, Int.cast_ofNat_Int, Int.natCast_zero, Int.natCast_one, true_implies, implies_true, not_true_eq_false, not_false_eq_true, ne_eq, eq_self, true_or, or_true, or_false, false_or, and_self, Int.reduceNeg, Int.reduceLE, Int.reduceLT, Int.reduceEq, Int.reduceAdd, Int.reduceSub, Int.reduceMul, Int.reduceNe, Nat.reduceAdd, Nat.reduceSub, Nat.reduceLeDiff, Nat.reduceLT, Nat.reduceEqDiff, Int.reduceToNat, Int.reduceNatCast, Int.reduceTDiv, Int.reduceTMod, false_implies, false_and, and_false, reduceIte, ite_true, ite_false]
    refine T_b ok_X9_init_464 ?_
    simp only [vI_i, vJ_l, isI_i, isR_r, isR_c, aN_s, isA_s, okS_0, okS_s, isL_i, isL_l, isL_r, szV_i, szV_l, szV_r, szS_n, szS_c, pops_0, pops_s, icm_eq, icm_ne, icm_lt, icm_ge, icm_gt, icm_le, aG_s, oG_s, u_nil, v_aload0, u_astore0, u_astorec0, v_iload0, u_istore0, v_lload0, u_lstore0, v_aload1, u_astore1, u_astorec1, v_iload1, u_istore1, v_lload1, u_lstore1, v_aload2, u_astore2, u_astorec2, v_iload2, u_istore2, v_lload2, u_lstore2, v_aload3, u_astore3, u_astorec3, v_iload3, u_istore3, v_lload3, u_lstore3, v_aload, u_astore, v_iload, u_istore, v_lload, u_lstore, u_iconst, u_bipush, u_sipush, u_ldc, u_ldcs, u_ldc2, v_iinc, u_iadd, u_isub, u_imul, u_iand, u_idiv, u_irem, u_ineg, u_ladd, u_lmul, u_ldiv, u_lrem, u_lcmp, u_i2l, u_l2i, u_dup, u_dup2, u_pop, u_if, u_icmp, u_goto, u_switch, u_getf0, u_getf2, u_getf1, u_putf0, u_putf2, u_putf1, u_getst, v_iald, u_ialdc, v_iast, u_alen, u_newa, u_new, u_virt, u_spec, u_stat, w_iret, w_zret, u_lret, u_aret, u_vret, cV_s, cS_s, wc_v, wc_i, wc_s, vc_copy, uc_copyc, uc_min, uc_max, uc_abs, uc_char, uc_obj, gl_0, gl_s, sl_0, sl_s, wA, wR, wK, ceW_1, ceN_2, ceN_3, ceN_4, ceN_5, ceN_6, ceN_7, ceN_8, c_t, bu, QW_w, true_and, and_true, Bool.not_false, Option.toList_some, Option.toList_none, List.cons_append, List.nil_append, List.singleton_append, Int.cast_ofNat_Int, Int.natCast_zero, Int.natCast_one, true_implies, implies_true, not_true_eq_false, not_false_eq_true, ne_eq, eq_self, true_or, or_true, or_false, false_or, and_self, Int.reduceNeg, Int.reduceLE, Int.reduceLT, Int.reduceEq, Int.reduceAdd, Int.reduceSub, Int.reduceMul, Int.reduceNe, Nat.reduceAdd, Nat.reduceSub, Nat.reduceLeDiff, Nat.reduceLT, Nat.reduceEqDiff, Int.reduceToNat, Int.reduceNatCast, Int.reduceTDiv, Int.reduceTMod, false_implies, false_and, and_false, reduceIte, ite_true, ite_false]
    exact hQ g hx hf
  | n + 1, i, g, a, b, c, h1, hn, hx, hf => by
    obtain ⟨o, r, e, ho, h0, h7⟩ : ∃ o r : Int, i = 7 * o + 1 + r ∧ 0 ≤ o ∧ 0 ≤ r ∧ r < 7 := ⟨(i - 1) / 7, (i - 1) % 7, by omega, by omega, by omega, by omega⟩
    obtain ⟨b1, b2, b3⟩ := hx.2.1 o ho (by omega)
    obtain ⟨x1, x2, x3⟩ := x9_in (r := r) h0 h7 b1 b2 b3
    have w0 : wr (i - 1) = i - 1 := wr_of (by omega) (by omega)
    have w1 : wr ((i - 1).tdiv 7) = o := by rw [Int.tdiv_eq_ediv_of_nonneg (by omega), wr_of (by omega) (by omega)]; omega
    have w2 : (i - 1).tmod 7 = r := by rw [Int.tmod_eq_emod_of_nonneg (by omega)]; omega
    have w3 : wr (i + 1) = i + 1 := wr_of (by omega) (by omega)
    have d2 : wr ((g 47 o).tdiv 2) = g 47 o / 2 := by rw [Int.tdiv_eq_ediv_of_nonneg b2, wr_of (by omega) (by omega)]
    have d3 : wr ((g 47 o).tdiv 3) = g 47 o / 3 := by rw [Int.tdiv_eq_ediv_of_nonneg b2, wr_of (by omega) (by omega)]
    have d4 : wr (g 47 o / 3 * 2) = g 47 o / 3 * 2 := wr_of (by omega) (by omega)
    have d5 : wr (g 46 o + x9A r (g 47 o)) = g 46 o + x9A r (g 47 o) := wr_of (by omega) (by omega)
    have t456 : ∀ v : Int, v = x9A r (g 47 o) → Tg G d (73, 42835) 35 456 [vr 41, vi i, vi o, vi r, vi (g 47 o)] [vi v, vi (g 46 o), vi i, vr 46] (Mw (st g 47 i (x9S r (g 47 o)))) (QW Q) := by
      intro v hv
      subst hv
      refine T_b ok_X9_init_456 ?_
      simp only [vI_i, vJ_l, isI_i, isR_r, isR_c, aN_s, isA_s, okS_0, okS_s, isL_i, isL_l, isL_r, szV_i, szV_l, szV_r, szS_n, szS_c, pops_0, pops_s, icm_eq, icm_ne, icm_lt, icm_ge, icm_gt, icm_le, aG_s, oG_s, u_nil, v_aload0, u_astore0, u_astorec0, v_iload0, u_istore0, v_lload0, u_lstore0, v_aload1, u_astore1, u_astorec1, v_iload1, u_istore1, v_lload1, u_lstore1, v_aload2, u_astore2, u_astorec2, v_iload2, u_istore2, v_lload2, u_lstore2, v_aload3, u_astore3, u_astorec3, v_iload3, u_istore3, v_lload3, u_lstore3, v_aload, u_astore, v_iload, u_istore, v_lload, u_lstore, u_iconst, u_bipush, u_sipush, u_ldc, u_ldcs, u_ldc2, v_iinc, u_iadd, u_isub, u_imul, u_iand, u_idiv, u_irem, u_ineg, u_ladd, u_lmul, u_ldiv, u_lrem, u_lcmp, u_i2l, u_l2i, u_dup, u_dup2, u_pop, u_if, u_icmp, u_goto, u_switch, u_getf0, u_getf2, u_getf1, u_putf0, u_putf2, u_putf1, u_getst, v_iald, u_ialdc, v_iast, u_alen, u_newa, u_new, u_virt, u_spec, u_stat, w_iret, w_zret, u_lret, u_aret, u_vret, cV_s, cS_s, wc_v, wc_i, wc_s, vc_copy, uc_copyc, uc_min, uc_max, uc_abs, uc_char, uc_obj, gl_0, gl_s, sl_0, sl_s, wA, wR, wK, ceW_1, ceN_2, ceN_3, ceN_4, ceN_5, ceN_6, ceN_7, ceN_8, c_t, bu, QW_w, true_and, and_true, Bool.not_false, Option.toList_some, Option.toList_none, List.cons_append, List.nil_append, List.singleton_append, Int.cast_ofNat_Int, Int.natCast_zero, Int.natCast_one, true_implies, implies_true, not_true_eq_false, not_false_eq_true, ne_eq, eq_self, true_or, or_true, or_false, false_or, and_self, Int.reduceNeg, Int.reduceLE, Int.reduceLT, Int.reduceEq, Int.reduceAdd, Int.reduceSub, Int.reduceMul, Int.reduceNe, Nat.reduceAdd, Nat.reduceSub, Nat.reduceLeDiff, Nat.reduceLT, Nat.reduceEqDiff, Int.reduceToNat, Int.reduceNatCast, Int.reduceTDiv, Int.reduceTMod, false_implies, false_and, and_false, reduceIte, ite_true, ite_false, d5, w3]
      refine ⟨by omega, t_x9 hQ n (i + 1) _ _ _ _ (by omega) (by omega) (hx.step e ho h0 h7) fun q x u v => ?_⟩
      exact (if_neg fun w => u w.1).trans ((if_neg fun w => v w.1).trans (hf q x u v))
    have t423 : r ≠ 1 → Tg G d (73, 42835) 35 423 [vr 41, vi i, vi o, vi r, vi (g 47 o)] [vi (g 46 o), vi i, vr 46] (Mw (st g 47 i (x9S r (g 47 o)))) (QW Q) := by
      intro c1
      have t434 : (r = 3 ∨ r = 6) → Tg G d (73, 42835) 35 434 [vr 41, vi i, vi o, vi r, vi (g 47 o)] [vi (g 46 o), vi i, vr 46] (Mw (st g 47 i (x9S r (g 47 o)))) (QW Q) := by
        intro c2
        refine T_b ok_X9_init_434 ?_
        simp only [vI_i, vJ_l, isI_i, isR_r, isR_c, aN_s, isA_s, okS_0, okS_s, isL_i, isL_l, isL_r, szV_i, szV_l, szV_r, szS_n, szS_c, pops_0, pops_s, icm_eq, icm_ne, icm_lt, icm_ge, icm_gt, icm_le, aG_s, oG_s, u_nil, v_aload0, u_astore0, u_astorec0, v_iload0, u_istore0, v_lload0, u_lstore0, v_aload1, u_astore1, u_astorec1, v_iload1, u_istore1, v_lload1, u_lstore1, v_aload2, u_astore2, u_astorec2, v_iload2, u_istore2, v_lload2, u_lstore2, v_aload3, u_astore3, u_astorec3, v_iload3, u_istore3, v_lload3, u_lstore3, v_aload, u_astore, v_iload, u_istore, v_lload, u_lstore, u_iconst, u_bipush, u_sipush, u_ldc, u_ldcs, u_ldc2, v_iinc, u_iadd, u_isub, u_imul, u_iand, u_idiv, u_irem, u_ineg, u_ladd, u_lmul, u_ldiv, u_lrem, u_lcmp, u_i2l, u_l2i, u_dup, u_dup2, u_pop, u_if, u_icmp, u_goto, u_switch, u_getf0, u_getf2, u_getf1, u_putf0, u_putf2, u_putf1, u_getst, v_iald, u_ialdc, v_iast, u_alen, u_newa, u_new, u_virt, u_spec, u_stat, w_iret, w_zret, u_lret, u_aret, u_vret, cV_s, cS_s, wc_v, wc_i, wc_s, vc_copy, uc_copyc, uc_min, uc_max, uc_abs, uc_char, uc_obj, gl_0, gl_s, sl_0, sl_s, wA, wR, wK, ceW_1, ceN_2, ceN_3, ceN_4, ceN_5, ceN_6, ceN_7, ceN_8, c_t, bu, QW_w, true_and, and_true, Bool.not_false, Option.toList_some, Option.toList_none, List.cons_append, List.nil_append, List.singleton_append, Int.cast_ofNat_Int, Int.natCast_zero, Int.natCast_one, true_implies, implies_true, not_true_eq_false, not_false_eq_true, ne_eq, eq_self, true_or, or_true, or_false, false_or, and_self, Int.reduceNeg, Int.reduceLE, Int.reduceLT, Int.reduceEq, Int.reduceAdd, Int.reduceSub, Int.reduceMul, Int.reduceNe, Nat.reduceAdd, Nat.reduceSub, Nat.reduceLeDiff, Nat.reduceLT, Nat.reduceEqDiff, Int.reduceToNat, Int.reduceNatCast, Int.reduceTDiv, Int.reduceTMod, false_implies, false_and, and_false, reduceIte, ite_true, ite_false, d3, d4]
        exact t456 _ (by unfold x9A; rw [if_neg c1, if_pos c2])
      refine T_b ok_X9_init_423 ?_
      simp only [vI_i, vJ_l, isI_i, isR_r, isR_c, aN_s, isA_s, okS_0, okS_s, isL_i, isL_l, isL_r, szV_i, szV_l, szV_r, szS_n, szS_c, pops_0, pops_s, icm_eq, icm_ne, icm_lt, icm_ge, icm_gt, icm_le, aG_s, oG_s, u_nil, v_aload0, u_astore0, u_astorec0, v_iload0, u_istore0, v_lload0, u_lstore0, v_aload1, u_astore1, u_astorec1, v_iload1, u_istore1, v_lload1, u_lstore1, v_aload2, u_astore2, u_astorec2, v_iload2, u_istore2, v_lload2, u_lstore2, v_aload3, u_astore3, u_astorec3, v_iload3, u_istore3, v_lload3, u_lstore3, v_aload, u_astore, v_iload, u_istore, v_lload, u_lstore, u_iconst, u_bipush, u_sipush, u_ldc, u_ldcs, u_ldc2, v_iinc, u_iadd, u_isub, u_imul, u_iand, u_idiv, u_irem, u_ineg, u_ladd, u_lmul, u_ldiv, u_lrem, u_lcmp, u_i2l, u_l2i, u_dup, u_dup2, u_pop, u_if, u_icmp, u_goto, u_switch, u_getf0, u_getf2, u_getf1, u_putf0, u_putf2, u_putf1, u_getst, v_iald, u_ialdc, v_iast, u_alen, u_newa, u_new, u_virt, u_spec, u_stat, w_iret, w_zret, u_lret, u_aret, u_vret, cV_s, cS_s, wc_v, wc_i, wc_s, vc_copy, uc_copyc, uc_min, uc_max, uc_abs, uc_char, uc_obj, gl_0, gl_s, sl_0, sl_s, wA, wR, wK, ceW_1, ceN_2, ceN_3, ceN_4, ceN_5, ceN_6, ceN_7, ceN_8, c_t, bu, QW_w, true_and, and_true, Bool.not_false, Option.toList_some, Option.toList_none, List.cons_append, List.nil_append, List.singleton_append, Int.cast_ofNat_Int, Int.natCast_zero, Int.natCast_one, true_implies, implies_true, not_true_eq_false, not_false_eq_true, ne_eq, eq_self, true_or, or_true, or_false, false_or, and_self, Int.reduceNeg, Int.reduceLE, Int.reduceLT, Int.reduceEq, Int.reduceAdd, Int.reduceSub, Int.reduceMul, Int.reduceNe, Nat.reduceAdd, Nat.reduceSub, Nat.reduceLeDiff, Nat.reduceLT, Nat.reduceEqDiff, Int.reduceToNat, Int.reduceNatCast, Int.reduceTDiv, Int.reduceTMod, false_implies, false_and, and_false, reduceIte, ite_true, ite_false]
      refine ⟨fun c2 => t434 (Or.inl c2), fun c2 => ⟨fun c3 => ?_, fun c3 => t434 (Or.inr (by omega))⟩⟩
      refine T_b ok_X9_init_443 ?_
      simp only [vI_i, vJ_l, isI_i, isR_r, isR_c, aN_s, isA_s, okS_0, okS_s, isL_i, isL_l, isL_r, szV_i, szV_l, szV_r, szS_n, szS_c, pops_0, pops_s, icm_eq, icm_ne, icm_lt, icm_ge, icm_gt, icm_le, aG_s, oG_s, u_nil, v_aload0, u_astore0, u_astorec0, v_iload0, u_istore0, v_lload0, u_lstore0, v_aload1, u_astore1, u_astorec1, v_iload1, u_istore1, v_lload1, u_lstore1, v_aload2, u_astore2, u_astorec2, v_iload2, u_istore2, v_lload2, u_lstore2, v_aload3, u_astore3, u_astorec3, v_iload3, u_istore3, v_lload3, u_lstore3, v_aload, u_astore, v_iload, u_istore, v_lload, u_lstore, u_iconst, u_bipush, u_sipush, u_ldc, u_ldcs, u_ldc2, v_iinc, u_iadd, u_isub, u_imul, u_iand, u_idiv, u_irem, u_ineg, u_ladd, u_lmul, u_ldiv, u_lrem, u_lcmp, u_i2l, u_l2i, u_dup, u_dup2, u_pop, u_if, u_icmp, u_goto, u_switch, u_getf0, u_getf2, u_getf1, u_putf0, u_putf2, u_putf1, u_getst, v_iald, u_ialdc, v_iast, u_alen, u_newa, u_new, u_virt, u_spec, u_stat, w_iret, w_zret, u_lret, u_aret, u_vret, cV_s, cS_s, wc_v, wc_i, wc_s, vc_copy, uc_copyc, uc_min, uc_max, uc_abs, uc_char, uc_obj, gl_0, gl_s, sl_0, sl_s, wA, wR, wK, ceW_1, ceN_2, ceN_3, ceN_4, ceN_5, ceN_6, ceN_7, ceN_8, c_t, bu, QW_w, true_and, and_true, Bool.not_false, Option.toList_some, Option.toList_none, List.cons_append, List.nil_append, List.singleton_append, Int.cast_ofNat_Int, Int.natCast_zero, Int.natCast_one, true_implies, implies_true, not_true_eq_false, not_false_eq_true, ne_eq, eq_self, true_or, or_true, or_false, false_or, and_self, Int.reduceNeg, Int.reduceLE, Int.reduceLT, Int.reduceEq, Int.reduceAdd, Int.reduceSub, Int.reduceMul, Int.reduceNe, Nat.reduceAdd, Nat.reduceSub, Nat.reduceLeDiff, Nat.reduceLT, Nat.reduceEqDiff, Int.reduceToNat, Int.reduceNatCast, Int.reduceTDiv, Int.reduceTMod, false_implies, false_and, and_false, reduceIte, ite_true, ite_false, d3]
      refine ⟨fun c4 => ?_, fun c4 => t456 _ (by unfold x9A; rw [if_neg c1, if_neg (by omega), if_pos (by omega)])⟩
      refine T_b ok_X9_init_455 ?_
      simp only [vI_i, vJ_l, isI_i, isR_r, isR_c, aN_s, isA_s, okS_0, okS_s, isL_i, isL_l, isL_r, szV_i, szV_l, szV_r, szS_n, szS_c, pops_0, pops_s, icm_eq, icm_ne, icm_lt, icm_ge, icm_gt, icm_le, aG_s, oG_s, u_nil, v_aload0, u_astore0, u_astorec0, v_iload0, u_istore0, v_lload0, u_lstore0, v_aload1, u_astore1, u_astorec1, v_iload1, u_istore1, v_lload1, u_lstore1, v_aload2, u_astore2, u_astorec2, v_iload2, u_istore2, v_lload2, u_lstore2, v_aload3, u_astore3, u_astorec3, v_iload3, u_istore3, v_lload3, u_lstore3, v_aload, u_astore, v_iload, u_istore, v_lload, u_lstore, u_iconst, u_bipush, u_sipush, u_ldc, u_ldcs, u_ldc2, v_iinc, u_iadd, u_isub, u_imul, u_iand, u_idiv, u_irem, u_ineg, u_ladd, u_lmul, u_ldiv, u_lrem, u_lcmp, u_i2l, u_l2i, u_dup, u_dup2, u_pop, u_if, u_icmp, u_goto, u_switch, u_getf0, u_getf2, u_getf1, u_putf0, u_putf2, u_putf1, u_getst, v_iald, u_ialdc, v_iast, u_alen, u_newa, u_new, u_virt, u_spec, u_stat, w_iret, w_zret, u_lret, u_aret, u_vret, cV_s, cS_s, wc_v, wc_i, wc_s, vc_copy, uc_copyc, uc_min, uc_max, uc_abs, uc_char, uc_obj, gl_0, gl_s, sl_0, sl_s, wA, wR, wK, ceW_1, ceN_2, ceN_3, ceN_4, ceN_5, ceN_6, ceN_7, ceN_8, c_t, bu, QW_w, true_and, and_true, Bool.not_false, Option.toList_some, Option.toList_none, List.cons_append, List.nil_append, List.singleton_append, Int.cast_ofNat_Int, Int.natCast_zero, Int.natCast_one, true_implies, implies_true, not_true_eq_false, not_false_eq_true, ne_eq, eq_self, true_or, or_true, or_false, false_or, and_self, Int.reduceNeg, Int.reduceLE, Int.reduceLT, Int.reduceEq, Int.reduceAdd, Int.reduceSub, Int.reduceMul, Int.reduceNe, Nat.reduceAdd, Nat.reduceSub, Nat.reduceLeDiff, Nat.reduceLT, Nat.reduceEqDiff, Int.reduceToNat, Int.reduceNatCast, Int.reduceTDiv, Int.reduceTMod, false_implies, false_and, and_false, reduceIte, ite_true, ite_false]
      exact t456 _ (by unfold x9A; rw [if_neg c1, if_neg (by omega), if_neg (by omega)])
    have t399 : ∀ v : Int, v = x9S r (g 47 o) → Tg G d (73, 42835) 35 399 [vr 41, vi i, vi o, vi r, vi (g 47 o)] [vi v, vi i, vr 47] (Mw g) (QW Q) := by
      intro v hv
      subst hv
      have k : st g 47 i (x9S r (g 47 o)) 46 o = g 46 o := if_neg (by omega)
      refine T_b ok_X9_init_399 ?_
      simp only [vI_i, vJ_l, isI_i, isR_r, isR_c, aN_s, isA_s, okS_0, okS_s, isL_i, isL_l, isL_r, szV_i, szV_l, szV_r, szS_n, szS_c, pops_0, pops_s, icm_eq, icm_ne, icm_lt, icm_ge, icm_gt, icm_le, aG_s, oG_s, u_nil, v_aload0, u_astore0, u_astorec0, v_iload0, u_istore0, v_lload0, u_lstore0, v_aload1, u_astore1, u_astorec1, v_iload1, u_istore1, v_lload1, u_lstore1, v_aload2, u_astore2, u_astorec2, v_iload2, u_istore2, v_lload2, u_lstore2, v_aload3, u_astore3, u_astorec3, v_iload3, u_istore3, v_lload3, u_lstore3, v_aload, u_astore, v_iload, u_istore, v_lload, u_lstore, u_iconst, u_bipush, u_sipush, u_ldc, u_ldcs, u_ldc2, v_iinc, u_iadd, u_isub, u_imul, u_iand, u_idiv, u_irem, u_ineg, u_ladd, u_lmul, u_ldiv, u_lrem, u_lcmp, u_i2l, u_l2i, u_dup, u_dup2, u_pop, u_if, u_icmp, u_goto, u_switch, u_getf0, u_getf2, u_getf1, u_putf0, u_putf2, u_putf1, u_getst, v_iald, u_ialdc, v_iast, u_alen, u_newa, u_new, u_virt, u_spec, u_stat, w_iret, w_zret, u_lret, u_aret, u_vret, cV_s, cS_s, wc_v, wc_i, wc_s, vc_copy, uc_copyc, uc_min, uc_max, uc_abs, uc_char, uc_obj, gl_0, gl_s, sl_0, sl_s, wA, wR, wK, ceW_1, ceN_2, ceN_3, ceN_4, ceN_5, ceN_6, ceN_7, ceN_8, c_t, bu, QW_w, true_and, and_true, Bool.not_false, Option.toList_some, Option.toList_none, List.cons_append, List.nil_append, List.singleton_append, Int.cast_ofNat_Int, Int.natCast_zero, Int.natCast_one, true_implies, implies_true, not_true_eq_false, not_false_eq_true, ne_eq, eq_self, true_or, or_true, or_false, false_or, and_self, Int.reduceNeg, Int.reduceLE, Int.reduceLT, Int.reduceEq, Int.reduceAdd, Int.reduceSub, Int.reduceMul, Int.reduceNe, Nat.reduceAdd, Nat.reduceSub, Nat.reduceLeDiff, Nat.reduceLT, Nat.reduceEqDiff, Int.reduceToNat, Int.reduceNatCast, Int.reduceTDiv, Int.reduceTMod, false_implies, false_and, and_false, reduceIte, ite_true, ite_false, k, d2]
      refine ⟨by omega, by omega, fun c1 => t423 (by omega), fun c1 => t456 _ (by unfold x9A; rw [if_pos (by omega)])⟩
    refine T_b ok_X9_init_335 ?_
    simp only [vI_i, vJ_l, isI_i, isR_r, isR_c, aN_s, isA_s, okS_0, okS_s, isL_i, isL_l, isL_r, szV_i, szV_l, szV_r, szS_n, szS_c, pops_0, pops_s, icm_eq, icm_ne, icm_lt, icm_ge, icm_gt, icm_le, aG_s, oG_s, u_nil, v_aload0, u_astore0, u_astorec0, v_iload0, u_istore0, v_lload0, u_lstore0, v_aload1, u_astore1, u_astorec1, v_iload1, u_istore1, v_lload1, u_lstore1, v_aload2, u_astore2, u_astorec2, v_iload2, u_istore2, v_lload2, u_lstore2, v_aload3, u_astore3, u_astorec3, v_iload3, u_istore3, v_lload3, u_lstore3, v_aload, u_astore, v_iload, u_istore, v_lload, u_lstore, u_iconst, u_bipush, u_sipush, u_ldc, u_ldcs, u_ldc2, v_iinc, u_iadd, u_isub, u_imul, u_iand, u_idiv, u_irem, u_ineg, u_ladd, u_lmul, u_ldiv, u_lrem, u_lcmp, u_i2l, u_l2i, u_dup, u_dup2, u_pop, u_if, u_icmp, u_goto, u_switch, u_getf0, u_getf2, u_getf1, u_putf0, u_putf2, u_putf1, u_getst, v_iald, u_ialdc, v_iast, u_alen, u_newa, u_new, u_virt, u_spec, u_stat, w_iret, w_zret, u_lret, u_aret, u_vret, cV_s, cS_s, wc_v, wc_i, wc_s, vc_copy, uc_copyc, uc_min, uc_max, uc_abs, uc_char, uc_obj, gl_0, gl_s, sl_0, sl_s, wA, wR, wK, ceW_1, ceN_2, ceN_3, ceN_4, ceN_5, ceN_6, ceN_7, ceN_8, c_t, bu, QW_w, true_and, and_true, Bool.not_false, Option.toList_some, Option.toList_none, List.cons_append, List.nil_append, List.singleton_append, Int.cast_ofNat_Int, Int.natCast_zero, Int.natCast_one, true_implies, implies_true, not_true_eq_false, not_false_eq_true, ne_eq, eq_self, true_or, or_true, or_false, false_or, and_self, Int.reduceNeg, Int.reduceLE, Int.reduceLT, Int.reduceEq, Int.reduceAdd, Int.reduceSub, Int.reduceMul, Int.reduceNe, Nat.reduceAdd, Nat.reduceSub, Nat.reduceLeDiff, Nat.reduceLT, Nat.reduceEqDiff, Int.reduceToNat, Int.reduceNatCast, Int.reduceTDiv, Int.reduceTMod, false_implies, false_and, and_false, reduceIte, ite_true, ite_false, w0, w1, w2, d2]
    refine ⟨fun c1 => by omega, fun c1 => ⟨by omega, fun c2 => ?_, fun c2 => t399 _ (by unfold x9S; rw [if_pos (by omega)])⟩⟩
    refine T_b ok_X9_init_381 ?_
    simp only [vI_i, vJ_l, isI_i, isR_r, isR_c, aN_s, isA_s, okS_0, okS_s, isL_i, isL_l, isL_r, szV_i, szV_l, szV_r, szS_n, szS_c, pops_0, pops_s, icm_eq, icm_ne, icm_lt, icm_ge, icm_gt, icm_le, aG_s, oG_s, u_nil, v_aload0, u_astore0, u_astorec0, v_iload0, u_istore0, v_lload0, u_lstore0, v_aload1, u_astore1, u_astorec1, v_iload1, u_istore1, v_lload1, u_lstore1, v_aload2, u_astore2, u_astorec2, v_iload2, u_istore2, v_lload2, u_lstore2, v_aload3, u_astore3, u_astorec3, v_iload3, u_istore3, v_lload3, u_lstore3, v_aload, u_astore, v_iload, u_istore, v_lload, u_lstore, u_iconst, u_bipush, u_sipush, u_ldc, u_ldcs, u_ldc2, v_iinc, u_iadd, u_isub, u_imul, u_iand, u_idiv, u_irem, u_ineg, u_ladd, u_lmul, u_ldiv, u_lrem, u_lcmp, u_i2l, u_l2i, u_dup, u_dup2, u_pop, u_if, u_icmp, u_goto, u_switch, u_getf0, u_getf2, u_getf1, u_putf0, u_putf2, u_putf1, u_getst, v_iald, u_ialdc, v_iast, u_alen, u_newa, u_new, u_virt, u_spec, u_stat, w_iret, w_zret, u_lret, u_aret, u_vret, cV_s, cS_s, wc_v, wc_i, wc_s, vc_copy, uc_copyc, uc_min, uc_max, uc_abs, uc_char, uc_obj, gl_0, gl_s, sl_0, sl_s, wA, wR, wK, ceW_1, ceN_2, ceN_3, ceN_4, ceN_5, ceN_6, ceN_7, ceN_8, c_t, bu, QW_w, true_and, and_true, Bool.not_false, Option.toList_some, Option.toList_none, List.cons_append, List.nil_append, List.singleton_append, Int.cast_ofNat_Int, Int.natCast_zero, Int.natCast_one, true_implies, implies_true, not_true_eq_false, not_false_eq_true, ne_eq, eq_self, true_or, or_true, or_false, false_or, and_self, Int.reduceNeg, Int.reduceLE, Int.reduceLT, Int.reduceEq, Int.reduceAdd, Int.reduceSub, Int.reduceMul, Int.reduceNe, Nat.reduceAdd, Nat.reduceSub, Nat.reduceLeDiff, Nat.reduceLT, Nat.reduceEqDiff, Int.reduceToNat, Int.reduceNatCast, Int.reduceTDiv, Int.reduceTMod, false_implies, false_and, and_false, reduceIte, ite_true, ite_false, d3, d4]
    refine ⟨fun c3 => ?_, fun c3 => t399 _ (by unfold x9S; rw [if_neg (by omega), if_pos (by omega)])⟩
    refine T_b ok_X9_init_395 ?_
    simp only [vI_i, vJ_l, isI_i, isR_r, isR_c, aN_s, isA_s, okS_0, okS_s, isL_i, isL_l, isL_r, szV_i, szV_l, szV_r, szS_n, szS_c, pops_0, pops_s, icm_eq, icm_ne, icm_lt, icm_ge, icm_gt, icm_le, aG_s, oG_s, u_nil, v_aload0, u_astore0, u_astorec0, v_iload0, u_istore0, v_lload0, u_lstore0, v_aload1, u_astore1, u_astorec1, v_iload1, u_istore1, v_lload1, u_lstore1, v_aload2, u_astore2, u_astorec2, v_iload2, u_istore2, v_lload2, u_lstore2, v_aload3, u_astore3, u_astorec3, v_iload3, u_istore3, v_lload3, u_lstore3, v_aload, u_astore, v_iload, u_istore, v_lload, u_lstore, u_iconst, u_bipush, u_sipush, u_ldc, u_ldcs, u_ldc2, v_iinc, u_iadd, u_isub, u_imul, u_iand, u_idiv, u_irem, u_ineg, u_ladd, u_lmul, u_ldiv, u_lrem, u_lcmp, u_i2l, u_l2i, u_dup, u_dup2, u_pop, u_if, u_icmp, u_goto, u_switch, u_getf0, u_getf2, u_getf1, u_putf0, u_putf2, u_putf1, u_getst, v_iald, u_ialdc, v_iast, u_alen, u_newa, u_new, u_virt, u_spec, u_stat, w_iret, w_zret, u_lret, u_aret, u_vret, cV_s, cS_s, wc_v, wc_i, wc_s, vc_copy, uc_copyc, uc_min, uc_max, uc_abs, uc_char, uc_obj, gl_0, gl_s, sl_0, sl_s, wA, wR, wK, ceW_1, ceN_2, ceN_3, ceN_4, ceN_5, ceN_6, ceN_7, ceN_8, c_t, bu, QW_w, true_and, and_true, Bool.not_false, Option.toList_some, Option.toList_none, List.cons_append, List.nil_append, List.singleton_append, Int.cast_ofNat_Int, Int.natCast_zero, Int.natCast_one, true_implies, implies_true, not_true_eq_false, not_false_eq_true, ne_eq, eq_self, true_or, or_true, or_false, false_or, and_self, Int.reduceNeg, Int.reduceLE, Int.reduceLT, Int.reduceEq, Int.reduceAdd, Int.reduceSub, Int.reduceMul, Int.reduceNe, Nat.reduceAdd, Nat.reduceSub, Nat.reduceLeDiff, Nat.reduceLT, Nat.reduceEqDiff, Int.reduceToNat, Int.reduceNatCast, Int.reduceTDiv, Int.reduceTMod, false_implies, false_and, and_false, reduceIte, ite_true, ite_false, d3]
    exact t399 _ (by unfold x9S; rw [if_neg (by omega), if_neg (by omega)])
set_option maxRecDepth 100000 in
theorem i_X9 (hz : ∀ (q : Nat) (x : Int), 41 ≤ q → g q x = 0) (h : ∀ g' : Nat → Int → Int, MT g' → (∀ (q : Nat) (x : Int), q ≠ 42 → q ≠ 46 → q ≠ 47 → g' q x = g q x) → (∀ x : Int, 0 ≤ x → x < 10 → g' 42 x = (ceW G.2.2.2.2.2.2 4).2 x) → g' 42 10 = 0 → Q none (Mw g')) : Cg G d 35 [vr 41] (42, 8316, shN 42, rN 41, g) Q := by
  have zz : ∀ n : Nat, 41 ≤ n → stz g n = g := fun n u => stz_z fun x => hz n x u
  refine C_u (a := [vr 41]) (b1 := 31) (b2 := 34519) (n := 73) (s := 42835) mo_35 rfl rfl (Nat.le_of_ble_eq_true rfl) rfl rfl ?_
  change Tg G _ (73, 42835) 35 0 [vr 41, vc 0, vc 0, vc 0, vc 0] [] (42, 8316, shN 42, rN 41, g) _
  refine T_b ok_X9_init_0 ?_
  simp only [vI_i, vJ_l, isI_i, isR_r, isR_c, aN_s, isA_s, okS_0, okS_s, isL_i, isL_l, isL_r, szV_i, szV_l, szV_r, szS_n, szS_c, pops_0, pops_s, icm_eq, icm_ne, icm_lt, icm_ge, icm_gt, icm_le, aG_s, oG_s, u_nil, v_aload0, u_astore0, u_astorec0, v_iload0, u_istore0, v_lload0, u_lstore0, v_aload1, u_astore1, u_astorec1, v_iload1, u_istore1, v_lload1, u_lstore1, v_aload2, u_astore2, u_astorec2, v_iload2, u_istore2, v_lload2, u_lstore2, v_aload3, u_astore3, u_astorec3, v_iload3, u_istore3, v_lload3, u_lstore3, v_aload, u_astore, v_iload, u_istore, v_lload, u_lstore, u_iconst, u_bipush, u_sipush, u_ldc, u_ldcs, u_ldc2, v_iinc, u_iadd, u_isub, u_imul, u_iand, u_idiv, u_irem, u_ineg, u_ladd, u_lmul, u_ldiv, u_lrem, u_lcmp, u_i2l, u_l2i, u_dup, u_dup2, u_pop, u_if, u_icmp, u_goto, u_switch, u_getf0, u_getf2, u_getf1, u_putf0, u_putf2, u_putf1, u_getst, v_iald, u_ialdc, v_iast, u_alen, u_newa, u_new, u_virt, u_spec, u_stat, w_iret, w_zret, u_lret, u_aret, u_vret, cV_s, cS_s, wc_v, wc_i, wc_s, vc_copy, uc_copyc, uc_min, uc_max, uc_abs, uc_char, uc_obj, gl_0, gl_s, sl_0, sl_s, wA, wR, wK, ceW_1, ceN_2, ceN_3, ceN_4, ceN_5, ceN_6, ceN_7, ceN_8, c_t, bu, QW_w, true_and, and_true, Bool.not_false, Option.toList_some, Option.toList_none, List.cons_append, List.nil_append, List.singleton_append, Int.cast_ofNat_Int, Int.natCast_zero, Int.natCast_one, true_implies, implies_true, not_true_eq_false, not_false_eq_true, ne_eq, eq_self, true_or, or_true, or_false, false_or, and_self, Int.reduceNeg, Int.reduceLE, Int.reduceLT, Int.reduceEq, Int.reduceAdd, Int.reduceSub, Int.reduceMul, Int.reduceNe, Nat.reduceAdd, Nat.reduceSub, Nat.reduceLeDiff, Nat.reduceLT, Nat.reduceEqDiff, Int.reduceToNat, Int.reduceNatCast, Int.reduceTDiv, Int.reduceTMod, false_implies, false_and, and_false, reduceIte, ite_true, ite_false, c_u, shN_at, wSN, wRZ, wRP, wRG, wNF, QV_w, zz]
  rw [shN_all, rN_all]
  refine t_x9 (fun g' hx hf => h g' hx.mt (fun q x u v w => ?_) (fun x u v => ?_) ?_) 399 1 _ _ _ _ (by omega) rfl ⟨⟨?_, rfl⟩, fun j u v => ?_, fun o r u1 u2 u3 u4 => by omega⟩ fun q x u v => rfl
  · rw [hf q x v w]
    unfold st
    simp only [u, w, false_and, if_false]
  · rw [hf 42 x (by decide) (by decide)]
    rcases (by omega : x = 0 ∨ x = 1 ∨ x = 2 ∨ x = 3 ∨ x = 4 ∨ x = 5 ∨ x = 6 ∨ x = 7 ∨ x = 8 ∨ x = 9) with e | e | e | e | e | e | e | e | e | e <;> subst e
    · rfl
    · rfl
    · exact hz 42 2 (by decide)
    · rfl
    · rfl
    · rfl
    · rfl
    · rfl
    · rfl
    · rfl
  · rw [hf 42 10 (by decide) (by decide)]
    exact hz 42 10 (by decide)
  · exact hz 46 0 (by decide)
  · have e : j = 0 := by omega
    subst e
    have e1 := hz 46 0 (by decide)
    refine ⟨?_, ?_, ?_⟩
    · show 0 ≤ g 46 0; omega
    · show (0 : Int) ≤ 216; omega
    · show g 46 0 + 216 ≤ 216; omega
end INI6
