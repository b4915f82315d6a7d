/-! THE LAW: the run; printed by wip/whole/gen_law2.py -/
theorem law_loop {G : Gx} {d : Nat} {Q : Qx} (h0 : 0 ≤ G.2.2.2.2.2.2.1 ∧ G.2.2.2.2.2.2.1 ≤ 1536) (hQ : ∀ g : Nat → Int → Int, Q (some (vi 1)) (Mw g)) : ∀ (n : Nat) (i : Int) (g : Nat → Int → Int) (A : Ab), 0 ≤ i → i ≤ 1536 → 1540 ≤ n + i → LI g A → Tg G (d + 11) (73, 42835) 171 18 [vc 1, vr 0, vr 41, vi i] [] (Mw g) (QW Q)
  | 0, i, g, A, hi, hl, hn, hL => by omega
  | n + 1, i, g, A, hi, hl, hn, hL => by
    have w3 : wr (G.2.2.2.2.2.2.1 - 3) = G.2.2.2.2.2.2.1 - 3 := wr_of (by omega) (by omega)
    have n643 : i + 3 ≤ G.2.2.2.2.2.2.1 → NX G d i Q := by
      intro c g' A' hL'
      have w4 : wr (i + 3) = i + 3 := wr_of (by omega) (by omega)
      refine T_b ok_L_law_643 ?_
      simp only [vI_i, vJ_l, isI_i, isR_r, isR_c, aN_s, isA_s, okS_0, okS_s, isL_i, isL_l, isL_r, szV_i, szV_l, szV_r, szS_n, szS_c, pops_0, pops_s, icm_eq, icm_ne, icm_lt, icm_ge, icm_gt, icm_le, aG_s, oG_s, u_nil, v_aload0, u_astore0, u_astorec0, v_iload0, u_istore0, v_lload0, u_lstore0, v_aload1, u_astore1, u_astorec1, v_iload1, u_istore1, v_lload1, u_lstore1, v_aload2, u_astore2, u_astorec2, v_iload2, u_istore2, v_lload2, u_lstore2, v_aload3, u_astore3, u_astorec3, v_iload3, u_istore3, v_lload3, u_lstore3, v_aload, u_astore, v_iload, u_istore, v_lload, u_lstore, u_iconst, u_bipush, u_sipush, u_ldc, u_ldcs, u_ldc2, v_iinc, u_iadd, u_isub, u_imul, u_iand, u_idiv, u_irem, u_ineg, u_ladd, u_lmul, u_ldiv, u_lrem, u_lcmp, u_i2l, u_l2i, u_dup, u_dup2, u_pop, u_if, u_icmp, u_goto, u_switch, u_getf0, u_getf2, u_getf1, u_putf0, u_putf2, u_putf1, u_getst, v_iald, u_ialdc, v_iast, u_alen, u_newa, u_new, u_virt, u_spec, u_stat, w_iret, w_zret, u_lret, u_aret, u_vret, cV_s, cS_s, wc_v, wc_i, wc_s, vc_copy, uc_copyc, uc_min, uc_max, uc_abs, uc_char, uc_obj, gl_0, gl_s, sl_0, sl_s, wA, wR, wK, ceW_1, ceN_2, ceN_3, ceN_4, ceN_5, ceN_6, ceN_7, ceN_8, c_t, bu, QW_w, true_and, and_true, Bool.not_false, Option.toList_some, Option.toList_none, List.cons_append, List.nil_append, List.singleton_append, Int.cast_ofNat_Int, Int.natCast_zero, Int.natCast_one, true_implies, implies_true, not_true_eq_false, not_false_eq_true, ne_eq, eq_self, true_or, or_true, or_false, false_or, and_self, Int.reduceNeg, Int.reduceLE, Int.reduceLT, Int.reduceEq, Int.reduceAdd, Int.reduceSub, Int.reduceMul, Int.reduceNe, Nat.reduceAdd, Nat.reduceSub, Nat.reduceLeDiff, Nat.reduceLT, Nat.reduceEqDiff, Int.reduceToNat, Int.reduceNatCast, Int.reduceTDiv, Int.reduceTMod, false_implies, false_and, and_false, reduceIte, ite_true, ite_false, w4]
      exact law_loop h0 hQ n (i + 3) g' A' (by omega) (by omega) (by omega) hL'
    refine T_b ok_L_law_18 ?_
    simp only [vI_i, vJ_l, isI_i, isR_r, isR_c, aN_s, isA_s, okS_0, okS_s, isL_i, isL_l, isL_r, szV_i, szV_l, szV_r, szS_n, szS_c, pops_0, pops_s, icm_eq, icm_ne, icm_lt, icm_ge, icm_gt, icm_le, aG_s, oG_s, u_nil, v_aload0, u_astore0, u_astorec0, v_iload0, u_istore0, v_lload0, u_lstore0, v_aload1, u_astore1, u_astorec1, v_iload1, u_istore1, v_lload1, u_lstore1, v_aload2, u_astore2, u_astorec2, v_iload2, u_istore2, v_lload2, u_lstore2, v_aload3, u_astore3, u_astorec3, v_iload3, u_istore3, v_lload3, u_lstore3, v_aload, u_astore, v_iload, u_istore, v_lload, u_lstore, u_iconst, u_bipush, u_sipush, u_ldc, u_ldcs, u_ldc2, v_iinc, u_iadd, u_isub, u_imul, u_iand, u_idiv, u_irem, u_ineg, u_ladd, u_lmul, u_ldiv, u_lrem, u_lcmp, u_i2l, u_l2i, u_dup, u_dup2, u_pop, u_if, u_icmp, u_goto, u_switch, u_getf0, u_getf2, u_getf1, u_putf0, u_putf2, u_putf1, u_getst, v_iald, u_ialdc, v_iast, u_alen, u_newa, u_new, u_virt, u_spec, u_stat, w_iret, w_zret, u_lret, u_aret, u_vret, cV_s, cS_s, wc_v, wc_i, wc_s, vc_copy, uc_copyc, uc_min, uc_max, uc_abs, uc_char, uc_obj, gl_0, gl_s, sl_0, sl_s, wA, wR, wK, ceW_1, ceN_2, ceN_3, ceN_4, ceN_5, ceN_6, ceN_7, ceN_8, c_t, bu, QW_w, true_and, and_true, Bool.not_false, Option.toList_some, Option.toList_none, List.cons_append, List.nil_append, List.singleton_append, Int.cast_ofNat_Int, Int.natCast_zero, Int.natCast_one, true_implies, implies_true, not_true_eq_false, not_false_eq_true, ne_eq, eq_self, true_or, or_true, or_false, false_or, and_self, Int.reduceNeg, Int.reduceLE, Int.reduceLT, Int.reduceEq, Int.reduceAdd, Int.reduceSub, Int.reduceMul, Int.reduceNe, Nat.reduceAdd, Nat.reduceSub, Nat.reduceLeDiff, Nat.reduceLT, Nat.reduceEqDiff, Int.reduceToNat, Int.reduceNatCast, Int.reduceTDiv, Int.reduceTMod, false_implies, false_and, and_false, reduceIte, ite_true, ite_false, w3]
    refine ⟨fun c => ?_, fun c => ?_⟩
    · refine T_b ok_L_law_649 ?_
      simp only [vI_i, vJ_l, isI_i, isR_r, isR_c, aN_s, isA_s, okS_0, okS_s, isL_i, isL_l, isL_r, szV_i, szV_l, szV_r, szS_n, szS_c, pops_0, pops_s, icm_eq, icm_ne, icm_lt, icm_ge, icm_gt, icm_le, aG_s, oG_s, u_nil, v_aload0, u_astore0, u_astorec0, v_iload0, u_istore0, v_lload0, u_lstore0, v_aload1, u_astore1, u_astorec1, v_iload1, u_istore1, v_lload1, u_lstore1, v_aload2, u_astore2, u_astorec2, v_iload2, u_istore2, v_lload2, u_lstore2, v_aload3, u_astore3, u_astorec3, v_iload3, u_istore3, v_lload3, u_lstore3, v_aload, u_astore, v_iload, u_istore, v_lload, u_lstore, u_iconst, u_bipush, u_sipush, u_ldc, u_ldcs, u_ldc2, v_iinc, u_iadd, u_isub, u_imul, u_iand, u_idiv, u_irem, u_ineg, u_ladd, u_lmul, u_ldiv, u_lrem, u_lcmp, u_i2l, u_l2i, u_dup, u_dup2, u_pop, u_if, u_icmp, u_goto, u_switch, u_getf0, u_getf2, u_getf1, u_putf0, u_putf2, u_putf1, u_getst, v_iald, u_ialdc, v_iast, u_alen, u_newa, u_new, u_virt, u_spec, u_stat, w_iret, w_zret, u_lret, u_aret, u_vret, cV_s, cS_s, wc_v, wc_i, wc_s, vc_copy, uc_copyc, uc_min, uc_max, uc_abs, uc_char, uc_obj, gl_0, gl_s, sl_0, sl_s, wA, wR, wK, ceW_1, ceN_2, ceN_3, ceN_4, ceN_5, ceN_6, ceN_7, ceN_8, c_t, bu, QW_w, true_and, and_true, Bool.not_false, Option.toList_some, Option.toList_none, List.cons_append, List.nil_append, List.singleton_append, Int.cast_ofNat_Int, Int.natCast_zero, Int.natCast_one, true_implies, implies_true, not_true_eq_false, not_false_eq_true, ne_eq, eq_self, true_or, or_true, or_false, false_or, and_self, Int.reduceNeg, Int.reduceLE, Int.reduceLT, Int.reduceEq, Int.reduceAdd, Int.reduceSub, Int.reduceMul, Int.reduceNe, Nat.reduceAdd, Nat.reduceSub, Nat.reduceLeDiff, Nat.reduceLT, Nat.reduceEqDiff, Int.reduceToNat, Int.reduceNatCast, Int.reduceTDiv, Int.reduceTMod, false_implies, false_and, and_false, reduceIte, ite_true, ite_false]
      exact hQ g
    · have c' : i + 3 ≤ G.2.2.2.2.2.2.1 := by omega
      have hN := n643 c'
      refine ⟨by omega, ?_⟩
      refine ⟨fun _ => hN g A hL, fun j off e1 e2 e3 => ?_⟩
      have hj : j < 22 := by
        rcases Nat.lt_or_ge j 22 with u | u
        · exact u
        · rw [Array.getElem?_eq_none u] at e1; cases e1
      clear e2 e3
      match j, hj with
      | 0, _ =>
        cases e1
        exact law_strikes hL ⟨hi, c', h0.2⟩ hN
      | 1, _ =>
        cases e1
        exact law_lifts hL ⟨hi, c', h0.2⟩ hN
      | 2, _ =>
        cases e1
        exact law_moves hL ⟨hi, c', h0.2⟩ hN
      | 3, _ =>
        cases e1
        exact law_draws hL ⟨hi, c', h0.2⟩ hN
      | 4, _ =>
        cases e1
        exact law_shifts hL ⟨hi, c', h0.2⟩ hN
      | 5, _ =>
        cases e1
        exact law_sets hL ⟨hi, c', h0.2⟩ hN
      | 6, _ =>
        cases e1
        exact law_time hL ⟨hi, c', h0.2⟩ hN
      | 7, _ =>
        cases e1
        exact law_cost hL ⟨hi, c', h0.2⟩ hN
      | 8, _ =>
        cases e1
        exact law_bar hL ⟨hi, c', h0.2⟩ hN
      | 9, _ =>
        cases e1
        exact law_written hL ⟨hi, c', h0.2⟩ hN
      | 10, _ =>
        cases e1
        exact law_shown hL ⟨hi, c', h0.2⟩ hN
      | 11, _ =>
        cases e1
        exact law_count hL ⟨hi, c', h0.2⟩ hN
      | 12, _ =>
        cases e1
        exact law_bent hL ⟨hi, c', h0.2⟩ hN
      | 13, _ =>
        cases e1
        exact law_forced hL ⟨hi, c', h0.2⟩ hN
      | 14, _ =>
        cases e1
        exact law_without hL ⟨hi, c', h0.2⟩ hN
      | 15, _ =>
        cases e1
        exact law_exact hL ⟨hi, c', h0.2⟩ hN
      | 16, _ =>
        cases e1
        exact law_type hL ⟨hi, c', h0.2⟩ hN
      | 17, _ =>
        cases e1
        exact law_clear hL ⟨hi, c', h0.2⟩ hN
      | 18, _ =>
        cases e1
        exact law_plays hL ⟨hi, c', h0.2⟩ hN
      | 19, _ =>
        cases e1
        exact law_back hL ⟨hi, c', h0.2⟩ hN
      | 20, _ =>
        cases e1
        exact law_told hL ⟨hi, c', h0.2⟩ hN
      | 21, _ =>
        cases e1
        exact law_digest hL ⟨hi, c', h0.2⟩ hN
      | j + 22, hj => omega
