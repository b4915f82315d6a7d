/-! THE TABLES OF SPANS: level by level -/
section LVL
variable {G : Gx} {d : Nat} {g : Nat → Int → Int} {Q : Qx}
theorem dv_len {S S1 : TS} {l sp en c : Nat} (h : dv S l sp en c = some S1) : S.2.2.1.length ≤ S1.2.2.1.length ∧ S1.2.2.2.2.1.length = S.2.2.2.2.1.length + 1 ∧ (l < 2 → S1.2.2.2.2.2.length = S.2.2.2.2.2.length + 1) := by
  unfold dv at h
  split at h
  case isFalse => cases h
  unfold dvB at h
  split at h
  · cases h
  · split at h
    · split at h
      · cases h
      · rename_i hp
        obtain ⟨p1, p2⟩ := fP_len hp
        cases h
        refine ⟨p2, ?_, fun _ => ?_⟩
        · show (_ : TS).2.2.2.2.1.length = _
          rw [p1]; exact List.length_append
        · show (_ ++ [_] : List Nat).length = _
          rw [List.length_append, p1]; rfl
    · cases h
      exact ⟨Nat.le_refl _, List.length_append, fun u => by omega⟩
theorem dvC_len {l sp en : Nat} {S1 : TS} : ∀ (k c : Nat) (S : TS), dvC l sp en k c S = some S1 → S.2.2.1.length ≤ S1.2.2.1.length ∧ S1.2.2.2.2.1.length = S.2.2.2.2.1.length + k ∧ (l < 2 → S1.2.2.2.2.2.length = S.2.2.2.2.2.length + k)
  | 0, c, S, h => by cases h; exact ⟨Nat.le_refl _, rfl, fun _ => rfl⟩
  | k + 1, c, S, h => by
    unfold dvC at h
    rcases hd : dv S l sp en c with _ | S2
    · rw [hd] at h; cases h
    rw [hd] at h
    obtain ⟨a1, a2, a3⟩ := dv_len hd
    obtain ⟨b1, b2, b3⟩ := dvC_len k (c + 1) S2 h
    exact ⟨by omega, by omega, fun u => by have := a3 u; have := b3 u; omega⟩
def dvS (l en : Nat) : Nat → Nat → TS → Option TS
  | 0, _, S => some S
  | k + 1, sp, S => match dvC l sp en 6 0 S with
    | none => none
    | some S1 => dvS l en k (sp + 1) S1
theorem t_level {S' : TS} {l en lo : Nat} (hl : l < 3) (he : en ≤ 35) : ∀ (k sp : Nat) (S : TS) (g : Nat → Int → Int), sp + k = en → TI g S → en ≤ S.2.2.1.length → S.2.2.2.2.1.length = 6 * sp → (l < 2 → S.2.2.2.2.2.length = 6 * sp) → dvS l en k sp S = some S' →
    (∀ g' : Nat → Int → Int, TI g' S' → FrI g g' → Tg G (d + 3) (30, 920) 133 102 [vr 21, vi en, vi ((l + 1 : Nat) : Int), vi en, vi en] [] (30, 920, shN 30, rN 26, (st (st g' 24 (l + 1) (S'.1.length : Int)) 25 (l + 1) en)) (QV 30 920 Q)) → Tg G (d + 3) (30, 920) 133 115 [vr 21, vi lo, vi l, vi en, vi sp] [] (30, 920, shN 30, rN 26, g) (QV 30 920 Q)
  | 0, sp, S, g, hk, hI, h1, h2, h3, hr, hQ => by
    cases hr
    have wl : wr ((l : Int) + 1) = l + 1 := wr_of (by omega) (by omega)
    have es : sp = en := by omega
    subst es
    refine T_b ok_X4_init_115 ?_
    simp only [vI_i, vJ_l, isI_i, isR_r, isR_c, aN_s, isA_s, okS_0, okS_s, isL_i, isL_l, isL_r, szV_i, szV_l, szV_r, szS_n, szS_c, pops_0, pops_s, icm_eq, icm_ne, icm_lt, icm_ge, icm_gt, icm_le, aG_s, oG_s, u_nil, v_aload0, u_astore0, u_astorec0, v_iload0, u_istore0, v_lload0, u_lstore0, v_aload1, u_astore1, u_astorec1, v_iload1, u_istore1, v_lload1, u_lstore1, v_aload2, u_astore2, u_astorec2, v_iload2, u_istore2, v_lload2, u_lstore2, v_aload3, u_astore3, u_astorec3, v_iload3, u_istore3, v_lload3, u_lstore3, v_aload, u_astore, v_iload, u_istore, v_lload, u_lstore, u_iconst, u_bipush, u_sipush, u_ldc, u_ldcs, u_ldc2, v_iinc, u_iadd, u_isub, u_imul, u_iand, u_idiv, u_irem, u_ineg, u_ladd, u_lmul, u_ldiv, u_lrem, u_lcmp, u_i2l, u_l2i, u_dup, u_dup2, u_pop, u_if, u_icmp, u_goto, u_switch, u_getf0, u_getf2, u_getf1, u_putf0, u_putf2, u_putf1, u_getst, v_iald, u_ialdc, v_iast, u_alen, u_newa, u_new, u_virt, u_spec, u_stat, w_iret, w_zret, u_lret, u_aret, u_vret, cV_s, cS_s, wc_v, wc_i, wc_s, vc_copy, uc_copyc, uc_min, uc_max, uc_abs, uc_char, uc_obj, gl_0, gl_s, sl_0, sl_s, wA, wR, wK, ceW_1, ceN_2, ceN_3, ceN_4, ceN_5, ceN_6, ceN_7, ceN_8, c_t, bu, QW_w, true_and, and_true, Bool.not_false, Option.toList_some, Option.toList_none, List.cons_append, List.nil_append, List.singleton_append, Int.cast_ofNat_Int, Int.natCast_zero, Int.natCast_one, true_implies, implies_true, not_true_eq_false, not_false_eq_true, ne_eq, eq_self, true_or, or_true, or_false, false_or, and_self, Int.reduceNeg, Int.reduceLE, Int.reduceLT, Int.reduceEq, Int.reduceAdd, Int.reduceSub, Int.reduceMul, Int.reduceNe, Nat.reduceAdd, Nat.reduceSub, Nat.reduceLeDiff, Nat.reduceLT, Nat.reduceEqDiff, Int.reduceToNat, Int.reduceNatCast, Int.reduceTDiv, Int.reduceTMod, false_implies, false_and, and_false, reduceIte, ite_true, ite_false, c_u, shN_at, wSN, wRZ, wRP, wRG, wNF, QV_w]
    refine ⟨fun _ => ?_, fun u => by omega⟩
    have s1 : g 21 8 = S'.1.length := hI.1.1
    refine T_b ok_X4_init_135 ?_
    simp only [vI_i, vJ_l, isI_i, isR_r, isR_c, aN_s, isA_s, okS_0, okS_s, isL_i, isL_l, isL_r, szV_i, szV_l, szV_r, szS_n, szS_c, pops_0, pops_s, icm_eq, icm_ne, icm_lt, icm_ge, icm_gt, icm_le, aG_s, oG_s, u_nil, v_aload0, u_astore0, u_astorec0, v_iload0, u_istore0, v_lload0, u_lstore0, v_aload1, u_astore1, u_astorec1, v_iload1, u_istore1, v_lload1, u_lstore1, v_aload2, u_astore2, u_astorec2, v_iload2, u_istore2, v_lload2, u_lstore2, v_aload3, u_astore3, u_astorec3, v_iload3, u_istore3, v_lload3, u_lstore3, v_aload, u_astore, v_iload, u_istore, v_lload, u_lstore, u_iconst, u_bipush, u_sipush, u_ldc, u_ldcs, u_ldc2, v_iinc, u_iadd, u_isub, u_imul, u_iand, u_idiv, u_irem, u_ineg, u_ladd, u_lmul, u_ldiv, u_lrem, u_lcmp, u_i2l, u_l2i, u_dup, u_dup2, u_pop, u_if, u_icmp, u_goto, u_switch, u_getf0, u_getf2, u_getf1, u_putf0, u_putf2, u_putf1, u_getst, v_iald, u_ialdc, v_iast, u_alen, u_newa, u_new, u_virt, u_spec, u_stat, w_iret, w_zret, u_lret, u_aret, u_vret, cV_s, cS_s, wc_v, wc_i, wc_s, vc_copy, uc_copyc, uc_min, uc_max, uc_abs, uc_char, uc_obj, gl_0, gl_s, sl_0, sl_s, wA, wR, wK, ceW_1, ceN_2, ceN_3, ceN_4, ceN_5, ceN_6, ceN_7, ceN_8, c_t, bu, QW_w, true_and, and_true, Bool.not_false, Option.toList_some, Option.toList_none, List.cons_append, List.nil_append, List.singleton_append, Int.cast_ofNat_Int, Int.natCast_zero, Int.natCast_one, true_implies, implies_true, not_true_eq_false, not_false_eq_true, ne_eq, eq_self, true_or, or_true, or_false, false_or, and_self, Int.reduceNeg, Int.reduceLE, Int.reduceLT, Int.reduceEq, Int.reduceAdd, Int.reduceSub, Int.reduceMul, Int.reduceNe, Nat.reduceAdd, Nat.reduceSub, Nat.reduceLeDiff, Nat.reduceLT, Nat.reduceEqDiff, Int.reduceToNat, Int.reduceNatCast, Int.reduceTDiv, Int.reduceTMod, false_implies, false_and, and_false, reduceIte, ite_true, ite_false, c_u, shN_at, wSN, wRZ, wRP, wRG, wNF, QV_w, wl, s1]
    refine ⟨by omega, by omega, ?_⟩
    have := hQ g hI fun q x u => rfl
    rw [show ((l + 1 : Nat) : Int) = (l : Int) + 1 by omega] at this
    exact this
  | k + 1, sp, S, g, hk, hI, h1, h2, h3, hr, hQ => by
    have ws : wr ((sp : Int) + 1) = ((sp + 1 : Nat) : Int) := by rw [wr_of (by omega) (by omega)]; omega
    unfold dvS at hr
    rcases hd : dvC l sp en 6 0 S with _ | S1
    · rw [hd] at hr; cases hr
    rw [hd] at hr
    obtain ⟨b1, b2, b3⟩ := dvC_len 6 0 S hd
    refine T_b ok_X4_init_115 ?_
    simp only [vI_i, vJ_l, isI_i, isR_r, isR_c, aN_s, isA_s, okS_0, okS_s, isL_i, isL_l, isL_r, szV_i, szV_l, szV_r, szS_n, szS_c, pops_0, pops_s, icm_eq, icm_ne, icm_lt, icm_ge, icm_gt, icm_le, aG_s, oG_s, u_nil, v_aload0, u_astore0, u_astorec0, v_iload0, u_istore0, v_lload0, u_lstore0, v_aload1, u_astore1, u_astorec1, v_iload1, u_istore1, v_lload1, u_lstore1, v_aload2, u_astore2, u_astorec2, v_iload2, u_istore2, v_lload2, u_lstore2, v_aload3, u_astore3, u_astorec3, v_iload3, u_istore3, v_lload3, u_lstore3, v_aload, u_astore, v_iload, u_istore, v_lload, u_lstore, u_iconst, u_bipush, u_sipush, u_ldc, u_ldcs, u_ldc2, v_iinc, u_iadd, u_isub, u_imul, u_iand, u_idiv, u_irem, u_ineg, u_ladd, u_lmul, u_ldiv, u_lrem, u_lcmp, u_i2l, u_l2i, u_dup, u_dup2, u_pop, u_if, u_icmp, u_goto, u_switch, u_getf0, u_getf2, u_getf1, u_putf0, u_putf2, u_putf1, u_getst, v_iald, u_ialdc, v_iast, u_alen, u_newa, u_new, u_virt, u_spec, u_stat, w_iret, w_zret, u_lret, u_aret, u_vret, cV_s, cS_s, wc_v, wc_i, wc_s, vc_copy, uc_copyc, uc_min, uc_max, uc_abs, uc_char, uc_obj, gl_0, gl_s, sl_0, sl_s, wA, wR, wK, ceW_1, ceN_2, ceN_3, ceN_4, ceN_5, ceN_6, ceN_7, ceN_8, c_t, bu, QW_w, true_and, and_true, Bool.not_false, Option.toList_some, Option.toList_none, List.cons_append, List.nil_append, List.singleton_append, Int.cast_ofNat_Int, Int.natCast_zero, Int.natCast_one, true_implies, implies_true, not_true_eq_false, not_false_eq_true, ne_eq, eq_self, true_or, or_true, or_false, false_or, and_self, Int.reduceNeg, Int.reduceLE, Int.reduceLT, Int.reduceEq, Int.reduceAdd, Int.reduceSub, Int.reduceMul, Int.reduceNe, Nat.reduceAdd, Nat.reduceSub, Nat.reduceLeDiff, Nat.reduceLT, Nat.reduceEqDiff, Int.reduceToNat, Int.reduceNatCast, Int.reduceTDiv, Int.reduceTMod, false_implies, false_and, and_false, reduceIte, ite_true, ite_false, c_u, shN_at, wSN, wRZ, wRP, wRG, wNF, QV_w]
    refine ⟨fun u => by omega, fun u => ?_⟩
    refine C_u (a := [vr 21, vi sp, vi l, vi en]) (b1 := 0) (b2 := 0) (n := 30) (s := 920) mo_134 rfl rfl (Nat.le_of_ble_eq_true rfl) rfl rfl ?_
    change Tg G _ (30, 920) 134 0 [vr 21, vi sp, vi l, vi en, vc 0, vc 0, vc 0] [] (30, 920, shN 30, rN 26, _) _
    refine T_b ok_X4_divide_0 ?_
    simp only [vI_i, vJ_l, isI_i, isR_r, isR_c, aN_s, isA_s, okS_0, okS_s, isL_i, isL_l, isL_r, szV_i, szV_l, szV_r, szS_n, szS_c, pops_0, pops_s, icm_eq, icm_ne, icm_lt, icm_ge, icm_gt, icm_le, aG_s, oG_s, u_nil, v_aload0, u_astore0, u_astorec0, v_iload0, u_istore0, v_lload0, u_lstore0, v_aload1, u_astore1, u_astorec1, v_iload1, u_istore1, v_lload1, u_lstore1, v_aload2, u_astore2, u_astorec2, v_iload2, u_istore2, v_lload2, u_lstore2, v_aload3, u_astore3, u_astorec3, v_iload3, u_istore3, v_lload3, u_lstore3, v_aload, u_astore, v_iload, u_istore, v_lload, u_lstore, u_iconst, u_bipush, u_sipush, u_ldc, u_ldcs, u_ldc2, v_iinc, u_iadd, u_isub, u_imul, u_iand, u_idiv, u_irem, u_ineg, u_ladd, u_lmul, u_ldiv, u_lrem, u_lcmp, u_i2l, u_l2i, u_dup, u_dup2, u_pop, u_if, u_icmp, u_goto, u_switch, u_getf0, u_getf2, u_getf1, u_putf0, u_putf2, u_putf1, u_getst, v_iald, u_ialdc, v_iast, u_alen, u_newa, u_new, u_virt, u_spec, u_stat, w_iret, w_zret, u_lret, u_aret, u_vret, cV_s, cS_s, wc_v, wc_i, wc_s, vc_copy, uc_copyc, uc_min, uc_max, uc_abs, uc_char, uc_obj, gl_0, gl_s, sl_0, sl_s, wA, wR, wK, ceW_1, ceN_2, ceN_3, ceN_4, ceN_5, ceN_6, ceN_7, ceN_8, c_t, bu, QW_w, true_and, and_true, Bool.not_false, Option.toList_some, Option.toList_none, List.cons_append, List.nil_append, List.singleton_append, Int.cast_ofNat_Int, Int.natCast_zero, Int.natCast_one, true_implies, implies_true, not_true_eq_false, not_false_eq_true, ne_eq, eq_self, true_or, or_true, or_false, false_or, and_self, Int.reduceNeg, Int.reduceLE, Int.reduceLT, Int.reduceEq, Int.reduceAdd, Int.reduceSub, Int.reduceMul, Int.reduceNe, Nat.reduceAdd, Nat.reduceSub, Nat.reduceLeDiff, Nat.reduceLT, Nat.reduceEqDiff, Int.reduceToNat, Int.reduceNatCast, Int.reduceTDiv, Int.reduceTMod, false_implies, false_and, and_false, reduceIte, ite_true, ite_false, c_u, shN_at, wSN, wRZ, wRP, wRG, wNF, QV_w]
    refine t_divide (S' := S1) hl (by omega) 6 0 S g _ _ (by omega) hI (by omega) h1 (by omega) (fun u => by have := h3 u; omega) hd fun g' i2 f2 => ?_
    simp only [vI_i, vJ_l, isI_i, isR_r, isR_c, aN_s, isA_s, okS_0, okS_s, isL_i, isL_l, isL_r, szV_i, szV_l, szV_r, szS_n, szS_c, pops_0, pops_s, icm_eq, icm_ne, icm_lt, icm_ge, icm_gt, icm_le, aG_s, oG_s, u_nil, v_aload0, u_astore0, u_astorec0, v_iload0, u_istore0, v_lload0, u_lstore0, v_aload1, u_astore1, u_astorec1, v_iload1, u_istore1, v_lload1, u_lstore1, v_aload2, u_astore2, u_astorec2, v_iload2, u_istore2, v_lload2, u_lstore2, v_aload3, u_astore3, u_astorec3, v_iload3, u_istore3, v_lload3, u_lstore3, v_aload, u_astore, v_iload, u_istore, v_lload, u_lstore, u_iconst, u_bipush, u_sipush, u_ldc, u_ldcs, u_ldc2, v_iinc, u_iadd, u_isub, u_imul, u_iand, u_idiv, u_irem, u_ineg, u_ladd, u_lmul, u_ldiv, u_lrem, u_lcmp, u_i2l, u_l2i, u_dup, u_dup2, u_pop, u_if, u_icmp, u_goto, u_switch, u_getf0, u_getf2, u_getf1, u_putf0, u_putf2, u_putf1, u_getst, v_iald, u_ialdc, v_iast, u_alen, u_newa, u_new, u_virt, u_spec, u_stat, w_iret, w_zret, u_lret, u_aret, u_vret, cV_s, cS_s, wc_v, wc_i, wc_s, vc_copy, uc_copyc, uc_min, uc_max, uc_abs, uc_char, uc_obj, gl_0, gl_s, sl_0, sl_s, wA, wR, wK, ceW_1, ceN_2, ceN_3, ceN_4, ceN_5, ceN_6, ceN_7, ceN_8, c_t, bu, QW_w, true_and, and_true, Bool.not_false, Option.toList_some, Option.toList_none, List.cons_append, List.nil_append, List.singleton_append, Int.cast_ofNat_Int, Int.natCast_zero, Int.natCast_one, true_implies, implies_true, not_true_eq_false, not_false_eq_true, ne_eq, eq_self, true_or, or_true, or_false, false_or, and_self, Int.reduceNeg, Int.reduceLE, Int.reduceLT, Int.reduceEq, Int.reduceAdd, Int.reduceSub, Int.reduceMul, Int.reduceNe, Nat.reduceAdd, Nat.reduceSub, Nat.reduceLeDiff, Nat.reduceLT, Nat.reduceEqDiff, Int.reduceToNat, Int.reduceNatCast, Int.reduceTDiv, Int.reduceTMod, false_implies, false_and, and_false, reduceIte, ite_true, ite_false, c_u, shN_at, wSN, wRZ, wRP, wRG, wNF, QV_w, ws]
    exact t_level hl he k (sp + 1) S1 g' (by omega) i2 (by omega) (by omega) (fun u => by have := h3 u; have := b3 u; omega) hr fun g'' x1 x2 => hQ g'' x1 (f2.tr x2)
end LVL
