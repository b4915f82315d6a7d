/-! THE TABLES OF SPANS: a span divided -/
section DVD
variable {G : Gx} {d : Nat} {g : Nat → Int → Int} {Q : Qx}
def pF (c a s : Nat) : Nat := match c with
  | 0 => a
  | 1 => a + s / 2
  | 2 => a
  | 3 => a
  | 4 => a + s / 3
  | _ => a + 2 * (s / 3)
def pS (c s : Nat) : Nat := match c with
  | 0 => s / 2
  | 1 => s / 2
  | 2 => s / 3 * 2
  | _ => s / 3
theorem pF_eq {a s : Nat} : ∀ c : Nat, c < 6 → pfr (kk c) (kp c) a s = ((pF c a s : Nat) : Int)
  | 0, _ => by unfold pfr; rw [show kk ((0 : Nat) : Int) = 1 from rfl, show kp ((0 : Nat) : Int) = 0 from rfl, if_pos rfl]; show _ = ((a : Nat) : Int); omega
  | 1, _ => by unfold pfr; rw [show kk ((1 : Nat) : Int) = 1 from rfl, show kp ((1 : Nat) : Int) = 1 from rfl, if_pos rfl]; show _ = ((a + s / 2 : Nat) : Int); omega
  | 2, _ => by unfold pfr; rw [show kk ((2 : Nat) : Int) = 2 from rfl, show kp ((2 : Nat) : Int) = 0 from rfl, if_neg (by decide), if_pos rfl]; show _ = ((a : Nat) : Int); omega
  | 3, _ => by unfold pfr; rw [show kk ((3 : Nat) : Int) = 3 from rfl, show kp ((3 : Nat) : Int) = 0 from rfl, if_neg (by decide), if_neg (by decide)]; show _ = ((a : Nat) : Int); omega
  | 4, _ => by unfold pfr; rw [show kk ((4 : Nat) : Int) = 3 from rfl, show kp ((4 : Nat) : Int) = 1 from rfl, if_neg (by decide), if_neg (by decide)]; show _ = ((a + s / 3 : Nat) : Int); omega
  | 5, _ => by unfold pfr; rw [show kk ((5 : Nat) : Int) = 3 from rfl, show kp ((5 : Nat) : Int) = 2 from rfl, if_neg (by decide), if_neg (by decide)]; show _ = ((a + 2 * (s / 3) : Nat) : Int); omega
  | c + 6, h => by omega
theorem pS_eq {s : Nat} : ∀ c : Nat, c < 6 → psz (kk c) (kp c) s = ((pS c s : Nat) : Int)
  | 0, _ => by unfold psz; rw [show kk ((0 : Nat) : Int) = 1 from rfl, if_pos rfl]; show _ = ((s / 2 : Nat) : Int); omega
  | 1, _ => by unfold psz; rw [show kk ((1 : Nat) : Int) = 1 from rfl, if_pos rfl]; show _ = ((s / 2 : Nat) : Int); omega
  | 2, _ => by unfold psz; rw [show kk ((2 : Nat) : Int) = 2 from rfl, show kp ((2 : Nat) : Int) = 0 from rfl, if_neg (by decide), if_pos (by decide)]; show _ = ((s / 3 * 2 : Nat) : Int); omega
  | 3, _ => by unfold psz; rw [show kk ((3 : Nat) : Int) = 3 from rfl, show kp ((3 : Nat) : Int) = 0 from rfl, if_neg (by decide), if_neg (by decide)]; show _ = ((s / 3 : Nat) : Int); omega
  | 4, _ => by unfold psz; rw [show kk ((4 : Nat) : Int) = 3 from rfl, show kp ((4 : Nat) : Int) = 1 from rfl, if_neg (by decide), if_neg (by decide)]; show _ = ((s / 3 : Nat) : Int); omega
  | 5, _ => by unfold psz; rw [show kk ((5 : Nat) : Int) = 3 from rfl, show kp ((5 : Nat) : Int) = 2 from rfl, if_neg (by decide), if_neg (by decide)]; show _ = ((s / 3 : Nat) : Int); omega
  | c + 6, h => by omega
theorem k5_eq {xs : Int × (Int → Int)} : ∀ c : Nat, c < 6 → (ceW xs 5).2 (c : Int) = kk c ∧ (ceW xs 6).2 (c : Int) = kp c ∧ 0 ≤ kp c ∧ kp c ≤ 3
  | 0, _ => ⟨rfl, rfl, by decide, by decide⟩
  | 1, _ => ⟨rfl, rfl, by decide, by decide⟩
  | 2, _ => ⟨rfl, rfl, by decide, by decide⟩
  | 3, _ => ⟨rfl, rfl, by decide, by decide⟩
  | 4, _ => ⟨rfl, rfl, by decide, by decide⟩
  | 5, _ => ⟨rfl, rfl, by decide, by decide⟩
  | c + 6, h => by omega
def dvB (S : TS) (l en fr sz : Nat) : Option TS := match fA S.1 fr with
  | none => none
  | some (i, a) => if l < 2 then match fP (a, S.2.1, S.2.2.1, S.2.2.2.1, S.2.2.2.2.1 ++ [i], S.2.2.2.2.2) en fr sz with
      | none => none
      | some (j, S2) => some (S2.1, S2.2.1, S2.2.2.1, S2.2.2.2.1, S2.2.2.2.2.1, S2.2.2.2.2.2 ++ [j])
    else some (a, S.2.1, S.2.2.1, S.2.2.2.1, S.2.2.2.2.1 ++ [i], S.2.2.2.2.2)
def dv (S : TS) (l sp en c : Nat) : Option TS := if S.2.2.1.getD sp 0 ≤ 216 ∧ S.2.2.2.1.getD sp 0 ≤ 216 then dvB S l en (pF c (S.2.2.1.getD sp 0) (S.2.2.2.1.getD sp 0)) (pS c (S.2.2.2.1.getD sp 0)) else none
def dvC (l sp en : Nat) : Nat → Nat → TS → Option TS
  | 0, _, S => some S
  | k + 1, c, S => match dv S l sp en c with
    | none => none
    | some S1 => dvC l sp en k (c + 1) S1
theorem fP_len {S S' : TS} {lo fr sz r : Nat} (h : fP S lo fr sz = some (r, S')) : S'.2.2.2.2 = S.2.2.2.2 ∧ S.2.2.1.length ≤ S'.2.2.1.length := by
  unfold fP at h
  split at h
  · cases h; exact ⟨rfl, Nat.le_refl _⟩
  · split at h
    · split at h
      · cases h; exact ⟨rfl, by simp only [List.length_append]; omega⟩
      · cases h
    · cases h
theorem t_divide {S' : TS} {l sp en : Nat} (hl : l < 3) (hs : sp < 35) : ∀ (k c : Nat) (S : TS) (g : Nat → Int → Int) (v5 v6 : Vx), c + k = 6 → TI g S → sp < S.2.2.1.length → en ≤ S.2.2.1.length → S.2.2.2.2.1.length = 6 * sp + c → (l < 2 → S.2.2.2.2.2.length = 6 * sp + c) → dvC l sp en k c S = some S' →
    (∀ g' : Nat → Int → Int, TI g' S' → FrI g g' → Q none (30, 920, shN 30, rN 26, g')) → Tg G (d + 2) (30, 920) 134 3 [vr 21, vi sp, vi l, vi en, vi c, v5, v6] [] (30, 920, shN 30, rN 26, g) (QV 30 920 Q)
  | 0, c, S, g, v5, v6, hc, hI, h1, h2, h3, h4, hr, hQ => by
    cases hr
    refine T_b ok_X4_divide_3 ?_
    simp only [vI_i, vJ_l, isI_i, isR_r, isR_c, aN_s, isA_s, okS_0, okS_s, isL_i, isL_l, isL_r, szV_i, szV_l, szV_r, szS_n, szS_c, pops_0, pops_s, icm_eq, icm_ne, icm_lt, icm_ge, icm_gt, icm_le, aG_s, oG_s, u_nil, v_aload0, u_astore0, u_astorec0, v_iload0, u_istore0, v_lload0, u_lstore0, v_aload1, u_astore1, u_astorec1, v_iload1, u_istore1, v_lload1, u_lstore1, v_aload2, u_astore2, u_astorec2, v_iload2, u_istore2, v_lload2, u_lstore2, v_aload3, u_astore3, u_astorec3, v_iload3, u_istore3, v_lload3, u_lstore3, v_aload, u_astore, v_iload, u_istore, v_lload, u_lstore, u_iconst, u_bipush, u_sipush, u_ldc, u_ldcs, u_ldc2, v_iinc, u_iadd, u_isub, u_imul, u_iand, u_idiv, u_irem, u_ineg, u_ladd, u_lmul, u_ldiv, u_lrem, u_lcmp, u_i2l, u_l2i, u_dup, u_dup2, u_pop, u_if, u_icmp, u_goto, u_switch, u_getf0, u_getf2, u_getf1, u_putf0, u_putf2, u_putf1, u_getst, v_iald, u_ialdc, v_iast, u_alen, u_newa, u_new, u_virt, u_spec, u_stat, w_iret, w_zret, u_lret, u_aret, u_vret, cV_s, cS_s, wc_v, wc_i, wc_s, vc_copy, uc_copyc, uc_min, uc_max, uc_abs, uc_char, uc_obj, gl_0, gl_s, sl_0, sl_s, wA, wR, wK, ceW_1, ceN_2, ceN_3, ceN_4, ceN_5, ceN_6, ceN_7, ceN_8, c_t, bu, QW_w, true_and, and_true, Bool.not_false, Option.toList_some, Option.toList_none, List.cons_append, List.nil_append, List.singleton_append, Int.cast_ofNat_Int, Int.natCast_zero, Int.natCast_one, true_implies, implies_true, not_true_eq_false, not_false_eq_true, ne_eq, eq_self, true_or, or_true, or_false, false_or, and_self, Int.reduceNeg, Int.reduceLE, Int.reduceLT, Int.reduceEq, Int.reduceAdd, Int.reduceSub, Int.reduceMul, Int.reduceNe, Nat.reduceAdd, Nat.reduceSub, Nat.reduceLeDiff, Nat.reduceLT, Nat.reduceEqDiff, Int.reduceToNat, Int.reduceNatCast, Int.reduceTDiv, Int.reduceTMod, false_implies, false_and, and_false, reduceIte, ite_true, ite_false, c_u, shN_at, wSN, wRZ, wRP, wRG, wNF, QV_w]
    refine ⟨fun _ => ?_, fun u => by omega⟩
    refine T_b ok_X4_divide_114 ?_
    simp only [vI_i, vJ_l, isI_i, isR_r, isR_c, aN_s, isA_s, okS_0, okS_s, isL_i, isL_l, isL_r, szV_i, szV_l, szV_r, szS_n, szS_c, pops_0, pops_s, icm_eq, icm_ne, icm_lt, icm_ge, icm_gt, icm_le, aG_s, oG_s, u_nil, v_aload0, u_astore0, u_astorec0, v_iload0, u_istore0, v_lload0, u_lstore0, v_aload1, u_astore1, u_astorec1, v_iload1, u_istore1, v_lload1, u_lstore1, v_aload2, u_astore2, u_astorec2, v_iload2, u_istore2, v_lload2, u_lstore2, v_aload3, u_astore3, u_astorec3, v_iload3, u_istore3, v_lload3, u_lstore3, v_aload, u_astore, v_iload, u_istore, v_lload, u_lstore, u_iconst, u_bipush, u_sipush, u_ldc, u_ldcs, u_ldc2, v_iinc, u_iadd, u_isub, u_imul, u_iand, u_idiv, u_irem, u_ineg, u_ladd, u_lmul, u_ldiv, u_lrem, u_lcmp, u_i2l, u_l2i, u_dup, u_dup2, u_pop, u_if, u_icmp, u_goto, u_switch, u_getf0, u_getf2, u_getf1, u_putf0, u_putf2, u_putf1, u_getst, v_iald, u_ialdc, v_iast, u_alen, u_newa, u_new, u_virt, u_spec, u_stat, w_iret, w_zret, u_lret, u_aret, u_vret, cV_s, cS_s, wc_v, wc_i, wc_s, vc_copy, uc_copyc, uc_min, uc_max, uc_abs, uc_char, uc_obj, gl_0, gl_s, sl_0, sl_s, wA, wR, wK, ceW_1, ceN_2, ceN_3, ceN_4, ceN_5, ceN_6, ceN_7, ceN_8, c_t, bu, QW_w, true_and, and_true, Bool.not_false, Option.toList_some, Option.toList_none, List.cons_append, List.nil_append, List.singleton_append, Int.cast_ofNat_Int, Int.natCast_zero, Int.natCast_one, true_implies, implies_true, not_true_eq_false, not_false_eq_true, ne_eq, eq_self, true_or, or_true, or_false, false_or, and_self, Int.reduceNeg, Int.reduceLE, Int.reduceLT, Int.reduceEq, Int.reduceAdd, Int.reduceSub, Int.reduceMul, Int.reduceNe, Nat.reduceAdd, Nat.reduceSub, Nat.reduceLeDiff, Nat.reduceLT, Nat.reduceEqDiff, Int.reduceToNat, Int.reduceNatCast, Int.reduceTDiv, Int.reduceTMod, false_implies, false_and, and_false, reduceIte, ite_true, ite_false, c_u, shN_at, wSN, wRZ, wRP, wRG, wNF, QV_w]
    exact hQ g hI fun q x u => rfl
  | k + 1, c, S, g, v5, v6, hc, hI, h1, h2, h3, h4, hr, hQ => by
    have hI0 := hI
    obtain ⟨⟨h8, h9⟩, ⟨l1, l2, l3, l4⟩, a1, a2, a3, a4, a5, a6⟩ := hI
    obtain ⟨k5, k6, k7, k8⟩ := k5_eq (xs := G.2.2.2.2.2.2) c (by omega)
    have e28 := a3 sp h1
    have e29 := a4 sp (by omega)
    unfold dvC at hr
    rcases hd : dv S l sp en c with _ | S1
    · rw [hd] at hr; cases hr
    rw [hd] at hr
    simp only [] at hr
    unfold dv at hd
    by_cases hb : S.2.2.1.getD sp 0 ≤ 216 ∧ S.2.2.2.1.getD sp 0 ≤ 216
    case neg => rw [if_neg hb] at hd; cases hd
    rw [if_pos hb] at hd
    generalize S.2.2.1.getD sp 0 = bg at *
    generalize S.2.2.2.1.getD sp 0 = si at *
    have ef := pF_eq (a := bg) (s := si) c (by omega)
    have es := pS_eq (s := si) c (by omega)
    have m1 : wr ((sp : Int) * 6) = sp * 6 := wr_of (by omega) (by omega)
    have m2 : wr ((sp : Int) * 6 + c) = S.2.2.2.2.1.length := by rw [wr_of (by omega) (by omega), h3]; omega
    have wl : wr ((l : Int) + 1) = l + 1 := wr_of (by omega) (by omega)
    have wc : wr ((c : Int) + 1) = ((c + 1 : Nat) : Int) := by rw [wr_of (by omega) (by omega)]; omega
    refine T_b ok_X4_divide_3 ?_
    simp only [vI_i, vJ_l, isI_i, isR_r, isR_c, aN_s, isA_s, okS_0, okS_s, isL_i, isL_l, isL_r, szV_i, szV_l, szV_r, szS_n, szS_c, pops_0, pops_s, icm_eq, icm_ne, icm_lt, icm_ge, icm_gt, icm_le, aG_s, oG_s, u_nil, v_aload0, u_astore0, u_astorec0, v_iload0, u_istore0, v_lload0, u_lstore0, v_aload1, u_astore1, u_astorec1, v_iload1, u_istore1, v_lload1, u_lstore1, v_aload2, u_astore2, u_astorec2, v_iload2, u_istore2, v_lload2, u_lstore2, v_aload3, u_astore3, u_astorec3, v_iload3, u_istore3, v_lload3, u_lstore3, v_aload, u_astore, v_iload, u_istore, v_lload, u_lstore, u_iconst, u_bipush, u_sipush, u_ldc, u_ldcs, u_ldc2, v_iinc, u_iadd, u_isub, u_imul, u_iand, u_idiv, u_irem, u_ineg, u_ladd, u_lmul, u_ldiv, u_lrem, u_lcmp, u_i2l, u_l2i, u_dup, u_dup2, u_pop, u_if, u_icmp, u_goto, u_switch, u_getf0, u_getf2, u_getf1, u_putf0, u_putf2, u_putf1, u_getst, v_iald, u_ialdc, v_iast, u_alen, u_newa, u_new, u_virt, u_spec, u_stat, w_iret, w_zret, u_lret, u_aret, u_vret, cV_s, cS_s, wc_v, wc_i, wc_s, vc_copy, uc_copyc, uc_min, uc_max, uc_abs, uc_char, uc_obj, gl_0, gl_s, sl_0, sl_s, wA, wR, wK, ceW_1, ceN_2, ceN_3, ceN_4, ceN_5, ceN_6, ceN_7, ceN_8, c_t, bu, QW_w, true_and, and_true, Bool.not_false, Option.toList_some, Option.toList_none, List.cons_append, List.nil_append, List.singleton_append, Int.cast_ofNat_Int, Int.natCast_zero, Int.natCast_one, true_implies, implies_true, not_true_eq_false, not_false_eq_true, ne_eq, eq_self, true_or, or_true, or_false, false_or, and_self, Int.reduceNeg, Int.reduceLE, Int.reduceLT, Int.reduceEq, Int.reduceAdd, Int.reduceSub, Int.reduceMul, Int.reduceNe, Nat.reduceAdd, Nat.reduceSub, Nat.reduceLeDiff, Nat.reduceLT, Nat.reduceEqDiff, Int.reduceToNat, Int.reduceNatCast, Int.reduceTDiv, Int.reduceTMod, false_implies, false_and, and_false, reduceIte, ite_true, ite_false, c_u, shN_at, wSN, wRZ, wRP, wRG, wNF, QV_w, k5, k6, e28, e29]
    refine ⟨fun u => by omega, fun u => ⟨by omega, by omega, by omega, by omega, ?_⟩⟩
    refine t_partFrom ⟨k7, k8⟩ (by omega) (by omega) ?_
    rw [ef]
    simp only [vI_i, vJ_l, isI_i, isR_r, isR_c, aN_s, isA_s, okS_0, okS_s, isL_i, isL_l, isL_r, szV_i, szV_l, szV_r, szS_n, szS_c, pops_0, pops_s, icm_eq, icm_ne, icm_lt, icm_ge, icm_gt, icm_le, aG_s, oG_s, u_nil, v_aload0, u_astore0, u_astorec0, v_iload0, u_istore0, v_lload0, u_lstore0, v_aload1, u_astore1, u_astorec1, v_iload1, u_istore1, v_lload1, u_lstore1, v_aload2, u_astore2, u_astorec2, v_iload2, u_istore2, v_lload2, u_lstore2, v_aload3, u_astore3, u_astorec3, v_iload3, u_istore3, v_lload3, u_lstore3, v_aload, u_astore, v_iload, u_istore, v_lload, u_lstore, u_iconst, u_bipush, u_sipush, u_ldc, u_ldcs, u_ldc2, v_iinc, u_iadd, u_isub, u_imul, u_iand, u_idiv, u_irem, u_ineg, u_ladd, u_lmul, u_ldiv, u_lrem, u_lcmp, u_i2l, u_l2i, u_dup, u_dup2, u_pop, u_if, u_icmp, u_goto, u_switch, u_getf0, u_getf2, u_getf1, u_putf0, u_putf2, u_putf1, u_getst, v_iald, u_ialdc, v_iast, u_alen, u_newa, u_new, u_virt, u_spec, u_stat, w_iret, w_zret, u_lret, u_aret, u_vret, cV_s, cS_s, wc_v, wc_i, wc_s, vc_copy, uc_copyc, uc_min, uc_max, uc_abs, uc_char, uc_obj, gl_0, gl_s, sl_0, sl_s, wA, wR, wK, ceW_1, ceN_2, ceN_3, ceN_4, ceN_5, ceN_6, ceN_7, ceN_8, c_t, bu, QW_w, true_and, and_true, Bool.not_false, Option.toList_some, Option.toList_none, List.cons_append, List.nil_append, List.singleton_append, Int.cast_ofNat_Int, Int.natCast_zero, Int.natCast_one, true_implies, implies_true, not_true_eq_false, not_false_eq_true, ne_eq, eq_self, true_or, or_true, or_false, false_or, and_self, Int.reduceNeg, Int.reduceLE, Int.reduceLT, Int.reduceEq, Int.reduceAdd, Int.reduceSub, Int.reduceMul, Int.reduceNe, Nat.reduceAdd, Nat.reduceSub, Nat.reduceLeDiff, Nat.reduceLT, Nat.reduceEqDiff, Int.reduceToNat, Int.reduceNatCast, Int.reduceTDiv, Int.reduceTMod, false_implies, false_and, and_false, reduceIte, ite_true, ite_false, c_u, shN_at, wSN, wRZ, wRP, wRG, wNF, QV_w, k5, k6, e29]
    refine ⟨by omega, by omega, by omega, ?_⟩
    refine t_partSize (by omega) ?_
    rw [es]
    simp only [vI_i, vJ_l, isI_i, isR_r, isR_c, aN_s, isA_s, okS_0, okS_s, isL_i, isL_l, isL_r, szV_i, szV_l, szV_r, szS_n, szS_c, pops_0, pops_s, icm_eq, icm_ne, icm_lt, icm_ge, icm_gt, icm_le, aG_s, oG_s, u_nil, v_aload0, u_astore0, u_astorec0, v_iload0, u_istore0, v_lload0, u_lstore0, v_aload1, u_astore1, u_astorec1, v_iload1, u_istore1, v_lload1, u_lstore1, v_aload2, u_astore2, u_astorec2, v_iload2, u_istore2, v_lload2, u_lstore2, v_aload3, u_astore3, u_astorec3, v_iload3, u_istore3, v_lload3, u_lstore3, v_aload, u_astore, v_iload, u_istore, v_lload, u_lstore, u_iconst, u_bipush, u_sipush, u_ldc, u_ldcs, u_ldc2, v_iinc, u_iadd, u_isub, u_imul, u_iand, u_idiv, u_irem, u_ineg, u_ladd, u_lmul, u_ldiv, u_lrem, u_lcmp, u_i2l, u_l2i, u_dup, u_dup2, u_pop, u_if, u_icmp, u_goto, u_switch, u_getf0, u_getf2, u_getf1, u_putf0, u_putf2, u_putf1, u_getst, v_iald, u_ialdc, v_iast, u_alen, u_newa, u_new, u_virt, u_spec, u_stat, w_iret, w_zret, u_lret, u_aret, u_vret, cV_s, cS_s, wc_v, wc_i, wc_s, vc_copy, uc_copyc, uc_min, uc_max, uc_abs, uc_char, uc_obj, gl_0, gl_s, sl_0, sl_s, wA, wR, wK, ceW_1, ceN_2, ceN_3, ceN_4, ceN_5, ceN_6, ceN_7, ceN_8, c_t, bu, QW_w, true_and, and_true, Bool.not_false, Option.toList_some, Option.toList_none, List.cons_append, List.nil_append, List.singleton_append, Int.cast_ofNat_Int, Int.natCast_zero, Int.natCast_one, true_implies, implies_true, not_true_eq_false, not_false_eq_true, ne_eq, eq_self, true_or, or_true, or_false, false_or, and_self, Int.reduceNeg, Int.reduceLE, Int.reduceLT, Int.reduceEq, Int.reduceAdd, Int.reduceSub, Int.reduceMul, Int.reduceNe, Nat.reduceAdd, Nat.reduceSub, Nat.reduceLeDiff, Nat.reduceLT, Nat.reduceEqDiff, Int.reduceToNat, Int.reduceNatCast, Int.reduceTDiv, Int.reduceTMod, false_implies, false_and, and_false, reduceIte, ite_true, ite_false, c_u, shN_at, wSN, wRZ, wRP, wRG, wNF, QV_w, m1, m2]
    generalize pF c bg si = fr at *
    generalize pS c si = sz at *
    unfold dvB at hd
    rcases hf : fA S.1 fr with _ | ⟨i, a'⟩
    · rw [hf] at hd; cases hd
    rw [hf] at hd
    simp only [] at hd
    refine t_start h8 a1 l1 hf (fun g1 b8 bA bl bf => ?_)
    simp only [vI_i, vJ_l, isI_i, isR_r, isR_c, aN_s, isA_s, okS_0, okS_s, isL_i, isL_l, isL_r, szV_i, szV_l, szV_r, szS_n, szS_c, pops_0, pops_s, icm_eq, icm_ne, icm_lt, icm_ge, icm_gt, icm_le, aG_s, oG_s, u_nil, v_aload0, u_astore0, u_astorec0, v_iload0, u_istore0, v_lload0, u_lstore0, v_aload1, u_astore1, u_astorec1, v_iload1, u_istore1, v_lload1, u_lstore1, v_aload2, u_astore2, u_astorec2, v_iload2, u_istore2, v_lload2, u_lstore2, v_aload3, u_astore3, u_astorec3, v_iload3, u_istore3, v_lload3, u_lstore3, v_aload, u_astore, v_iload, u_istore, v_lload, u_lstore, u_iconst, u_bipush, u_sipush, u_ldc, u_ldcs, u_ldc2, v_iinc, u_iadd, u_isub, u_imul, u_iand, u_idiv, u_irem, u_ineg, u_ladd, u_lmul, u_ldiv, u_lrem, u_lcmp, u_i2l, u_l2i, u_dup, u_dup2, u_pop, u_if, u_icmp, u_goto, u_switch, u_getf0, u_getf2, u_getf1, u_putf0, u_putf2, u_putf1, u_getst, v_iald, u_ialdc, v_iast, u_alen, u_newa, u_new, u_virt, u_spec, u_stat, w_iret, w_zret, u_lret, u_aret, u_vret, cV_s, cS_s, wc_v, wc_i, wc_s, vc_copy, uc_copyc, uc_min, uc_max, uc_abs, uc_char, uc_obj, gl_0, gl_s, sl_0, sl_s, wA, wR, wK, ceW_1, ceN_2, ceN_3, ceN_4, ceN_5, ceN_6, ceN_7, ceN_8, c_t, bu, QW_w, true_and, and_true, Bool.not_false, Option.toList_some, Option.toList_none, List.cons_append, List.nil_append, List.singleton_append, Int.cast_ofNat_Int, Int.natCast_zero, Int.natCast_one, true_implies, implies_true, not_true_eq_false, not_false_eq_true, ne_eq, eq_self, true_or, or_true, or_false, false_or, and_self, Int.reduceNeg, Int.reduceLE, Int.reduceLT, Int.reduceEq, Int.reduceAdd, Int.reduceSub, Int.reduceMul, Int.reduceNe, Nat.reduceAdd, Nat.reduceSub, Nat.reduceLeDiff, Nat.reduceLT, Nat.reduceEqDiff, Int.reduceToNat, Int.reduceNatCast, Int.reduceTDiv, Int.reduceTMod, false_implies, false_and, and_false, reduceIte, ite_true, ite_false, c_u, shN_at, wSN, wRZ, wRP, wRG, wNF, QV_w, m1, m2, wl]
    refine ⟨by omega, ?_⟩
    have g2 : ∀ (q : Nat) (x : Int), q ≠ 26 → q ≠ 22 → ¬ (q = 21 ∧ x = 8) → st g1 26 (S.2.2.2.2.1.length : Int) i q x = g q x := fun q x u v w => by
      rw [← bf q x v w]; exact if_neg fun z => u z.1
    have i2 : TI (st g1 26 (S.2.2.2.2.1.length : Int) i) (a', S.2.1, S.2.2.1, S.2.2.2.1, S.2.2.2.2.1 ++ [i], S.2.2.2.2.2) := by
      refine ⟨⟨(if_neg (by omega)).trans b8, (g2 21 9 (by decide) (by decide) (by omega)).trans h9⟩, ⟨bl, l2, l3, l4⟩, bA.fr fun x => if_neg (by omega), a2.fr fun x => g2 23 x (by decide) (by decide) (by omega), a3.fr fun x => g2 28 x (by decide) (by decide) (by omega), a4.fr fun x => g2 29 x (by decide) (by decide) (by omega), ?_, a6.fr fun x => g2 27 x (by decide) (by decide) (by omega)⟩
      exact AgL.app (a5.fr fun x => bf 26 x (by decide) (by omega)) rfl
    have f2 : FrI g (st g1 26 (S.2.2.2.2.1.length : Int) i) := fun q x u => g2 q x (by omega) (by omega) (by omega)
    have e108 : ∀ (h : Nat → Int → Int) (S1 : TS), TI h S1 → FrI g h → dvC l sp en k (c + 1) S1 = some S' → S.2.2.1.length ≤ S1.2.2.1.length → S1.2.2.2.2.1.length = S.2.2.2.2.1.length + 1 → (l < 2 → S1.2.2.2.2.2.length = S.2.2.2.2.2.length + 1) → Tg G (d + 2) (30, 920) 134 108 [vr 21, vi sp, vi l, vi en, vi c, vi fr, vi sz] [] (30, 920, shN 30, rN 26, h) (QV 30 920 Q) := by
      intro h S1 x1 x2 x3 x4 x5 x6
      refine T_b ok_X4_divide_108 ?_
      simp only [vI_i, vJ_l, isI_i, isR_r, isR_c, aN_s, isA_s, okS_0, okS_s, isL_i, isL_l, isL_r, szV_i, szV_l, szV_r, szS_n, szS_c, pops_0, pops_s, icm_eq, icm_ne, icm_lt, icm_ge, icm_gt, icm_le, aG_s, oG_s, u_nil, v_aload0, u_astore0, u_astorec0, v_iload0, u_istore0, v_lload0, u_lstore0, v_aload1, u_astore1, u_astorec1, v_iload1, u_istore1, v_lload1, u_lstore1, v_aload2, u_astore2, u_astorec2, v_iload2, u_istore2, v_lload2, u_lstore2, v_aload3, u_astore3, u_astorec3, v_iload3, u_istore3, v_lload3, u_lstore3, v_aload, u_astore, v_iload, u_istore, v_lload, u_lstore, u_iconst, u_bipush, u_sipush, u_ldc, u_ldcs, u_ldc2, v_iinc, u_iadd, u_isub, u_imul, u_iand, u_idiv, u_irem, u_ineg, u_ladd, u_lmul, u_ldiv, u_lrem, u_lcmp, u_i2l, u_l2i, u_dup, u_dup2, u_pop, u_if, u_icmp, u_goto, u_switch, u_getf0, u_getf2, u_getf1, u_putf0, u_putf2, u_putf1, u_getst, v_iald, u_ialdc, v_iast, u_alen, u_newa, u_new, u_virt, u_spec, u_stat, w_iret, w_zret, u_lret, u_aret, u_vret, cV_s, cS_s, wc_v, wc_i, wc_s, vc_copy, uc_copyc, uc_min, uc_max, uc_abs, uc_char, uc_obj, gl_0, gl_s, sl_0, sl_s, wA, wR, wK, ceW_1, ceN_2, ceN_3, ceN_4, ceN_5, ceN_6, ceN_7, ceN_8, c_t, bu, QW_w, true_and, and_true, Bool.not_false, Option.toList_some, Option.toList_none, List.cons_append, List.nil_append, List.singleton_append, Int.cast_ofNat_Int, Int.natCast_zero, Int.natCast_one, true_implies, implies_true, not_true_eq_false, not_false_eq_true, ne_eq, eq_self, true_or, or_true, or_false, false_or, and_self, Int.reduceNeg, Int.reduceLE, Int.reduceLT, Int.reduceEq, Int.reduceAdd, Int.reduceSub, Int.reduceMul, Int.reduceNe, Nat.reduceAdd, Nat.reduceSub, Nat.reduceLeDiff, Nat.reduceLT, Nat.reduceEqDiff, Int.reduceToNat, Int.reduceNatCast, Int.reduceTDiv, Int.reduceTMod, false_implies, false_and, and_false, reduceIte, ite_true, ite_false, c_u, shN_at, wSN, wRZ, wRP, wRG, wNF, QV_w, wc]
      exact t_divide hl hs k (c + 1) S1 h _ _ (by omega) x1 (by omega) (by omega) (by omega) (fun u => by have := x6 u; have := h4 u; omega) x3 fun g' y1 y2 => hQ g' y1 (x2.tr y2)
    refine ⟨fun u => ?_, fun u => ?_⟩
    · rw [if_neg (by omega)] at hd
      cases hd
      exact e108 _ _ i2 f2 hr (Nat.le_refl _) (by simp only [List.length_append, List.length_singleton]) (fun v => by omega)
    · rw [if_pos (by omega)] at hd
      rcases hp : fP (a', S.2.1, S.2.2.1, S.2.2.2.1, S.2.2.2.2.1 ++ [i], S.2.2.2.2.2) en fr sz with _ | ⟨j, S2⟩
      · rw [hp] at hd; cases hd
      rw [hp] at hd
      cases hd
      obtain ⟨p1, p2⟩ := fP_len hp
      refine t_span i2 h2 hp (fun g3 i3 f3 => ?_)
      simp only [vI_i, vJ_l, isI_i, isR_r, isR_c, aN_s, isA_s, okS_0, okS_s, isL_i, isL_l, isL_r, szV_i, szV_l, szV_r, szS_n, szS_c, pops_0, pops_s, icm_eq, icm_ne, icm_lt, icm_ge, icm_gt, icm_le, aG_s, oG_s, u_nil, v_aload0, u_astore0, u_astorec0, v_iload0, u_istore0, v_lload0, u_lstore0, v_aload1, u_astore1, u_astorec1, v_iload1, u_istore1, v_lload1, u_lstore1, v_aload2, u_astore2, u_astorec2, v_iload2, u_istore2, v_lload2, u_lstore2, v_aload3, u_astore3, u_astorec3, v_iload3, u_istore3, v_lload3, u_lstore3, v_aload, u_astore, v_iload, u_istore, v_lload, u_lstore, u_iconst, u_bipush, u_sipush, u_ldc, u_ldcs, u_ldc2, v_iinc, u_iadd, u_isub, u_imul, u_iand, u_idiv, u_irem, u_ineg, u_ladd, u_lmul, u_ldiv, u_lrem, u_lcmp, u_i2l, u_l2i, u_dup, u_dup2, u_pop, u_if, u_icmp, u_goto, u_switch, u_getf0, u_getf2, u_getf1, u_putf0, u_putf2, u_putf1, u_getst, v_iald, u_ialdc, v_iast, u_alen, u_newa, u_new, u_virt, u_spec, u_stat, w_iret, w_zret, u_lret, u_aret, u_vret, cV_s, cS_s, wc_v, wc_i, wc_s, vc_copy, uc_copyc, uc_min, uc_max, uc_abs, uc_char, uc_obj, gl_0, gl_s, sl_0, sl_s, wA, wR, wK, ceW_1, ceN_2, ceN_3, ceN_4, ceN_5, ceN_6, ceN_7, ceN_8, c_t, bu, QW_w, true_and, and_true, Bool.not_false, Option.toList_some, Option.toList_none, List.cons_append, List.nil_append, List.singleton_append, Int.cast_ofNat_Int, Int.natCast_zero, Int.natCast_one, true_implies, implies_true, not_true_eq_false, not_false_eq_true, ne_eq, eq_self, true_or, or_true, or_false, false_or, and_self, Int.reduceNeg, Int.reduceLE, Int.reduceLT, Int.reduceEq, Int.reduceAdd, Int.reduceSub, Int.reduceMul, Int.reduceNe, Nat.reduceAdd, Nat.reduceSub, Nat.reduceLeDiff, Nat.reduceLT, Nat.reduceEqDiff, Int.reduceToNat, Int.reduceNatCast, Int.reduceTDiv, Int.reduceTMod, false_implies, false_and, and_false, reduceIte, ite_true, ite_false, c_u, shN_at, wSN, wRZ, wRP, wRG, wNF, QV_w]
      refine ⟨by omega, ?_⟩
      obtain ⟨⟨j8, j9⟩, ⟨n1, n2, n3, n4⟩, c1, c2, c3, c4, c5, c6⟩ := i3
      have p1' : S2.2.2.2.2 = (S.2.2.2.2.1 ++ [i], S.2.2.2.2.2) := p1
      have q1 : S2.2.2.2.2.1 = S.2.2.2.2.1 ++ [i] := by rw [p1']
      have q2 : S2.2.2.2.2.2 = S.2.2.2.2.2 := by rw [p1']
      have lc : S.2.2.2.2.1.length = S2.2.2.2.2.2.length := by rw [q2]; have := h4 (by omega); omega
      refine e108 _ (S2.1, S2.2.1, S2.2.2.1, S2.2.2.2.1, S2.2.2.2.2.1, S2.2.2.2.2.2 ++ [j]) ⟨⟨(if_neg (by omega)).trans j8, (if_neg (by omega)).trans j9⟩, ⟨n1, n2, n3, n4⟩, c1.fr fun x => if_neg (by omega), c2.fr fun x => if_neg (by omega), c3.fr fun x => if_neg (by omega), c4.fr fun x => if_neg (by omega), c5.fr fun x => if_neg (by omega), ?_⟩ (fun q x u => ?_) hr p2 (by show S2.2.2.2.2.1.length = _; rw [q1, List.length_append, List.length_singleton]) (fun v => by show (S2.2.2.2.2.2 ++ [j]).length = _; rw [q2, List.length_append, List.length_singleton])
      · rw [lc]; exact c6.app rfl
      · exact (if_neg (by omega)).trans ((f3 q x u).trans (f2 q x u))
end DVD
