/-! THE CLASS: tables of costs -/
section CLTAB
variable {G : Gx} {d : Nat} {g : Nat → Int → Int} {Q : Qx} {q : Qe}
/-- table t has X, for all pairs up to n -/
def TbL (g : Nat → Int → Int) (n t : Int) (X : Int → Int → Int) : Prop := ∀ i j : Int, 0 ≤ i → i ≤ j → j ≤ n → g 30 (81 * t + 9 * i + j) = X i j
def FrD (t : Int) (g h : Nat → Int → Int) : Prop := ∀ (q : Nat) (x : Int), (q ≠ 30 ∨ x < 81 * t ∨ 81 * t + 81 ≤ x) → h q x = g q x
theorem FrD.rf {t : Int} : FrD t g g := fun _ _ _ => rfl
theorem FrD.tr {t : Int} {g1 g2 g3 : Nat → Int → Int} (a : FrD t g1 g2) (b : FrD t g2 g3) : FrD t g1 g3 := fun q i x => (b q i x).trans (a q i x)
theorem FrD.st {t x v : Int} {h : Nat → Int → Int} (a : FrD t g h) (h1 : 81 * t ≤ x) (h2 : x < 81 * t + 81) : FrD t g (st h 30 x v) := fun q i z => by
  rw [st_nq (by omega)]; exact a q i z
theorem TbL.fr {n t s : Int} {X : Int → Int → Int} {h : Nat → Int → Int} (hX : TbL g n s X) (hf : FrD t g h) (hn : n ≤ 8) (hs : s ≠ t) : TbL h n s X := fun i j a b c => by
  rw [hf 30 _ (by omega)]; exact hX i j a b c
def Dn (h : Nat → Int → Int) (n t : Int) (V : Int → Int → Int) (i j : Int) : Prop := ∀ i' j' : Int, 0 ≤ i' → i' ≤ j' → j' ≤ n → (i' < i ∨ (i' = i ∧ j' < j)) → h 30 (81 * t + 9 * i' + j') = V i' j'
theorem Dn.st {n t i j v : Int} {V : Int → Int → Int} {h : Nat → Int → Int} (a : Dn h n t V i j) (hn : n ≤ 8) (h0 : 0 ≤ i) (h1 : i ≤ j) (h2 : j ≤ n) (hv : v = V i j) : Dn (st h 30 (81 * t + 9 * i + j) v) n t V i (j + 1) := fun i' j' x y z w => by
  by_cases e : i' = i ∧ j' = j
  · rw [e.1, e.2, st_eq]; exact hv
  · rw [st_ni (by omega)]; exact a i' j' x y z (by omega)
theorem Dn.row {n t i : Int} {V : Int → Int → Int} {h : Nat → Int → Int} (a : Dn h n t V i (n + 1)) : Dn h n t V (i + 1) (i + 1) := fun i' j' x y z w => a i' j' x y z (by omega)
theorem Dn.all {n t : Int} {V : Int → Int → Int} {h : Nat → Int → Int} (a : Dn h n t V (n + 1) (n + 1)) : TbL h n t V := fun i j x y z => a i j x y z (by omega)
theorem Dn.ze {n t : Int} {V : Int → Int → Int} {h : Nat → Int → Int} : Dn h n t V 0 0 := fun i' j' x y z w => absurd w (by omega)
theorem q_cell {t i j : Int} (ht : 0 ≤ t ∧ t ≤ 81) (hi : 0 ≤ i ∧ i ≤ 8) (hj : 0 ≤ j ∧ j ≤ 8) (h : Q (some (vi (g 30 (81 * t + 9 * i + j)))) (Mw g)) : Cg G d 140 [vr 15, vi t, vi i, vi j] (Mw g) Q := by
  have e1 : wr (t * 81) = 81 * t := by rw [wr_of (by omega) (by omega)]; omega
  have e2 : wr (i * 9) = 9 * i := by rw [wr_of (by omega) (by omega)]; omega
  have e3 : wr (81 * t + 9 * i) = 81 * t + 9 * i := wr_of (by omega) (by omega)
  have e4 : wr (81 * t + 9 * i + j) = 81 * t + 9 * i + j := wr_of (by omega) (by omega)
  refine C_t (a := [vr 15, vi t, vi i, vi j]) mo_140 rfl rfl (Nat.le_of_ble_eq_true rfl) ?_
  change Tg G _ (73, 42835) 140 0 [vr 15, vi t, vi i, vi j] [] (Mw _) _
  refine T_b ok_X5_cell_0 ?_
  simp only [vI_i, vJ_l, isI_i, isR_r, isR_c, aN_s, isA_s, okS_0, okS_s, isL_i, isL_l, isL_r, szV_i, szV_l, szV_r, szS_n, szS_c, pops_0, pops_s, icm_eq, icm_ne, icm_lt, icm_ge, icm_gt, icm_le, aG_s, oG_s, u_nil, v_aload0, u_astore0, u_astorec0, v_iload0, u_istore0, v_lload0, u_lstore0, v_aload1, u_astore1, u_astorec1, v_iload1, u_istore1, v_lload1, u_lstore1, v_aload2, u_astore2, u_astorec2, v_iload2, u_istore2, v_lload2, u_lstore2, v_aload3, u_astore3, u_astorec3, v_iload3, u_istore3, v_lload3, u_lstore3, v_aload, u_astore, v_iload, u_istore, v_lload, u_lstore, u_iconst, u_bipush, u_sipush, u_ldc, u_ldcs, u_ldc2, v_iinc, u_iadd, u_isub, u_imul, u_iand, u_idiv, u_irem, u_ineg, u_ladd, u_lmul, u_ldiv, u_lrem, u_lcmp, u_i2l, u_l2i, u_dup, u_dup2, u_pop, u_if, u_icmp, u_goto, u_switch, u_getf0, u_getf2, u_getf1, u_putf0, u_putf2, u_putf1, u_getst, v_iald, u_ialdc, v_iast, u_alen, u_newa, u_new, u_virt, u_spec, u_stat, w_iret, w_zret, u_lret, u_aret, u_vret, cV_s, cS_s, wc_v, wc_i, wc_s, vc_copy, uc_copyc, uc_min, uc_max, uc_abs, uc_char, uc_obj, gl_0, gl_s, sl_0, sl_s, wA, wR, wK, ceW_1, ceN_2, ceN_3, ceN_4, ceN_5, ceN_6, ceN_7, ceN_8, c_t, bu, QW_w, true_and, and_true, Bool.not_false, Option.toList_some, Option.toList_none, List.cons_append, List.nil_append, List.singleton_append, Int.cast_ofNat_Int, Int.natCast_zero, Int.natCast_one, true_implies, implies_true, not_true_eq_false, not_false_eq_true, ne_eq, eq_self, true_or, or_true, or_false, false_or, and_self, Int.reduceNeg, Int.reduceLE, Int.reduceLT, Int.reduceEq, Int.reduceAdd, Int.reduceSub, Int.reduceMul, Int.reduceNe, Nat.reduceAdd, Nat.reduceSub, Nat.reduceLeDiff, Nat.reduceLT, Nat.reduceEqDiff, Int.reduceToNat, Int.reduceNatCast, Int.reduceTDiv, Int.reduceTMod, false_implies, false_and, and_false, reduceIte, ite_true, ite_false, e1, e2, e3, e4]
  exact ⟨by omega, h⟩
theorem joint_loop {n a b i j : Int} {X Y : Int → Int → Int} (hX : TbL g n a X) (hY : TbL g n b Y) (cX : Cap X) (cY : Cap Y) (ha : 0 ≤ a ∧ a ≤ 81) (hb : 0 ≤ b ∧ b ≤ 81) (hi : 0 ≤ i) (hij : i ≤ j) (hj : j ≤ n) (hn : n ≤ 8) (h : Q (some (vi (two X Y i j))) (Mw g)) :
    ∀ (m k : Nat) (v9 : Vx), (i + k + m = j + 1) → Tg G d (73, 42835) 148 27 [vr 15, vi a, vi b, vi i, vi j, vi (81 * a + 9 * i), vi (81 * b + j), vi (mn (fun x => X i x + Y x j) i k), vi (i + k), v9] [] (Mw g) (QW Q) := by
  intro m
  induction m with
  | zero =>
    intro k v9 hk
    have hk' : k = (j + 1 - i).toNat := by omega
    refine T_b ok_X5_joint_27 ?_
    simp only [vI_i, vJ_l, isI_i, isR_r, isR_c, aN_s, isA_s, okS_0, okS_s, isL_i, isL_l, isL_r, szV_i, szV_l, szV_r, szS_n, szS_c, pops_0, pops_s, icm_eq, icm_ne, icm_lt, icm_ge, icm_gt, icm_le, aG_s, oG_s, u_nil, v_aload0, u_astore0, u_astorec0, v_iload0, u_istore0, v_lload0, u_lstore0, v_aload1, u_astore1, u_astorec1, v_iload1, u_istore1, v_lload1, u_lstore1, v_aload2, u_astore2, u_astorec2, v_iload2, u_istore2, v_lload2, u_lstore2, v_aload3, u_astore3, u_astorec3, v_iload3, u_istore3, v_lload3, u_lstore3, v_aload, u_astore, v_iload, u_istore, v_lload, u_lstore, u_iconst, u_bipush, u_sipush, u_ldc, u_ldcs, u_ldc2, v_iinc, u_iadd, u_isub, u_imul, u_iand, u_idiv, u_irem, u_ineg, u_ladd, u_lmul, u_ldiv, u_lrem, u_lcmp, u_i2l, u_l2i, u_dup, u_dup2, u_pop, u_if, u_icmp, u_goto, u_switch, u_getf0, u_getf2, u_getf1, u_putf0, u_putf2, u_putf1, u_getst, v_iald, u_ialdc, v_iast, u_alen, u_newa, u_new, u_virt, u_spec, u_stat, w_iret, w_zret, u_lret, u_aret, u_vret, cV_s, cS_s, wc_v, wc_i, wc_s, vc_copy, uc_copyc, uc_min, uc_max, uc_abs, uc_char, uc_obj, gl_0, gl_s, sl_0, sl_s, wA, wR, wK, ceW_1, ceN_2, ceN_3, ceN_4, ceN_5, ceN_6, ceN_7, ceN_8, c_t, bu, QW_w, true_and, and_true, Bool.not_false, Option.toList_some, Option.toList_none, List.cons_append, List.nil_append, List.singleton_append, Int.cast_ofNat_Int, Int.natCast_zero, Int.natCast_one, true_implies, implies_true, not_true_eq_false, not_false_eq_true, ne_eq, eq_self, true_or, or_true, or_false, false_or, and_self, Int.reduceNeg, Int.reduceLE, Int.reduceLT, Int.reduceEq, Int.reduceAdd, Int.reduceSub, Int.reduceMul, Int.reduceNe, Nat.reduceAdd, Nat.reduceSub, Nat.reduceLeDiff, Nat.reduceLT, Nat.reduceEqDiff, Int.reduceToNat, Int.reduceNatCast, Int.reduceTDiv, Int.reduceTMod, false_implies, false_and, and_false, reduceIte, ite_true, ite_false]
    refine ⟨fun _ => ?_, fun z => absurd z (by omega)⟩
    refine T_b ok_X5_joint_77 ?_
    simp only [vI_i, vJ_l, isI_i, isR_r, isR_c, aN_s, isA_s, okS_0, okS_s, isL_i, isL_l, isL_r, szV_i, szV_l, szV_r, szS_n, szS_c, pops_0, pops_s, icm_eq, icm_ne, icm_lt, icm_ge, icm_gt, icm_le, aG_s, oG_s, u_nil, v_aload0, u_astore0, u_astorec0, v_iload0, u_istore0, v_lload0, u_lstore0, v_aload1, u_astore1, u_astorec1, v_iload1, u_istore1, v_lload1, u_lstore1, v_aload2, u_astore2, u_astorec2, v_iload2, u_istore2, v_lload2, u_lstore2, v_aload3, u_astore3, u_astorec3, v_iload3, u_istore3, v_lload3, u_lstore3, v_aload, u_astore, v_iload, u_istore, v_lload, u_lstore, u_iconst, u_bipush, u_sipush, u_ldc, u_ldcs, u_ldc2, v_iinc, u_iadd, u_isub, u_imul, u_iand, u_idiv, u_irem, u_ineg, u_ladd, u_lmul, u_ldiv, u_lrem, u_lcmp, u_i2l, u_l2i, u_dup, u_dup2, u_pop, u_if, u_icmp, u_goto, u_switch, u_getf0, u_getf2, u_getf1, u_putf0, u_putf2, u_putf1, u_getst, v_iald, u_ialdc, v_iast, u_alen, u_newa, u_new, u_virt, u_spec, u_stat, w_iret, w_zret, u_lret, u_aret, u_vret, cV_s, cS_s, wc_v, wc_i, wc_s, vc_copy, uc_copyc, uc_min, uc_max, uc_abs, uc_char, uc_obj, gl_0, gl_s, sl_0, sl_s, wA, wR, wK, ceW_1, ceN_2, ceN_3, ceN_4, ceN_5, ceN_6, ceN_7, ceN_8, c_t, bu, QW_w, true_and, and_true, Bool.not_false, Option.toList_some, Option.toList_none, List.cons_append, List.nil_append, List.singleton_append, Int.cast_ofNat_Int, Int.natCast_zero, Int.natCast_one, true_implies, implies_true, not_true_eq_false, not_false_eq_true, ne_eq, eq_self, true_or, or_true, or_false, false_or, and_self, Int.reduceNeg, Int.reduceLE, Int.reduceLT, Int.reduceEq, Int.reduceAdd, Int.reduceSub, Int.reduceMul, Int.reduceNe, Nat.reduceAdd, Nat.reduceSub, Nat.reduceLeDiff, Nat.reduceLT, Nat.reduceEqDiff, Int.reduceToNat, Int.reduceNatCast, Int.reduceTDiv, Int.reduceTMod, false_implies, false_and, and_false, reduceIte, ite_true, ite_false]
    rw [hk']
    exact h
  | succ m ih =>
    intro k v9 hk
    have e1 : wr (81 * a + 9 * i + (i + k)) = 81 * a + 9 * i + (i + k) := wr_of (by omega) (by omega)
    have e2 : wr ((i + k) * 9) = 9 * (i + k) := by rw [wr_of (by omega) (by omega)]; omega
    have e3 : wr (81 * b + j + 9 * (i + k)) = 81 * b + 9 * (i + k) + j := by rw [wr_of (by omega) (by omega)]; omega
    have x1 := hX i (i + k) hi (by omega) (by omega)
    have x2 := hY (i + k) j (by omega) (by omega) hj
    have c1 := cX i (i + k) (by omega)
    have c2 := cY (i + k) j (by omega)
    have hf := fa_def
    have e4 : wr (X i (i + k) + Y (i + k) j) = X i (i + k) + Y (i + k) j := wr_of (by omega) (by omega)
    have e5 : wr (i + k + 1) = i + ((k + 1 : Nat) : Int) := by rw [wr_of (by omega) (by omega)]; omega
    have hs := mn_s (f := fun x => X i x + Y x j) (i := i) (n := k)
    refine T_b ok_X5_joint_27 ?_
    simp only [vI_i, vJ_l, isI_i, isR_r, isR_c, aN_s, isA_s, okS_0, okS_s, isL_i, isL_l, isL_r, szV_i, szV_l, szV_r, szS_n, szS_c, pops_0, pops_s, icm_eq, icm_ne, icm_lt, icm_ge, icm_gt, icm_le, aG_s, oG_s, u_nil, v_aload0, u_astore0, u_astorec0, v_iload0, u_istore0, v_lload0, u_lstore0, v_aload1, u_astore1, u_astorec1, v_iload1, u_istore1, v_lload1, u_lstore1, v_aload2, u_astore2, u_astorec2, v_iload2, u_istore2, v_lload2, u_lstore2, v_aload3, u_astore3, u_astorec3, v_iload3, u_istore3, v_lload3, u_lstore3, v_aload, u_astore, v_iload, u_istore, v_lload, u_lstore, u_iconst, u_bipush, u_sipush, u_ldc, u_ldcs, u_ldc2, v_iinc, u_iadd, u_isub, u_imul, u_iand, u_idiv, u_irem, u_ineg, u_ladd, u_lmul, u_ldiv, u_lrem, u_lcmp, u_i2l, u_l2i, u_dup, u_dup2, u_pop, u_if, u_icmp, u_goto, u_switch, u_getf0, u_getf2, u_getf1, u_putf0, u_putf2, u_putf1, u_getst, v_iald, u_ialdc, v_iast, u_alen, u_newa, u_new, u_virt, u_spec, u_stat, w_iret, w_zret, u_lret, u_aret, u_vret, cV_s, cS_s, wc_v, wc_i, wc_s, vc_copy, uc_copyc, uc_min, uc_max, uc_abs, uc_char, uc_obj, gl_0, gl_s, sl_0, sl_s, wA, wR, wK, ceW_1, ceN_2, ceN_3, ceN_4, ceN_5, ceN_6, ceN_7, ceN_8, c_t, bu, QW_w, true_and, and_true, Bool.not_false, Option.toList_some, Option.toList_none, List.cons_append, List.nil_append, List.singleton_append, Int.cast_ofNat_Int, Int.natCast_zero, Int.natCast_one, true_implies, implies_true, not_true_eq_false, not_false_eq_true, ne_eq, eq_self, true_or, or_true, or_false, false_or, and_self, Int.reduceNeg, Int.reduceLE, Int.reduceLT, Int.reduceEq, Int.reduceAdd, Int.reduceSub, Int.reduceMul, Int.reduceNe, Nat.reduceAdd, Nat.reduceSub, Nat.reduceLeDiff, Nat.reduceLT, Nat.reduceEqDiff, Int.reduceToNat, Int.reduceNatCast, Int.reduceTDiv, Int.reduceTMod, false_implies, false_and, and_false, reduceIte, ite_true, ite_false, e1, e2, e3, x1, x2, e4]
    refine ⟨fun z => absurd z (by omega), fun _ => ⟨by omega, by omega, fun z => ?_, fun z => ?_⟩⟩
    · refine T_b ok_X5_joint_71 ?_
      simp only [vI_i, vJ_l, isI_i, isR_r, isR_c, aN_s, isA_s, okS_0, okS_s, isL_i, isL_l, isL_r, szV_i, szV_l, szV_r, szS_n, szS_c, pops_0, pops_s, icm_eq, icm_ne, icm_lt, icm_ge, icm_gt, icm_le, aG_s, oG_s, u_nil, v_aload0, u_astore0, u_astorec0, v_iload0, u_istore0, v_lload0, u_lstore0, v_aload1, u_astore1, u_astorec1, v_iload1, u_istore1, v_lload1, u_lstore1, v_aload2, u_astore2, u_astorec2, v_iload2, u_istore2, v_lload2, u_lstore2, v_aload3, u_astore3, u_astorec3, v_iload3, u_istore3, v_lload3, u_lstore3, v_aload, u_astore, v_iload, u_istore, v_lload, u_lstore, u_iconst, u_bipush, u_sipush, u_ldc, u_ldcs, u_ldc2, v_iinc, u_iadd, u_isub, u_imul, u_iand, u_idiv, u_irem, u_ineg, u_ladd, u_lmul, u_ldiv, u_lrem, u_lcmp, u_i2l, u_l2i, u_dup, u_dup2, u_pop, u_if, u_icmp, u_goto, u_switch, u_getf0, u_getf2, u_getf1, u_putf0, u_putf2, u_putf1, u_getst, v_iald, u_ialdc, v_iast, u_alen, u_newa, u_new, u_virt, u_spec, u_stat, w_iret, w_zret, u_lret, u_aret, u_vret, cV_s, cS_s, wc_v, wc_i, wc_s, vc_copy, uc_copyc, uc_min, uc_max, uc_abs, uc_char, uc_obj, gl_0, gl_s, sl_0, sl_s, wA, wR, wK, ceW_1, ceN_2, ceN_3, ceN_4, ceN_5, ceN_6, ceN_7, ceN_8, c_t, bu, QW_w, true_and, and_true, Bool.not_false, Option.toList_some, Option.toList_none, List.cons_append, List.nil_append, List.singleton_append, Int.cast_ofNat_Int, Int.natCast_zero, Int.natCast_one, true_implies, implies_true, not_true_eq_false, not_false_eq_true, ne_eq, eq_self, true_or, or_true, or_false, false_or, and_self, Int.reduceNeg, Int.reduceLE, Int.reduceLT, Int.reduceEq, Int.reduceAdd, Int.reduceSub, Int.reduceMul, Int.reduceNe, Nat.reduceAdd, Nat.reduceSub, Nat.reduceLeDiff, Nat.reduceLT, Nat.reduceEqDiff, Int.reduceToNat, Int.reduceNatCast, Int.reduceTDiv, Int.reduceTMod, false_implies, false_and, and_false, reduceIte, ite_true, ite_false, e5]
      rw [show mn (fun x => X i x + Y x j) i k = mn (fun x => X i x + Y x j) i (k + 1) by rw [hs]; omega]
      exact ih (k + 1) _ (by omega)
    · refine T_b ok_X5_joint_71 ?_
      simp only [vI_i, vJ_l, isI_i, isR_r, isR_c, aN_s, isA_s, okS_0, okS_s, isL_i, isL_l, isL_r, szV_i, szV_l, szV_r, szS_n, szS_c, pops_0, pops_s, icm_eq, icm_ne, icm_lt, icm_ge, icm_gt, icm_le, aG_s, oG_s, u_nil, v_aload0, u_astore0, u_astorec0, v_iload0, u_istore0, v_lload0, u_lstore0, v_aload1, u_astore1, u_astorec1, v_iload1, u_istore1, v_lload1, u_lstore1, v_aload2, u_astore2, u_astorec2, v_iload2, u_istore2, v_lload2, u_lstore2, v_aload3, u_astore3, u_astorec3, v_iload3, u_istore3, v_lload3, u_lstore3, v_aload, u_astore, v_iload, u_istore, v_lload, u_lstore, u_iconst, u_bipush, u_sipush, u_ldc, u_ldcs, u_ldc2, v_iinc, u_iadd, u_isub, u_imul, u_iand, u_idiv, u_irem, u_ineg, u_ladd, u_lmul, u_ldiv, u_lrem, u_lcmp, u_i2l, u_l2i, u_dup, u_dup2, u_pop, u_if, u_icmp, u_goto, u_switch, u_getf0, u_getf2, u_getf1, u_putf0, u_putf2, u_putf1, u_getst, v_iald, u_ialdc, v_iast, u_alen, u_newa, u_new, u_virt, u_spec, u_stat, w_iret, w_zret, u_lret, u_aret, u_vret, cV_s, cS_s, wc_v, wc_i, wc_s, vc_copy, uc_copyc, uc_min, uc_max, uc_abs, uc_char, uc_obj, gl_0, gl_s, sl_0, sl_s, wA, wR, wK, ceW_1, ceN_2, ceN_3, ceN_4, ceN_5, ceN_6, ceN_7, ceN_8, c_t, bu, QW_w, true_and, and_true, Bool.not_false, Option.toList_some, Option.toList_none, List.cons_append, List.nil_append, List.singleton_append, Int.cast_ofNat_Int, Int.natCast_zero, Int.natCast_one, true_implies, implies_true, not_true_eq_false, not_false_eq_true, ne_eq, eq_self, true_or, or_true, or_false, false_or, and_self, Int.reduceNeg, Int.reduceLE, Int.reduceLT, Int.reduceEq, Int.reduceAdd, Int.reduceSub, Int.reduceMul, Int.reduceNe, Nat.reduceAdd, Nat.reduceSub, Nat.reduceLeDiff, Nat.reduceLT, Nat.reduceEqDiff, Int.reduceToNat, Int.reduceNatCast, Int.reduceTDiv, Int.reduceTMod, false_implies, false_and, and_false, reduceIte, ite_true, ite_false, e5]
      rw [show X i (i + k) + Y (i + k) j = mn (fun x => X i x + Y x j) i (k + 1) by rw [hs]; omega]
      exact ih (k + 1) _ (by omega)
theorem q_joint {n a b i j : Int} {X Y : Int → Int → Int} (hX : TbL g n a X) (hY : TbL g n b Y) (cX : Cap X) (cY : Cap Y) (ha : 0 ≤ a ∧ a ≤ 81) (hb : 0 ≤ b ∧ b ≤ 81) (hi : 0 ≤ i) (hij : i ≤ j) (hj : j ≤ n) (hn : n ≤ 8) (h : Q (some (vi (two X Y i j))) (Mw g)) :
    Cg G d 148 [vr 15, vi a, vi b, vi i, vi j] (Mw g) Q := by
  have e1 : wr (a * 81) = 81 * a := by rw [wr_of (by omega) (by omega)]; omega
  have e2 : wr (i * 9) = 9 * i := by rw [wr_of (by omega) (by omega)]; omega
  have e3 : wr (81 * a + 9 * i) = 81 * a + 9 * i := wr_of (by omega) (by omega)
  have e4 : wr (b * 81) = 81 * b := by rw [wr_of (by omega) (by omega)]; omega
  have e5 : wr (81 * b + j) = 81 * b + j := wr_of (by omega) (by omega)
  refine C_t (a := [vr 15, vi a, vi b, vi i, vi j]) mo_148 rfl rfl (Nat.le_of_ble_eq_true rfl) ?_
  change Tg G _ (73, 42835) 148 0 [vr 15, vi a, vi b, vi i, vi j, vc 0, vc 0, vc 0, vc 0, vc 0] [] (Mw _) _
  refine T_b ok_X5_joint_0 ?_
  simp only [vI_i, vJ_l, isI_i, isR_r, isR_c, aN_s, isA_s, okS_0, okS_s, isL_i, isL_l, isL_r, szV_i, szV_l, szV_r, szS_n, szS_c, pops_0, pops_s, icm_eq, icm_ne, icm_lt, icm_ge, icm_gt, icm_le, aG_s, oG_s, u_nil, v_aload0, u_astore0, u_astorec0, v_iload0, u_istore0, v_lload0, u_lstore0, v_aload1, u_astore1, u_astorec1, v_iload1, u_istore1, v_lload1, u_lstore1, v_aload2, u_astore2, u_astorec2, v_iload2, u_istore2, v_lload2, u_lstore2, v_aload3, u_astore3, u_astorec3, v_iload3, u_istore3, v_lload3, u_lstore3, v_aload, u_astore, v_iload, u_istore, v_lload, u_lstore, u_iconst, u_bipush, u_sipush, u_ldc, u_ldcs, u_ldc2, v_iinc, u_iadd, u_isub, u_imul, u_iand, u_idiv, u_irem, u_ineg, u_ladd, u_lmul, u_ldiv, u_lrem, u_lcmp, u_i2l, u_l2i, u_dup, u_dup2, u_pop, u_if, u_icmp, u_goto, u_switch, u_getf0, u_getf2, u_getf1, u_putf0, u_putf2, u_putf1, u_getst, v_iald, u_ialdc, v_iast, u_alen, u_newa, u_new, u_virt, u_spec, u_stat, w_iret, w_zret, u_lret, u_aret, u_vret, cV_s, cS_s, wc_v, wc_i, wc_s, vc_copy, uc_copyc, uc_min, uc_max, uc_abs, uc_char, uc_obj, gl_0, gl_s, sl_0, sl_s, wA, wR, wK, ceW_1, ceN_2, ceN_3, ceN_4, ceN_5, ceN_6, ceN_7, ceN_8, c_t, bu, QW_w, true_and, and_true, Bool.not_false, Option.toList_some, Option.toList_none, List.cons_append, List.nil_append, List.singleton_append, Int.cast_ofNat_Int, Int.natCast_zero, Int.natCast_one, true_implies, implies_true, not_true_eq_false, not_false_eq_true, ne_eq, eq_self, true_or, or_true, or_false, false_or, and_self, Int.reduceNeg, Int.reduceLE, Int.reduceLT, Int.reduceEq, Int.reduceAdd, Int.reduceSub, Int.reduceMul, Int.reduceNe, Nat.reduceAdd, Nat.reduceSub, Nat.reduceLeDiff, Nat.reduceLT, Nat.reduceEqDiff, Int.reduceToNat, Int.reduceNatCast, Int.reduceTDiv, Int.reduceTMod, false_implies, false_and, and_false, reduceIte, ite_true, ite_false, e1, e2, e3, e4, e5]
  have z := joint_loop (G := G) (d := d) hX hY cX cY ha hb hi hij hj hn h (j + 1 - i).toNat 0 (vc 0) (by omega)
  have e6 : mn (fun x => X i x + Y x j) i 0 = 100000000 := fa_def
  have e7 : i + ((0 : Nat) : Int) = i := by omega
  rw [e6, e7] at z
  exact z
theorem q_errorOf {t b T a : Int} (ht : 0 ≤ t ∧ t ≤ 1999) (hb : 0 ≤ b ∧ b ≤ 1200) (hT : 0 ≤ T ∧ T ≤ 500) (ha : 0 ≤ a ∧ a ≤ 216) (h : Q (some (vi (er0 t b T a))) (Mw g)) : Cg G d 34 [vi t, vi b, vi T, vi a] (Mw g) Q := by
  have l1 : 0 ≤ T * a := Int.mul_nonneg hT.1 ha.1
  have l2 : T * a ≤ 500 * 216 := Int.mul_le_mul hT.2 ha.2 ha.1 (by omega)
  have e1 : wr (t - b) = t - b := wr_of (by omega) (by omega)
  have e2 : wr (216 * (t - b)) = 216 * (t - b) := wr_of (by omega) (by omega)
  have e3 : wr (T * a) = T * a := wr_of (by omega) (by omega)
  have e4 : wr (216 * (t - b) - T * a) = 216 * (t - b) - T * a := wr_of (by omega) (by omega)
  have e5 : iab (216 * (t - b) - T * a) = er0 t b T a := by
    unfold iab er0
    split
    · rfl
    · rw [wr_of (by omega) (by omega)]; omega
  refine C_t (a := [vi t, vi b, vi T, vi a]) mo_34 rfl rfl (Nat.le_of_ble_eq_true rfl) ?_
  change Tg G _ (73, 42835) 34 0 [vi t, vi b, vi T, vi a] [] (Mw _) _
  refine T_b ok_X8_errorOf_0 ?_
  simp only [vI_i, vJ_l, isI_i, isR_r, isR_c, aN_s, isA_s, okS_0, okS_s, isL_i, isL_l, isL_r, szV_i, szV_l, szV_r, szS_n, szS_c, pops_0, pops_s, icm_eq, icm_ne, icm_lt, icm_ge, icm_gt, icm_le, aG_s, oG_s, u_nil, v_aload0, u_astore0, u_astorec0, v_iload0, u_istore0, v_lload0, u_lstore0, v_aload1, u_astore1, u_astorec1, v_iload1, u_istore1, v_lload1, u_lstore1, v_aload2, u_astore2, u_astorec2, v_iload2, u_istore2, v_lload2, u_lstore2, v_aload3, u_astore3, u_astorec3, v_iload3, u_istore3, v_lload3, u_lstore3, v_aload, u_astore, v_iload, u_istore, v_lload, u_lstore, u_iconst, u_bipush, u_sipush, u_ldc, u_ldcs, u_ldc2, v_iinc, u_iadd, u_isub, u_imul, u_iand, u_idiv, u_irem, u_ineg, u_ladd, u_lmul, u_ldiv, u_lrem, u_lcmp, u_i2l, u_l2i, u_dup, u_dup2, u_pop, u_if, u_icmp, u_goto, u_switch, u_getf0, u_getf2, u_getf1, u_putf0, u_putf2, u_putf1, u_getst, v_iald, u_ialdc, v_iast, u_alen, u_newa, u_new, u_virt, u_spec, u_stat, w_iret, w_zret, u_lret, u_aret, u_vret, cV_s, cS_s, wc_v, wc_i, wc_s, vc_copy, uc_copyc, uc_min, uc_max, uc_abs, uc_char, uc_obj, gl_0, gl_s, sl_0, sl_s, wA, wR, wK, ceW_1, ceN_2, ceN_3, ceN_4, ceN_5, ceN_6, ceN_7, ceN_8, c_t, bu, QW_w, true_and, and_true, Bool.not_false, Option.toList_some, Option.toList_none, List.cons_append, List.nil_append, List.singleton_append, Int.cast_ofNat_Int, Int.natCast_zero, Int.natCast_one, true_implies, implies_true, not_true_eq_false, not_false_eq_true, ne_eq, eq_self, true_or, or_true, or_false, false_or, and_self, Int.reduceNeg, Int.reduceLE, Int.reduceLT, Int.reduceEq, Int.reduceAdd, Int.reduceSub, Int.reduceMul, Int.reduceNe, Nat.reduceAdd, Nat.reduceSub, Nat.reduceLeDiff, Nat.reduceLT, Nat.reduceEqDiff, Int.reduceToNat, Int.reduceNatCast, Int.reduceTDiv, Int.reduceTMod, false_implies, false_and, and_false, reduceIte, ite_true, ite_false, e1, e2, e3, e4, e5]
  exact h
theorem er0_le {t b T a : Int} (ht : 0 ≤ t ∧ t ≤ 1999) (hb : 0 ≤ b ∧ b ≤ 1200) (hT : 0 ≤ T ∧ T ≤ 500) (ha : 0 ≤ a ∧ a ≤ 216) : er0 t b T a ≤ 600000 := by
  have l1 : 0 ≤ T * a := Int.mul_nonneg hT.1 ha.1
  have l2 : T * a ≤ 500 * 216 := Int.mul_le_mul hT.2 ha.2 ha.1 (by omega)
  unfold er0
  split <;> omega
theorem lsm_le {er gp : Int → Int} {i : Int} : ∀ {n : Nat}, (∀ k, i ≤ k → k < i + n → er k ≤ fa) → (∀ k, i < k → k < i + n → gp k ≤ 21384) → lsm er gp i n ≤ 100021384 * n
  | 0, _, _ => by show (0 : Int) ≤ _; omega
  | n + 1, he, hg => by
    have h1 := lsm_le (n := n) (fun k a b => he k a (by omega)) (fun k a b => hg k a (by omega))
    have h2 := he (i + n) (by omega) (by omega)
    have h4 := fa_def
    show lsm er gp i n + er (i + n) + (if n = 0 then 0 else gp (i + n)) ≤ _
    by_cases e : n = 0
    · rw [if_pos e]; omega
    · rw [if_neg e]
      have h3 := hg (i + n) (by omega) (by omega)
      omega
end CLTAB
