/-! THE CLASS: a text is played -/
noncomputable def plT (L : Int) (P : Ps) (k : Int) : Int := bO P k * L + L * pO P k / 216
noncomputable def plF (f : Int → Int) (L : Int) (P : Ps) : Nat → Int → Int
  | 0 => f
  | k + 1 => insT (plF f L P k) (plT L P k) (insP (plF f L P k) (plT L P k) k)
noncomputable def aPlays (A : Ab) : Ab × Int := match rdA A.2.2.2.2 A.2.2.2.1 with
  | .inr e => (A, -10 - (e : Int))
  | .inl P => (aS A (nz P, plF A.1.2.1 (A.1.2.2 1) P (nz P), fun i => if i = 0 then (bz P : Int) else A.1.2.2 i), (nz P : Int))
section CLPLAY
variable {G : Gx} {d : Nat} {g : Nat → Int → Int} {Q : Qx} {A : Ab} {P : Ps}
theorem plF_s {f : Int → Int} {L : Int} {k : Nat} : plF f L P (k + 1) = insT (plF f L P k) (plT L P k) (insP (plF f L P k) (plT L P k) k) := rfl
theorem plF_cg {f h : Int → Int} {L : Int} : ∀ k : Nat, ∀ i : Int, 0 ≤ i → i < k → plF f L P k i = plF h L P k i
  | 0, i, a, b => absurd b (by omega)
  | k + 1, i, a, b => by
    have H := plF_cg (f := f) (h := h) (L := L) k
    show insT _ _ (insP _ _ k) i = insT _ _ (insP _ _ k) i
    rw [insP_cg H]
    exact insT_cg (insP_le _ _ _) H i a (by omega)
theorem play_loop {L : Int} (hL : 48 ≤ L ∧ L ≤ 432) (hP : PsOK P)
    (hQ : ∀ g' : Nat → Int → Int, (∀ q i, q ≠ 2 → ¬ (q = 1 ∧ i = 2) → g' q i = g q i) → g' 1 2 = nz P → (∀ i : Int, 0 ≤ i → i < nz P → g' 2 i = plF (g 2) L P (nz P) i) → Q none (Mw g')) (hC : g 6 5 = nz P ∧ ∀ i : Int, 0 ≤ i → i < nz P → g 8 i = bO P i ∧ g 9 i = pO P i) :
    ∀ (m k : Nat) (h : Nat → Int → Int), k + m = nz P → (∀ q i, q ≠ 2 → ¬ (q = 1 ∧ i = 2) → h q i = g q i) → h 1 2 = k → (∀ i : Int, 0 ≤ i → i < k → h 2 i = plF (g 2) L P k i) →
      Tg G (d + 1) (73, 42835) 106 24 [vr 1, vr 6, vi L, vi k] [] (Mw h) (QW Q) := by
  intro m
  induction m with
  | zero =>
    intro k h hk h1 h2 h3
    have e1 : h 6 5 = nz P := (h1 6 5 (by decide) (by omega)).trans hC.1
    have ek : k = nz P := by omega
    refine T_b ok_X1_play_24 ?_
    simp only [gI_i, gJ_l, gR_r, gR_c, okS_0, okS_s, isL_i, isL_l, isL_r, szV_i, szV_l, szV_r, szS_n, szS_c, pops_0, pops_s, icm_eq, icm_ne, icm_lt, icm_ge, icm_gt, icm_le, aG_s, oG_s, w_nil, w_aload0, w_astore0, w_astorec0, w_iload0, w_istore0, w_lload0, w_lstore0, w_aload1, w_astore1, w_astorec1, w_iload1, w_istore1, w_lload1, w_lstore1, w_aload2, w_astore2, w_astorec2, w_iload2, w_istore2, w_lload2, w_lstore2, w_aload3, w_astore3, w_astorec3, w_iload3, w_istore3, w_lload3, w_lstore3, w_aload, w_astore, w_iload, w_istore, w_lload, w_lstore, w_iconst, w_bipush, w_sipush, w_ldc, w_ldcs, w_ldc2, w_iinc, w_iadd, w_isub, w_imul, w_iand, w_idiv, w_irem, w_ineg, w_ladd, w_lmul, w_ldiv, w_lrem, w_lcmp, w_i2l, w_l2i, w_dup, w_dup2, w_pop, w_if, w_icmp, w_goto, w_switch, w_getf0, w_getf2, w_getf1, w_putf0, w_putf2, w_putf1, w_getst, w_iald, w_ialdc, w_iast, w_alen, w_newa, w_new, w_virt, w_spec, w_stat, w_iret, w_zret, w_lret, w_aret, w_vret, cV_s, cS_s, wc_v, wc_i, wc_s, wc_copy, wc_copyc, wc_min, wc_max, wc_abs, wc_char, wc_obj, gl_0, gl_s, sl_0, sl_s, wA, wR, wK, ceW_1, ceN_2, ceN_3, ceN_4, ceN_5, ceN_6, ceN_7, ceN_8, c_t, bu, QW_w, true_and, and_true, Bool.not_false, Option.toList_some, Option.toList_none, List.cons_append, List.nil_append, List.singleton_append, Int.cast_ofNat_Int, Int.natCast_zero, Int.natCast_one, true_implies, implies_true, not_true_eq_false, not_false_eq_true, ne_eq, eq_self, true_or, or_true, or_false, false_or, and_self, Int.reduceNeg, Int.reduceLE, Int.reduceLT, Int.reduceEq, Int.reduceAdd, Int.reduceSub, Int.reduceMul, Int.reduceNe, Nat.reduceAdd, Nat.reduceSub, Nat.reduceLeDiff, Nat.reduceLT, Nat.reduceEqDiff, Int.reduceToNat, Int.reduceNatCast, Int.reduceTDiv, Int.reduceTMod, false_implies, false_and, and_false, reduceIte, ite_true, ite_false, e1]
    refine ⟨fun _ => ?_, fun hc => absurd hc (by omega)⟩
    refine T_b ok_X1_play_70 ?_
    simp only [gI_i, gJ_l, gR_r, gR_c, okS_0, okS_s, isL_i, isL_l, isL_r, szV_i, szV_l, szV_r, szS_n, szS_c, pops_0, pops_s, icm_eq, icm_ne, icm_lt, icm_ge, icm_gt, icm_le, aG_s, oG_s, w_nil, w_aload0, w_astore0, w_astorec0, w_iload0, w_istore0, w_lload0, w_lstore0, w_aload1, w_astore1, w_astorec1, w_iload1, w_istore1, w_lload1, w_lstore1, w_aload2, w_astore2, w_astorec2, w_iload2, w_istore2, w_lload2, w_lstore2, w_aload3, w_astore3, w_astorec3, w_iload3, w_istore3, w_lload3, w_lstore3, w_aload, w_astore, w_iload, w_istore, w_lload, w_lstore, w_iconst, w_bipush, w_sipush, w_ldc, w_ldcs, w_ldc2, w_iinc, w_iadd, w_isub, w_imul, w_iand, w_idiv, w_irem, w_ineg, w_ladd, w_lmul, w_ldiv, w_lrem, w_lcmp, w_i2l, w_l2i, w_dup, w_dup2, w_pop, w_if, w_icmp, w_goto, w_switch, w_getf0, w_getf2, w_getf1, w_putf0, w_putf2, w_putf1, w_getst, w_iald, w_ialdc, w_iast, w_alen, w_newa, w_new, w_virt, w_spec, w_stat, w_iret, w_zret, w_lret, w_aret, w_vret, cV_s, cS_s, wc_v, wc_i, wc_s, wc_copy, wc_copyc, wc_min, wc_max, wc_abs, wc_char, wc_obj, gl_0, gl_s, sl_0, sl_s, wA, wR, wK, ceW_1, ceN_2, ceN_3, ceN_4, ceN_5, ceN_6, ceN_7, ceN_8, c_t, bu, QW_w, true_and, and_true, Bool.not_false, Option.toList_some, Option.toList_none, List.cons_append, List.nil_append, List.singleton_append, Int.cast_ofNat_Int, Int.natCast_zero, Int.natCast_one, true_implies, implies_true, not_true_eq_false, not_false_eq_true, ne_eq, eq_self, true_or, or_true, or_false, false_or, and_self, Int.reduceNeg, Int.reduceLE, Int.reduceLT, Int.reduceEq, Int.reduceAdd, Int.reduceSub, Int.reduceMul, Int.reduceNe, Nat.reduceAdd, Nat.reduceSub, Nat.reduceLeDiff, Nat.reduceLT, Nat.reduceEqDiff, Int.reduceToNat, Int.reduceNatCast, Int.reduceTDiv, Int.reduceTMod, false_implies, false_and, and_false, reduceIte, ite_true, ite_false]
    rw [ek] at h2 h3
    exact hQ h h1 h2 h3
  | succ m ih =>
    intro k h hk h1 h2 h3
    have hn8 := hP.2.1
    have e1 : h 6 5 = nz P := (h1 6 5 (by decide) (by omega)).trans hC.1
    have hb := hC.2 k (by omega) (by omega)
    have e8 : h 8 k = bO P k := (h1 8 k (by decide) (by omega)).trans hb.1
    have e9 : h 9 k = pO P k := (h1 9 k (by decide) (by omega)).trans hb.2
    have hp := hP.2.2.2.2.2 k (by omega) (by omega)
    have hkb : 0 ≤ (k : Int) ∧ (k : Int) < 8 := by omega
    have l1 : 0 ≤ bO P k * L := Int.mul_nonneg hp.1 (by omega)
    have l2 : bO P k * L ≤ 2 * 432 := Int.mul_le_mul hp.2.1 hL.2 (by omega) (by omega)
    have l3 : 0 ≤ L * pO P k := Int.mul_nonneg (by omega) hp.2.2.1
    have l4 : L * pO P k ≤ 432 * 215 := Int.mul_le_mul hL.2 (by omega) hp.2.2.1 (by omega)
    have t1 : wr (wr (bO P k * L) + wr ((wr (L * pO P k)).tdiv 216)) = plT L P k := by
      rw [wr_of (x := bO P k * L) (by omega) (by omega), wr_of (x := L * pO P k) (by omega) (by omega), Int.tdiv_eq_ediv_of_nonneg l3, wr_of (x := L * pO P k / 216) (by omega) (by omega), wr_of (by omega) (by omega)]
      rfl
    have e4 : wr ((k : Int) + 1) = ((k + 1 : Nat) : Int) := by rw [wr_of (by omega) (by omega)]; omega
    refine T_b ok_X1_play_24 ?_
    simp only [gI_i, gJ_l, gR_r, gR_c, okS_0, okS_s, isL_i, isL_l, isL_r, szV_i, szV_l, szV_r, szS_n, szS_c, pops_0, pops_s, icm_eq, icm_ne, icm_lt, icm_ge, icm_gt, icm_le, aG_s, oG_s, w_nil, w_aload0, w_astore0, w_astorec0, w_iload0, w_istore0, w_lload0, w_lstore0, w_aload1, w_astore1, w_astorec1, w_iload1, w_istore1, w_lload1, w_lstore1, w_aload2, w_astore2, w_astorec2, w_iload2, w_istore2, w_lload2, w_lstore2, w_aload3, w_astore3, w_astorec3, w_iload3, w_istore3, w_lload3, w_lstore3, w_aload, w_astore, w_iload, w_istore, w_lload, w_lstore, w_iconst, w_bipush, w_sipush, w_ldc, w_ldcs, w_ldc2, w_iinc, w_iadd, w_isub, w_imul, w_iand, w_idiv, w_irem, w_ineg, w_ladd, w_lmul, w_ldiv, w_lrem, w_lcmp, w_i2l, w_l2i, w_dup, w_dup2, w_pop, w_if, w_icmp, w_goto, w_switch, w_getf0, w_getf2, w_getf1, w_putf0, w_putf2, w_putf1, w_getst, w_iald, w_ialdc, w_iast, w_alen, w_newa, w_new, w_virt, w_spec, w_stat, w_iret, w_zret, w_lret, w_aret, w_vret, cV_s, cS_s, wc_v, wc_i, wc_s, wc_copy, wc_copyc, wc_min, wc_max, wc_abs, wc_char, wc_obj, gl_0, gl_s, sl_0, sl_s, wA, wR, wK, ceW_1, ceN_2, ceN_3, ceN_4, ceN_5, ceN_6, ceN_7, ceN_8, c_t, bu, QW_w, true_and, and_true, Bool.not_false, Option.toList_some, Option.toList_none, List.cons_append, List.nil_append, List.singleton_append, Int.cast_ofNat_Int, Int.natCast_zero, Int.natCast_one, true_implies, implies_true, not_true_eq_false, not_false_eq_true, ne_eq, eq_self, true_or, or_true, or_false, false_or, and_self, Int.reduceNeg, Int.reduceLE, Int.reduceLT, Int.reduceEq, Int.reduceAdd, Int.reduceSub, Int.reduceMul, Int.reduceNe, Nat.reduceAdd, Nat.reduceSub, Nat.reduceLeDiff, Nat.reduceLT, Nat.reduceEqDiff, Int.reduceToNat, Int.reduceNatCast, Int.reduceTDiv, Int.reduceTMod, false_implies, false_and, and_false, reduceIte, ite_true, ite_false, e1, e8, e9, t1]
    refine ⟨fun hc => absurd hc (by omega), fun _ => ⟨fun hc => absurd hc (by omega), fun _ => ⟨hkb, hkb, ?_⟩⟩⟩
    refine q_insert (g := h) (t := plT L P k) (n := k) (by omega) h2 (fun g2 a1 a2 a3 => ?_)
    simp only [gI_i, gJ_l, gR_r, gR_c, okS_0, okS_s, isL_i, isL_l, isL_r, szV_i, szV_l, szV_r, szS_n, szS_c, pops_0, pops_s, icm_eq, icm_ne, icm_lt, icm_ge, icm_gt, icm_le, aG_s, oG_s, w_nil, w_aload0, w_astore0, w_astorec0, w_iload0, w_istore0, w_lload0, w_lstore0, w_aload1, w_astore1, w_astorec1, w_iload1, w_istore1, w_lload1, w_lstore1, w_aload2, w_astore2, w_astorec2, w_iload2, w_istore2, w_lload2, w_lstore2, w_aload3, w_astore3, w_astorec3, w_iload3, w_istore3, w_lload3, w_lstore3, w_aload, w_astore, w_iload, w_istore, w_lload, w_lstore, w_iconst, w_bipush, w_sipush, w_ldc, w_ldcs, w_ldc2, w_iinc, w_iadd, w_isub, w_imul, w_iand, w_idiv, w_irem, w_ineg, w_ladd, w_lmul, w_ldiv, w_lrem, w_lcmp, w_i2l, w_l2i, w_dup, w_dup2, w_pop, w_if, w_icmp, w_goto, w_switch, w_getf0, w_getf2, w_getf1, w_putf0, w_putf2, w_putf1, w_getst, w_iald, w_ialdc, w_iast, w_alen, w_newa, w_new, w_virt, w_spec, w_stat, w_iret, w_zret, w_lret, w_aret, w_vret, cV_s, cS_s, wc_v, wc_i, wc_s, wc_copy, wc_copyc, wc_min, wc_max, wc_abs, wc_char, wc_obj, gl_0, gl_s, sl_0, sl_s, wA, wR, wK, ceW_1, ceN_2, ceN_3, ceN_4, ceN_5, ceN_6, ceN_7, ceN_8, c_t, bu, QW_w, true_and, and_true, Bool.not_false, Option.toList_some, Option.toList_none, List.cons_append, List.nil_append, List.singleton_append, Int.cast_ofNat_Int, Int.natCast_zero, Int.natCast_one, true_implies, implies_true, not_true_eq_false, not_false_eq_true, ne_eq, eq_self, true_or, or_true, or_false, false_or, and_self, Int.reduceNeg, Int.reduceLE, Int.reduceLT, Int.reduceEq, Int.reduceAdd, Int.reduceSub, Int.reduceMul, Int.reduceNe, Nat.reduceAdd, Nat.reduceSub, Nat.reduceLeDiff, Nat.reduceLT, Nat.reduceEqDiff, Int.reduceToNat, Int.reduceNatCast, Int.reduceTDiv, Int.reduceTMod, false_implies, false_and, and_false, reduceIte, ite_true, ite_false, e4]
    have hpc := insP_cg (t := plT L P k) h3
    refine ih (k + 1) g2 (by omega) (fun q i x y => (a1 q i x y).trans (h1 q i x y)) (by rw [a2]; exact (Int.natCast_add k 1).symm) (fun i x y => ?_)
    have y' : i ≤ k := by rw [Int.natCast_add] at y; exact Int.lt_add_one_iff.mp y
    rw [a3 i x y', hpc, plF_s]
    exact insT_cg (insP_le _ _ _) h3 i x y'
theorem q_play {L : Int} (hL : 48 ≤ L ∧ L ≤ 432) (hLe : g 3 1 = L) (hP : PsOK P) (hC : CR g P)
    (hQ : ∀ g' : Nat → Int → Int, (∀ q i, q ≠ 2 → ¬ (q = 1 ∧ i = 2) → ¬ (q = 3 ∧ i = 0) → g' q i = g q i) → g' 3 0 = bz P → g' 1 2 = nz P → (∀ i : Int, 0 ≤ i → i < nz P → g' 2 i = plF (g 2) L P (nz P) i) → Q none (Mw g')) :
    Cg G (d + 1) 106 [vr 1, vr 6] (Mw g) Q := by
  obtain ⟨c1, c2, c3, c4, c5⟩ := hC
  refine C_t (a := [vr 1, vr 6]) mo_106 rfl rfl (Nat.le_of_ble_eq_true rfl) ?_
  change Tg G _ (73, 42835) 106 0 [vr 1, vr 6, vc 0, vc 0] [] (Mw _) _
  refine T_b ok_X1_play_0 ?_
  simp only [gI_i, gJ_l, gR_r, gR_c, okS_0, okS_s, isL_i, isL_l, isL_r, szV_i, szV_l, szV_r, szS_n, szS_c, pops_0, pops_s, icm_eq, icm_ne, icm_lt, icm_ge, icm_gt, icm_le, aG_s, oG_s, w_nil, w_aload0, w_astore0, w_astorec0, w_iload0, w_istore0, w_lload0, w_lstore0, w_aload1, w_astore1, w_astorec1, w_iload1, w_istore1, w_lload1, w_lstore1, w_aload2, w_astore2, w_astorec2, w_iload2, w_istore2, w_lload2, w_lstore2, w_aload3, w_astore3, w_astorec3, w_iload3, w_istore3, w_lload3, w_lstore3, w_aload, w_astore, w_iload, w_istore, w_lload, w_lstore, w_iconst, w_bipush, w_sipush, w_ldc, w_ldcs, w_ldc2, w_iinc, w_iadd, w_isub, w_imul, w_iand, w_idiv, w_irem, w_ineg, w_ladd, w_lmul, w_ldiv, w_lrem, w_lcmp, w_i2l, w_l2i, w_dup, w_dup2, w_pop, w_if, w_icmp, w_goto, w_switch, w_getf0, w_getf2, w_getf1, w_putf0, w_putf2, w_putf1, w_getst, w_iald, w_ialdc, w_iast, w_alen, w_newa, w_new, w_virt, w_spec, w_stat, w_iret, w_zret, w_lret, w_aret, w_vret, cV_s, cS_s, wc_v, wc_i, wc_s, wc_copy, wc_copyc, wc_min, wc_max, wc_abs, wc_char, wc_obj, gl_0, gl_s, sl_0, sl_s, wA, wR, wK, ceW_1, ceN_2, ceN_3, ceN_4, ceN_5, ceN_6, ceN_7, ceN_8, c_t, bu, QW_w, true_and, and_true, Bool.not_false, Option.toList_some, Option.toList_none, List.cons_append, List.nil_append, List.singleton_append, Int.cast_ofNat_Int, Int.natCast_zero, Int.natCast_one, true_implies, implies_true, not_true_eq_false, not_false_eq_true, ne_eq, eq_self, true_or, or_true, or_false, false_or, and_self, Int.reduceNeg, Int.reduceLE, Int.reduceLT, Int.reduceEq, Int.reduceAdd, Int.reduceSub, Int.reduceMul, Int.reduceNe, Nat.reduceAdd, Nat.reduceSub, Nat.reduceLeDiff, Nat.reduceLT, Nat.reduceEqDiff, Int.reduceToNat, Int.reduceNatCast, Int.reduceTDiv, Int.reduceTMod, false_implies, false_and, and_false, reduceIte, ite_true, ite_false, hLe, c1]
  have fo : ∀ q i, ¬ (q = 1 ∧ i = 2) → ¬ (q = 3 ∧ i = 0) → st (st g 3 0 (bz P)) 1 2 0 q i = g q i := fun q i x y => by rw [st_nq x, st_nq y]
  refine play_loop (g := st (st g 3 0 (bz P)) 1 2 0) hL hP (fun g' a1 a2 a3 => hQ g' (fun q i x y z => (a1 q i x y).trans (fo q i y z)) ?_ a2 (fun i x y => ?_)) ⟨(fo 6 5 (by omega) (by omega)).trans c2, fun i x y => ⟨(fo 8 i (by omega) (by omega)).trans (c3 i x y).1, (fo 9 i (by omega) (by omega)).trans (c3 i x y).2⟩⟩ (nz P) 0 _ (by omega) (fun _ _ _ _ => rfl) st_eq (fun i x y => absurd y (by omega))
  · rw [a1 3 0 (by decide) (by omega), st_ne (by decide), st_eq]
  · rw [a3 i x y, show st (st g 3 0 (bz P)) 1 2 0 2 = g 2 from funext fun j => fo 2 j (by omega) (by omega)]
theorem IC_FrS {g' : Nat → Int → Int} (hI : IC g A) (f : FrS g g') : IC g' A := by
  have h1 : g' 1 = g 1 := funext fun i => f 1 i (by omega)
  have h2 : g' 2 = g 2 := funext fun i => f 2 i (by omega)
  have h3 : g' 3 = g 3 := funext fun i => f 3 i (by omega)
  have h4 : g' 4 = g 4 := funext fun i => f 4 i (by omega)
  have h5 : g' 5 = g 5 := funext fun i => f 5 i (by omega)
  have h6 : g' 6 1 = g 6 1 := f 6 1 (by omega)
  have h7 : g' 7 = g 7 := funext fun i => f 7 i (by omega)
  have h40 : g' 40 = g 40 := funext fun i => f 40 i (by omega)
  unfold IC
  rw [h1, h2, h3, h4, h5, h6, h7, h40]
  exact hI
theorem rdA_in {f : Int → Int} {n : Nat} (h : rdA f n = .inl P) : rdP f n = .inl P ∧ oz P = 0 ∧ bz P ≠ 0 := by
  unfold rdA at h
  rcases hr : rdP f n with P0 | e
  · rw [hr] at h
    simp only at h
    split at h
    · cases h
    · cases h
      rename_i hc
      exact ⟨rfl, by omega, by omega⟩
  · rw [hr] at h; cases h
theorem rdP_le {f : Int → Int} {e : Nat} : ∀ {n : Nat}, rdP f n = .inr e → e ≤ n
  | 0, h => by cases h
  | n + 1, h => by
    rcases hr : rdP f n with P0 | e0
    · by_cases z : f n = 32
      · rw [rdP_sp hr z] at h; cases h
      · rcases hs : stepP P0 (f n) with _ | P1
        · rw [rdP_no hr z hs] at h; cases h; omega
        · rw [rdP_so hr z hs] at h; cases h
    · have := rdP_er hr (n := n + 1) (by omega)
      rw [this] at h; cases h
      have := rdP_le hr
      omega
theorem rdA_le {f : Int → Int} {n e : Nat} (h : rdA f n = .inr e) : e ≤ n := by
  unfold rdA at h
  rcases hr : rdP f n with P0 | e0
  · rw [hr] at h
    simp only at h
    split at h
    · cases h; omega
    · cases h
  · rw [hr] at h; cases h; exact rdP_le hr
theorem cl_plays (hI : IC g A) (hA : AbOK A) (hQ : PC g A (aPlays A).1 (aPlays A).2 Q) : Cg G (d + 5) 19 [vr 0] (Mw g) Q := by
  unfold aPlays at hQ
  refine C_t (a := [vr 0]) mo_19 rfl rfl (Nat.le_of_ble_eq_true rfl) ?_
  change Tg G _ (73, 42835) 19 0 [vr 0, vc 0] [] (Mw _) _
  refine T_b ok_X8_plays_0 ?_
  simp only [gI_i, gJ_l, gR_r, gR_c, okS_0, okS_s, isL_i, isL_l, isL_r, szV_i, szV_l, szV_r, szS_n, szS_c, pops_0, pops_s, icm_eq, icm_ne, icm_lt, icm_ge, icm_gt, icm_le, aG_s, oG_s, w_nil, w_aload0, w_astore0, w_astorec0, w_iload0, w_istore0, w_lload0, w_lstore0, w_aload1, w_astore1, w_astorec1, w_iload1, w_istore1, w_lload1, w_lstore1, w_aload2, w_astore2, w_astorec2, w_iload2, w_istore2, w_lload2, w_lstore2, w_aload3, w_astore3, w_astorec3, w_iload3, w_istore3, w_lload3, w_lstore3, w_aload, w_astore, w_iload, w_istore, w_lload, w_lstore, w_iconst, w_bipush, w_sipush, w_ldc, w_ldcs, w_ldc2, w_iinc, w_iadd, w_isub, w_imul, w_iand, w_idiv, w_irem, w_ineg, w_ladd, w_lmul, w_ldiv, w_lrem, w_lcmp, w_i2l, w_l2i, w_dup, w_dup2, w_pop, w_if, w_icmp, w_goto, w_switch, w_getf0, w_getf2, w_getf1, w_putf0, w_putf2, w_putf1, w_getst, w_iald, w_ialdc, w_iast, w_alen, w_newa, w_new, w_virt, w_spec, w_stat, w_iret, w_zret, w_lret, w_aret, w_vret, cV_s, cS_s, wc_v, wc_i, wc_s, wc_copy, wc_copyc, wc_min, wc_max, wc_abs, wc_char, wc_obj, gl_0, gl_s, sl_0, sl_s, wA, wR, wK, ceW_1, ceN_2, ceN_3, ceN_4, ceN_5, ceN_6, ceN_7, ceN_8, c_t, bu, QW_w, true_and, and_true, Bool.not_false, Option.toList_some, Option.toList_none, List.cons_append, List.nil_append, List.singleton_append, Int.cast_ofNat_Int, Int.natCast_zero, Int.natCast_one, true_implies, implies_true, not_true_eq_false, not_false_eq_true, ne_eq, eq_self, true_or, or_true, or_false, false_or, and_self, Int.reduceNeg, Int.reduceLE, Int.reduceLT, Int.reduceEq, Int.reduceAdd, Int.reduceSub, Int.reduceMul, Int.reduceNe, Nat.reduceAdd, Nat.reduceSub, Nat.reduceLeDiff, Nat.reduceLT, Nat.reduceEqDiff, Int.reduceToNat, Int.reduceNatCast, Int.reduceTDiv, Int.reduceTMod, false_implies, false_and, and_false, reduceIte, ite_true, ite_false]
  refine q_read (f := A.2.2.2.2) (n := A.2.2.2.1) hA.2.2.2 hI.2.2.2.2.2.2 hI.2.2.2.2.2.1 ?_
  rcases hr : rdA A.2.2.2.2 A.2.2.2.1 with P | e
  · rw [hr] at hQ
    have hp := rdA_in hr
    have hP := rdP_ok hp.1
    intro g1 c1 f1
    simp only [gI_i, gJ_l, gR_r, gR_c, okS_0, okS_s, isL_i, isL_l, isL_r, szV_i, szV_l, szV_r, szS_n, szS_c, pops_0, pops_s, icm_eq, icm_ne, icm_lt, icm_ge, icm_gt, icm_le, aG_s, oG_s, w_nil, w_aload0, w_astore0, w_astorec0, w_iload0, w_istore0, w_lload0, w_lstore0, w_aload1, w_astore1, w_astorec1, w_iload1, w_istore1, w_lload1, w_lstore1, w_aload2, w_astore2, w_astorec2, w_iload2, w_istore2, w_lload2, w_lstore2, w_aload3, w_astore3, w_astorec3, w_iload3, w_istore3, w_lload3, w_lstore3, w_aload, w_astore, w_iload, w_istore, w_lload, w_lstore, w_iconst, w_bipush, w_sipush, w_ldc, w_ldcs, w_ldc2, w_iinc, w_iadd, w_isub, w_imul, w_iand, w_idiv, w_irem, w_ineg, w_ladd, w_lmul, w_ldiv, w_lrem, w_lcmp, w_i2l, w_l2i, w_dup, w_dup2, w_pop, w_if, w_icmp, w_goto, w_switch, w_getf0, w_getf2, w_getf1, w_putf0, w_putf2, w_putf1, w_getst, w_iald, w_ialdc, w_iast, w_alen, w_newa, w_new, w_virt, w_spec, w_stat, w_iret, w_zret, w_lret, w_aret, w_vret, cV_s, cS_s, wc_v, wc_i, wc_s, wc_copy, wc_copyc, wc_min, wc_max, wc_abs, wc_char, wc_obj, gl_0, gl_s, sl_0, sl_s, wA, wR, wK, ceW_1, ceN_2, ceN_3, ceN_4, ceN_5, ceN_6, ceN_7, ceN_8, c_t, bu, QW_w, true_and, and_true, Bool.not_false, Option.toList_some, Option.toList_none, List.cons_append, List.nil_append, List.singleton_append, Int.cast_ofNat_Int, Int.natCast_zero, Int.natCast_one, true_implies, implies_true, not_true_eq_false, not_false_eq_true, ne_eq, eq_self, true_or, or_true, or_false, false_or, and_self, Int.reduceNeg, Int.reduceLE, Int.reduceLT, Int.reduceEq, Int.reduceAdd, Int.reduceSub, Int.reduceMul, Int.reduceNe, Nat.reduceAdd, Nat.reduceSub, Nat.reduceLeDiff, Nat.reduceLT, Nat.reduceEqDiff, Int.reduceToNat, Int.reduceNatCast, Int.reduceTDiv, Int.reduceTMod, false_implies, false_and, and_false, reduceIte, ite_true, ite_false]
    refine T_b ok_X8_plays_18 ?_
    simp only [gI_i, gJ_l, gR_r, gR_c, okS_0, okS_s, isL_i, isL_l, isL_r, szV_i, szV_l, szV_r, szS_n, szS_c, pops_0, pops_s, icm_eq, icm_ne, icm_lt, icm_ge, icm_gt, icm_le, aG_s, oG_s, w_nil, w_aload0, w_astore0, w_astorec0, w_iload0, w_istore0, w_lload0, w_lstore0, w_aload1, w_astore1, w_astorec1, w_iload1, w_istore1, w_lload1, w_lstore1, w_aload2, w_astore2, w_astorec2, w_iload2, w_istore2, w_lload2, w_lstore2, w_aload3, w_astore3, w_astorec3, w_iload3, w_istore3, w_lload3, w_lstore3, w_aload, w_astore, w_iload, w_istore, w_lload, w_lstore, w_iconst, w_bipush, w_sipush, w_ldc, w_ldcs, w_ldc2, w_iinc, w_iadd, w_isub, w_imul, w_iand, w_idiv, w_irem, w_ineg, w_ladd, w_lmul, w_ldiv, w_lrem, w_lcmp, w_i2l, w_l2i, w_dup, w_dup2, w_pop, w_if, w_icmp, w_goto, w_switch, w_getf0, w_getf2, w_getf1, w_putf0, w_putf2, w_putf1, w_getst, w_iald, w_ialdc, w_iast, w_alen, w_newa, w_new, w_virt, w_spec, w_stat, w_iret, w_zret, w_lret, w_aret, w_vret, cV_s, cS_s, wc_v, wc_i, wc_s, wc_copy, wc_copyc, wc_min, wc_max, wc_abs, wc_char, wc_obj, gl_0, gl_s, sl_0, sl_s, wA, wR, wK, ceW_1, ceN_2, ceN_3, ceN_4, ceN_5, ceN_6, ceN_7, ceN_8, c_t, bu, QW_w, true_and, and_true, Bool.not_false, Option.toList_some, Option.toList_none, List.cons_append, List.nil_append, List.singleton_append, Int.cast_ofNat_Int, Int.natCast_zero, Int.natCast_one, true_implies, implies_true, not_true_eq_false, not_false_eq_true, ne_eq, eq_self, true_or, or_true, or_false, false_or, and_self, Int.reduceNeg, Int.reduceLE, Int.reduceLT, Int.reduceEq, Int.reduceAdd, Int.reduceSub, Int.reduceMul, Int.reduceNe, Nat.reduceAdd, Nat.reduceSub, Nat.reduceLeDiff, Nat.reduceLT, Nat.reduceEqDiff, Int.reduceToNat, Int.reduceNatCast, Int.reduceTDiv, Int.reduceTMod, false_implies, false_and, and_false, reduceIte, ite_true, ite_false]
    refine q_begin6 (IC_FrS hI f1) hA (fun g2 i2 f2 z2 => ?_)
    simp only [gI_i, gJ_l, gR_r, gR_c, okS_0, okS_s, isL_i, isL_l, isL_r, szV_i, szV_l, szV_r, szS_n, szS_c, pops_0, pops_s, icm_eq, icm_ne, icm_lt, icm_ge, icm_gt, icm_le, aG_s, oG_s, w_nil, w_aload0, w_astore0, w_astorec0, w_iload0, w_istore0, w_lload0, w_lstore0, w_aload1, w_astore1, w_astorec1, w_iload1, w_istore1, w_lload1, w_lstore1, w_aload2, w_astore2, w_astorec2, w_iload2, w_istore2, w_lload2, w_lstore2, w_aload3, w_astore3, w_astorec3, w_iload3, w_istore3, w_lload3, w_lstore3, w_aload, w_astore, w_iload, w_istore, w_lload, w_lstore, w_iconst, w_bipush, w_sipush, w_ldc, w_ldcs, w_ldc2, w_iinc, w_iadd, w_isub, w_imul, w_iand, w_idiv, w_irem, w_ineg, w_ladd, w_lmul, w_ldiv, w_lrem, w_lcmp, w_i2l, w_l2i, w_dup, w_dup2, w_pop, w_if, w_icmp, w_goto, w_switch, w_getf0, w_getf2, w_getf1, w_putf0, w_putf2, w_putf1, w_getst, w_iald, w_ialdc, w_iast, w_alen, w_newa, w_new, w_virt, w_spec, w_stat, w_iret, w_zret, w_lret, w_aret, w_vret, cV_s, cS_s, wc_v, wc_i, wc_s, wc_copy, wc_copyc, wc_min, wc_max, wc_abs, wc_char, wc_obj, gl_0, gl_s, sl_0, sl_s, wA, wR, wK, ceW_1, ceN_2, ceN_3, ceN_4, ceN_5, ceN_6, ceN_7, ceN_8, c_t, bu, QW_w, true_and, and_true, Bool.not_false, Option.toList_some, Option.toList_none, List.cons_append, List.nil_append, List.singleton_append, Int.cast_ofNat_Int, Int.natCast_zero, Int.natCast_one, true_implies, implies_true, not_true_eq_false, not_false_eq_true, ne_eq, eq_self, true_or, or_true, or_false, false_or, and_self, Int.reduceNeg, Int.reduceLE, Int.reduceLT, Int.reduceEq, Int.reduceAdd, Int.reduceSub, Int.reduceMul, Int.reduceNe, Nat.reduceAdd, Nat.reduceSub, Nat.reduceLeDiff, Nat.reduceLT, Nat.reduceEqDiff, Int.reduceToNat, Int.reduceNatCast, Int.reduceTDiv, Int.reduceTMod, false_implies, false_and, and_false, reduceIte, ite_true, ite_false]
    have hL := hA.1.2.2.2 1 (by omega) (by omega)
    have c2 : CR g2 P := ⟨(f2 6 4 (by decide)).trans c1.1, (f2 6 5 (by decide)).trans c1.2.1, fun i x y => ⟨(f2 8 i (by decide)).trans (c1.2.2.1 i x y).1, (f2 9 i (by decide)).trans (c1.2.2.1 i x y).2⟩, (f2 6 10 (by decide)).trans c1.2.2.2.1, fun i x y => ⟨(f2 10 i (by decide)).trans (c1.2.2.2.2 i x y).1, (f2 11 i (by decide)).trans (c1.2.2.2.2 i x y).2.1, (f2 12 i (by decide)).trans (c1.2.2.2.2 i x y).2.2.1, (f2 13 i (by decide)).trans (c1.2.2.2.2 i x y).2.2.2⟩⟩
    refine q_play (L := A.1.2.2 1) hL (i2.1.2.2 1 (by omega) (by omega)) hP c2 (fun g3 a1 a2 a3 a4 => ?_)
    simp only [gI_i, gJ_l, gR_r, gR_c, okS_0, okS_s, isL_i, isL_l, isL_r, szV_i, szV_l, szV_r, szS_n, szS_c, pops_0, pops_s, icm_eq, icm_ne, icm_lt, icm_ge, icm_gt, icm_le, aG_s, oG_s, w_nil, w_aload0, w_astore0, w_astorec0, w_iload0, w_istore0, w_lload0, w_lstore0, w_aload1, w_astore1, w_astorec1, w_iload1, w_istore1, w_lload1, w_lstore1, w_aload2, w_astore2, w_astorec2, w_iload2, w_istore2, w_lload2, w_lstore2, w_aload3, w_astore3, w_astorec3, w_iload3, w_istore3, w_lload3, w_lstore3, w_aload, w_astore, w_iload, w_istore, w_lload, w_lstore, w_iconst, w_bipush, w_sipush, w_ldc, w_ldcs, w_ldc2, w_iinc, w_iadd, w_isub, w_imul, w_iand, w_idiv, w_irem, w_ineg, w_ladd, w_lmul, w_ldiv, w_lrem, w_lcmp, w_i2l, w_l2i, w_dup, w_dup2, w_pop, w_if, w_icmp, w_goto, w_switch, w_getf0, w_getf2, w_getf1, w_putf0, w_putf2, w_putf1, w_getst, w_iald, w_ialdc, w_iast, w_alen, w_newa, w_new, w_virt, w_spec, w_stat, w_iret, w_zret, w_lret, w_aret, w_vret, cV_s, cS_s, wc_v, wc_i, wc_s, wc_copy, wc_copyc, wc_min, wc_max, wc_abs, wc_char, wc_obj, gl_0, gl_s, sl_0, sl_s, wA, wR, wK, ceW_1, ceN_2, ceN_3, ceN_4, ceN_5, ceN_6, ceN_7, ceN_8, c_t, bu, QW_w, true_and, and_true, Bool.not_false, Option.toList_some, Option.toList_none, List.cons_append, List.nil_append, List.singleton_append, Int.cast_ofNat_Int, Int.natCast_zero, Int.natCast_one, true_implies, implies_true, not_true_eq_false, not_false_eq_true, ne_eq, eq_self, true_or, or_true, or_false, false_or, and_self, Int.reduceNeg, Int.reduceLE, Int.reduceLT, Int.reduceEq, Int.reduceAdd, Int.reduceSub, Int.reduceMul, Int.reduceNe, Nat.reduceAdd, Nat.reduceSub, Nat.reduceLeDiff, Nat.reduceLT, Nat.reduceEqDiff, Int.reduceToNat, Int.reduceNatCast, Int.reduceTDiv, Int.reduceTMod, false_implies, false_and, and_false, reduceIte, ite_true, ite_false, a3]
    refine hQ g3 ?_ (fun q i x y => ?_) (Or.inl ?_)
    · refine IC_cur (A := aK A) i2 (fun q i x y z w => a1 q i x z (by omega)) ⟨a3, fun i x y => ?_, fun i x y => ?_⟩
      · rw [a4 i x y]; exact plF_cg _ i x y
      · show g3 3 i = if i = 0 then (bz P : Int) else A.1.2.2 i
        by_cases e : i = 0
        · rw [if_pos e, e]; exact a2
        · rw [if_neg e, a1 3 i (by decide) (by omega) (by omega)]; exact i2.1.2.2 i x y
    · rw [a1 q i (by omega) (by omega) (by omega), f2 q i (by omega)]; exact f1 q i (by omega)
    · rw [a1 0 6 (by decide) (by omega) (by omega)]; exact z2
  · rw [hr] at hQ
    have he : (e : Int) ≤ 60 := by
      have := rdA_le hr
      have := hA.2.2.2
      omega
    intro g1 f1
    simp only [gI_i, gJ_l, gR_r, gR_c, okS_0, okS_s, isL_i, isL_l, isL_r, szV_i, szV_l, szV_r, szS_n, szS_c, pops_0, pops_s, icm_eq, icm_ne, icm_lt, icm_ge, icm_gt, icm_le, aG_s, oG_s, w_nil, w_aload0, w_astore0, w_astorec0, w_iload0, w_istore0, w_lload0, w_lstore0, w_aload1, w_astore1, w_astorec1, w_iload1, w_istore1, w_lload1, w_lstore1, w_aload2, w_astore2, w_astorec2, w_iload2, w_istore2, w_lload2, w_lstore2, w_aload3, w_astore3, w_astorec3, w_iload3, w_istore3, w_lload3, w_lstore3, w_aload, w_astore, w_iload, w_istore, w_lload, w_lstore, w_iconst, w_bipush, w_sipush, w_ldc, w_ldcs, w_ldc2, w_iinc, w_iadd, w_isub, w_imul, w_iand, w_idiv, w_irem, w_ineg, w_ladd, w_lmul, w_ldiv, w_lrem, w_lcmp, w_i2l, w_l2i, w_dup, w_dup2, w_pop, w_if, w_icmp, w_goto, w_switch, w_getf0, w_getf2, w_getf1, w_putf0, w_putf2, w_putf1, w_getst, w_iald, w_ialdc, w_iast, w_alen, w_newa, w_new, w_virt, w_spec, w_stat, w_iret, w_zret, w_lret, w_aret, w_vret, cV_s, cS_s, wc_v, wc_i, wc_s, wc_copy, wc_copyc, wc_min, wc_max, wc_abs, wc_char, wc_obj, gl_0, gl_s, sl_0, sl_s, wA, wR, wK, ceW_1, ceN_2, ceN_3, ceN_4, ceN_5, ceN_6, ceN_7, ceN_8, c_t, bu, QW_w, true_and, and_true, Bool.not_false, Option.toList_some, Option.toList_none, List.cons_append, List.nil_append, List.singleton_append, Int.cast_ofNat_Int, Int.natCast_zero, Int.natCast_one, true_implies, implies_true, not_true_eq_false, not_false_eq_true, ne_eq, eq_self, true_or, or_true, or_false, false_or, and_self, Int.reduceNeg, Int.reduceLE, Int.reduceLT, Int.reduceEq, Int.reduceAdd, Int.reduceSub, Int.reduceMul, Int.reduceNe, Nat.reduceAdd, Nat.reduceSub, Nat.reduceLeDiff, Nat.reduceLT, Nat.reduceEqDiff, Int.reduceToNat, Int.reduceNatCast, Int.reduceTDiv, Int.reduceTMod, false_implies, false_and, and_false, reduceIte, ite_true, ite_false]
    have e1 : wr (-10 - (e : Int)) = -10 - (e : Int) := wr_of (by omega) (by omega)
    refine ⟨fun hc => absurd hc (by omega), fun _ => ?_⟩
    rw [e1]
    exact hQ g1 (IC_FrS hI f1) (fun q i x y => f1 q i (by omega)) (Or.inr ⟨f1 0 6 (by omega), rfl⟩)
end CLPLAY
