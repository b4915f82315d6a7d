/-! THE CLASS WRITES ALL BARS: writeBars -/
section CLBARS2
variable {G : Gx} {d : Nat} {g : Nat → Int → Int} {Q : Qx} {q : Qe} {W : Wr}
/-- between bars -/
def RelS (g : Nat → Int → Int) (W : Wr) (b k : Int) : Prop := AgR g 35 W.1 (9 * b + 9) ∧ AgR g 36 W.2.1 (6 * k) ∧ AgR g 37 W.2.2.1 7 ∧ (∀ c : Int, 0 ≤ c → c ≤ b → g 39 c = W.2.2.2.2 c ∧ (0 ≤ W.2.2.2.2 c ∧ W.2.2.2.2 c ≤ 60) ∧ ∀ i : Int, 0 ≤ i → i < W.2.2.2.2 c → g 38 (64 * c + i) = W.2.2.2.1 (200 * c + i)) ∧ WF W
theorem RelC.s {b k : Int} (h : RelC g W b k) : RelS g W b k := ⟨h.1, h.2.1, h.2.2.1, h.2.2.2.1, h.2.2.2.2.2.2⟩
theorem begW_wf {b st T be i j : Int} (h : WF W) (h1 : wr T = T) (h2 : wr st = st) (h3 : wr i = i) (h4 : wr (j - i) = j - i) : WF (begW W b st T be i j) := by
  refine ⟨fun x => ?_, h.2⟩
  have w0 : wr (0 : Int) = 0 := wr_of (by omega) (by omega)
  show wr (if 9 * b ≤ x ∧ x < 9 * b + 9 then (if x = 9 * b then T else if x = 9 * b + 1 then st else if x = 9 * b + 2 then i else if x = 9 * b + 3 then j - i else 0) else W.1 x) = (if 9 * b ≤ x ∧ x < 9 * b + 9 then (if x = 9 * b then T else if x = 9 * b + 1 then st else if x = 9 * b + 2 then i else if x = 9 * b + 3 then j - i else 0) else W.1 x)
  split
  · split
    · exact h1
    · split
      · exact h2
      · split
        · exact h3
        · split
          · exact h4
          · exact w0
  · exact h.1 x
theorem begin_loop {b st_ T i j : Int} (hb : 0 ≤ b ∧ b ≤ 2) (h6 : g 34 6 = b)
    (hQ : ∀ h : Nat → Int → Int, (∀ p x, (p ≠ 35 ∨ x < 9 * b ∨ 9 * b + 9 ≤ x) → h p x = g p x) → (∀ x, 9 * b ≤ x → x < 9 * b + 9 → h 35 x = 0) → Tg G d (73, 42835) 164 47 [vr 34, vi b, vi st_, vi T, vi i, vi j, vi 9] [] (Mw h) (QW Q)) :
    ∀ (m k : Nat) (h : Nat → Int → Int), k + m = 9 → (∀ p x, (p ≠ 35 ∨ x < 9 * b ∨ 9 * b + 9 ≤ x) → h p x = g p x) → (∀ x, 9 * b ≤ x → x < 9 * b + k → h 35 x = 0) → Tg G d (73, 42835) 164 18 [vr 34, vi b, vi st_, vi T, vi i, vi j, vi k] [] (Mw h) (QW Q) := by
  intro m
  induction m with
  | zero =>
    intro k h hk f1 f2
    obtain rfl : k = 9 := by omega
    refine T_b ok_X7_beginBar_18 ?_
    simp only [vI_i, vJ_l, isI_i, isR_r, isR_c, aN_s, isA_s, okS_0, okS_s, isL_i, isL_l, isL_r, szV_i, szV_l, szV_r, szS_n, szS_c, pops_0, pops_s, icm_eq, icm_ne, icm_lt, icm_ge, icm_gt, icm_le, aG_s, oG_s, u_nil, v_aload0, u_astore0, u_astorec0, v_iload0, u_istore0, v_lload0, u_lstore0, v_aload1, u_astore1, u_astorec1, v_iload1, u_istore1, v_lload1, u_lstore1, v_aload2, u_astore2, u_astorec2, v_iload2, u_istore2, v_lload2, u_lstore2, v_aload3, u_astore3, u_astorec3, v_iload3, u_istore3, v_lload3, u_lstore3, v_aload, u_astore, v_iload, u_istore, v_lload, u_lstore, u_iconst, u_bipush, u_sipush, u_ldc, u_ldcs, u_ldc2, v_iinc, u_iadd, u_isub, u_imul, u_iand, u_idiv, u_irem, u_ineg, u_ladd, u_lmul, u_ldiv, u_lrem, u_lcmp, u_i2l, u_l2i, u_dup, u_dup2, u_pop, u_if, u_icmp, u_goto, u_switch, u_getf0, u_getf2, u_getf1, u_putf0, u_putf2, u_putf1, u_getst, v_iald, u_ialdc, v_iast, u_alen, u_newa, u_new, u_virt, u_spec, u_stat, w_iret, w_zret, u_lret, u_aret, u_vret, cV_s, cS_s, wc_v, wc_i, wc_s, vc_copy, uc_copyc, uc_min, uc_max, uc_abs, uc_char, uc_obj, gl_0, gl_s, sl_0, sl_s, wA, wR, wK, ceW_1, ceN_2, ceN_3, ceN_4, ceN_5, ceN_6, ceN_7, ceN_8, c_t, bu, QW_w, true_and, and_true, Bool.not_false, Option.toList_some, Option.toList_none, List.cons_append, List.nil_append, List.singleton_append, Int.cast_ofNat_Int, Int.natCast_zero, Int.natCast_one, true_implies, implies_true, not_true_eq_false, not_false_eq_true, ne_eq, eq_self, true_or, or_true, or_false, false_or, and_self, Int.reduceNeg, Int.reduceLE, Int.reduceLT, Int.reduceEq, Int.reduceAdd, Int.reduceSub, Int.reduceMul, Int.reduceNe, Nat.reduceAdd, Nat.reduceSub, Nat.reduceLeDiff, Nat.reduceLT, Nat.reduceEqDiff, Int.reduceToNat, Int.reduceNatCast, Int.reduceTDiv, Int.reduceTMod, false_implies, false_and, and_false, reduceIte, ite_true, ite_false]
    exact hQ h f1 (fun x u v => f2 x u (by omega))
  | succ m ih =>
    intro k h hk f1 f2
    have e6 : h 34 6 = b := (f1 34 6 (by omega)).trans h6
    have w1 : wr (b * 9) = 9 * b := by rw [wr_of (by omega) (by omega)]; omega
    have w2 : wr (9 * b + (k : Int)) = 9 * b + k := wr_of (by omega) (by omega)
    have w3 : wr ((k : Int) + 1) = ((k + 1 : Nat) : Int) := by rw [wr_of (by omega) (by omega)]; omega
    refine T_b ok_X7_beginBar_18 ?_
    simp only [vI_i, vJ_l, isI_i, isR_r, isR_c, aN_s, isA_s, okS_0, okS_s, isL_i, isL_l, isL_r, szV_i, szV_l, szV_r, szS_n, szS_c, pops_0, pops_s, icm_eq, icm_ne, icm_lt, icm_ge, icm_gt, icm_le, aG_s, oG_s, u_nil, v_aload0, u_astore0, u_astorec0, v_iload0, u_istore0, v_lload0, u_lstore0, v_aload1, u_astore1, u_astorec1, v_iload1, u_istore1, v_lload1, u_lstore1, v_aload2, u_astore2, u_astorec2, v_iload2, u_istore2, v_lload2, u_lstore2, v_aload3, u_astore3, u_astorec3, v_iload3, u_istore3, v_lload3, u_lstore3, v_aload, u_astore, v_iload, u_istore, v_lload, u_lstore, u_iconst, u_bipush, u_sipush, u_ldc, u_ldcs, u_ldc2, v_iinc, u_iadd, u_isub, u_imul, u_iand, u_idiv, u_irem, u_ineg, u_ladd, u_lmul, u_ldiv, u_lrem, u_lcmp, u_i2l, u_l2i, u_dup, u_dup2, u_pop, u_if, u_icmp, u_goto, u_switch, u_getf0, u_getf2, u_getf1, u_putf0, u_putf2, u_putf1, u_getst, v_iald, u_ialdc, v_iast, u_alen, u_newa, u_new, u_virt, u_spec, u_stat, w_iret, w_zret, u_lret, u_aret, u_vret, cV_s, cS_s, wc_v, wc_i, wc_s, vc_copy, uc_copyc, uc_min, uc_max, uc_abs, uc_char, uc_obj, gl_0, gl_s, sl_0, sl_s, wA, wR, wK, ceW_1, ceN_2, ceN_3, ceN_4, ceN_5, ceN_6, ceN_7, ceN_8, c_t, bu, QW_w, true_and, and_true, Bool.not_false, Option.toList_some, Option.toList_none, List.cons_append, List.nil_append, List.singleton_append, Int.cast_ofNat_Int, Int.natCast_zero, Int.natCast_one, true_implies, implies_true, not_true_eq_false, not_false_eq_true, ne_eq, eq_self, true_or, or_true, or_false, false_or, and_self, Int.reduceNeg, Int.reduceLE, Int.reduceLT, Int.reduceEq, Int.reduceAdd, Int.reduceSub, Int.reduceMul, Int.reduceNe, Nat.reduceAdd, Nat.reduceSub, Nat.reduceLeDiff, Nat.reduceLT, Nat.reduceEqDiff, Int.reduceToNat, Int.reduceNatCast, Int.reduceTDiv, Int.reduceTMod, false_implies, false_and, and_false, reduceIte, ite_true, ite_false, e6, w1, w2, w3]
    refine ⟨fun z => absurd z (by omega), fun _ => ⟨by omega, ih (k + 1) _ (by omega) (fun p x y => by rw [st_nq (by omega)]; exact f1 p x y) (fun x u v => ?_)⟩⟩
    by_cases e : x = 9 * b + k
    · rw [e, st_eq]
    · rw [st_ni e]; exact f2 x u (by omega)
theorem q_beginBar {b st_ T be i j k : Int} (hb : 0 ≤ b ∧ b ≤ 2) (hR : RelS g W (b - 1) k) (hbt : BtOK st_ T) (hij : 0 ≤ i ∧ i ≤ j ∧ j ≤ 8)
    (hQ : ∀ g' : Nat → Int → Int, RelC g' (begW W b st_ T be i j) b k → FrY g g' → Q none (Mw g')) : Cg G d 164 [vr 34, vi b, vi st_, vi T, vi i, vi j] (Mw g) Q := by
  obtain ⟨r1, r2, r3, r4, r5⟩ := hR
  obtain ⟨⟨b1, b2⟩, b3, b4⟩ := hbt
  have w1 : wr (b * 9) = 9 * b := by rw [wr_of (by omega) (by omega)]; omega
  have w20 : wr (9 * b + 0) = 9 * b := by rw [wr_of (by omega) (by omega)]; omega
  have w21 : wr (9 * b + 1) = 9 * b + 1 := wr_of (by omega) (by omega)
  have w22 : wr (9 * b + 2) = 9 * b + 2 := wr_of (by omega) (by omega)
  have w23 : wr (9 * b + 3) = 9 * b + 3 := wr_of (by omega) (by omega)
  have w4 : wr (j - i) = j - i := wr_of (by omega) (by omega)
  have wT : wr T = T := wr_of (by omega) (by omega)
  have wS : wr st_ = st_ := wr_of (by omega) (by omega)
  have wI : wr i = i := wr_of (by omega) (by omega)
  refine C_t (a := [vr 34, vi b, vi st_, vi T, vi i, vi j]) mo_164 rfl rfl (Nat.le_of_ble_eq_true rfl) ?_
  change Tg G _ (73, 42835) 164 0 [vr 34, vi b, vi st_, vi T, vi i, vi j, vc 0] [] (Mw _) _
  refine T_b ok_X7_beginBar_0 ?_
  simp only [vI_i, vJ_l, isI_i, isR_r, isR_c, aN_s, isA_s, okS_0, okS_s, isL_i, isL_l, isL_r, szV_i, szV_l, szV_r, szS_n, szS_c, pops_0, pops_s, icm_eq, icm_ne, icm_lt, icm_ge, icm_gt, icm_le, aG_s, oG_s, u_nil, v_aload0, u_astore0, u_astorec0, v_iload0, u_istore0, v_lload0, u_lstore0, v_aload1, u_astore1, u_astorec1, v_iload1, u_istore1, v_lload1, u_lstore1, v_aload2, u_astore2, u_astorec2, v_iload2, u_istore2, v_lload2, u_lstore2, v_aload3, u_astore3, u_astorec3, v_iload3, u_istore3, v_lload3, u_lstore3, v_aload, u_astore, v_iload, u_istore, v_lload, u_lstore, u_iconst, u_bipush, u_sipush, u_ldc, u_ldcs, u_ldc2, v_iinc, u_iadd, u_isub, u_imul, u_iand, u_idiv, u_irem, u_ineg, u_ladd, u_lmul, u_ldiv, u_lrem, u_lcmp, u_i2l, u_l2i, u_dup, u_dup2, u_pop, u_if, u_icmp, u_goto, u_switch, u_getf0, u_getf2, u_getf1, u_putf0, u_putf2, u_putf1, u_getst, v_iald, u_ialdc, v_iast, u_alen, u_newa, u_new, u_virt, u_spec, u_stat, w_iret, w_zret, u_lret, u_aret, u_vret, cV_s, cS_s, wc_v, wc_i, wc_s, vc_copy, uc_copyc, uc_min, uc_max, uc_abs, uc_char, uc_obj, gl_0, gl_s, sl_0, sl_s, wA, wR, wK, ceW_1, ceN_2, ceN_3, ceN_4, ceN_5, ceN_6, ceN_7, ceN_8, c_t, bu, QW_w, true_and, and_true, Bool.not_false, Option.toList_some, Option.toList_none, List.cons_append, List.nil_append, List.singleton_append, Int.cast_ofNat_Int, Int.natCast_zero, Int.natCast_one, true_implies, implies_true, not_true_eq_false, not_false_eq_true, ne_eq, eq_self, true_or, or_true, or_false, false_or, and_self, Int.reduceNeg, Int.reduceLE, Int.reduceLT, Int.reduceEq, Int.reduceAdd, Int.reduceSub, Int.reduceMul, Int.reduceNe, Nat.reduceAdd, Nat.reduceSub, Nat.reduceLeDiff, Nat.reduceLT, Nat.reduceEqDiff, Int.reduceToNat, Int.reduceNatCast, Int.reduceTDiv, Int.reduceTMod, false_implies, false_and, and_false, reduceIte, ite_true, ite_false, st_eq]
  refine ⟨by omega, ?_⟩
  have e6 : st (st g 34 6 b) 39 b 0 34 6 = b := by rw [st_ne (by decide), st_eq]
  refine begin_loop (g := st (st g 34 6 b) 39 b 0) hb e6 (fun h f1 f2 => ?_) 9 0 _ (by omega) (fun _ _ _ => rfl) (fun x u v => absurd v (by omega))
  have h6 : h 34 6 = b := (f1 34 6 (by omega)).trans e6
  refine T_b ok_X7_beginBar_47 ?_
  simp only [vI_i, vJ_l, isI_i, isR_r, isR_c, aN_s, isA_s, okS_0, okS_s, isL_i, isL_l, isL_r, szV_i, szV_l, szV_r, szS_n, szS_c, pops_0, pops_s, icm_eq, icm_ne, icm_lt, icm_ge, icm_gt, icm_le, aG_s, oG_s, u_nil, v_aload0, u_astore0, u_astorec0, v_iload0, u_istore0, v_lload0, u_lstore0, v_aload1, u_astore1, u_astorec1, v_iload1, u_istore1, v_lload1, u_lstore1, v_aload2, u_astore2, u_astorec2, v_iload2, u_istore2, v_lload2, u_lstore2, v_aload3, u_astore3, u_astorec3, v_iload3, u_istore3, v_lload3, u_lstore3, v_aload, u_astore, v_iload, u_istore, v_lload, u_lstore, u_iconst, u_bipush, u_sipush, u_ldc, u_ldcs, u_ldc2, v_iinc, u_iadd, u_isub, u_imul, u_iand, u_idiv, u_irem, u_ineg, u_ladd, u_lmul, u_ldiv, u_lrem, u_lcmp, u_i2l, u_l2i, u_dup, u_dup2, u_pop, u_if, u_icmp, u_goto, u_switch, u_getf0, u_getf2, u_getf1, u_putf0, u_putf2, u_putf1, u_getst, v_iald, u_ialdc, v_iast, u_alen, u_newa, u_new, u_virt, u_spec, u_stat, w_iret, w_zret, u_lret, u_aret, u_vret, cV_s, cS_s, wc_v, wc_i, wc_s, vc_copy, uc_copyc, uc_min, uc_max, uc_abs, uc_char, uc_obj, gl_0, gl_s, sl_0, sl_s, wA, wR, wK, ceW_1, ceN_2, ceN_3, ceN_4, ceN_5, ceN_6, ceN_7, ceN_8, c_t, bu, QW_w, true_and, and_true, Bool.not_false, Option.toList_some, Option.toList_none, List.cons_append, List.nil_append, List.singleton_append, Int.cast_ofNat_Int, Int.natCast_zero, Int.natCast_one, true_implies, implies_true, not_true_eq_false, not_false_eq_true, ne_eq, eq_self, true_or, or_true, or_false, false_or, and_self, Int.reduceNeg, Int.reduceLE, Int.reduceLT, Int.reduceEq, Int.reduceAdd, Int.reduceSub, Int.reduceMul, Int.reduceNe, Nat.reduceAdd, Nat.reduceSub, Nat.reduceLeDiff, Nat.reduceLT, Nat.reduceEqDiff, Int.reduceToNat, Int.reduceNatCast, Int.reduceTDiv, Int.reduceTMod, false_implies, false_and, and_false, reduceIte, ite_true, ite_false, h6, w1, w20, w21, w22, w23, w4, st_ne (show (34 : Nat) ≠ 35 by decide)]
  refine ⟨by omega, by omega, by omega, by omega, ?_⟩
  have ff : ∀ (p : Nat) (x v0 v1 v2 v3 : Int), p ≠ 35 → st (st (st (st h 35 (9 * b) v0) 35 (9 * b + 1) v1) 35 (9 * b + 2) v2) 35 (9 * b + 3) v3 p x = st (st g 34 6 b) 39 b 0 p x := fun p x v0 v1 v2 v3 y => by rw [st_ne y, st_ne y, st_ne y, st_ne y]; exact f1 p x (by omega)
  refine hQ _ ⟨fun x u v => ?_, fun x u v => ?_, fun x u v => ?_, fun c u v => ?_, ?_, hb, begW_wf r5 wT wS wI w4⟩ (fun p x y z => ?_)
  · show _ = (if 9 * b ≤ x ∧ x < 9 * b + 9 then (if x = 9 * b then T else if x = 9 * b + 1 then st_ else if x = 9 * b + 2 then i else if x = 9 * b + 3 then j - i else 0) else W.1 x)
    by_cases e : 9 * b ≤ x
    · rw [if_pos ⟨e, v⟩]
      by_cases e3 : x = 9 * b + 3
      · rw [e3, st_eq, if_neg (by omega), if_neg (by omega), if_neg (by omega), if_pos rfl]
      · rw [st_ni e3]
        by_cases e2 : x = 9 * b + 2
        · rw [e2, st_eq, if_neg (by omega), if_neg (by omega), if_pos rfl]
        · rw [st_ni e2]
          by_cases e1 : x = 9 * b + 1
          · rw [e1, st_eq, if_neg (by omega), if_pos rfl]
          · rw [st_ni e1]
            by_cases e0 : x = 9 * b
            · rw [e0, st_eq, if_pos rfl]
            · rw [st_ni e0, if_neg e0, if_neg e1, if_neg e2, if_neg e3]; exact f2 x e v
    · rw [if_neg (fun z => e z.1), st_ni (by omega), st_ni (by omega), st_ni (by omega), st_ni (by omega), f1 35 x (by omega), st_ne (by decide), st_ne (by decide)]
      exact r1 x u (by omega)
  · rw [ff 36 x _ _ _ _ (by decide), st_ne (by decide), st_ne (by decide)]; exact r2 x u v
  · rw [ff 37 x _ _ _ _ (by decide), st_ne (by decide), st_ne (by decide)]; exact r3 x u v
  · rw [ff 39 c _ _ _ _ (by decide)]
    show st (st g 34 6 b) 39 b 0 39 c = upI W.2.2.2.2 b 0 c ∧ (0 ≤ upI W.2.2.2.2 b 0 c ∧ upI W.2.2.2.2 b 0 c ≤ 60) ∧ ∀ i : Int, 0 ≤ i → i < upI W.2.2.2.2 b 0 c → _ = W.2.2.2.1 (200 * c + i)
    by_cases e : c = b
    · rw [e, st_eq, upI_eq]
      exact ⟨rfl, by omega, fun i u v => absurd v (by omega)⟩
    · rw [st_ni e, upI_ne e, st_ne (by decide)]
      obtain ⟨m1, m2, m3⟩ := r4 c u (by omega)
      refine ⟨m1, m2, fun i u v => ?_⟩
      rw [ff 38 _ _ _ _ _ (by decide), st_ne (by decide), st_ne (by decide)]
      exact m3 i u v
  · rw [ff 34 6 _ _ _ _ (by decide)]; exact e6
  · rw [ff p x _ _ _ _ (by omega), st_ne (by omega), st_nq (by omega)]
theorem q_change {b k T be x : Int} (hR : RelC g W b k) (hx : x = if T < be then be - T else T - be)
    (hQ : ∀ g' : Nat → Int → Int, RelC g' (chgW W T be) b k → FrY g g' → Q none (Mw g')) : Cg G d 165 [vr 34, vi x] (Mw g) Q := by
  obtain ⟨r1, r2, r3, r4, r5, r6, r7⟩ := hR
  have y5 := r3 5 (by omega) (by omega)
  refine C_t (a := [vr 34, vi x]) mo_165 rfl rfl (Nat.le_of_ble_eq_true rfl) ?_
  change Tg G _ (73, 42835) 165 0 [vr 34, vi x] [] (Mw _) _
  refine T_b ok_X7_change_0 ?_
  simp only [vI_i, vJ_l, isI_i, isR_r, isR_c, aN_s, isA_s, okS_0, okS_s, isL_i, isL_l, isL_r, szV_i, szV_l, szV_r, szS_n, szS_c, pops_0, pops_s, icm_eq, icm_ne, icm_lt, icm_ge, icm_gt, icm_le, aG_s, oG_s, u_nil, v_aload0, u_astore0, u_astorec0, v_iload0, u_istore0, v_lload0, u_lstore0, v_aload1, u_astore1, u_astorec1, v_iload1, u_istore1, v_lload1, u_lstore1, v_aload2, u_astore2, u_astorec2, v_iload2, u_istore2, v_lload2, u_lstore2, v_aload3, u_astore3, u_astorec3, v_iload3, u_istore3, v_lload3, u_lstore3, v_aload, u_astore, v_iload, u_istore, v_lload, u_lstore, u_iconst, u_bipush, u_sipush, u_ldc, u_ldcs, u_ldc2, v_iinc, u_iadd, u_isub, u_imul, u_iand, u_idiv, u_irem, u_ineg, u_ladd, u_lmul, u_ldiv, u_lrem, u_lcmp, u_i2l, u_l2i, u_dup, u_dup2, u_pop, u_if, u_icmp, u_goto, u_switch, u_getf0, u_getf2, u_getf1, u_putf0, u_putf2, u_putf1, u_getst, v_iald, u_ialdc, v_iast, u_alen, u_newa, u_new, u_virt, u_spec, u_stat, w_iret, w_zret, u_lret, u_aret, u_vret, cV_s, cS_s, wc_v, wc_i, wc_s, vc_copy, uc_copyc, uc_min, uc_max, uc_abs, uc_char, uc_obj, gl_0, gl_s, sl_0, sl_s, wA, wR, wK, ceW_1, ceN_2, ceN_3, ceN_4, ceN_5, ceN_6, ceN_7, ceN_8, c_t, bu, QW_w, true_and, and_true, Bool.not_false, Option.toList_some, Option.toList_none, List.cons_append, List.nil_append, List.singleton_append, Int.cast_ofNat_Int, Int.natCast_zero, Int.natCast_one, true_implies, implies_true, not_true_eq_false, not_false_eq_true, ne_eq, eq_self, true_or, or_true, or_false, false_or, and_self, Int.reduceNeg, Int.reduceLE, Int.reduceLT, Int.reduceEq, Int.reduceAdd, Int.reduceSub, Int.reduceMul, Int.reduceNe, Nat.reduceAdd, Nat.reduceSub, Nat.reduceLeDiff, Nat.reduceLT, Nat.reduceEqDiff, Int.reduceToNat, Int.reduceNatCast, Int.reduceTDiv, Int.reduceTMod, false_implies, false_and, and_false, reduceIte, ite_true, ite_false, y5]
  refine hQ _ ⟨r1.ne (by decide), r2.ne (by decide), r3.up (by rw [hx]), fun c u v => ?_, ?_, r6, r7.1, upI_wf r7.2 (wr_wr _)⟩ (fun p x y z => st_ne (by omega))
  · obtain ⟨m1, m2, m3⟩ := r4 c u v
    exact ⟨by rw [st_ne (by decide)]; exact m1, m2, fun i u v => by rw [st_ne (by decide)]; exact m3 i u v⟩
  · rw [st_ne (by decide)]; exact r5
theorem MD.b {b T : Int} {h : Nat → Int → Int} (hM : MD g q b T) (f : ∀ p x, p ≠ 33 → h p x = g p x) : MD h q b T := by
  obtain ⟨m1, m2, m3, m4, m5⟩ := hM
  have e22 : h 22 = g 22 := funext fun x => f 22 x (by omega)
  have e28 : h 28 = g 28 := funext fun x => f 28 x (by omega)
  have e29 : h 29 = g 29 := funext fun x => f 29 x (by omega)
  have e30 : h 30 = g 30 := funext fun x => f 30 x (by omega)
  refine ⟨m1.fr fun p x a b => f p x (by omega), TK_fr m2 fun p x a b => f p x (by omega), ?_, ?_, (f 15 4 (by omega)).trans m5⟩
  · unfold TBL TbL; rw [e22, e30]; exact m3
  · unfold TBS TbL spV; rw [e28, e29, e30]; exact m4
/-- what writing may touch -/
def FrB (g h : Nat → Int → Int) : Prop := ∀ (p : Nat) (x : Int), p ≠ 15 → p ≠ 30 → p ≠ 31 → p ≠ 33 → (p < 34 ∨ 39 < p ∨ (p = 34 ∧ x ≠ 6)) → h p x = g p x
theorem FrB.rf : FrB g g := fun _ _ _ _ _ _ _ => rfl
theorem FrB.tr {g1 g2 g3 : Nat → Int → Int} (a : FrB g1 g2) (b : FrB g2 g3) : FrB g1 g3 := fun p x h1 h2 h3 h4 h5 => (b p x h1 h2 h3 h4 h5).trans (a p x h1 h2 h3 h4 h5)
theorem FrB.y {h : Nat → Int → Int} (f : FrY g h) : FrB g h := fun p x h1 h2 h3 h4 h5 => f p x h5 (by omega)
theorem bar_NT (hq : QeOK q) {bg T : Int} (hM : MD g q bg T) : NT g q (bT q) (dq q) 0 216 := by
  refine ⟨Nat.le_refl _, by omega, fun h => ?_, fun h => ?_⟩
  · unfold bT; rw [if_pos h]
    refine ⟨Int.le_refl _, ?_, hM.1.2.2.1.1⟩
    rw [h]; decide
  · unfold bT; rw [if_neg h]
    refine ⟨0, rfl, ?_, ?_, hM.1.2.2.1.2.1, hM.1.2.2.1.2.2⟩
    · rw [Nat.sub_self]; decide
    · rw [Nat.sub_self]; decide
theorem RelS.fr {h : Nat → Int → Int} {b k : Int} (hR : RelS g W b k) (f : ∀ p x, 35 ≤ p → p ≤ 39 → h p x = g p x) : RelS h W b k := by
  have e35 : h 35 = g 35 := funext fun x => f 35 x (by omega) (by omega)
  have e36 : h 36 = g 36 := funext fun x => f 36 x (by omega) (by omega)
  have e37 : h 37 = g 37 := funext fun x => f 37 x (by omega) (by omega)
  have e38 : h 38 = g 38 := funext fun x => f 38 x (by omega) (by omega)
  have e39 : h 39 = g 39 := funext fun x => f 39 x (by omega) (by omega)
  unfold RelS AgR; rw [e35, e36, e37, e38, e39]; exact hR
theorem bars_loop (hq : QeOK q) (hw : q.2.2.2.2.1 = -1) (hS : SPOK g) (hK : TK g q) (hO : OW g q 0) :
    ∀ (m : Nat) (b lean be i : Int) (h : Nat → Int → Int) (W : Wr) (v6 v7 : Vx), b + m = q.2.2.1 0 → 0 ≤ b → (-(b * rcQ q) ≤ lean ∧ lean ≤ b * rcQ q) → (-1 ≤ be ∧ be ≤ 1) → (b = 0 → i = 0) → (0 ≤ i ∧ i ≤ q.1) → FQ q m (stQ q b lean) (tkQ q be) i < fa → FrB g h → RelS h W (b - 1) i →
      (∀ g' : Nat → Int → Int, RelS g' (brW q (pkL q m (stQ q b lean) (tkQ q be) i) b (stQ q b lean) (tkQ q be) i W) (q.2.2.1 0 - 1) q.1 → FrB g g' → Q none (Mw g')) →
      Tg G (d + 7) (73, 42835) 111 10 [vr 14, vr 34, vi lean, vi be, vi i, vi b, v6, v7] [] (Mw h) (QW Q) := by
  intro m
  have hD := dq_le hq
  have hB3 := hq.bars
  induction m with
  | zero =>
    intro b lean be i h W v6 v7 hm hb hl hbe hi0 hi hF f1 R1 hQ
    have e5 : h 16 5 = q.2.2.1 0 := (f1 16 5 (by decide) (by decide) (by decide) (by decide) (by omega)).trans hK.1.2.1
    have ei : i = q.1 := by
      rw [FQ_0] at hF
      by_cases e : i = q.1
      · exact e
      · rw [if_neg e] at hF; exact absurd hF (Int.lt_irrefl _)
    refine T_b ok_X2_writeBars_10 ?_
    simp only [vI_i, vJ_l, isI_i, isR_r, isR_c, aN_s, isA_s, okS_0, okS_s, isL_i, isL_l, isL_r, szV_i, szV_l, szV_r, szS_n, szS_c, pops_0, pops_s, icm_eq, icm_ne, icm_lt, icm_ge, icm_gt, icm_le, aG_s, oG_s, u_nil, v_aload0, u_astore0, u_astorec0, v_iload0, u_istore0, v_lload0, u_lstore0, v_aload1, u_astore1, u_astorec1, v_iload1, u_istore1, v_lload1, u_lstore1, v_aload2, u_astore2, u_astorec2, v_iload2, u_istore2, v_lload2, u_lstore2, v_aload3, u_astore3, u_astorec3, v_iload3, u_istore3, v_lload3, u_lstore3, v_aload, u_astore, v_iload, u_istore, v_lload, u_lstore, u_iconst, u_bipush, u_sipush, u_ldc, u_ldcs, u_ldc2, v_iinc, u_iadd, u_isub, u_imul, u_iand, u_idiv, u_irem, u_ineg, u_ladd, u_lmul, u_ldiv, u_lrem, u_lcmp, u_i2l, u_l2i, u_dup, u_dup2, u_pop, u_if, u_icmp, u_goto, u_switch, u_getf0, u_getf2, u_getf1, u_putf0, u_putf2, u_putf1, u_getst, v_iald, u_ialdc, v_iast, u_alen, u_newa, u_new, u_virt, u_spec, u_stat, w_iret, w_zret, u_lret, u_aret, u_vret, cV_s, cS_s, wc_v, wc_i, wc_s, vc_copy, uc_copyc, uc_min, uc_max, uc_abs, uc_char, uc_obj, gl_0, gl_s, sl_0, sl_s, wA, wR, wK, ceW_1, ceN_2, ceN_3, ceN_4, ceN_5, ceN_6, ceN_7, ceN_8, c_t, bu, QW_w, true_and, and_true, Bool.not_false, Option.toList_some, Option.toList_none, List.cons_append, List.nil_append, List.singleton_append, Int.cast_ofNat_Int, Int.natCast_zero, Int.natCast_one, true_implies, implies_true, not_true_eq_false, not_false_eq_true, ne_eq, eq_self, true_or, or_true, or_false, false_or, and_self, Int.reduceNeg, Int.reduceLE, Int.reduceLT, Int.reduceEq, Int.reduceAdd, Int.reduceSub, Int.reduceMul, Int.reduceNe, Nat.reduceAdd, Nat.reduceSub, Nat.reduceLeDiff, Nat.reduceLT, Nat.reduceEqDiff, Int.reduceToNat, Int.reduceNatCast, Int.reduceTDiv, Int.reduceTMod, false_implies, false_and, and_false, reduceIte, ite_true, ite_false, e5]
    refine ⟨fun _ => ?_, fun z => absurd z (by omega)⟩
    refine T_b ok_X2_writeBars_153 ?_
    simp only [vI_i, vJ_l, isI_i, isR_r, isR_c, aN_s, isA_s, okS_0, okS_s, isL_i, isL_l, isL_r, szV_i, szV_l, szV_r, szS_n, szS_c, pops_0, pops_s, icm_eq, icm_ne, icm_lt, icm_ge, icm_gt, icm_le, aG_s, oG_s, u_nil, v_aload0, u_astore0, u_astorec0, v_iload0, u_istore0, v_lload0, u_lstore0, v_aload1, u_astore1, u_astorec1, v_iload1, u_istore1, v_lload1, u_lstore1, v_aload2, u_astore2, u_astorec2, v_iload2, u_istore2, v_lload2, u_lstore2, v_aload3, u_astore3, u_astorec3, v_iload3, u_istore3, v_lload3, u_lstore3, v_aload, u_astore, v_iload, u_istore, v_lload, u_lstore, u_iconst, u_bipush, u_sipush, u_ldc, u_ldcs, u_ldc2, v_iinc, u_iadd, u_isub, u_imul, u_iand, u_idiv, u_irem, u_ineg, u_ladd, u_lmul, u_ldiv, u_lrem, u_lcmp, u_i2l, u_l2i, u_dup, u_dup2, u_pop, u_if, u_icmp, u_goto, u_switch, u_getf0, u_getf2, u_getf1, u_putf0, u_putf2, u_putf1, u_getst, v_iald, u_ialdc, v_iast, u_alen, u_newa, u_new, u_virt, u_spec, u_stat, w_iret, w_zret, u_lret, u_aret, u_vret, cV_s, cS_s, wc_v, wc_i, wc_s, vc_copy, uc_copyc, uc_min, uc_max, uc_abs, uc_char, uc_obj, gl_0, gl_s, sl_0, sl_s, wA, wR, wK, ceW_1, ceN_2, ceN_3, ceN_4, ceN_5, ceN_6, ceN_7, ceN_8, c_t, bu, QW_w, true_and, and_true, Bool.not_false, Option.toList_some, Option.toList_none, List.cons_append, List.nil_append, List.singleton_append, Int.cast_ofNat_Int, Int.natCast_zero, Int.natCast_one, true_implies, implies_true, not_true_eq_false, not_false_eq_true, ne_eq, eq_self, true_or, or_true, or_false, false_or, and_self, Int.reduceNeg, Int.reduceLE, Int.reduceLT, Int.reduceEq, Int.reduceAdd, Int.reduceSub, Int.reduceMul, Int.reduceNe, Nat.reduceAdd, Nat.reduceSub, Nat.reduceLeDiff, Nat.reduceLT, Nat.reduceEqDiff, Int.reduceToNat, Int.reduceNatCast, Int.reduceTDiv, Int.reduceTMod, false_implies, false_and, and_false, reduceIte, ite_true, ite_false]
    refine hQ h ?_ f1
    show RelS h W (q.2.2.1 0 - 1) q.1
    rw [← ei, show q.2.2.1 0 - 1 = b - 1 by omega]
    exact R1
  | succ m ih =>
    intro b lean be i h W v6 v7 hm hb hl hbe hi0 hi hF f1 R1 hQ
    have fTK : ∀ h' : Nat → Int → Int, FrB g h' → TK h' q := fun h' f => TK_fr hK fun p x a b => f p x (by omega) (by omega) (by omega) (by omega) (by omega)
    have fSP : ∀ h' : Nat → Int → Int, FrB g h' → SPOK h' := fun h' f => hS.fr fun p x a b => f p x (by omega) (by omega) (by omega) (by omega) (by omega)
    have fOW : ∀ h' : Nat → Int → Int, FrB g h' → OW h' q 0 := fun h' f => OW_fr hO fun x => f 32 x (by decide) (by decide) (by decide) (by decide) (by omega)
    have hK1 := fTK h f1
    have e5 : h 16 5 = q.2.2.1 0 := hK1.1.2.1
    have hI : FI q b i := ⟨hi.1, by split <;> omega⟩
    obtain ⟨pt1, pt2, pt3⟩ := pkT_sp hq hF
    refine T_b ok_X2_writeBars_10 ?_
    simp only [vI_i, vJ_l, isI_i, isR_r, isR_c, aN_s, isA_s, okS_0, okS_s, isL_i, isL_l, isL_r, szV_i, szV_l, szV_r, szS_n, szS_c, pops_0, pops_s, icm_eq, icm_ne, icm_lt, icm_ge, icm_gt, icm_le, aG_s, oG_s, u_nil, v_aload0, u_astore0, u_astorec0, v_iload0, u_istore0, v_lload0, u_lstore0, v_aload1, u_astore1, u_astorec1, v_iload1, u_istore1, v_lload1, u_lstore1, v_aload2, u_astore2, u_astorec2, v_iload2, u_istore2, v_lload2, u_lstore2, v_aload3, u_astore3, u_astorec3, v_iload3, u_istore3, v_lload3, u_lstore3, v_aload, u_astore, v_iload, u_istore, v_lload, u_lstore, u_iconst, u_bipush, u_sipush, u_ldc, u_ldcs, u_ldc2, v_iinc, u_iadd, u_isub, u_imul, u_iand, u_idiv, u_irem, u_ineg, u_ladd, u_lmul, u_ldiv, u_lrem, u_lcmp, u_i2l, u_l2i, u_dup, u_dup2, u_pop, u_if, u_icmp, u_goto, u_switch, u_getf0, u_getf2, u_getf1, u_putf0, u_putf2, u_putf1, u_getst, v_iald, u_ialdc, v_iast, u_alen, u_newa, u_new, u_virt, u_spec, u_stat, w_iret, w_zret, u_lret, u_aret, u_vret, cV_s, cS_s, wc_v, wc_i, wc_s, vc_copy, uc_copyc, uc_min, uc_max, uc_abs, uc_char, uc_obj, gl_0, gl_s, sl_0, sl_s, wA, wR, wK, ceW_1, ceN_2, ceN_3, ceN_4, ceN_5, ceN_6, ceN_7, ceN_8, c_t, bu, QW_w, true_and, and_true, Bool.not_false, Option.toList_some, Option.toList_none, List.cons_append, List.nil_append, List.singleton_append, Int.cast_ofNat_Int, Int.natCast_zero, Int.natCast_one, true_implies, implies_true, not_true_eq_false, not_false_eq_true, ne_eq, eq_self, true_or, or_true, or_false, false_or, and_self, Int.reduceNeg, Int.reduceLE, Int.reduceLT, Int.reduceEq, Int.reduceAdd, Int.reduceSub, Int.reduceMul, Int.reduceNe, Nat.reduceAdd, Nat.reduceSub, Nat.reduceLeDiff, Nat.reduceLT, Nat.reduceEqDiff, Int.reduceToNat, Int.reduceNatCast, Int.reduceTDiv, Int.reduceTMod, false_implies, false_and, and_false, reduceIte, ite_true, ite_false, e5]
    refine ⟨fun z => absurd z (by omega), fun _ => ?_⟩
    refine q_shortest (m := m) hK1 hq (fOW h f1) ⟨hb, by omega⟩ (by omega) hl hbe hI (fun e hBL hT => ?_)
    rw [← hT] at pt2
    obtain ⟨b1, b2, b3, b4⟩ := hBL.bd hq
    have hch := chQ_nn hq (tkQ q e) (tkQ q be)
    obtain ⟨j1, j2, j3, j4⟩ := pkJ_sp (q := q) (m := m) (st := stQ q b lean) (T := tkQ q e) (i := i) hi.2 (by omega)
    simp only [vI_i, vJ_l, isI_i, isR_r, isR_c, aN_s, isA_s, okS_0, okS_s, isL_i, isL_l, isL_r, szV_i, szV_l, szV_r, szS_n, szS_c, pops_0, pops_s, icm_eq, icm_ne, icm_lt, icm_ge, icm_gt, icm_le, aG_s, oG_s, u_nil, v_aload0, u_astore0, u_astorec0, v_iload0, u_istore0, v_lload0, u_lstore0, v_aload1, u_astore1, u_astorec1, v_iload1, u_istore1, v_lload1, u_lstore1, v_aload2, u_astore2, u_astorec2, v_iload2, u_istore2, v_lload2, u_lstore2, v_aload3, u_astore3, u_astorec3, v_iload3, u_istore3, v_lload3, u_lstore3, v_aload, u_astore, v_iload, u_istore, v_lload, u_lstore, u_iconst, u_bipush, u_sipush, u_ldc, u_ldcs, u_ldc2, v_iinc, u_iadd, u_isub, u_imul, u_iand, u_idiv, u_irem, u_ineg, u_ladd, u_lmul, u_ldiv, u_lrem, u_lcmp, u_i2l, u_l2i, u_dup, u_dup2, u_pop, u_if, u_icmp, u_goto, u_switch, u_getf0, u_getf2, u_getf1, u_putf0, u_putf2, u_putf1, u_getst, v_iald, u_ialdc, v_iast, u_alen, u_newa, u_new, u_virt, u_spec, u_stat, w_iret, w_zret, u_lret, u_aret, u_vret, cV_s, cS_s, wc_v, wc_i, wc_s, vc_copy, uc_copyc, uc_min, uc_max, uc_abs, uc_char, uc_obj, gl_0, gl_s, sl_0, sl_s, wA, wR, wK, ceW_1, ceN_2, ceN_3, ceN_4, ceN_5, ceN_6, ceN_7, ceN_8, c_t, bu, QW_w, true_and, and_true, Bool.not_false, Option.toList_some, Option.toList_none, List.cons_append, List.nil_append, List.singleton_append, Int.cast_ofNat_Int, Int.natCast_zero, Int.natCast_one, true_implies, implies_true, not_true_eq_false, not_false_eq_true, ne_eq, eq_self, true_or, or_true, or_false, false_or, and_self, Int.reduceNeg, Int.reduceLE, Int.reduceLT, Int.reduceEq, Int.reduceAdd, Int.reduceSub, Int.reduceMul, Int.reduceNe, Nat.reduceAdd, Nat.reduceSub, Nat.reduceLeDiff, Nat.reduceLT, Nat.reduceEqDiff, Int.reduceToNat, Int.reduceNatCast, Int.reduceTDiv, Int.reduceTMod, false_implies, false_and, and_false, reduceIte, ite_true, ite_false]
    refine q_beginOf hK1 hq b1 b2 ?_
    simp only [vI_i, vJ_l, isI_i, isR_r, isR_c, aN_s, isA_s, okS_0, okS_s, isL_i, isL_l, isL_r, szV_i, szV_l, szV_r, szS_n, szS_c, pops_0, pops_s, icm_eq, icm_ne, icm_lt, icm_ge, icm_gt, icm_le, aG_s, oG_s, u_nil, v_aload0, u_astore0, u_astorec0, v_iload0, u_istore0, v_lload0, u_lstore0, v_aload1, u_astore1, u_astorec1, v_iload1, u_istore1, v_lload1, u_lstore1, v_aload2, u_astore2, u_astorec2, v_iload2, u_istore2, v_lload2, u_lstore2, v_aload3, u_astore3, u_astorec3, v_iload3, u_istore3, v_lload3, u_lstore3, v_aload, u_astore, v_iload, u_istore, v_lload, u_lstore, u_iconst, u_bipush, u_sipush, u_ldc, u_ldcs, u_ldc2, v_iinc, u_iadd, u_isub, u_imul, u_iand, u_idiv, u_irem, u_ineg, u_ladd, u_lmul, u_ldiv, u_lrem, u_lcmp, u_i2l, u_l2i, u_dup, u_dup2, u_pop, u_if, u_icmp, u_goto, u_switch, u_getf0, u_getf2, u_getf1, u_putf0, u_putf2, u_putf1, u_getst, v_iald, u_ialdc, v_iast, u_alen, u_newa, u_new, u_virt, u_spec, u_stat, w_iret, w_zret, u_lret, u_aret, u_vret, cV_s, cS_s, wc_v, wc_i, wc_s, vc_copy, uc_copyc, uc_min, uc_max, uc_abs, uc_char, uc_obj, gl_0, gl_s, sl_0, sl_s, wA, wR, wK, ceW_1, ceN_2, ceN_3, ceN_4, ceN_5, ceN_6, ceN_7, ceN_8, c_t, bu, QW_w, true_and, and_true, Bool.not_false, Option.toList_some, Option.toList_none, List.cons_append, List.nil_append, List.singleton_append, Int.cast_ofNat_Int, Int.natCast_zero, Int.natCast_one, true_implies, implies_true, not_true_eq_false, not_false_eq_true, ne_eq, eq_self, true_or, or_true, or_false, false_or, and_self, Int.reduceNeg, Int.reduceLE, Int.reduceLT, Int.reduceEq, Int.reduceAdd, Int.reduceSub, Int.reduceMul, Int.reduceNe, Nat.reduceAdd, Nat.reduceSub, Nat.reduceLeDiff, Nat.reduceLT, Nat.reduceEqDiff, Int.reduceToNat, Int.reduceNatCast, Int.reduceTDiv, Int.reduceTMod, false_implies, false_and, and_false, reduceIte, ite_true, ite_false]
    refine q_ticksOf hK1 hq b3 ?_
    simp only [vI_i, vJ_l, isI_i, isR_r, isR_c, aN_s, isA_s, okS_0, okS_s, isL_i, isL_l, isL_r, szV_i, szV_l, szV_r, szS_n, szS_c, pops_0, pops_s, icm_eq, icm_ne, icm_lt, icm_ge, icm_gt, icm_le, aG_s, oG_s, u_nil, v_aload0, u_astore0, u_astorec0, v_iload0, u_istore0, v_lload0, u_lstore0, v_aload1, u_astore1, u_astorec1, v_iload1, u_istore1, v_lload1, u_lstore1, v_aload2, u_astore2, u_astorec2, v_iload2, u_istore2, v_lload2, u_lstore2, v_aload3, u_astore3, u_astorec3, v_iload3, u_istore3, v_lload3, u_lstore3, v_aload, u_astore, v_iload, u_istore, v_lload, u_lstore, u_iconst, u_bipush, u_sipush, u_ldc, u_ldcs, u_ldc2, v_iinc, u_iadd, u_isub, u_imul, u_iand, u_idiv, u_irem, u_ineg, u_ladd, u_lmul, u_ldiv, u_lrem, u_lcmp, u_i2l, u_l2i, u_dup, u_dup2, u_pop, u_if, u_icmp, u_goto, u_switch, u_getf0, u_getf2, u_getf1, u_putf0, u_putf2, u_putf1, u_getst, v_iald, u_ialdc, v_iast, u_alen, u_newa, u_new, u_virt, u_spec, u_stat, w_iret, w_zret, u_lret, u_aret, u_vret, cV_s, cS_s, wc_v, wc_i, wc_s, vc_copy, uc_copyc, uc_min, uc_max, uc_abs, uc_char, uc_obj, gl_0, gl_s, sl_0, sl_s, wA, wR, wK, ceW_1, ceN_2, ceN_3, ceN_4, ceN_5, ceN_6, ceN_7, ceN_8, c_t, bu, QW_w, true_and, and_true, Bool.not_false, Option.toList_some, Option.toList_none, List.cons_append, List.nil_append, List.singleton_append, Int.cast_ofNat_Int, Int.natCast_zero, Int.natCast_one, true_implies, implies_true, not_true_eq_false, not_false_eq_true, ne_eq, eq_self, true_or, or_true, or_false, false_or, and_self, Int.reduceNeg, Int.reduceLE, Int.reduceLT, Int.reduceEq, Int.reduceAdd, Int.reduceSub, Int.reduceMul, Int.reduceNe, Nat.reduceAdd, Nat.reduceSub, Nat.reduceLeDiff, Nat.reduceLT, Nat.reduceEqDiff, Int.reduceToNat, Int.reduceNatCast, Int.reduceTDiv, Int.reduceTMod, false_implies, false_and, and_false, reduceIte, ite_true, ite_false]
    refine q_measure (fSP h f1) hq (hBL.bt hq) hK1 (fun g2 f2 l2 t2 k2 => ?_)
    have F2 : FrB g g2 := f1.tr fun p x h1 h2 h3 h4 h5 => f2 p x h2 h3 (by omega)
    have hM2 : MD g2 q (stQ q b lean) (tkQ q e) := ⟨fSP g2 F2, fTK g2 F2, l2, t2, k2⟩
    simp only [vI_i, vJ_l, isI_i, isR_r, isR_c, aN_s, isA_s, okS_0, okS_s, isL_i, isL_l, isL_r, szV_i, szV_l, szV_r, szS_n, szS_c, pops_0, pops_s, icm_eq, icm_ne, icm_lt, icm_ge, icm_gt, icm_le, aG_s, oG_s, u_nil, v_aload0, u_astore0, u_astorec0, v_iload0, u_istore0, v_lload0, u_lstore0, v_aload1, u_astore1, u_astorec1, v_iload1, u_istore1, v_lload1, u_lstore1, v_aload2, u_astore2, u_astorec2, v_iload2, u_istore2, v_lload2, u_lstore2, v_aload3, u_astore3, u_astorec3, v_iload3, u_istore3, v_lload3, u_lstore3, v_aload, u_astore, v_iload, u_istore, v_lload, u_lstore, u_iconst, u_bipush, u_sipush, u_ldc, u_ldcs, u_ldc2, v_iinc, u_iadd, u_isub, u_imul, u_iand, u_idiv, u_irem, u_ineg, u_ladd, u_lmul, u_ldiv, u_lrem, u_lcmp, u_i2l, u_l2i, u_dup, u_dup2, u_pop, u_if, u_icmp, u_goto, u_switch, u_getf0, u_getf2, u_getf1, u_putf0, u_putf2, u_putf1, u_getst, v_iald, u_ialdc, v_iast, u_alen, u_newa, u_new, u_virt, u_spec, u_stat, w_iret, w_zret, u_lret, u_aret, u_vret, cV_s, cS_s, wc_v, wc_i, wc_s, vc_copy, uc_copyc, uc_min, uc_max, uc_abs, uc_char, uc_obj, gl_0, gl_s, sl_0, sl_s, wA, wR, wK, ceW_1, ceN_2, ceN_3, ceN_4, ceN_5, ceN_6, ceN_7, ceN_8, c_t, bu, QW_w, true_and, and_true, Bool.not_false, Option.toList_some, Option.toList_none, List.cons_append, List.nil_append, List.singleton_append, Int.cast_ofNat_Int, Int.natCast_zero, Int.natCast_one, true_implies, implies_true, not_true_eq_false, not_false_eq_true, ne_eq, eq_self, true_or, or_true, or_false, false_or, and_self, Int.reduceNeg, Int.reduceLE, Int.reduceLT, Int.reduceEq, Int.reduceAdd, Int.reduceSub, Int.reduceMul, Int.reduceNe, Nat.reduceAdd, Nat.reduceSub, Nat.reduceLeDiff, Nat.reduceLT, Nat.reduceEqDiff, Int.reduceToNat, Int.reduceNatCast, Int.reduceTDiv, Int.reduceTMod, false_implies, false_and, and_false, reduceIte, ite_true, ite_false]
    refine q_weighBehind (fTK g2 F2) hq hBL (fun b' lean' e' i' a1 a2 a3 => fOW g2 F2 b' lean' e' i' (by omega) a2 a3) (fun g3 f3 y3 => ?_)
    have F3 : FrB g g3 := F2.tr fun p x h1 h2 h3 h4 h5 => f3 p x h4
    have hM3 := hM2.b f3
    rw [show (q.2.2.1 0 - 1 - b).toNat = m by omega] at y3
    have hX3 : TbL g3 q.1 (bT q) (bcQ q (stQ q b lean) (tkQ q e)) := bar_tab hM3.1 hq (fun _ => Or.inl hw) hM3.2.2.1 hM3.2.2.2.1
    simp only [vI_i, vJ_l, isI_i, isR_r, isR_c, aN_s, isA_s, okS_0, okS_s, isL_i, isL_l, isL_r, szV_i, szV_l, szV_r, szS_n, szS_c, pops_0, pops_s, icm_eq, icm_ne, icm_lt, icm_ge, icm_gt, icm_le, aG_s, oG_s, u_nil, v_aload0, u_astore0, u_astorec0, v_iload0, u_istore0, v_lload0, u_lstore0, v_aload1, u_astore1, u_astorec1, v_iload1, u_istore1, v_lload1, u_lstore1, v_aload2, u_astore2, u_astorec2, v_iload2, u_istore2, v_lload2, u_lstore2, v_aload3, u_astore3, u_astorec3, v_iload3, u_istore3, v_lload3, u_lstore3, v_aload, u_astore, v_iload, u_istore, v_lload, u_lstore, u_iconst, u_bipush, u_sipush, u_ldc, u_ldcs, u_ldc2, v_iinc, u_iadd, u_isub, u_imul, u_iand, u_idiv, u_irem, u_ineg, u_ladd, u_lmul, u_ldiv, u_lrem, u_lcmp, u_i2l, u_l2i, u_dup, u_dup2, u_pop, u_if, u_icmp, u_goto, u_switch, u_getf0, u_getf2, u_getf1, u_putf0, u_putf2, u_putf1, u_getst, v_iald, u_ialdc, v_iast, u_alen, u_newa, u_new, u_virt, u_spec, u_stat, w_iret, w_zret, u_lret, u_aret, u_vret, cV_s, cS_s, wc_v, wc_i, wc_s, vc_copy, uc_copyc, uc_min, uc_max, uc_abs, uc_char, uc_obj, gl_0, gl_s, sl_0, sl_s, wA, wR, wK, ceW_1, ceN_2, ceN_3, ceN_4, ceN_5, ceN_6, ceN_7, ceN_8, c_t, bu, QW_w, true_and, and_true, Bool.not_false, Option.toList_some, Option.toList_none, List.cons_append, List.nil_append, List.singleton_append, Int.cast_ofNat_Int, Int.natCast_zero, Int.natCast_one, true_implies, implies_true, not_true_eq_false, not_false_eq_true, ne_eq, eq_self, true_or, or_true, or_false, false_or, and_self, Int.reduceNeg, Int.reduceLE, Int.reduceLT, Int.reduceEq, Int.reduceAdd, Int.reduceSub, Int.reduceMul, Int.reduceNe, Nat.reduceAdd, Nat.reduceSub, Nat.reduceLeDiff, Nat.reduceLT, Nat.reduceEqDiff, Int.reduceToNat, Int.reduceNatCast, Int.reduceTDiv, Int.reduceTMod, false_implies, false_and, and_false, reduceIte, ite_true, ite_false]
    refine q_fewest (m := m) hM3.2.1 hq (fOW g3 F3) hBL (by omega) hI hX3 y3 ?_
    generalize hj : pkJ q m (stQ q b lean) (tkQ q e) i = j at *
    simp only [vI_i, vJ_l, isI_i, isR_r, isR_c, aN_s, isA_s, okS_0, okS_s, isL_i, isL_l, isL_r, szV_i, szV_l, szV_r, szS_n, szS_c, pops_0, pops_s, icm_eq, icm_ne, icm_lt, icm_ge, icm_gt, icm_le, aG_s, oG_s, u_nil, v_aload0, u_astore0, u_astorec0, v_iload0, u_istore0, v_lload0, u_lstore0, v_aload1, u_astore1, u_astorec1, v_iload1, u_istore1, v_lload1, u_lstore1, v_aload2, u_astore2, u_astorec2, v_iload2, u_istore2, v_lload2, u_lstore2, v_aload3, u_astore3, u_astorec3, v_iload3, u_istore3, v_lload3, u_lstore3, v_aload, u_astore, v_iload, u_istore, v_lload, u_lstore, u_iconst, u_bipush, u_sipush, u_ldc, u_ldcs, u_ldc2, v_iinc, u_iadd, u_isub, u_imul, u_iand, u_idiv, u_irem, u_ineg, u_ladd, u_lmul, u_ldiv, u_lrem, u_lcmp, u_i2l, u_l2i, u_dup, u_dup2, u_pop, u_if, u_icmp, u_goto, u_switch, u_getf0, u_getf2, u_getf1, u_putf0, u_putf2, u_putf1, u_getst, v_iald, u_ialdc, v_iast, u_alen, u_newa, u_new, u_virt, u_spec, u_stat, w_iret, w_zret, u_lret, u_aret, u_vret, cV_s, cS_s, wc_v, wc_i, wc_s, vc_copy, uc_copyc, uc_min, uc_max, uc_abs, uc_char, uc_obj, gl_0, gl_s, sl_0, sl_s, wA, wR, wK, ceW_1, ceN_2, ceN_3, ceN_4, ceN_5, ceN_6, ceN_7, ceN_8, c_t, bu, QW_w, true_and, and_true, Bool.not_false, Option.toList_some, Option.toList_none, List.cons_append, List.nil_append, List.singleton_append, Int.cast_ofNat_Int, Int.natCast_zero, Int.natCast_one, true_implies, implies_true, not_true_eq_false, not_false_eq_true, ne_eq, eq_self, true_or, or_true, or_false, false_or, and_self, Int.reduceNeg, Int.reduceLE, Int.reduceLT, Int.reduceEq, Int.reduceAdd, Int.reduceSub, Int.reduceMul, Int.reduceNe, Nat.reduceAdd, Nat.reduceSub, Nat.reduceLeDiff, Nat.reduceLT, Nat.reduceEqDiff, Int.reduceToNat, Int.reduceNatCast, Int.reduceTDiv, Int.reduceTMod, false_implies, false_and, and_false, reduceIte, ite_true, ite_false]
    refine q_beginOf hM3.2.1 hq b1 b2 ?_
    simp only [vI_i, vJ_l, isI_i, isR_r, isR_c, aN_s, isA_s, okS_0, okS_s, isL_i, isL_l, isL_r, szV_i, szV_l, szV_r, szS_n, szS_c, pops_0, pops_s, icm_eq, icm_ne, icm_lt, icm_ge, icm_gt, icm_le, aG_s, oG_s, u_nil, v_aload0, u_astore0, u_astorec0, v_iload0, u_istore0, v_lload0, u_lstore0, v_aload1, u_astore1, u_astorec1, v_iload1, u_istore1, v_lload1, u_lstore1, v_aload2, u_astore2, u_astorec2, v_iload2, u_istore2, v_lload2, u_lstore2, v_aload3, u_astore3, u_astorec3, v_iload3, u_istore3, v_lload3, u_lstore3, v_aload, u_astore, v_iload, u_istore, v_lload, u_lstore, u_iconst, u_bipush, u_sipush, u_ldc, u_ldcs, u_ldc2, v_iinc, u_iadd, u_isub, u_imul, u_iand, u_idiv, u_irem, u_ineg, u_ladd, u_lmul, u_ldiv, u_lrem, u_lcmp, u_i2l, u_l2i, u_dup, u_dup2, u_pop, u_if, u_icmp, u_goto, u_switch, u_getf0, u_getf2, u_getf1, u_putf0, u_putf2, u_putf1, u_getst, v_iald, u_ialdc, v_iast, u_alen, u_newa, u_new, u_virt, u_spec, u_stat, w_iret, w_zret, u_lret, u_aret, u_vret, cV_s, cS_s, wc_v, wc_i, wc_s, vc_copy, uc_copyc, uc_min, uc_max, uc_abs, uc_char, uc_obj, gl_0, gl_s, sl_0, sl_s, wA, wR, wK, ceW_1, ceN_2, ceN_3, ceN_4, ceN_5, ceN_6, ceN_7, ceN_8, c_t, bu, QW_w, true_and, and_true, Bool.not_false, Option.toList_some, Option.toList_none, List.cons_append, List.nil_append, List.singleton_append, Int.cast_ofNat_Int, Int.natCast_zero, Int.natCast_one, true_implies, implies_true, not_true_eq_false, not_false_eq_true, ne_eq, eq_self, true_or, or_true, or_false, false_or, and_self, Int.reduceNeg, Int.reduceLE, Int.reduceLT, Int.reduceEq, Int.reduceAdd, Int.reduceSub, Int.reduceMul, Int.reduceNe, Nat.reduceAdd, Nat.reduceSub, Nat.reduceLeDiff, Nat.reduceLT, Nat.reduceEqDiff, Int.reduceToNat, Int.reduceNatCast, Int.reduceTDiv, Int.reduceTMod, false_implies, false_and, and_false, reduceIte, ite_true, ite_false]
    refine q_ticksOf hM3.2.1 hq b3 ?_
    simp only [vI_i, vJ_l, isI_i, isR_r, isR_c, aN_s, isA_s, okS_0, okS_s, isL_i, isL_l, isL_r, szV_i, szV_l, szV_r, szS_n, szS_c, pops_0, pops_s, icm_eq, icm_ne, icm_lt, icm_ge, icm_gt, icm_le, aG_s, oG_s, u_nil, v_aload0, u_astore0, u_astorec0, v_iload0, u_istore0, v_lload0, u_lstore0, v_aload1, u_astore1, u_astorec1, v_iload1, u_istore1, v_lload1, u_lstore1, v_aload2, u_astore2, u_astorec2, v_iload2, u_istore2, v_lload2, u_lstore2, v_aload3, u_astore3, u_astorec3, v_iload3, u_istore3, v_lload3, u_lstore3, v_aload, u_astore, v_iload, u_istore, v_lload, u_lstore, u_iconst, u_bipush, u_sipush, u_ldc, u_ldcs, u_ldc2, v_iinc, u_iadd, u_isub, u_imul, u_iand, u_idiv, u_irem, u_ineg, u_ladd, u_lmul, u_ldiv, u_lrem, u_lcmp, u_i2l, u_l2i, u_dup, u_dup2, u_pop, u_if, u_icmp, u_goto, u_switch, u_getf0, u_getf2, u_getf1, u_putf0, u_putf2, u_putf1, u_getst, v_iald, u_ialdc, v_iast, u_alen, u_newa, u_new, u_virt, u_spec, u_stat, w_iret, w_zret, u_lret, u_aret, u_vret, cV_s, cS_s, wc_v, wc_i, wc_s, vc_copy, uc_copyc, uc_min, uc_max, uc_abs, uc_char, uc_obj, gl_0, gl_s, sl_0, sl_s, wA, wR, wK, ceW_1, ceN_2, ceN_3, ceN_4, ceN_5, ceN_6, ceN_7, ceN_8, c_t, bu, QW_w, true_and, and_true, Bool.not_false, Option.toList_some, Option.toList_none, List.cons_append, List.nil_append, List.singleton_append, Int.cast_ofNat_Int, Int.natCast_zero, Int.natCast_one, true_implies, implies_true, not_true_eq_false, not_false_eq_true, ne_eq, eq_self, true_or, or_true, or_false, false_or, and_self, Int.reduceNeg, Int.reduceLE, Int.reduceLT, Int.reduceEq, Int.reduceAdd, Int.reduceSub, Int.reduceMul, Int.reduceNe, Nat.reduceAdd, Nat.reduceSub, Nat.reduceLeDiff, Nat.reduceLT, Nat.reduceEqDiff, Int.reduceToNat, Int.reduceNatCast, Int.reduceTDiv, Int.reduceTMod, false_implies, false_and, and_false, reduceIte, ite_true, ite_false]
    have hn := hq.1
    have R3 : RelS g3 W (b - 1) i := R1.fr fun p x a1 a2 => by rw [f3 p x (by omega), f2 p x (by omega) (by omega) (by omega)]
    refine q_beginBar (be := tkQ q be) b1 R3 (hBL.bt hq) ⟨hi.1, j1, by omega⟩ (fun g4 R4 f4 => ?_)
    have F4 := F3.tr (FrB.y f4)
    have hM4 := hM3.fr f4
    have e7 : g4 16 7 = q.2.2.2.1 := hM4.2.1.1.2.2.2.1
    have hv := hq.2.2.2.1
    generalize hab : (if 0 ≤ e - be then e - be else be - e) = ab
    have hab2 : 0 ≤ ab ∧ ab ≤ 2 := by rw [← hab]; split <;> omega
    have w1 : wr (e - be) = e - be := wr_of (by omega) (by omega)
    have w2 : iab (e - be) = ab := by
      unfold iab
      rw [← hab]
      split
      · rfl
      · rw [wr_of (by omega) (by omega)]; omega
    have l1 : 0 ≤ ab * q.2.2.2.1 := Int.mul_nonneg hab2.1 hv.1
    have l2' : ab * q.2.2.2.1 ≤ 2 * 24 := Int.mul_le_mul hab2.2 hv.2 hv.1 (by omega)
    have w3 : wr (ab * q.2.2.2.1) = ab * q.2.2.2.1 := wr_of (by omega) (by omega)
    have hx : ab * q.2.2.2.1 = if tkQ q e < tkQ q be then tkQ q be - tkQ q e else tkQ q e - tkQ q be := by
      rw [← hab]
      unfold tkQ
      have he : e = -1 ∨ e = 0 ∨ e = 1 := by omega
      have hb' : be = -1 ∨ be = 0 ∨ be = 1 := by omega
      rcases he with rfl | rfl | rfl <;> rcases hb' with rfl | rfl | rfl <;> simp <;> split <;> omega
    simp only [vI_i, vJ_l, isI_i, isR_r, isR_c, aN_s, isA_s, okS_0, okS_s, isL_i, isL_l, isL_r, szV_i, szV_l, szV_r, szS_n, szS_c, pops_0, pops_s, icm_eq, icm_ne, icm_lt, icm_ge, icm_gt, icm_le, aG_s, oG_s, u_nil, v_aload0, u_astore0, u_astorec0, v_iload0, u_istore0, v_lload0, u_lstore0, v_aload1, u_astore1, u_astorec1, v_iload1, u_istore1, v_lload1, u_lstore1, v_aload2, u_astore2, u_astorec2, v_iload2, u_istore2, v_lload2, u_lstore2, v_aload3, u_astore3, u_astorec3, v_iload3, u_istore3, v_lload3, u_lstore3, v_aload, u_astore, v_iload, u_istore, v_lload, u_lstore, u_iconst, u_bipush, u_sipush, u_ldc, u_ldcs, u_ldc2, v_iinc, u_iadd, u_isub, u_imul, u_iand, u_idiv, u_irem, u_ineg, u_ladd, u_lmul, u_ldiv, u_lrem, u_lcmp, u_i2l, u_l2i, u_dup, u_dup2, u_pop, u_if, u_icmp, u_goto, u_switch, u_getf0, u_getf2, u_getf1, u_putf0, u_putf2, u_putf1, u_getst, v_iald, u_ialdc, v_iast, u_alen, u_newa, u_new, u_virt, u_spec, u_stat, w_iret, w_zret, u_lret, u_aret, u_vret, cV_s, cS_s, wc_v, wc_i, wc_s, vc_copy, uc_copyc, uc_min, uc_max, uc_abs, uc_char, uc_obj, gl_0, gl_s, sl_0, sl_s, wA, wR, wK, ceW_1, ceN_2, ceN_3, ceN_4, ceN_5, ceN_6, ceN_7, ceN_8, c_t, bu, QW_w, true_and, and_true, Bool.not_false, Option.toList_some, Option.toList_none, List.cons_append, List.nil_append, List.singleton_append, Int.cast_ofNat_Int, Int.natCast_zero, Int.natCast_one, true_implies, implies_true, not_true_eq_false, not_false_eq_true, ne_eq, eq_self, true_or, or_true, or_false, false_or, and_self, Int.reduceNeg, Int.reduceLE, Int.reduceLT, Int.reduceEq, Int.reduceAdd, Int.reduceSub, Int.reduceMul, Int.reduceNe, Nat.reduceAdd, Nat.reduceSub, Nat.reduceLeDiff, Nat.reduceLT, Nat.reduceEqDiff, Int.reduceToNat, Int.reduceNatCast, Int.reduceTDiv, Int.reduceTMod, false_implies, false_and, and_false, reduceIte, ite_true, ite_false, w1, w2, e7, w3]
    refine q_change R4 hx (fun g5 R5 f5 => ?_)
    have F5 := F4.tr (FrB.y f5)
    have hM5 := hM4.fr f5
    simp only [vI_i, vJ_l, isI_i, isR_r, isR_c, aN_s, isA_s, okS_0, okS_s, isL_i, isL_l, isL_r, szV_i, szV_l, szV_r, szS_n, szS_c, pops_0, pops_s, icm_eq, icm_ne, icm_lt, icm_ge, icm_gt, icm_le, aG_s, oG_s, u_nil, v_aload0, u_astore0, u_astorec0, v_iload0, u_istore0, v_lload0, u_lstore0, v_aload1, u_astore1, u_astorec1, v_iload1, u_istore1, v_lload1, u_lstore1, v_aload2, u_astore2, u_astorec2, v_iload2, u_istore2, v_lload2, u_lstore2, v_aload3, u_astore3, u_astorec3, v_iload3, u_istore3, v_lload3, u_lstore3, v_aload, u_astore, v_iload, u_istore, v_lload, u_lstore, u_iconst, u_bipush, u_sipush, u_ldc, u_ldcs, u_ldc2, v_iinc, u_iadd, u_isub, u_imul, u_iand, u_idiv, u_irem, u_ineg, u_ladd, u_lmul, u_ldiv, u_lrem, u_lcmp, u_i2l, u_l2i, u_dup, u_dup2, u_pop, u_if, u_icmp, u_goto, u_switch, u_getf0, u_getf2, u_getf1, u_putf0, u_putf2, u_putf1, u_getst, v_iald, u_ialdc, v_iast, u_alen, u_newa, u_new, u_virt, u_spec, u_stat, w_iret, w_zret, u_lret, u_aret, u_vret, cV_s, cS_s, wc_v, wc_i, wc_s, vc_copy, uc_copyc, uc_min, uc_max, uc_abs, uc_char, uc_obj, gl_0, gl_s, sl_0, sl_s, wA, wR, wK, ceW_1, ceN_2, ceN_3, ceN_4, ceN_5, ceN_6, ceN_7, ceN_8, c_t, bu, QW_w, true_and, and_true, Bool.not_false, Option.toList_some, Option.toList_none, List.cons_append, List.nil_append, List.singleton_append, Int.cast_ofNat_Int, Int.natCast_zero, Int.natCast_one, true_implies, implies_true, not_true_eq_false, not_false_eq_true, ne_eq, eq_self, true_or, or_true, or_false, false_or, and_self, Int.reduceNeg, Int.reduceLE, Int.reduceLT, Int.reduceEq, Int.reduceAdd, Int.reduceSub, Int.reduceMul, Int.reduceNe, Nat.reduceAdd, Nat.reduceSub, Nat.reduceLeDiff, Nat.reduceLT, Nat.reduceEqDiff, Int.reduceToNat, Int.reduceNatCast, Int.reduceTDiv, Int.reduceTMod, false_implies, false_and, and_false, reduceIte, ite_true, ite_false]
    refine q_barTable hM5.2.1 hq ?_
    simp only [vI_i, vJ_l, isI_i, isR_r, isR_c, aN_s, isA_s, okS_0, okS_s, isL_i, isL_l, isL_r, szV_i, szV_l, szV_r, szS_n, szS_c, pops_0, pops_s, icm_eq, icm_ne, icm_lt, icm_ge, icm_gt, icm_le, aG_s, oG_s, u_nil, v_aload0, u_astore0, u_astorec0, v_iload0, u_istore0, v_lload0, u_lstore0, v_aload1, u_astore1, u_astorec1, v_iload1, u_istore1, v_lload1, u_lstore1, v_aload2, u_astore2, u_astorec2, v_iload2, u_istore2, v_lload2, u_lstore2, v_aload3, u_astore3, u_astorec3, v_iload3, u_istore3, v_lload3, u_lstore3, v_aload, u_astore, v_iload, u_istore, v_lload, u_lstore, u_iconst, u_bipush, u_sipush, u_ldc, u_ldcs, u_ldc2, v_iinc, u_iadd, u_isub, u_imul, u_iand, u_idiv, u_irem, u_ineg, u_ladd, u_lmul, u_ldiv, u_lrem, u_lcmp, u_i2l, u_l2i, u_dup, u_dup2, u_pop, u_if, u_icmp, u_goto, u_switch, u_getf0, u_getf2, u_getf1, u_putf0, u_putf2, u_putf1, u_getst, v_iald, u_ialdc, v_iast, u_alen, u_newa, u_new, u_virt, u_spec, u_stat, w_iret, w_zret, u_lret, u_aret, u_vret, cV_s, cS_s, wc_v, wc_i, wc_s, vc_copy, uc_copyc, uc_min, uc_max, uc_abs, uc_char, uc_obj, gl_0, gl_s, sl_0, sl_s, wA, wR, wK, ceW_1, ceN_2, ceN_3, ceN_4, ceN_5, ceN_6, ceN_7, ceN_8, c_t, bu, QW_w, true_and, and_true, Bool.not_false, Option.toList_some, Option.toList_none, List.cons_append, List.nil_append, List.singleton_append, Int.cast_ofNat_Int, Int.natCast_zero, Int.natCast_one, true_implies, implies_true, not_true_eq_false, not_false_eq_true, ne_eq, eq_self, true_or, or_true, or_false, false_or, and_self, Int.reduceNeg, Int.reduceLE, Int.reduceLT, Int.reduceEq, Int.reduceAdd, Int.reduceSub, Int.reduceMul, Int.reduceNe, Nat.reduceAdd, Nat.reduceSub, Nat.reduceLeDiff, Nat.reduceLT, Nat.reduceEqDiff, Int.reduceToNat, Int.reduceNatCast, Int.reduceTDiv, Int.reduceTMod, false_implies, false_and, and_false, reduceIte, ite_true, ite_false]
    have hsp : spQ q (stQ q b lean) (tkQ q e) (dq q) 0 216 i j < fa := by
      have hc := FQ_cap hq m (stQ q b lean + tkQ q e) (tkQ q e) j
      have ebc : bcQ q (stQ q b lean) (tkQ q e) i j = spQ q (stQ q b lean) (tkQ q e) (dq q) 0 216 i j := by
        unfold bcQ spQ
        rw [hw, brC_fr (lfQ_cap hq _ _) j1, show dq q = dpQ q by unfold dq; rw [if_neg (by omega)]]
      omega
    have hlen := wrS_49 (lf := lfQ q (stQ q b lean) (tkQ q e)) (p := prQ q) (r := dq q) (a := 0) (s := 216) (v := 0) (i := i) (j := j) (fun a i => lfc_0) (fun r a s => spQ_cap hq _ _ r a s) hD j1 (by omega)
    have ws := ws_all (G := G) (q := q) (b := b) hq hw (hBL.bt hq) (dq q) (d + (3 - dq q)) g5 (chgW (begW W b (stQ q b lean) (tkQ q e) (tkQ q be) i j) (tkQ q e) (tkQ q be)) (bT q) 0 216 0 i j
    rw [show d + (3 - dq q) + dq q + 3 = d + 6 by omega] at ws
    refine ws _ hM5 (bar_NT hq hM5) R5 j1 hi.1 j2 (by omega) (Int.le_refl _) ?_ ?_ ?_ hsp (fun g6 R6 f6 => ?_)
    · show (if 9 * b ≤ 9 * b ∧ 9 * b < 9 * b + 9 then (if 9 * b = 9 * b then tkQ q e else _) else _) = _
      rw [if_pos (by omega), if_pos rfl]
    · show (if 9 * b ≤ 9 * b + 1 ∧ 9 * b + 1 < 9 * b + 9 then (if 9 * b + 1 = 9 * b then tkQ q e else if 9 * b + 1 = 9 * b + 1 then stQ q b lean else _) else _) = _
      rw [if_pos (by omega), if_neg (by omega), if_pos rfl]
    · show upI W.2.2.2.2 b 0 b + _ ≤ 60
      rw [upI_eq]; omega
    have w4 : wr (lean + e) = lean + e := wr_of (by omega) (by omega)
    have w5 : wr (b + 1) = b + 1 := wr_of (by omega) (by omega)
    simp only [vI_i, vJ_l, isI_i, isR_r, isR_c, aN_s, isA_s, okS_0, okS_s, isL_i, isL_l, isL_r, szV_i, szV_l, szV_r, szS_n, szS_c, pops_0, pops_s, icm_eq, icm_ne, icm_lt, icm_ge, icm_gt, icm_le, aG_s, oG_s, u_nil, v_aload0, u_astore0, u_astorec0, v_iload0, u_istore0, v_lload0, u_lstore0, v_aload1, u_astore1, u_astorec1, v_iload1, u_istore1, v_lload1, u_lstore1, v_aload2, u_astore2, u_astorec2, v_iload2, u_istore2, v_lload2, u_lstore2, v_aload3, u_astore3, u_astorec3, v_iload3, u_istore3, v_lload3, u_lstore3, v_aload, u_astore, v_iload, u_istore, v_lload, u_lstore, u_iconst, u_bipush, u_sipush, u_ldc, u_ldcs, u_ldc2, v_iinc, u_iadd, u_isub, u_imul, u_iand, u_idiv, u_irem, u_ineg, u_ladd, u_lmul, u_ldiv, u_lrem, u_lcmp, u_i2l, u_l2i, u_dup, u_dup2, u_pop, u_if, u_icmp, u_goto, u_switch, u_getf0, u_getf2, u_getf1, u_putf0, u_putf2, u_putf1, u_getst, v_iald, u_ialdc, v_iast, u_alen, u_newa, u_new, u_virt, u_spec, u_stat, w_iret, w_zret, u_lret, u_aret, u_vret, cV_s, cS_s, wc_v, wc_i, wc_s, vc_copy, uc_copyc, uc_min, uc_max, uc_abs, uc_char, uc_obj, gl_0, gl_s, sl_0, sl_s, wA, wR, wK, ceW_1, ceN_2, ceN_3, ceN_4, ceN_5, ceN_6, ceN_7, ceN_8, c_t, bu, QW_w, true_and, and_true, Bool.not_false, Option.toList_some, Option.toList_none, List.cons_append, List.nil_append, List.singleton_append, Int.cast_ofNat_Int, Int.natCast_zero, Int.natCast_one, true_implies, implies_true, not_true_eq_false, not_false_eq_true, ne_eq, eq_self, true_or, or_true, or_false, false_or, and_self, Int.reduceNeg, Int.reduceLE, Int.reduceLT, Int.reduceEq, Int.reduceAdd, Int.reduceSub, Int.reduceMul, Int.reduceNe, Nat.reduceAdd, Nat.reduceSub, Nat.reduceLeDiff, Nat.reduceLT, Nat.reduceEqDiff, Int.reduceToNat, Int.reduceNatCast, Int.reduceTDiv, Int.reduceTMod, false_implies, false_and, and_false, reduceIte, ite_true, ite_false, w4, w5]
    have F6 := F5.tr (FrB.y f6)
    refine ih (b + 1) (lean + e) e j g6 (flW q (stQ q b lean) (tkQ q e) b (chgW (begW W b (stQ q b lean) (tkQ q e) (tkQ q be) i j) (tkQ q e) (tkQ q be)) (wrS (lfQ q (stQ q b lean) (tkQ q e)) (prQ q) (dq q) 0 216 0 i j)) _ _ (by omega) (by omega) ?_ b3 (fun z => by omega) ⟨by omega, j2⟩ ?_ F6 ?_ (fun g' R' f' => hQ g' ?_ f')
    · have := hBL.2
      rw [Int.add_mul, Int.one_mul]
      omega
    · rw [← st_add]
      have hbc := bcQ_cap hq (stQ q b lean) (tkQ q e) i j j1
      omega
    · rw [show b + 1 - 1 = b by omega]; exact R6.s
    · have hpk : pkL q (m + 1) (stQ q b lean) (tkQ q be) i = (tkQ q e, j) :: pkL q m (stQ q b lean + tkQ q e) (tkQ q e) j := by
        show (pkT q m _ _ _, pkJ q m _ (pkT q m _ _ _) _) :: _ = _
        rw [← hT, hj]
      rw [hpk]
      show RelS g' (brW q (pkL q m (stQ q b lean + tkQ q e) (tkQ q e) j) (b + 1) (stQ q b lean + tkQ q e) (tkQ q e) j _) _ _
      rw [st_add]
      exact R'
/-- the best writing of a score -/
noncomputable def bsW (q : Qe) : Wr := brW q (pkL q (q.2.2.1 0).toNat 0 (q.2.2.1 1) 0) 0 0 (q.2.2.1 1) 0 W0
theorem q_writeBars (hq : QeOK q) (hw : q.2.2.2.2.1 = -1) (hS : SPOK g) (hK : TK g q) (hO : OW g q 0) (hF : lqQ q < fa) (h37 : ∀ x : Int, 0 ≤ x → x < 7 → g 37 x = 0)
    (hQ : ∀ g' : Nat → Int → Int, RelS g' (bsW q) (q.2.2.1 0 - 1) q.1 → FrB g g' → Q none (Mw g')) : Cg G (d + 7) 111 [vr 14, vr 34] (Mw g) Q := by
  have hB3 := hq.bars
  have e1 : stQ q 0 0 = 0 := by unfold stQ; omega
  have e2 : tkQ q 0 = q.2.2.1 1 := by unfold tkQ; omega
  have w0 : wr (0 : Int) = 0 := wr_of (by omega) (by omega)
  refine C_t (a := [vr 14, vr 34]) mo_111 rfl rfl (Nat.le_of_ble_eq_true rfl) ?_
  change Tg G _ (73, 42835) 111 0 [vr 14, vr 34, vc 0, vc 0, vc 0, vc 0, vc 0, vc 0] [] (Mw _) _
  refine T_b ok_X2_writeBars_0 ?_
  simp only [vI_i, vJ_l, isI_i, isR_r, isR_c, aN_s, isA_s, okS_0, okS_s, isL_i, isL_l, isL_r, szV_i, szV_l, szV_r, szS_n, szS_c, pops_0, pops_s, icm_eq, icm_ne, icm_lt, icm_ge, icm_gt, icm_le, aG_s, oG_s, u_nil, v_aload0, u_astore0, u_astorec0, v_iload0, u_istore0, v_lload0, u_lstore0, v_aload1, u_astore1, u_astorec1, v_iload1, u_istore1, v_lload1, u_lstore1, v_aload2, u_astore2, u_astorec2, v_iload2, u_istore2, v_lload2, u_lstore2, v_aload3, u_astore3, u_astorec3, v_iload3, u_istore3, v_lload3, u_lstore3, v_aload, u_astore, v_iload, u_istore, v_lload, u_lstore, u_iconst, u_bipush, u_sipush, u_ldc, u_ldcs, u_ldc2, v_iinc, u_iadd, u_isub, u_imul, u_iand, u_idiv, u_irem, u_ineg, u_ladd, u_lmul, u_ldiv, u_lrem, u_lcmp, u_i2l, u_l2i, u_dup, u_dup2, u_pop, u_if, u_icmp, u_goto, u_switch, u_getf0, u_getf2, u_getf1, u_putf0, u_putf2, u_putf1, u_getst, v_iald, u_ialdc, v_iast, u_alen, u_newa, u_new, u_virt, u_spec, u_stat, w_iret, w_zret, u_lret, u_aret, u_vret, cV_s, cS_s, wc_v, wc_i, wc_s, vc_copy, uc_copyc, uc_min, uc_max, uc_abs, uc_char, uc_obj, gl_0, gl_s, sl_0, sl_s, wA, wR, wK, ceW_1, ceN_2, ceN_3, ceN_4, ceN_5, ceN_6, ceN_7, ceN_8, c_t, bu, QW_w, true_and, and_true, Bool.not_false, Option.toList_some, Option.toList_none, List.cons_append, List.nil_append, List.singleton_append, Int.cast_ofNat_Int, Int.natCast_zero, Int.natCast_one, true_implies, implies_true, not_true_eq_false, not_false_eq_true, ne_eq, eq_self, true_or, or_true, or_false, false_or, and_self, Int.reduceNeg, Int.reduceLE, Int.reduceLT, Int.reduceEq, Int.reduceAdd, Int.reduceSub, Int.reduceMul, Int.reduceNe, Nat.reduceAdd, Nat.reduceSub, Nat.reduceLeDiff, Nat.reduceLT, Nat.reduceEqDiff, Int.reduceToNat, Int.reduceNatCast, Int.reduceTDiv, Int.reduceTMod, false_implies, false_and, and_false, reduceIte, ite_true, ite_false]
  refine bars_loop (g := g) hq hw hS hK hO (q.2.2.1 0).toNat 0 0 0 0 g W0 _ _ (by omega) (by omega) (by omega) (by omega) (fun _ => rfl) (by omega) ?_ FrB.rf ⟨fun x u v => absurd v (by omega), fun x u v => absurd v (by omega), fun x u v => h37 x u v, fun c u v => absurd v (by omega), fun x => w0, fun x => w0⟩ (fun g' R' f' => hQ g' ?_ f')
  · rw [e1, e2]; exact hF
  · rw [e1, e2] at R'; exact R'
theorem open_loop (hQ : ∀ h : Nat → Int → Int, (∀ p x, p ≠ 37 → h p x = g p x) → (∀ x : Int, 0 ≤ x → x < 7 → h 37 x = 0) → Q none (Mw h)) {c : Int} :
    ∀ (m k : Nat) (h : Nat → Int → Int), k + m = 7 → (∀ p x, p ≠ 37 → h p x = g p x) → (∀ x : Int, 0 ≤ x → x < k → h 37 x = 0) → Tg G d (73, 42835) 163 7 [vr 34, vi c, vi k] [] (Mw h) (QW Q) := by
  intro m
  induction m with
  | zero =>
    intro k h hk f1 f2
    obtain rfl : k = 7 := by omega
    refine T_b ok_X7_open_7 ?_
    simp only [vI_i, vJ_l, isI_i, isR_r, isR_c, aN_s, isA_s, okS_0, okS_s, isL_i, isL_l, isL_r, szV_i, szV_l, szV_r, szS_n, szS_c, pops_0, pops_s, icm_eq, icm_ne, icm_lt, icm_ge, icm_gt, icm_le, aG_s, oG_s, u_nil, v_aload0, u_astore0, u_astorec0, v_iload0, u_istore0, v_lload0, u_lstore0, v_aload1, u_astore1, u_astorec1, v_iload1, u_istore1, v_lload1, u_lstore1, v_aload2, u_astore2, u_astorec2, v_iload2, u_istore2, v_lload2, u_lstore2, v_aload3, u_astore3, u_astorec3, v_iload3, u_istore3, v_lload3, u_lstore3, v_aload, u_astore, v_iload, u_istore, v_lload, u_lstore, u_iconst, u_bipush, u_sipush, u_ldc, u_ldcs, u_ldc2, v_iinc, u_iadd, u_isub, u_imul, u_iand, u_idiv, u_irem, u_ineg, u_ladd, u_lmul, u_ldiv, u_lrem, u_lcmp, u_i2l, u_l2i, u_dup, u_dup2, u_pop, u_if, u_icmp, u_goto, u_switch, u_getf0, u_getf2, u_getf1, u_putf0, u_putf2, u_putf1, u_getst, v_iald, u_ialdc, v_iast, u_alen, u_newa, u_new, u_virt, u_spec, u_stat, w_iret, w_zret, u_lret, u_aret, u_vret, cV_s, cS_s, wc_v, wc_i, wc_s, vc_copy, uc_copyc, uc_min, uc_max, uc_abs, uc_char, uc_obj, gl_0, gl_s, sl_0, sl_s, wA, wR, wK, ceW_1, ceN_2, ceN_3, ceN_4, ceN_5, ceN_6, ceN_7, ceN_8, c_t, bu, QW_w, true_and, and_true, Bool.not_false, Option.toList_some, Option.toList_none, List.cons_append, List.nil_append, List.singleton_append, Int.cast_ofNat_Int, Int.natCast_zero, Int.natCast_one, true_implies, implies_true, not_true_eq_false, not_false_eq_true, ne_eq, eq_self, true_or, or_true, or_false, false_or, and_self, Int.reduceNeg, Int.reduceLE, Int.reduceLT, Int.reduceEq, Int.reduceAdd, Int.reduceSub, Int.reduceMul, Int.reduceNe, Nat.reduceAdd, Nat.reduceSub, Nat.reduceLeDiff, Nat.reduceLT, Nat.reduceEqDiff, Int.reduceToNat, Int.reduceNatCast, Int.reduceTDiv, Int.reduceTMod, false_implies, false_and, and_false, reduceIte, ite_true, ite_false]
    refine T_b ok_X7_open_26 ?_
    simp only [vI_i, vJ_l, isI_i, isR_r, isR_c, aN_s, isA_s, okS_0, okS_s, isL_i, isL_l, isL_r, szV_i, szV_l, szV_r, szS_n, szS_c, pops_0, pops_s, icm_eq, icm_ne, icm_lt, icm_ge, icm_gt, icm_le, aG_s, oG_s, u_nil, v_aload0, u_astore0, u_astorec0, v_iload0, u_istore0, v_lload0, u_lstore0, v_aload1, u_astore1, u_astorec1, v_iload1, u_istore1, v_lload1, u_lstore1, v_aload2, u_astore2, u_astorec2, v_iload2, u_istore2, v_lload2, u_lstore2, v_aload3, u_astore3, u_astorec3, v_iload3, u_istore3, v_lload3, u_lstore3, v_aload, u_astore, v_iload, u_istore, v_lload, u_lstore, u_iconst, u_bipush, u_sipush, u_ldc, u_ldcs, u_ldc2, v_iinc, u_iadd, u_isub, u_imul, u_iand, u_idiv, u_irem, u_ineg, u_ladd, u_lmul, u_ldiv, u_lrem, u_lcmp, u_i2l, u_l2i, u_dup, u_dup2, u_pop, u_if, u_icmp, u_goto, u_switch, u_getf0, u_getf2, u_getf1, u_putf0, u_putf2, u_putf1, u_getst, v_iald, u_ialdc, v_iast, u_alen, u_newa, u_new, u_virt, u_spec, u_stat, w_iret, w_zret, u_lret, u_aret, u_vret, cV_s, cS_s, wc_v, wc_i, wc_s, vc_copy, uc_copyc, uc_min, uc_max, uc_abs, uc_char, uc_obj, gl_0, gl_s, sl_0, sl_s, wA, wR, wK, ceW_1, ceN_2, ceN_3, ceN_4, ceN_5, ceN_6, ceN_7, ceN_8, c_t, bu, QW_w, true_and, and_true, Bool.not_false, Option.toList_some, Option.toList_none, List.cons_append, List.nil_append, List.singleton_append, Int.cast_ofNat_Int, Int.natCast_zero, Int.natCast_one, true_implies, implies_true, not_true_eq_false, not_false_eq_true, ne_eq, eq_self, true_or, or_true, or_false, false_or, and_self, Int.reduceNeg, Int.reduceLE, Int.reduceLT, Int.reduceEq, Int.reduceAdd, Int.reduceSub, Int.reduceMul, Int.reduceNe, Nat.reduceAdd, Nat.reduceSub, Nat.reduceLeDiff, Nat.reduceLT, Nat.reduceEqDiff, Int.reduceToNat, Int.reduceNatCast, Int.reduceTDiv, Int.reduceTMod, false_implies, false_and, and_false, reduceIte, ite_true, ite_false]
    exact hQ h f1 (fun x u v => f2 x u (by omega))
  | succ m ih =>
    intro k h hk f1 f2
    have w3 : wr ((k : Int) + 1) = ((k + 1 : Nat) : Int) := by rw [wr_of (by omega) (by omega)]; omega
    refine T_b ok_X7_open_7 ?_
    simp only [vI_i, vJ_l, isI_i, isR_r, isR_c, aN_s, isA_s, okS_0, okS_s, isL_i, isL_l, isL_r, szV_i, szV_l, szV_r, szS_n, szS_c, pops_0, pops_s, icm_eq, icm_ne, icm_lt, icm_ge, icm_gt, icm_le, aG_s, oG_s, u_nil, v_aload0, u_astore0, u_astorec0, v_iload0, u_istore0, v_lload0, u_lstore0, v_aload1, u_astore1, u_astorec1, v_iload1, u_istore1, v_lload1, u_lstore1, v_aload2, u_astore2, u_astorec2, v_iload2, u_istore2, v_lload2, u_lstore2, v_aload3, u_astore3, u_astorec3, v_iload3, u_istore3, v_lload3, u_lstore3, v_aload, u_astore, v_iload, u_istore, v_lload, u_lstore, u_iconst, u_bipush, u_sipush, u_ldc, u_ldcs, u_ldc2, v_iinc, u_iadd, u_isub, u_imul, u_iand, u_idiv, u_irem, u_ineg, u_ladd, u_lmul, u_ldiv, u_lrem, u_lcmp, u_i2l, u_l2i, u_dup, u_dup2, u_pop, u_if, u_icmp, u_goto, u_switch, u_getf0, u_getf2, u_getf1, u_putf0, u_putf2, u_putf1, u_getst, v_iald, u_ialdc, v_iast, u_alen, u_newa, u_new, u_virt, u_spec, u_stat, w_iret, w_zret, u_lret, u_aret, u_vret, cV_s, cS_s, wc_v, wc_i, wc_s, vc_copy, uc_copyc, uc_min, uc_max, uc_abs, uc_char, uc_obj, gl_0, gl_s, sl_0, sl_s, wA, wR, wK, ceW_1, ceN_2, ceN_3, ceN_4, ceN_5, ceN_6, ceN_7, ceN_8, c_t, bu, QW_w, true_and, and_true, Bool.not_false, Option.toList_some, Option.toList_none, List.cons_append, List.nil_append, List.singleton_append, Int.cast_ofNat_Int, Int.natCast_zero, Int.natCast_one, true_implies, implies_true, not_true_eq_false, not_false_eq_true, ne_eq, eq_self, true_or, or_true, or_false, false_or, and_self, Int.reduceNeg, Int.reduceLE, Int.reduceLT, Int.reduceEq, Int.reduceAdd, Int.reduceSub, Int.reduceMul, Int.reduceNe, Nat.reduceAdd, Nat.reduceSub, Nat.reduceLeDiff, Nat.reduceLT, Nat.reduceEqDiff, Int.reduceToNat, Int.reduceNatCast, Int.reduceTDiv, Int.reduceTMod, false_implies, false_and, and_false, reduceIte, ite_true, ite_false, w3]
    refine ⟨fun z => absurd z (by omega), fun _ => ⟨by omega, ih (k + 1) _ (by omega) (fun p x y => by rw [st_ne y]; exact f1 p x y) (fun x u v => ?_)⟩⟩
    by_cases e : x = k
    · rw [e, st_eq]
    · rw [st_ni e]; exact f2 x u (by omega)
theorem q_open {c : Int} (hQ : ∀ h : Nat → Int → Int, (∀ p x, p ≠ 37 → ¬ (p = 34 ∧ x = 0) → h p x = g p x) → h 34 0 = c → (∀ x : Int, 0 ≤ x → x < 7 → h 37 x = 0) → Q none (Mw h)) : Cg G d 163 [vr 34, vi c] (Mw g) Q := by
  refine C_t (a := [vr 34, vi c]) mo_163 rfl rfl (Nat.le_of_ble_eq_true rfl) ?_
  change Tg G _ (73, 42835) 163 0 [vr 34, vi c, vc 0] [] (Mw _) _
  refine T_b ok_X7_open_0 ?_
  simp only [vI_i, vJ_l, isI_i, isR_r, isR_c, aN_s, isA_s, okS_0, okS_s, isL_i, isL_l, isL_r, szV_i, szV_l, szV_r, szS_n, szS_c, pops_0, pops_s, icm_eq, icm_ne, icm_lt, icm_ge, icm_gt, icm_le, aG_s, oG_s, u_nil, v_aload0, u_astore0, u_astorec0, v_iload0, u_istore0, v_lload0, u_lstore0, v_aload1, u_astore1, u_astorec1, v_iload1, u_istore1, v_lload1, u_lstore1, v_aload2, u_astore2, u_astorec2, v_iload2, u_istore2, v_lload2, u_lstore2, v_aload3, u_astore3, u_astorec3, v_iload3, u_istore3, v_lload3, u_lstore3, v_aload, u_astore, v_iload, u_istore, v_lload, u_lstore, u_iconst, u_bipush, u_sipush, u_ldc, u_ldcs, u_ldc2, v_iinc, u_iadd, u_isub, u_imul, u_iand, u_idiv, u_irem, u_ineg, u_ladd, u_lmul, u_ldiv, u_lrem, u_lcmp, u_i2l, u_l2i, u_dup, u_dup2, u_pop, u_if, u_icmp, u_goto, u_switch, u_getf0, u_getf2, u_getf1, u_putf0, u_putf2, u_putf1, u_getst, v_iald, u_ialdc, v_iast, u_alen, u_newa, u_new, u_virt, u_spec, u_stat, w_iret, w_zret, u_lret, u_aret, u_vret, cV_s, cS_s, wc_v, wc_i, wc_s, vc_copy, uc_copyc, uc_min, uc_max, uc_abs, uc_char, uc_obj, gl_0, gl_s, sl_0, sl_s, wA, wR, wK, ceW_1, ceN_2, ceN_3, ceN_4, ceN_5, ceN_6, ceN_7, ceN_8, c_t, bu, QW_w, true_and, and_true, Bool.not_false, Option.toList_some, Option.toList_none, List.cons_append, List.nil_append, List.singleton_append, Int.cast_ofNat_Int, Int.natCast_zero, Int.natCast_one, true_implies, implies_true, not_true_eq_false, not_false_eq_true, ne_eq, eq_self, true_or, or_true, or_false, false_or, and_self, Int.reduceNeg, Int.reduceLE, Int.reduceLT, Int.reduceEq, Int.reduceAdd, Int.reduceSub, Int.reduceMul, Int.reduceNe, Nat.reduceAdd, Nat.reduceSub, Nat.reduceLeDiff, Nat.reduceLT, Nat.reduceEqDiff, Int.reduceToNat, Int.reduceNatCast, Int.reduceTDiv, Int.reduceTMod, false_implies, false_and, and_false, reduceIte, ite_true, ite_false]
  exact open_loop (g := st g 34 0 c) (fun h f1 f2 => hQ h (fun p x y z => (f1 p x y).trans (st_nq z)) ((f1 34 0 (by decide)).trans st_eq) f2) 7 0 _ (by omega) (fun _ _ _ => rfl) (fun x u v => absurd v (by omega))
/-- without the word of errors there is always a writing -/
theorem lsm_b {er gp : Int → Int} {i : Int} : ∀ {n : Nat}, (∀ k, i ≤ k → k < i + n → er k ≤ 600000) → (∀ k, i < k → k < i + n → gp k ≤ 21384) → lsm er gp i n ≤ 621384 * n
  | 0, _, _ => by show (0 : Int) ≤ _; omega
  | n + 1, he, hg => by
    have h1 := lsm_b (n := n) (fun k a b => he k a (by omega)) (fun k a b => hg k a (by omega))
    have h2 := he (i + n) (by omega) (by omega)
    show lsm er gp i n + er (i + n) + (if n = 0 then 0 else gp (i + n)) ≤ _
    by_cases e : n = 0
    · rw [if_pos e]; omega
    · rw [if_neg e]
      have h3 := hg (i + n) (by omega) (by omega)
      omega
theorem bc_lf (hq : QeOK q) (hw : q.2.2.2.2.1 = -1) {b T i j : Int} (h : i ≤ j) : bcQ q b T i j ≤ lfQ q b T 0 i j := by
  unfold bcQ
  rw [hw, brC_fr (lfQ_cap hq b T) h]
  cases dpQ q with
  | zero => exact Int.le_refl _
  | succ r => exact Int.min_le_left _ _
theorem chQ_0 {T : Int} : chQ q T T = 0 := by unfold chQ; rw [if_neg (by omega), Int.sub_self, Int.mul_zero]
theorem FQ_emp (hq : QeOK q) (hw : q.2.2.2.2.1 = -1) : ∀ (m : Nat) (st : Int), FQ q m st (q.2.2.1 1) q.1 ≤ 0
  | 0, st => by rw [FQ_0, if_pos rfl]; omega
  | m + 1, st => by
    have ih := FQ_emp hq hw m (st + q.2.2.1 1)
    have h1 := FQ_leT (q := q) (m := m) (st := st) (be := q.2.2.1 1) (i := q.1) (T := q.2.2.1 1) (Or.inr (Or.inl rfl))
    have h2 : owQ q m st (q.2.2.1 1) q.1 ≤ bcQ q st (q.2.2.1 1) q.1 q.1 + FQ q m (st + q.2.2.1 1) (q.2.2.1 1) q.1 := mn_le (Int.le_refl _) (by omega)
    have h3 := bc_lf hq hw (b := st) (T := q.2.2.1 1) (i := q.1) (j := q.1) (Int.le_refl _)
    have h4 : lfQ q st (q.2.2.1 1) 0 q.1 q.1 = 0 := lfc_0
    rw [chQ_0] at h1
    omega
theorem lqQ_lt (hq : QeOK q) (hw : q.2.2.2.2.1 = -1) (hx : q.2.2.2.2.2 = 0) : lqQ q < fa := by
  have hB := hq.bars
  have hL := hq.len
  have hn := hq.1
  have hf := fa_def
  unfold lqQ
  obtain ⟨m, hm⟩ : ∃ m, (q.2.2.1 0).toNat = m + 1 := ⟨(q.2.2.1 0).toNat - 1, by omega⟩
  rw [hm]
  have h1 := FQ_leT (q := q) (m := m) (st := 0) (be := q.2.2.1 1) (i := 0) (T := q.2.2.1 1) (Or.inr (Or.inl rfl))
  have h2 : owQ q m 0 (q.2.2.1 1) 0 ≤ bcQ q 0 (q.2.2.1 1) 0 q.1 + FQ q m (0 + q.2.2.1 1) (q.2.2.1 1) q.1 := mn_le (by omega) (by omega)
  have h3 := bc_lf hq hw (b := 0) (T := q.2.2.1 1) (i := 0) (j := q.1) (by omega)
  have h4 := FQ_emp hq hw m (0 + q.2.2.1 1)
  have h5 : lfQ q 0 (q.2.2.1 1) 0 0 q.1 ≤ 621384 * ((q.1 : Int) - 0).toNat := by
    unfold lfQ lfc
    refine Int.le_trans (Int.min_le_left _ _) (lsm_b (fun k a b => ?_) (fun k a b => (grQ_nn hq k).2))
    have := er0_le (t := q.2.1 k) (b := 0) (T := q.2.2.1 1) (a := 0) (hq.2.1 k a (by omega)) (by omega) (by omega) (by omega)
    unfold erQ
    rw [if_neg (by omega)]
    exact this
  rw [chQ_0] at h1
  omega
end CLBARS2
