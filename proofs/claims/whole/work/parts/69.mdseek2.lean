/-! THE REFERENCE: seeks, the least cost -/
section MDSEEK2
variable {G : Gx} {d : Nat} {g : Nat → Int → Int} {Q : Qx} {q : Qe}
def VA (q : Qe) (B : Nat) (l : List (Int × Int)) : Prop := ∃ w : Int, (w0Q q ≤ w ∧ w ≤ 2) ∧ P0 q B (tkQ q (w - 1)) l
theorem isT_w (hq : QeOK q) {w : Int} (h : w0Q q ≤ w ∧ w ≤ 2) : isT q (tkQ q (w - 1)) := by
  have hw0 := w0Q_in (q := q)
  have hw : w = 0 ∨ w = 1 ∨ w = 2 := by omega
  unfold isT tkQ
  rcases hw with rfl | rfl | rfl
  · left; omega
  · right; left; omega
  · right; right; omega
theorem w_isT {T : Int} (h : isT q T) : ∃ w : Int, (w0Q q ≤ w ∧ w ≤ 2) ∧ T = tkQ q (w - 1) := by
  unfold isT at h
  unfold w0Q tkQ
  by_cases hv : q.2.2.2.1 = 0
  · refine ⟨2, ?_, ?_⟩
    · rw [if_pos hv]; omega
    · rw [hv] at h ⊢; omega
  · rcases h with h | h | h
    · exact ⟨0, by rw [if_neg hv]; omega, by omega⟩
    · exact ⟨1, by rw [if_neg hv]; omega, by omega⟩
    · exact ⟨2, by rw [if_neg hv]; omega, by omega⟩
theorem VA_ok (hq : QeOK q) {B : Nat} (hB : 1 ≤ B ∧ B ≤ 3) {l : List (Int × Int)} (h : VA q B l) : okL q l 0 ∧ l.length = B := by
  obtain ⟨w, hw, w1, w2, hw1, hw2, a, b, a0, ab, bn, rfl⟩ := h
  have t0 := isT_w hq hw
  have t1 := isT_w hq hw1
  have t2 := isT_w hq hw2
  have hBc : B = 1 ∨ B = 2 ∨ B = 3 := by omega
  rcases hBc with rfl | rfl | rfl
  · exact ⟨⟨t0, by show (0 : Int) ≤ q.1; omega, Int.le_refl _, rfl⟩, rfl⟩
  · exact ⟨⟨t0, a0, by show a ≤ q.1; omega, t1, by show a ≤ q.1; omega, Int.le_refl _, rfl⟩, rfl⟩
  · exact ⟨⟨t0, a0, by show a ≤ q.1; omega, t1, ab, bn, t2, bn, Int.le_refl _, rfl⟩, rfl⟩
theorem ok_VA (hq : QeOK q) {B : Nat} (hB : 1 ≤ B ∧ B ≤ 3) {l : List (Int × Int)} (h : okL q l 0) (hl : l.length = B) : VA q B l := by
  have hw0 := w0Q_in (q := q)
  have hBc : B = 1 ∨ B = 2 ∨ B = 3 := by omega
  rcases hBc with rfl | rfl | rfl
  · match l, hl with
    | [x], _ =>
      obtain ⟨t0, -, -, e⟩ := h
      obtain ⟨w, hw, e0⟩ := w_isT t0
      have e' : x.2 = q.1 := e
      exact ⟨w, hw, w, w, hw, hw, 0, 0, Int.le_refl _, Int.le_refl _, by omega, by show [x] = [(_, _)]; rw [← e0, ← e']⟩
  · match l, hl with
    | [x, y], _ =>
      obtain ⟨t0, u0, v0, t1, u1, v1, e⟩ := h
      obtain ⟨w, hw, e0⟩ := w_isT t0
      obtain ⟨w1, hw1, e1⟩ := w_isT t1
      have e' : y.2 = q.1 := e
      exact ⟨w, hw, w1, w1, hw1, hw1, x.2, x.2, u0, Int.le_refl _, v0, by show [x, y] = [(_, _), (_, _)]; rw [← e0, ← e1, ← e']⟩
  · match l, hl with
    | [x, y, z], _ =>
      obtain ⟨t0, u0, v0, t1, u1, v1, t2, u2, v2, e⟩ := h
      obtain ⟨w, hw, e0⟩ := w_isT t0
      obtain ⟨w1, hw1, e1⟩ := w_isT t1
      obtain ⟨w2, hw2, e2⟩ := w_isT t2
      have e' : z.2 = q.1 := e
      exact ⟨w, hw, w1, w2, hw1, hw2, x.2, y.2, u0, u1, v1, by show [x, y, z] = [(_, _), (_, _), (_, _)]; rw [← e0, ← e1, ← e2, ← e']⟩
theorem best_fin (hq : QeOK q) {B : Nat} (hB : 1 ≤ B ∧ B ≤ 3) (h : BI g q B (VA q B)) : g 41 18 = FQ q B 0 (q.2.2.1 1) 0 ∧ (FQ q B 0 (q.2.2.1 1) 0 < fa → mkL (g 54) (g 55) 0 B = pkL q B 0 (q.2.2.1 1) 0) := by
  obtain ⟨h1, h2, h3⟩ := h
  have hc := FQ_cap hq B 0 (q.2.2.1 1) 0
  have hlen : (mkL (g 54) (g 55) 0 B).length = B := mkL_len
  have e : g 41 18 = FQ q B 0 (q.2.2.1 1) 0 := by
    refine Int.le_antisymm ?_ ?_
    · by_cases hF : FQ q B 0 (q.2.2.1 1) 0 < fa
      · obtain ⟨p1, p2, p3⟩ := pkL_sp hq B 0 (q.2.2.1 1) 0 (by omega) hF
        have := h2 _ (ok_VA hq hB p1 p2)
        omega
      · omega
    · by_cases hF : g 41 18 < fa
      · obtain ⟨b1, b2, b3⟩ := h3 hF
        have hv := VA_ok hq hB b1
        have := FQ_le _ 0 (q.2.2.1 1) 0 hv.1
        rw [hlen] at this
        omega
      · omega
  refine ⟨e, fun hF => ?_⟩
  obtain ⟨b1, b2, b3⟩ := h3 (by omega)
  obtain ⟨p1, p2, p3⟩ := pkL_sp hq B 0 (q.2.2.1 1) 0 (by omega) hF
  have hv := VA_ok hq hB b1
  have l1 := b3 _ (ok_VA hq hB p1 p2) (by omega)
  have l2 := pkL_first hq (mkL (g 54) (g 55) 0 B) 0 (q.2.2.1 1) 0 hv.1 (by rw [hlen]; exact hF) (by rw [hlen]; omega)
  rw [hlen] at l2
  exact lxL_anti (by rw [hlen, p2]) l1 l2
/-- what a question to the reference may touch -/
def FrU (g h : Nat → Int → Int) : Prop := ∀ (p : Nat) (x : Int), (p < 48 ∧ p ≠ 41) ∨ (58 ≤ p ∧ p ≠ 67) ∨ (p = 41 ∧ x ≠ 9 ∧ x ≠ 10 ∧ x ≠ 11 ∧ x ≠ 12 ∧ x ≠ 18) → h p x = g p x
theorem FrU.rf : FrU g g := fun _ _ _ => rfl
theorem FrU.tr {g1 g2 g3 : Nat → Int → Int} (a : FrU g1 g2) (b : FrU g2 g3) : FrU g1 g3 := fun p x h => (b p x h).trans (a p x h)
theorem FrU.of2 {h : Nat → Int → Int} (f : FrX2 g h) : FrU g h := fun p x z => f p x (by omega) (by omega) (by omega) (by omega) (by omega) (by omega) (by omega) (by omega) (by omega) (by omega)
theorem seek_ways (hT : MT g) (hM : MQe g q) (hq : QeOK q) {B : Nat} (hB : q.2.2.1 0 = B) (hB3 : 1 ≤ B ∧ B ≤ 3) {v1 v2 v3 v4 : Int}
    (hQ : ∀ h : Nat → Int → Int, FrU g h → MQe h q → BI h q B (VA q B) → Q (some (vi (h 41 18))) (Mw h)) :
    ∀ (m : Nat) (w : Int) (h : Nat → Int → Int) (v6 : Vx), w0Q q ≤ w → w + m = 3 → FrU g h → MQe h q → MT h → BI h q B (fun l => ∃ w' : Int, (w0Q q ≤ w' ∧ w' < w) ∧ P0 q B (tkQ q (w' - 1)) l) → Tg G (d + 8) (73, 42835) 70 97 [vr 41, vi v1, vi v2, vi v3, vi v4, vi w, v6] [] (Mw h) (QW Q) := by
  intro m
  have hL := hq.len
  have hw0 := w0Q_in (q := q)
  induction m with
  | zero =>
    intro w h v6 hw hm f1 hM1 hT1 b1
    have e : w = 3 := by omega
    subst e
    refine T_b ok_X9_seeks_97 ?_
    simp only [vI_i, vJ_l, isI_i, isR_r, isR_c, aN_s, isA_s, okS_0, okS_s, isL_i, isL_l, isL_r, szV_i, szV_l, szV_r, szS_n, szS_c, pops_0, pops_s, icm_eq, icm_ne, icm_lt, icm_ge, icm_gt, icm_le, aG_s, oG_s, u_nil, v_aload0, u_astore0, u_astorec0, v_iload0, u_istore0, v_lload0, u_lstore0, v_aload1, u_astore1, u_astorec1, v_iload1, u_istore1, v_lload1, u_lstore1, v_aload2, u_astore2, u_astorec2, v_iload2, u_istore2, v_lload2, u_lstore2, v_aload3, u_astore3, u_astorec3, v_iload3, u_istore3, v_lload3, u_lstore3, v_aload, u_astore, v_iload, u_istore, v_lload, u_lstore, u_iconst, u_bipush, u_sipush, u_ldc, u_ldcs, u_ldc2, v_iinc, u_iadd, u_isub, u_imul, u_iand, u_idiv, u_irem, u_ineg, u_ladd, u_lmul, u_ldiv, u_lrem, u_lcmp, u_i2l, u_l2i, u_dup, u_dup2, u_pop, u_if, u_icmp, u_goto, u_switch, u_getf0, u_getf2, u_getf1, u_putf0, u_putf2, u_putf1, u_getst, v_iald, u_ialdc, v_iast, u_alen, u_newa, u_new, u_virt, u_spec, u_stat, w_iret, w_zret, u_lret, u_aret, u_vret, cV_s, cS_s, wc_v, wc_i, wc_s, vc_copy, uc_copyc, uc_min, uc_max, uc_abs, uc_char, uc_obj, gl_0, gl_s, sl_0, sl_s, wA, wR, wK, ceW_1, ceN_2, ceN_3, ceN_4, ceN_5, ceN_6, ceN_7, ceN_8, c_t, bu, QW_w, true_and, and_true, Bool.not_false, Option.toList_some, Option.toList_none, List.cons_append, List.nil_append, List.singleton_append, Int.cast_ofNat_Int, Int.natCast_zero, Int.natCast_one, true_implies, implies_true, not_true_eq_false, not_false_eq_true, ne_eq, eq_self, true_or, or_true, or_false, false_or, and_self, Int.reduceNeg, Int.reduceLE, Int.reduceLT, Int.reduceEq, Int.reduceAdd, Int.reduceSub, Int.reduceMul, Int.reduceNe, Nat.reduceAdd, Nat.reduceSub, Nat.reduceLeDiff, Nat.reduceLT, Nat.reduceEqDiff, Int.reduceToNat, Int.reduceNatCast, Int.reduceTDiv, Int.reduceTMod, false_implies, false_and, and_false, reduceIte, ite_true, ite_false]
    refine T_b ok_X9_seeks_175 ?_
    simp only [vI_i, vJ_l, isI_i, isR_r, isR_c, aN_s, isA_s, okS_0, okS_s, isL_i, isL_l, isL_r, szV_i, szV_l, szV_r, szS_n, szS_c, pops_0, pops_s, icm_eq, icm_ne, icm_lt, icm_ge, icm_gt, icm_le, aG_s, oG_s, u_nil, v_aload0, u_astore0, u_astorec0, v_iload0, u_istore0, v_lload0, u_lstore0, v_aload1, u_astore1, u_astorec1, v_iload1, u_istore1, v_lload1, u_lstore1, v_aload2, u_astore2, u_astorec2, v_iload2, u_istore2, v_lload2, u_lstore2, v_aload3, u_astore3, u_astorec3, v_iload3, u_istore3, v_lload3, u_lstore3, v_aload, u_astore, v_iload, u_istore, v_lload, u_lstore, u_iconst, u_bipush, u_sipush, u_ldc, u_ldcs, u_ldc2, v_iinc, u_iadd, u_isub, u_imul, u_iand, u_idiv, u_irem, u_ineg, u_ladd, u_lmul, u_ldiv, u_lrem, u_lcmp, u_i2l, u_l2i, u_dup, u_dup2, u_pop, u_if, u_icmp, u_goto, u_switch, u_getf0, u_getf2, u_getf1, u_putf0, u_putf2, u_putf1, u_getst, v_iald, u_ialdc, v_iast, u_alen, u_newa, u_new, u_virt, u_spec, u_stat, w_iret, w_zret, u_lret, u_aret, u_vret, cV_s, cS_s, wc_v, wc_i, wc_s, vc_copy, uc_copyc, uc_min, uc_max, uc_abs, uc_char, uc_obj, gl_0, gl_s, sl_0, sl_s, wA, wR, wK, ceW_1, ceN_2, ceN_3, ceN_4, ceN_5, ceN_6, ceN_7, ceN_8, c_t, bu, QW_w, true_and, and_true, Bool.not_false, Option.toList_some, Option.toList_none, List.cons_append, List.nil_append, List.singleton_append, Int.cast_ofNat_Int, Int.natCast_zero, Int.natCast_one, true_implies, implies_true, not_true_eq_false, not_false_eq_true, ne_eq, eq_self, true_or, or_true, or_false, false_or, and_self, Int.reduceNeg, Int.reduceLE, Int.reduceLT, Int.reduceEq, Int.reduceAdd, Int.reduceSub, Int.reduceMul, Int.reduceNe, Nat.reduceAdd, Nat.reduceSub, Nat.reduceLeDiff, Nat.reduceLT, Nat.reduceEqDiff, Int.reduceToNat, Int.reduceNatCast, Int.reduceTDiv, Int.reduceTMod, false_implies, false_and, and_false, reduceIte, ite_true, ite_false]
    refine hQ h f1 hM1 (b1.cg fun l => ?_)
    constructor
    · rintro ⟨w', u, v⟩
      exact ⟨w', ⟨u.1, by omega⟩, v⟩
    · rintro ⟨w', u, v⟩
      exact ⟨w', ⟨u.1, by omega⟩, v⟩
  | succ m ih =>
    intro w h v6 hw hm f1 hM1 hT1 b1
    have w1 : wr (w + 1) = w + 1 := wr_of (by omega) (by omega)
    have rT0 := tk_in hq (e := w - 1) (by omega)
    generalize hT0 : tkQ q (w - 1) = T0 at rT0
    have rL : 24 ≤ q.2.2.1 1 ∧ q.2.2.1 1 ≤ 456 := by omega
    have c0 := ch_in hq rT0 rL
    refine T_b ok_X9_seeks_97 ?_
    simp only [vI_i, vJ_l, isI_i, isR_r, isR_c, aN_s, isA_s, okS_0, okS_s, isL_i, isL_l, isL_r, szV_i, szV_l, szV_r, szS_n, szS_c, pops_0, pops_s, icm_eq, icm_ne, icm_lt, icm_ge, icm_gt, icm_le, aG_s, oG_s, u_nil, v_aload0, u_astore0, u_astorec0, v_iload0, u_istore0, v_lload0, u_lstore0, v_aload1, u_astore1, u_astorec1, v_iload1, u_istore1, v_lload1, u_lstore1, v_aload2, u_astore2, u_astorec2, v_iload2, u_istore2, v_lload2, u_lstore2, v_aload3, u_astore3, u_astorec3, v_iload3, u_istore3, v_lload3, u_lstore3, v_aload, u_astore, v_iload, u_istore, v_lload, u_lstore, u_iconst, u_bipush, u_sipush, u_ldc, u_ldcs, u_ldc2, v_iinc, u_iadd, u_isub, u_imul, u_iand, u_idiv, u_irem, u_ineg, u_ladd, u_lmul, u_ldiv, u_lrem, u_lcmp, u_i2l, u_l2i, u_dup, u_dup2, u_pop, u_if, u_icmp, u_goto, u_switch, u_getf0, u_getf2, u_getf1, u_putf0, u_putf2, u_putf1, u_getst, v_iald, u_ialdc, v_iast, u_alen, u_newa, u_new, u_virt, u_spec, u_stat, w_iret, w_zret, u_lret, u_aret, u_vret, cV_s, cS_s, wc_v, wc_i, wc_s, vc_copy, uc_copyc, uc_min, uc_max, uc_abs, uc_char, uc_obj, gl_0, gl_s, sl_0, sl_s, wA, wR, wK, ceW_1, ceN_2, ceN_3, ceN_4, ceN_5, ceN_6, ceN_7, ceN_8, c_t, bu, QW_w, true_and, and_true, Bool.not_false, Option.toList_some, Option.toList_none, List.cons_append, List.nil_append, List.singleton_append, Int.cast_ofNat_Int, Int.natCast_zero, Int.natCast_one, true_implies, implies_true, not_true_eq_false, not_false_eq_true, ne_eq, eq_self, true_or, or_true, or_false, false_or, and_self, Int.reduceNeg, Int.reduceLE, Int.reduceLT, Int.reduceEq, Int.reduceAdd, Int.reduceSub, Int.reduceMul, Int.reduceNe, Nat.reduceAdd, Nat.reduceSub, Nat.reduceLeDiff, Nat.reduceLT, Nat.reduceEqDiff, Int.reduceToNat, Int.reduceNatCast, Int.reduceTDiv, Int.reduceTMod, false_implies, false_and, and_false, reduceIte, ite_true, ite_false]
    refine ⟨fun z => absurd z (by omega), fun _ => ?_⟩
    refine m_ticksBy hM1 hq (by omega) ?_
    rw [hT0]
    simp only [vI_i, vJ_l, isI_i, isR_r, isR_c, aN_s, isA_s, okS_0, okS_s, isL_i, isL_l, isL_r, szV_i, szV_l, szV_r, szS_n, szS_c, pops_0, pops_s, icm_eq, icm_ne, icm_lt, icm_ge, icm_gt, icm_le, aG_s, oG_s, u_nil, v_aload0, u_astore0, u_astorec0, v_iload0, u_istore0, v_lload0, u_lstore0, v_aload1, u_astore1, u_astorec1, v_iload1, u_istore1, v_lload1, u_lstore1, v_aload2, u_astore2, u_astorec2, v_iload2, u_istore2, v_lload2, u_lstore2, v_aload3, u_astore3, u_astorec3, v_iload3, u_istore3, v_lload3, u_lstore3, v_aload, u_astore, v_iload, u_istore, v_lload, u_lstore, u_iconst, u_bipush, u_sipush, u_ldc, u_ldcs, u_ldc2, v_iinc, u_iadd, u_isub, u_imul, u_iand, u_idiv, u_irem, u_ineg, u_ladd, u_lmul, u_ldiv, u_lrem, u_lcmp, u_i2l, u_l2i, u_dup, u_dup2, u_pop, u_if, u_icmp, u_goto, u_switch, u_getf0, u_getf2, u_getf1, u_putf0, u_putf2, u_putf1, u_getst, v_iald, u_ialdc, v_iast, u_alen, u_newa, u_new, u_virt, u_spec, u_stat, w_iret, w_zret, u_lret, u_aret, u_vret, cV_s, cS_s, wc_v, wc_i, wc_s, vc_copy, uc_copyc, uc_min, uc_max, uc_abs, uc_char, uc_obj, gl_0, gl_s, sl_0, sl_s, wA, wR, wK, ceW_1, ceN_2, ceN_3, ceN_4, ceN_5, ceN_6, ceN_7, ceN_8, c_t, bu, QW_w, true_and, and_true, Bool.not_false, Option.toList_some, Option.toList_none, List.cons_append, List.nil_append, List.singleton_append, Int.cast_ofNat_Int, Int.natCast_zero, Int.natCast_one, true_implies, implies_true, not_true_eq_false, not_false_eq_true, ne_eq, eq_self, true_or, or_true, or_false, false_or, and_self, Int.reduceNeg, Int.reduceLE, Int.reduceLT, Int.reduceEq, Int.reduceAdd, Int.reduceSub, Int.reduceMul, Int.reduceNe, Nat.reduceAdd, Nat.reduceSub, Nat.reduceLeDiff, Nat.reduceLT, Nat.reduceEqDiff, Int.reduceToNat, Int.reduceNatCast, Int.reduceTDiv, Int.reduceTMod, false_implies, false_and, and_false, reduceIte, ite_true, ite_false, st_eq]
    have hM2 : MQe (st h 56 0 T0) q := hM1.fr (fun x _ _ => st_ne (by decide)) (fun x => st_ne (by decide)) (fun x => st_ne (by decide))
    have hT2 : MT (st h 56 0 T0) := by
      have e46 : st h 56 0 T0 46 = h 46 := funext fun x => st_ne (by decide)
      have e47 : st h 56 0 T0 47 = h 47 := funext fun x => st_ne (by decide)
      unfold MT; rw [e46, e47]; exact hT1
    refine m_laysBar hT2 hM2 hq (show BtOK 0 T0 from ⟨by omega, by omega⟩) (fun g3 f3 l3 => ?_)
    have hM3 := hM2.fg f3
    have hT3 := hT2.fg f3
    have e560 : g3 56 0 = T0 := (f3 56 0 (by decide) (by decide) (by decide)).trans st_eq
    have e421 : g3 42 1 = q.2.2.1 1 := hM3.2.2.2.2.2 1 (by omega) (by omega)
    have e420 : g3 42 0 = B := (hM3.2.2.2.2.2 0 (by omega) (by omega)).trans hB
    have F3 : FrU g g3 := f1.tr fun p x z => by rw [f3 p x (by omega) (by omega) (by omega), st_ne (by omega)]
    simp only [vI_i, vJ_l, isI_i, isR_r, isR_c, aN_s, isA_s, okS_0, okS_s, isL_i, isL_l, isL_r, szV_i, szV_l, szV_r, szS_n, szS_c, pops_0, pops_s, icm_eq, icm_ne, icm_lt, icm_ge, icm_gt, icm_le, aG_s, oG_s, u_nil, v_aload0, u_astore0, u_astorec0, v_iload0, u_istore0, v_lload0, u_lstore0, v_aload1, u_astore1, u_astorec1, v_iload1, u_istore1, v_lload1, u_lstore1, v_aload2, u_astore2, u_astorec2, v_iload2, u_istore2, v_lload2, u_lstore2, v_aload3, u_astore3, u_astorec3, v_iload3, u_istore3, v_lload3, u_lstore3, v_aload, u_astore, v_iload, u_istore, v_lload, u_lstore, u_iconst, u_bipush, u_sipush, u_ldc, u_ldcs, u_ldc2, v_iinc, u_iadd, u_isub, u_imul, u_iand, u_idiv, u_irem, u_ineg, u_ladd, u_lmul, u_ldiv, u_lrem, u_lcmp, u_i2l, u_l2i, u_dup, u_dup2, u_pop, u_if, u_icmp, u_goto, u_switch, u_getf0, u_getf2, u_getf1, u_putf0, u_putf2, u_putf1, u_getst, v_iald, u_ialdc, v_iast, u_alen, u_newa, u_new, u_virt, u_spec, u_stat, w_iret, w_zret, u_lret, u_aret, u_vret, cV_s, cS_s, wc_v, wc_i, wc_s, vc_copy, uc_copyc, uc_min, uc_max, uc_abs, uc_char, uc_obj, gl_0, gl_s, sl_0, sl_s, wA, wR, wK, ceW_1, ceN_2, ceN_3, ceN_4, ceN_5, ceN_6, ceN_7, ceN_8, c_t, bu, QW_w, true_and, and_true, Bool.not_false, Option.toList_some, Option.toList_none, List.cons_append, List.nil_append, List.singleton_append, Int.cast_ofNat_Int, Int.natCast_zero, Int.natCast_one, true_implies, implies_true, not_true_eq_false, not_false_eq_true, ne_eq, eq_self, true_or, or_true, or_false, false_or, and_self, Int.reduceNeg, Int.reduceLE, Int.reduceLT, Int.reduceEq, Int.reduceAdd, Int.reduceSub, Int.reduceMul, Int.reduceNe, Nat.reduceAdd, Nat.reduceSub, Nat.reduceLeDiff, Nat.reduceLT, Nat.reduceEqDiff, Int.reduceToNat, Int.reduceNatCast, Int.reduceTDiv, Int.reduceTMod, false_implies, false_and, and_false, reduceIte, ite_true, ite_false, e560, e421]
    refine m_far hM3 hq rT0 rL ?_
    have B3 : BI g3 q B (fun l => ∃ w' : Int, (w0Q q ≤ w' ∧ w' < w) ∧ P0 q B (tkQ q (w' - 1)) l) := b1.fr fun p x u => by rw [f3 p x (by omega) (by omega) (by omega), st_ne (by omega)]
    have t169 : ∀ (h2 : Nat → Int → Int) (v6 : Vx), FrX2 g3 h2 → BI h2 q B (fun l => (∃ w' : Int, (w0Q q ≤ w' ∧ w' < w) ∧ P0 q B (tkQ q (w' - 1)) l) ∨ P0 q B T0 l) → Tg G (d + 8) (73, 42835) 70 169 [vr 41, vi v1, vi v2, vi v3, vi v4, vi w, v6] [] (Mw h2) (QW Q) := by
      intro h2 v6 f4 b4
      refine T_b ok_X9_seeks_169 ?_
      simp only [vI_i, vJ_l, isI_i, isR_r, isR_c, aN_s, isA_s, okS_0, okS_s, isL_i, isL_l, isL_r, szV_i, szV_l, szV_r, szS_n, szS_c, pops_0, pops_s, icm_eq, icm_ne, icm_lt, icm_ge, icm_gt, icm_le, aG_s, oG_s, u_nil, v_aload0, u_astore0, u_astorec0, v_iload0, u_istore0, v_lload0, u_lstore0, v_aload1, u_astore1, u_astorec1, v_iload1, u_istore1, v_lload1, u_lstore1, v_aload2, u_astore2, u_astorec2, v_iload2, u_istore2, v_lload2, u_lstore2, v_aload3, u_astore3, u_astorec3, v_iload3, u_istore3, v_lload3, u_lstore3, v_aload, u_astore, v_iload, u_istore, v_lload, u_lstore, u_iconst, u_bipush, u_sipush, u_ldc, u_ldcs, u_ldc2, v_iinc, u_iadd, u_isub, u_imul, u_iand, u_idiv, u_irem, u_ineg, u_ladd, u_lmul, u_ldiv, u_lrem, u_lcmp, u_i2l, u_l2i, u_dup, u_dup2, u_pop, u_if, u_icmp, u_goto, u_switch, u_getf0, u_getf2, u_getf1, u_putf0, u_putf2, u_putf1, u_getst, v_iald, u_ialdc, v_iast, u_alen, u_newa, u_new, u_virt, u_spec, u_stat, w_iret, w_zret, u_lret, u_aret, u_vret, cV_s, cS_s, wc_v, wc_i, wc_s, vc_copy, uc_copyc, uc_min, uc_max, uc_abs, uc_char, uc_obj, gl_0, gl_s, sl_0, sl_s, wA, wR, wK, ceW_1, ceN_2, ceN_3, ceN_4, ceN_5, ceN_6, ceN_7, ceN_8, c_t, bu, QW_w, true_and, and_true, Bool.not_false, Option.toList_some, Option.toList_none, List.cons_append, List.nil_append, List.singleton_append, Int.cast_ofNat_Int, Int.natCast_zero, Int.natCast_one, true_implies, implies_true, not_true_eq_false, not_false_eq_true, ne_eq, eq_self, true_or, or_true, or_false, false_or, and_self, Int.reduceNeg, Int.reduceLE, Int.reduceLT, Int.reduceEq, Int.reduceAdd, Int.reduceSub, Int.reduceMul, Int.reduceNe, Nat.reduceAdd, Nat.reduceSub, Nat.reduceLeDiff, Nat.reduceLT, Nat.reduceEqDiff, Int.reduceToNat, Int.reduceNatCast, Int.reduceTDiv, Int.reduceTMod, false_implies, false_and, and_false, reduceIte, ite_true, ite_false, w1]
      refine ih (w + 1) h2 v6 (by omega) (by omega) (F3.tr (FrU.of2 f4)) (hM3.fx2 f4) (hT3.fx2 f4) (b4.cg fun l => ?_)
      constructor
      · rintro (⟨w', u, v⟩ | z)
        · exact ⟨w', ⟨u.1, by omega⟩, v⟩
        · exact ⟨w, ⟨hw, by omega⟩, by rw [hT0]; exact z⟩
      · rintro ⟨w', u, v⟩
        by_cases e : w' = w
        · subst e; rw [hT0] at v; exact Or.inr v
        · exact Or.inl ⟨w', ⟨u.1, by omega⟩, v⟩
    by_cases h1 : B = 1
    · subst h1
      have e420' : g3 42 0 = 1 := e420
      have rT2 := tk_in hq (e := (1 : Int)) (by omega)
      simp only [vI_i, vJ_l, isI_i, isR_r, isR_c, aN_s, isA_s, okS_0, okS_s, isL_i, isL_l, isL_r, szV_i, szV_l, szV_r, szS_n, szS_c, pops_0, pops_s, icm_eq, icm_ne, icm_lt, icm_ge, icm_gt, icm_le, aG_s, oG_s, u_nil, v_aload0, u_astore0, u_astorec0, v_iload0, u_istore0, v_lload0, u_lstore0, v_aload1, u_astore1, u_astorec1, v_iload1, u_istore1, v_lload1, u_lstore1, v_aload2, u_astore2, u_astorec2, v_iload2, u_istore2, v_lload2, u_lstore2, v_aload3, u_astore3, u_astorec3, v_iload3, u_istore3, v_lload3, u_lstore3, v_aload, u_astore, v_iload, u_istore, v_lload, u_lstore, u_iconst, u_bipush, u_sipush, u_ldc, u_ldcs, u_ldc2, v_iinc, u_iadd, u_isub, u_imul, u_iand, u_idiv, u_irem, u_ineg, u_ladd, u_lmul, u_ldiv, u_lrem, u_lcmp, u_i2l, u_l2i, u_dup, u_dup2, u_pop, u_if, u_icmp, u_goto, u_switch, u_getf0, u_getf2, u_getf1, u_putf0, u_putf2, u_putf1, u_getst, v_iald, u_ialdc, v_iast, u_alen, u_newa, u_new, u_virt, u_spec, u_stat, w_iret, w_zret, u_lret, u_aret, u_vret, cV_s, cS_s, wc_v, wc_i, wc_s, vc_copy, uc_copyc, uc_min, uc_max, uc_abs, uc_char, uc_obj, gl_0, gl_s, sl_0, sl_s, wA, wR, wK, ceW_1, ceN_2, ceN_3, ceN_4, ceN_5, ceN_6, ceN_7, ceN_8, c_t, bu, QW_w, true_and, and_true, Bool.not_false, Option.toList_some, Option.toList_none, List.cons_append, List.nil_append, List.singleton_append, Int.cast_ofNat_Int, Int.natCast_zero, Int.natCast_one, true_implies, implies_true, not_true_eq_false, not_false_eq_true, ne_eq, eq_self, true_or, or_true, or_false, false_or, and_self, Int.reduceNeg, Int.reduceLE, Int.reduceLT, Int.reduceEq, Int.reduceAdd, Int.reduceSub, Int.reduceMul, Int.reduceNe, Nat.reduceAdd, Nat.reduceSub, Nat.reduceLeDiff, Nat.reduceLT, Nat.reduceEqDiff, Int.reduceToNat, Int.reduceNatCast, Int.reduceTDiv, Int.reduceTMod, false_implies, false_and, and_false, reduceIte, ite_true, ite_false, e420']
      have D3 : DLp g3 q 1 T0 (tkQ q 1) (tkQ q 1) (chQ q T0 (q.2.2.1 1)) := by
        refine ⟨⟨rT0, rT2, rT2⟩, e560, fun z => absurd z (by omega), fun z => absurd z (by omega), fun z => absurd z (by omega), fun z => absurd z (by omega), ?_, ?_⟩
        · rw [if_pos rfl]; exact l3.bar
        · rw [if_pos rfl]
      refine m_deals hM3 hq hB (by omega) D3 B3 (fun g4 f4 b4 => ?_)
      simp only [vI_i, vJ_l, isI_i, isR_r, isR_c, aN_s, isA_s, okS_0, okS_s, isL_i, isL_l, isL_r, szV_i, szV_l, szV_r, szS_n, szS_c, pops_0, pops_s, icm_eq, icm_ne, icm_lt, icm_ge, icm_gt, icm_le, aG_s, oG_s, u_nil, v_aload0, u_astore0, u_astorec0, v_iload0, u_istore0, v_lload0, u_lstore0, v_aload1, u_astore1, u_astorec1, v_iload1, u_istore1, v_lload1, u_lstore1, v_aload2, u_astore2, u_astorec2, v_iload2, u_istore2, v_lload2, u_lstore2, v_aload3, u_astore3, u_astorec3, v_iload3, u_istore3, v_lload3, u_lstore3, v_aload, u_astore, v_iload, u_istore, v_lload, u_lstore, u_iconst, u_bipush, u_sipush, u_ldc, u_ldcs, u_ldc2, v_iinc, u_iadd, u_isub, u_imul, u_iand, u_idiv, u_irem, u_ineg, u_ladd, u_lmul, u_ldiv, u_lrem, u_lcmp, u_i2l, u_l2i, u_dup, u_dup2, u_pop, u_if, u_icmp, u_goto, u_switch, u_getf0, u_getf2, u_getf1, u_putf0, u_putf2, u_putf1, u_getst, v_iald, u_ialdc, v_iast, u_alen, u_newa, u_new, u_virt, u_spec, u_stat, w_iret, w_zret, u_lret, u_aret, u_vret, cV_s, cS_s, wc_v, wc_i, wc_s, vc_copy, uc_copyc, uc_min, uc_max, uc_abs, uc_char, uc_obj, gl_0, gl_s, sl_0, sl_s, wA, wR, wK, ceW_1, ceN_2, ceN_3, ceN_4, ceN_5, ceN_6, ceN_7, ceN_8, c_t, bu, QW_w, true_and, and_true, Bool.not_false, Option.toList_some, Option.toList_none, List.cons_append, List.nil_append, List.singleton_append, Int.cast_ofNat_Int, Int.natCast_zero, Int.natCast_one, true_implies, implies_true, not_true_eq_false, not_false_eq_true, ne_eq, eq_self, true_or, or_true, or_false, false_or, and_self, Int.reduceNeg, Int.reduceLE, Int.reduceLT, Int.reduceEq, Int.reduceAdd, Int.reduceSub, Int.reduceMul, Int.reduceNe, Nat.reduceAdd, Nat.reduceSub, Nat.reduceLeDiff, Nat.reduceLT, Nat.reduceEqDiff, Int.reduceToNat, Int.reduceNatCast, Int.reduceTDiv, Int.reduceTMod, false_implies, false_and, and_false, reduceIte, ite_true, ite_false]
      refine t169 g4 _ (FrX2.of5 f4) (b4.cg fun l => ?_)
      constructor
      · rintro (z | z)
        · exact Or.inl z
        · exact Or.inr ⟨2, 2, by omega, by omega, z⟩
      · rintro (z | ⟨w1, w2, u1, u2, a, b, x1, x2, x3, x4⟩)
        · exact Or.inl z
        · exact Or.inr ⟨a, b, x1, x2, x3, x4⟩
    · simp only [vI_i, vJ_l, isI_i, isR_r, isR_c, aN_s, isA_s, okS_0, okS_s, isL_i, isL_l, isL_r, szV_i, szV_l, szV_r, szS_n, szS_c, pops_0, pops_s, icm_eq, icm_ne, icm_lt, icm_ge, icm_gt, icm_le, aG_s, oG_s, u_nil, v_aload0, u_astore0, u_astorec0, v_iload0, u_istore0, v_lload0, u_lstore0, v_aload1, u_astore1, u_astorec1, v_iload1, u_istore1, v_lload1, u_lstore1, v_aload2, u_astore2, u_astorec2, v_iload2, u_istore2, v_lload2, u_lstore2, v_aload3, u_astore3, u_astorec3, v_iload3, u_istore3, v_lload3, u_lstore3, v_aload, u_astore, v_iload, u_istore, v_lload, u_lstore, u_iconst, u_bipush, u_sipush, u_ldc, u_ldcs, u_ldc2, v_iinc, u_iadd, u_isub, u_imul, u_iand, u_idiv, u_irem, u_ineg, u_ladd, u_lmul, u_ldiv, u_lrem, u_lcmp, u_i2l, u_l2i, u_dup, u_dup2, u_pop, u_if, u_icmp, u_goto, u_switch, u_getf0, u_getf2, u_getf1, u_putf0, u_putf2, u_putf1, u_getst, v_iald, u_ialdc, v_iast, u_alen, u_newa, u_new, u_virt, u_spec, u_stat, w_iret, w_zret, u_lret, u_aret, u_vret, cV_s, cS_s, wc_v, wc_i, wc_s, vc_copy, uc_copyc, uc_min, uc_max, uc_abs, uc_char, uc_obj, gl_0, gl_s, sl_0, sl_s, wA, wR, wK, ceW_1, ceN_2, ceN_3, ceN_4, ceN_5, ceN_6, ceN_7, ceN_8, c_t, bu, QW_w, true_and, and_true, Bool.not_false, Option.toList_some, Option.toList_none, List.cons_append, List.nil_append, List.singleton_append, Int.cast_ofNat_Int, Int.natCast_zero, Int.natCast_one, true_implies, implies_true, not_true_eq_false, not_false_eq_true, ne_eq, eq_self, true_or, or_true, or_false, false_or, and_self, Int.reduceNeg, Int.reduceLE, Int.reduceLT, Int.reduceEq, Int.reduceAdd, Int.reduceSub, Int.reduceMul, Int.reduceNe, Nat.reduceAdd, Nat.reduceSub, Nat.reduceLeDiff, Nat.reduceLT, Nat.reduceEqDiff, Int.reduceToNat, Int.reduceNatCast, Int.reduceTDiv, Int.reduceTMod, false_implies, false_and, and_false, reduceIte, ite_true, ite_false, e420]
      refine ⟨fun _ => ?_, fun z => absurd z (by omega)⟩
      refine T_b ok_X9_seeks_163 ?_
      simp only [vI_i, vJ_l, isI_i, isR_r, isR_c, aN_s, isA_s, okS_0, okS_s, isL_i, isL_l, isL_r, szV_i, szV_l, szV_r, szS_n, szS_c, pops_0, pops_s, icm_eq, icm_ne, icm_lt, icm_ge, icm_gt, icm_le, aG_s, oG_s, u_nil, v_aload0, u_astore0, u_astorec0, v_iload0, u_istore0, v_lload0, u_lstore0, v_aload1, u_astore1, u_astorec1, v_iload1, u_istore1, v_lload1, u_lstore1, v_aload2, u_astore2, u_astorec2, v_iload2, u_istore2, v_lload2, u_lstore2, v_aload3, u_astore3, u_astorec3, v_iload3, u_istore3, v_lload3, u_lstore3, v_aload, u_astore, v_iload, u_istore, v_lload, u_lstore, u_iconst, u_bipush, u_sipush, u_ldc, u_ldcs, u_ldc2, v_iinc, u_iadd, u_isub, u_imul, u_iand, u_idiv, u_irem, u_ineg, u_ladd, u_lmul, u_ldiv, u_lrem, u_lcmp, u_i2l, u_l2i, u_dup, u_dup2, u_pop, u_if, u_icmp, u_goto, u_switch, u_getf0, u_getf2, u_getf1, u_putf0, u_putf2, u_putf1, u_getst, v_iald, u_ialdc, v_iast, u_alen, u_newa, u_new, u_virt, u_spec, u_stat, w_iret, w_zret, u_lret, u_aret, u_vret, cV_s, cS_s, wc_v, wc_i, wc_s, vc_copy, uc_copyc, uc_min, uc_max, uc_abs, uc_char, uc_obj, gl_0, gl_s, sl_0, sl_s, wA, wR, wK, ceW_1, ceN_2, ceN_3, ceN_4, ceN_5, ceN_6, ceN_7, ceN_8, c_t, bu, QW_w, true_and, and_true, Bool.not_false, Option.toList_some, Option.toList_none, List.cons_append, List.nil_append, List.singleton_append, Int.cast_ofNat_Int, Int.natCast_zero, Int.natCast_one, true_implies, implies_true, not_true_eq_false, not_false_eq_true, ne_eq, eq_self, true_or, or_true, or_false, false_or, and_self, Int.reduceNeg, Int.reduceLE, Int.reduceLT, Int.reduceEq, Int.reduceAdd, Int.reduceSub, Int.reduceMul, Int.reduceNe, Nat.reduceAdd, Nat.reduceSub, Nat.reduceLeDiff, Nat.reduceLT, Nat.reduceEqDiff, Int.reduceToNat, Int.reduceNatCast, Int.reduceTDiv, Int.reduceTMod, false_implies, false_and, and_false, reduceIte, ite_true, ite_false]
      refine m_second hT3 hM3 hq hB (by omega) rT0 e560 l3.bar rfl B3 (fun g4 f4 b4 => ?_)
      simp only [vI_i, vJ_l, isI_i, isR_r, isR_c, aN_s, isA_s, okS_0, okS_s, isL_i, isL_l, isL_r, szV_i, szV_l, szV_r, szS_n, szS_c, pops_0, pops_s, icm_eq, icm_ne, icm_lt, icm_ge, icm_gt, icm_le, aG_s, oG_s, u_nil, v_aload0, u_astore0, u_astorec0, v_iload0, u_istore0, v_lload0, u_lstore0, v_aload1, u_astore1, u_astorec1, v_iload1, u_istore1, v_lload1, u_lstore1, v_aload2, u_astore2, u_astorec2, v_iload2, u_istore2, v_lload2, u_lstore2, v_aload3, u_astore3, u_astorec3, v_iload3, u_istore3, v_lload3, u_lstore3, v_aload, u_astore, v_iload, u_istore, v_lload, u_lstore, u_iconst, u_bipush, u_sipush, u_ldc, u_ldcs, u_ldc2, v_iinc, u_iadd, u_isub, u_imul, u_iand, u_idiv, u_irem, u_ineg, u_ladd, u_lmul, u_ldiv, u_lrem, u_lcmp, u_i2l, u_l2i, u_dup, u_dup2, u_pop, u_if, u_icmp, u_goto, u_switch, u_getf0, u_getf2, u_getf1, u_putf0, u_putf2, u_putf1, u_getst, v_iald, u_ialdc, v_iast, u_alen, u_newa, u_new, u_virt, u_spec, u_stat, w_iret, w_zret, u_lret, u_aret, u_vret, cV_s, cS_s, wc_v, wc_i, wc_s, vc_copy, uc_copyc, uc_min, uc_max, uc_abs, uc_char, uc_obj, gl_0, gl_s, sl_0, sl_s, wA, wR, wK, ceW_1, ceN_2, ceN_3, ceN_4, ceN_5, ceN_6, ceN_7, ceN_8, c_t, bu, QW_w, true_and, and_true, Bool.not_false, Option.toList_some, Option.toList_none, List.cons_append, List.nil_append, List.singleton_append, Int.cast_ofNat_Int, Int.natCast_zero, Int.natCast_one, true_implies, implies_true, not_true_eq_false, not_false_eq_true, ne_eq, eq_self, true_or, or_true, or_false, false_or, and_self, Int.reduceNeg, Int.reduceLE, Int.reduceLT, Int.reduceEq, Int.reduceAdd, Int.reduceSub, Int.reduceMul, Int.reduceNe, Nat.reduceAdd, Nat.reduceSub, Nat.reduceLeDiff, Nat.reduceLT, Nat.reduceEqDiff, Int.reduceToNat, Int.reduceNatCast, Int.reduceTDiv, Int.reduceTMod, false_implies, false_and, and_false, reduceIte, ite_true, ite_false]
      exact t169 g4 _ f4 b4
theorem seek_time {N : Nat} (hN : N ≤ 8) (h10 : g 42 10 = N) {e kk v2 v3 v4 : Int} (hk : (e = -1 ∧ kk = N) ∨ (e = kk ∧ 0 ≤ kk ∧ kk < N))
    (hQ : ∀ h : Nat → Int → Int, (∀ p x, p ≠ 48 → ¬ (p = 41 ∧ x = 9) → h p x = g p x) → h 41 9 = (if (N : Int) ≤ kk then (N : Int) else N - 1) → (∀ i : Int, 0 ≤ i → i < (if (N : Int) ≤ kk then (N : Int) else N - 1) → h 48 i = g 42 (11 + (if i < kk then i else i + 1))) → Tg G (d + 8) (73, 42835) 70 61 [vr 41, vi e, vi v2, vi v3, vi v4, vi N, vc 0] [] (Mw h) (QW Q)) :
    ∀ (m k : Nat) (h : Nat → Int → Int), k + m = N → (∀ p x, p ≠ 48 → ¬ (p = 41 ∧ x = 9) → h p x = g p x) → h 41 9 = (if (k : Int) ≤ kk then (k : Int) else k - 1) → (∀ i : Int, 0 ≤ i → i < (if (k : Int) ≤ kk then (k : Int) else k - 1) → h 48 i = g 42 (11 + (if i < kk then i else i + 1))) → Tg G (d + 8) (73, 42835) 70 8 [vr 41, vi e, vi v2, vi v3, vi v4, vi k, vc 0] [] (Mw h) (QW Q) := by
  intro m
  induction m with
  | zero =>
    intro k h hm f1 f2 f3
    obtain rfl : k = N := by omega
    have e10 : h 42 10 = k := (f1 42 10 (by decide) (by omega)).trans h10
    refine T_b ok_X9_seeks_8 ?_
    simp only [vI_i, vJ_l, isI_i, isR_r, isR_c, aN_s, isA_s, okS_0, okS_s, isL_i, isL_l, isL_r, szV_i, szV_l, szV_r, szS_n, szS_c, pops_0, pops_s, icm_eq, icm_ne, icm_lt, icm_ge, icm_gt, icm_le, aG_s, oG_s, u_nil, v_aload0, u_astore0, u_astorec0, v_iload0, u_istore0, v_lload0, u_lstore0, v_aload1, u_astore1, u_astorec1, v_iload1, u_istore1, v_lload1, u_lstore1, v_aload2, u_astore2, u_astorec2, v_iload2, u_istore2, v_lload2, u_lstore2, v_aload3, u_astore3, u_astorec3, v_iload3, u_istore3, v_lload3, u_lstore3, v_aload, u_astore, v_iload, u_istore, v_lload, u_lstore, u_iconst, u_bipush, u_sipush, u_ldc, u_ldcs, u_ldc2, v_iinc, u_iadd, u_isub, u_imul, u_iand, u_idiv, u_irem, u_ineg, u_ladd, u_lmul, u_ldiv, u_lrem, u_lcmp, u_i2l, u_l2i, u_dup, u_dup2, u_pop, u_if, u_icmp, u_goto, u_switch, u_getf0, u_getf2, u_getf1, u_putf0, u_putf2, u_putf1, u_getst, v_iald, u_ialdc, v_iast, u_alen, u_newa, u_new, u_virt, u_spec, u_stat, w_iret, w_zret, u_lret, u_aret, u_vret, cV_s, cS_s, wc_v, wc_i, wc_s, vc_copy, uc_copyc, uc_min, uc_max, uc_abs, uc_char, uc_obj, gl_0, gl_s, sl_0, sl_s, wA, wR, wK, ceW_1, ceN_2, ceN_3, ceN_4, ceN_5, ceN_6, ceN_7, ceN_8, c_t, bu, QW_w, true_and, and_true, Bool.not_false, Option.toList_some, Option.toList_none, List.cons_append, List.nil_append, List.singleton_append, Int.cast_ofNat_Int, Int.natCast_zero, Int.natCast_one, true_implies, implies_true, not_true_eq_false, not_false_eq_true, ne_eq, eq_self, true_or, or_true, or_false, false_or, and_self, Int.reduceNeg, Int.reduceLE, Int.reduceLT, Int.reduceEq, Int.reduceAdd, Int.reduceSub, Int.reduceMul, Int.reduceNe, Nat.reduceAdd, Nat.reduceSub, Nat.reduceLeDiff, Nat.reduceLT, Nat.reduceEqDiff, Int.reduceToNat, Int.reduceNatCast, Int.reduceTDiv, Int.reduceTMod, false_implies, false_and, and_false, reduceIte, ite_true, ite_false, e10]
    exact ⟨fun _ => hQ h f1 f2 f3, fun z => absurd (Int.le_refl _) z⟩
  | succ m ih =>
    intro k h hm f1 f2 f3
    have e10 : h 42 10 = N := (f1 42 10 (by decide) (by omega)).trans h10
    have w1 : wr ((k : Int) + 1) = ((k + 1 : Nat) : Int) := by rw [wr_of (by omega) (by omega)]; omega
    have t55 : ∀ h2 : Nat → Int → Int, (∀ p x, p ≠ 48 → ¬ (p = 41 ∧ x = 9) → h2 p x = g p x) → h2 41 9 = (if ((k + 1 : Nat) : Int) ≤ kk then ((k + 1 : Nat) : Int) else ((k + 1 : Nat) : Int) - 1) → (∀ i : Int, 0 ≤ i → i < (if ((k + 1 : Nat) : Int) ≤ kk then ((k + 1 : Nat) : Int) else ((k + 1 : Nat) : Int) - 1) → h2 48 i = g 42 (11 + (if i < kk then i else i + 1))) → Tg G (d + 8) (73, 42835) 70 55 [vr 41, vi e, vi v2, vi v3, vi v4, vi k, vc 0] [] (Mw h2) (QW Q) := by
      intro h2 a1 a2 a3
      refine T_b ok_X9_seeks_55 ?_
      simp only [vI_i, vJ_l, isI_i, isR_r, isR_c, aN_s, isA_s, okS_0, okS_s, isL_i, isL_l, isL_r, szV_i, szV_l, szV_r, szS_n, szS_c, pops_0, pops_s, icm_eq, icm_ne, icm_lt, icm_ge, icm_gt, icm_le, aG_s, oG_s, u_nil, v_aload0, u_astore0, u_astorec0, v_iload0, u_istore0, v_lload0, u_lstore0, v_aload1, u_astore1, u_astorec1, v_iload1, u_istore1, v_lload1, u_lstore1, v_aload2, u_astore2, u_astorec2, v_iload2, u_istore2, v_lload2, u_lstore2, v_aload3, u_astore3, u_astorec3, v_iload3, u_istore3, v_lload3, u_lstore3, v_aload, u_astore, v_iload, u_istore, v_lload, u_lstore, u_iconst, u_bipush, u_sipush, u_ldc, u_ldcs, u_ldc2, v_iinc, u_iadd, u_isub, u_imul, u_iand, u_idiv, u_irem, u_ineg, u_ladd, u_lmul, u_ldiv, u_lrem, u_lcmp, u_i2l, u_l2i, u_dup, u_dup2, u_pop, u_if, u_icmp, u_goto, u_switch, u_getf0, u_getf2, u_getf1, u_putf0, u_putf2, u_putf1, u_getst, v_iald, u_ialdc, v_iast, u_alen, u_newa, u_new, u_virt, u_spec, u_stat, w_iret, w_zret, u_lret, u_aret, u_vret, cV_s, cS_s, wc_v, wc_i, wc_s, vc_copy, uc_copyc, uc_min, uc_max, uc_abs, uc_char, uc_obj, gl_0, gl_s, sl_0, sl_s, wA, wR, wK, ceW_1, ceN_2, ceN_3, ceN_4, ceN_5, ceN_6, ceN_7, ceN_8, c_t, bu, QW_w, true_and, and_true, Bool.not_false, Option.toList_some, Option.toList_none, List.cons_append, List.nil_append, List.singleton_append, Int.cast_ofNat_Int, Int.natCast_zero, Int.natCast_one, true_implies, implies_true, not_true_eq_false, not_false_eq_true, ne_eq, eq_self, true_or, or_true, or_false, false_or, and_self, Int.reduceNeg, Int.reduceLE, Int.reduceLT, Int.reduceEq, Int.reduceAdd, Int.reduceSub, Int.reduceMul, Int.reduceNe, Nat.reduceAdd, Nat.reduceSub, Nat.reduceLeDiff, Nat.reduceLT, Nat.reduceEqDiff, Int.reduceToNat, Int.reduceNatCast, Int.reduceTDiv, Int.reduceTMod, false_implies, false_and, and_false, reduceIte, ite_true, ite_false, w1]
      exact ih (k + 1) h2 (by omega) a1 a2 a3
    by_cases hke : (k : Int) = e
    · have hkk : kk = k := by omega
      refine T_b ok_X9_seeks_8 ?_
      simp only [vI_i, vJ_l, isI_i, isR_r, isR_c, aN_s, isA_s, okS_0, okS_s, isL_i, isL_l, isL_r, szV_i, szV_l, szV_r, szS_n, szS_c, pops_0, pops_s, icm_eq, icm_ne, icm_lt, icm_ge, icm_gt, icm_le, aG_s, oG_s, u_nil, v_aload0, u_astore0, u_astorec0, v_iload0, u_istore0, v_lload0, u_lstore0, v_aload1, u_astore1, u_astorec1, v_iload1, u_istore1, v_lload1, u_lstore1, v_aload2, u_astore2, u_astorec2, v_iload2, u_istore2, v_lload2, u_lstore2, v_aload3, u_astore3, u_astorec3, v_iload3, u_istore3, v_lload3, u_lstore3, v_aload, u_astore, v_iload, u_istore, v_lload, u_lstore, u_iconst, u_bipush, u_sipush, u_ldc, u_ldcs, u_ldc2, v_iinc, u_iadd, u_isub, u_imul, u_iand, u_idiv, u_irem, u_ineg, u_ladd, u_lmul, u_ldiv, u_lrem, u_lcmp, u_i2l, u_l2i, u_dup, u_dup2, u_pop, u_if, u_icmp, u_goto, u_switch, u_getf0, u_getf2, u_getf1, u_putf0, u_putf2, u_putf1, u_getst, v_iald, u_ialdc, v_iast, u_alen, u_newa, u_new, u_virt, u_spec, u_stat, w_iret, w_zret, u_lret, u_aret, u_vret, cV_s, cS_s, wc_v, wc_i, wc_s, vc_copy, uc_copyc, uc_min, uc_max, uc_abs, uc_char, uc_obj, gl_0, gl_s, sl_0, sl_s, wA, wR, wK, ceW_1, ceN_2, ceN_3, ceN_4, ceN_5, ceN_6, ceN_7, ceN_8, c_t, bu, QW_w, true_and, and_true, Bool.not_false, Option.toList_some, Option.toList_none, List.cons_append, List.nil_append, List.singleton_append, Int.cast_ofNat_Int, Int.natCast_zero, Int.natCast_one, true_implies, implies_true, not_true_eq_false, not_false_eq_true, ne_eq, eq_self, true_or, or_true, or_false, false_or, and_self, Int.reduceNeg, Int.reduceLE, Int.reduceLT, Int.reduceEq, Int.reduceAdd, Int.reduceSub, Int.reduceMul, Int.reduceNe, Nat.reduceAdd, Nat.reduceSub, Nat.reduceLeDiff, Nat.reduceLT, Nat.reduceEqDiff, Int.reduceToNat, Int.reduceNatCast, Int.reduceTDiv, Int.reduceTMod, false_implies, false_and, and_false, reduceIte, ite_true, ite_false, e10]
      refine ⟨fun z => absurd z (by omega), fun _ => ⟨fun _ => t55 h f1 ?_ (fun i u v => f3 i u ?_), fun z => absurd hke z⟩⟩
      · rw [f2, if_pos (by omega), if_neg (by omega)]; omega
      · rw [if_neg (by omega)] at v; rw [if_pos (by omega)]; omega
    · generalize hM : (if (k : Int) ≤ kk then (k : Int) else k - 1) = M at f2 f3
      have hMr : 0 ≤ M ∧ M ≤ k := by rw [← hM]; split <;> omega
      have w2 : wr (11 + (k : Int)) = 11 + k := wr_of (by omega) (by omega)
      have w3 : wr (M + 1) = M + 1 := wr_of (by omega) (by omega)
      have e42 := f1 42 (11 + k) (by decide) (by omega)
      have e41 : ∀ v : Int, st h 48 M v 41 9 = M := fun v => by rw [st_ne (by decide)]; exact f2
      have hM1 : (if ((k + 1 : Nat) : Int) ≤ kk then ((k + 1 : Nat) : Int) else ((k + 1 : Nat) : Int) - 1) = M + 1 := by
        rw [← hM]
        split <;> split <;> omega
      refine T_b ok_X9_seeks_8 ?_
      simp only [vI_i, vJ_l, isI_i, isR_r, isR_c, aN_s, isA_s, okS_0, okS_s, isL_i, isL_l, isL_r, szV_i, szV_l, szV_r, szS_n, szS_c, pops_0, pops_s, icm_eq, icm_ne, icm_lt, icm_ge, icm_gt, icm_le, aG_s, oG_s, u_nil, v_aload0, u_astore0, u_astorec0, v_iload0, u_istore0, v_lload0, u_lstore0, v_aload1, u_astore1, u_astorec1, v_iload1, u_istore1, v_lload1, u_lstore1, v_aload2, u_astore2, u_astorec2, v_iload2, u_istore2, v_lload2, u_lstore2, v_aload3, u_astore3, u_astorec3, v_iload3, u_istore3, v_lload3, u_lstore3, v_aload, u_astore, v_iload, u_istore, v_lload, u_lstore, u_iconst, u_bipush, u_sipush, u_ldc, u_ldcs, u_ldc2, v_iinc, u_iadd, u_isub, u_imul, u_iand, u_idiv, u_irem, u_ineg, u_ladd, u_lmul, u_ldiv, u_lrem, u_lcmp, u_i2l, u_l2i, u_dup, u_dup2, u_pop, u_if, u_icmp, u_goto, u_switch, u_getf0, u_getf2, u_getf1, u_putf0, u_putf2, u_putf1, u_getst, v_iald, u_ialdc, v_iast, u_alen, u_newa, u_new, u_virt, u_spec, u_stat, w_iret, w_zret, u_lret, u_aret, u_vret, cV_s, cS_s, wc_v, wc_i, wc_s, vc_copy, uc_copyc, uc_min, uc_max, uc_abs, uc_char, uc_obj, gl_0, gl_s, sl_0, sl_s, wA, wR, wK, ceW_1, ceN_2, ceN_3, ceN_4, ceN_5, ceN_6, ceN_7, ceN_8, c_t, bu, QW_w, true_and, and_true, Bool.not_false, Option.toList_some, Option.toList_none, List.cons_append, List.nil_append, List.singleton_append, Int.cast_ofNat_Int, Int.natCast_zero, Int.natCast_one, true_implies, implies_true, not_true_eq_false, not_false_eq_true, ne_eq, eq_self, true_or, or_true, or_false, false_or, and_self, Int.reduceNeg, Int.reduceLE, Int.reduceLT, Int.reduceEq, Int.reduceAdd, Int.reduceSub, Int.reduceMul, Int.reduceNe, Nat.reduceAdd, Nat.reduceSub, Nat.reduceLeDiff, Nat.reduceLT, Nat.reduceEqDiff, Int.reduceToNat, Int.reduceNatCast, Int.reduceTDiv, Int.reduceTMod, false_implies, false_and, and_false, reduceIte, ite_true, ite_false, e10, f2, w2, e42, e41, w3]
      refine ⟨fun z => absurd z (by omega), fun _ => ⟨fun z => absurd z hke, fun _ => ⟨by omega, by omega, ?_⟩⟩⟩
      refine t55 _ (fun p x u v => by rw [st_nq v, st_ne u]; exact f1 p x u v) (by rw [hM1, st_eq]) (fun i u v => ?_)
      rw [hM1] at v
      rw [st_ne (by decide)]
      by_cases ei : i = M
      · rw [ei, st_eq]
        congr 2
        rw [← hM]
        by_cases hc : (k : Int) ≤ kk
        · rw [if_pos hc, if_pos (by omega)]
        · rw [if_neg hc, if_neg (by omega)]; omega
      · rw [st_ni ei]; exact f3 i u (by omega)
theorem m_seeks (hT : MT g) (hq : QeOK q) {N : Nat} (hN : N ≤ 8) (h10 : g 42 10 = N) (hS : ∀ i : Int, 0 ≤ i → i < 10 → g 42 i = q.2.2.1 i) {e kk : Int} (hk : (e = -1 ∧ kk = N) ∨ (e = kk ∧ 0 ≤ kk ∧ kk < N)) (hq1 : (q.1 : Int) = if (N : Int) ≤ kk then (N : Int) else N - 1) (hqt : ∀ i : Int, 0 ≤ i → i < q.1 → g 42 (11 + (if i < kk then i else i + 1)) = q.2.1 i)
    (hQ : ∀ h : Nat → Int → Int, FrU g h → MQe h q → (lqQ q < fa → mkL (h 54) (h 55) 0 (q.2.2.1 0).toNat = pkL q (q.2.2.1 0).toNat 0 (q.2.2.1 1) 0) → h 41 18 = lqQ q → Q (some (vi (lqQ q))) (Mw h)) :
    Cg G (d + 8) 70 [vr 41, vi e, vi q.2.2.2.1, vi q.2.2.2.2.1, vi q.2.2.2.2.2] (Mw g) Q := by
  have hB3 := hq.bars
  have hw0 := w0Q_in (q := q)
  have hBc : q.2.2.1 0 = ((q.2.2.1 0).toNat : Nat) := by omega
  refine C_t (a := [vr 41, vi e, vi q.2.2.2.1, vi q.2.2.2.2.1, vi q.2.2.2.2.2]) mo_70 rfl rfl (Nat.le_of_ble_eq_true rfl) ?_
  change Tg G _ (73, 42835) 70 0 [vr 41, vi e, vi q.2.2.2.1, vi q.2.2.2.2.1, vi q.2.2.2.2.2, vc 0, vc 0] [] (Mw _) _
  refine T_b ok_X9_seeks_0 ?_
  simp only [vI_i, vJ_l, isI_i, isR_r, isR_c, aN_s, isA_s, okS_0, okS_s, isL_i, isL_l, isL_r, szV_i, szV_l, szV_r, szS_n, szS_c, pops_0, pops_s, icm_eq, icm_ne, icm_lt, icm_ge, icm_gt, icm_le, aG_s, oG_s, u_nil, v_aload0, u_astore0, u_astorec0, v_iload0, u_istore0, v_lload0, u_lstore0, v_aload1, u_astore1, u_astorec1, v_iload1, u_istore1, v_lload1, u_lstore1, v_aload2, u_astore2, u_astorec2, v_iload2, u_istore2, v_lload2, u_lstore2, v_aload3, u_astore3, u_astorec3, v_iload3, u_istore3, v_lload3, u_lstore3, v_aload, u_astore, v_iload, u_istore, v_lload, u_lstore, u_iconst, u_bipush, u_sipush, u_ldc, u_ldcs, u_ldc2, v_iinc, u_iadd, u_isub, u_imul, u_iand, u_idiv, u_irem, u_ineg, u_ladd, u_lmul, u_ldiv, u_lrem, u_lcmp, u_i2l, u_l2i, u_dup, u_dup2, u_pop, u_if, u_icmp, u_goto, u_switch, u_getf0, u_getf2, u_getf1, u_putf0, u_putf2, u_putf1, u_getst, v_iald, u_ialdc, v_iast, u_alen, u_newa, u_new, u_virt, u_spec, u_stat, w_iret, w_zret, u_lret, u_aret, u_vret, cV_s, cS_s, wc_v, wc_i, wc_s, vc_copy, uc_copyc, uc_min, uc_max, uc_abs, uc_char, uc_obj, gl_0, gl_s, sl_0, sl_s, wA, wR, wK, ceW_1, ceN_2, ceN_3, ceN_4, ceN_5, ceN_6, ceN_7, ceN_8, c_t, bu, QW_w, true_and, and_true, Bool.not_false, Option.toList_some, Option.toList_none, List.cons_append, List.nil_append, List.singleton_append, Int.cast_ofNat_Int, Int.natCast_zero, Int.natCast_one, true_implies, implies_true, not_true_eq_false, not_false_eq_true, ne_eq, eq_self, true_or, or_true, or_false, false_or, and_self, Int.reduceNeg, Int.reduceLE, Int.reduceLT, Int.reduceEq, Int.reduceAdd, Int.reduceSub, Int.reduceMul, Int.reduceNe, Nat.reduceAdd, Nat.reduceSub, Nat.reduceLeDiff, Nat.reduceLT, Nat.reduceEqDiff, Int.reduceToNat, Int.reduceNatCast, Int.reduceTDiv, Int.reduceTMod, false_implies, false_and, and_false, reduceIte, ite_true, ite_false]
  refine seek_time (g := st g 41 9 0) (N := N) hN ((st_ne (by decide)).trans h10) hk (fun h f1 f2 f3 => ?_) N 0 _ (by omega) (fun _ _ _ _ => rfl) (by rw [st_eq, if_pos (by omega)]; rfl) (fun i u v => by rw [if_pos (by omega)] at v; exact absurd v (by omega))
  rw [← hq1] at f2 f3
  have hx := hq.2.2.2.2.2
  refine T_b ok_X9_seeks_61 ?_
  simp only [vI_i, vJ_l, isI_i, isR_r, isR_c, aN_s, isA_s, okS_0, okS_s, isL_i, isL_l, isL_r, szV_i, szV_l, szV_r, szS_n, szS_c, pops_0, pops_s, icm_eq, icm_ne, icm_lt, icm_ge, icm_gt, icm_le, aG_s, oG_s, u_nil, v_aload0, u_astore0, u_astorec0, v_iload0, u_istore0, v_lload0, u_lstore0, v_aload1, u_astore1, u_astorec1, v_iload1, u_istore1, v_lload1, u_lstore1, v_aload2, u_astore2, u_astorec2, v_iload2, u_istore2, v_lload2, u_lstore2, v_aload3, u_astore3, u_astorec3, v_iload3, u_istore3, v_lload3, u_lstore3, v_aload, u_astore, v_iload, u_istore, v_lload, u_lstore, u_iconst, u_bipush, u_sipush, u_ldc, u_ldcs, u_ldc2, v_iinc, u_iadd, u_isub, u_imul, u_iand, u_idiv, u_irem, u_ineg, u_ladd, u_lmul, u_ldiv, u_lrem, u_lcmp, u_i2l, u_l2i, u_dup, u_dup2, u_pop, u_if, u_icmp, u_goto, u_switch, u_getf0, u_getf2, u_getf1, u_putf0, u_putf2, u_putf1, u_getst, v_iald, u_ialdc, v_iast, u_alen, u_newa, u_new, u_virt, u_spec, u_stat, w_iret, w_zret, u_lret, u_aret, u_vret, cV_s, cS_s, wc_v, wc_i, wc_s, vc_copy, uc_copyc, uc_min, uc_max, uc_abs, uc_char, uc_obj, gl_0, gl_s, sl_0, sl_s, wA, wR, wK, ceW_1, ceN_2, ceN_3, ceN_4, ceN_5, ceN_6, ceN_7, ceN_8, c_t, bu, QW_w, true_and, and_true, Bool.not_false, Option.toList_some, Option.toList_none, List.cons_append, List.nil_append, List.singleton_append, Int.cast_ofNat_Int, Int.natCast_zero, Int.natCast_one, true_implies, implies_true, not_true_eq_false, not_false_eq_true, ne_eq, eq_self, true_or, or_true, or_false, false_or, and_self, Int.reduceNeg, Int.reduceLE, Int.reduceLT, Int.reduceEq, Int.reduceAdd, Int.reduceSub, Int.reduceMul, Int.reduceNe, Nat.reduceAdd, Nat.reduceSub, Nat.reduceLeDiff, Nat.reduceLT, Nat.reduceEqDiff, Int.reduceToNat, Int.reduceNatCast, Int.reduceTDiv, Int.reduceTMod, false_implies, false_and, and_false, reduceIte, ite_true, ite_false]
  refine ⟨hx, ?_⟩
  generalize hH : st (st (st (st h 41 10 q.2.2.2.1) 41 11 q.2.2.2.2.1) 41 12 q.2.2.2.2.2) 41 18 100000000 = H
  have FH : ∀ (p : Nat) (x : Int), p ≠ 41 → H p x = h p x := fun p x u => by rw [← hH, st_ne u, st_ne u, st_ne u, st_ne u]
  have F41 : ∀ x : Int, x ≠ 10 → x ≠ 11 → x ≠ 12 → x ≠ 18 → H 41 x = h 41 x := fun x u v w z => by rw [← hH, st_ni z, st_ni w, st_ni v, st_ni u]
  have h10' : H 41 10 = q.2.2.2.1 := by rw [← hH, st_ni (by decide), st_ni (by decide), st_ni (by decide), st_eq]
  have h11' : H 41 11 = q.2.2.2.2.1 := by rw [← hH, st_ni (by decide), st_ni (by decide), st_eq]
  have h12' : H 41 12 = q.2.2.2.2.2 := by rw [← hH, st_ni (by decide), st_eq]
  have h18' : H 41 18 = fa := by rw [← hH, st_eq, fa_def]
  have hMH : MQe H q := by
    refine ⟨?_, h10', h11', h12', fun i u v => ?_, fun i u v => ?_⟩
    · rw [F41 9 (by decide) (by decide) (by decide) (by decide)]; exact f2
    · rw [FH 48 i (by decide), f3 i u v, st_ne (by decide)]; exact hqt i u v
    · rw [FH 42 i (by decide), f1 42 i (by decide) (by omega), st_ne (by decide)]; exact hS i u v
  have FU : FrU g H := fun p x z => by
    by_cases ep : p = 41
    · subst ep
      rw [F41 x (by omega) (by omega) (by omega) (by omega), f1 41 x (by decide) (by omega), st_ni (by omega)]
    · rw [FH p x ep, f1 p x (by omega) (by omega), st_ne ep]
  have hTH : MT H := by
    have e46 : H 46 = g 46 := funext fun x => FU 46 x (by omega)
    have e47 : H 47 = g 47 := funext fun x => FU 47 x (by omega)
    unfold MT; rw [e46, e47]; exact hT
  have t95 : Tg G (d + 8) (73, 42835) 70 95 [vr 41, vi e, vi q.2.2.2.1, vi q.2.2.2.2.1, vi q.2.2.2.2.2, vi N, vc 0] [vi (w0Q q)] (Mw H) (QW Q) := by
    refine T_b ok_X9_seeks_95 ?_
    simp only [vI_i, vJ_l, isI_i, isR_r, isR_c, aN_s, isA_s, okS_0, okS_s, isL_i, isL_l, isL_r, szV_i, szV_l, szV_r, szS_n, szS_c, pops_0, pops_s, icm_eq, icm_ne, icm_lt, icm_ge, icm_gt, icm_le, aG_s, oG_s, u_nil, v_aload0, u_astore0, u_astorec0, v_iload0, u_istore0, v_lload0, u_lstore0, v_aload1, u_astore1, u_astorec1, v_iload1, u_istore1, v_lload1, u_lstore1, v_aload2, u_astore2, u_astorec2, v_iload2, u_istore2, v_lload2, u_lstore2, v_aload3, u_astore3, u_astorec3, v_iload3, u_istore3, v_lload3, u_lstore3, v_aload, u_astore, v_iload, u_istore, v_lload, u_lstore, u_iconst, u_bipush, u_sipush, u_ldc, u_ldcs, u_ldc2, v_iinc, u_iadd, u_isub, u_imul, u_iand, u_idiv, u_irem, u_ineg, u_ladd, u_lmul, u_ldiv, u_lrem, u_lcmp, u_i2l, u_l2i, u_dup, u_dup2, u_pop, u_if, u_icmp, u_goto, u_switch, u_getf0, u_getf2, u_getf1, u_putf0, u_putf2, u_putf1, u_getst, v_iald, u_ialdc, v_iast, u_alen, u_newa, u_new, u_virt, u_spec, u_stat, w_iret, w_zret, u_lret, u_aret, u_vret, cV_s, cS_s, wc_v, wc_i, wc_s, vc_copy, uc_copyc, uc_min, uc_max, uc_abs, uc_char, uc_obj, gl_0, gl_s, sl_0, sl_s, wA, wR, wK, ceW_1, ceN_2, ceN_3, ceN_4, ceN_5, ceN_6, ceN_7, ceN_8, c_t, bu, QW_w, true_and, and_true, Bool.not_false, Option.toList_some, Option.toList_none, List.cons_append, List.nil_append, List.singleton_append, Int.cast_ofNat_Int, Int.natCast_zero, Int.natCast_one, true_implies, implies_true, not_true_eq_false, not_false_eq_true, ne_eq, eq_self, true_or, or_true, or_false, false_or, and_self, Int.reduceNeg, Int.reduceLE, Int.reduceLT, Int.reduceEq, Int.reduceAdd, Int.reduceSub, Int.reduceMul, Int.reduceNe, Nat.reduceAdd, Nat.reduceSub, Nat.reduceLeDiff, Nat.reduceLT, Nat.reduceEqDiff, Int.reduceToNat, Int.reduceNatCast, Int.reduceTDiv, Int.reduceTMod, false_implies, false_and, and_false, reduceIte, ite_true, ite_false]
    refine seek_ways (g := H) (q := q) (B := (q.2.2.1 0).toNat) hTH hMH hq hBc (by omega) (fun h2 f4 m4 b4 => ?_) (3 - w0Q q).toNat (w0Q q) H _ (Int.le_refl _) (by omega) FrU.rf hMH hTH ?_
    · obtain ⟨z1, z2⟩ := best_fin hq (by omega) b4
      rw [z1]
      exact hQ h2 (FU.tr f4) m4 z2 z1
    · refine ⟨by rw [h18']; exact Int.le_refl _, fun l hl => ?_, fun z => absurd z (by rw [h18']; omega)⟩
      obtain ⟨w', u, -⟩ := hl
      omega
  unfold w0Q at t95
  have hcv : st (st (st h 41 10 q.2.2.2.1) 41 11 q.2.2.2.2.1) 41 12 q.2.2.2.2.2 41 10 = q.2.2.2.1 := by rw [st_ni (by decide), st_ni (by decide), st_eq]
  rw [h10']
  refine ⟨fun z => ?_, fun z => ?_⟩
  · rw [if_neg z] at t95
    refine T_b ok_X9_seeks_94 ?_
    simp only [vI_i, vJ_l, isI_i, isR_r, isR_c, aN_s, isA_s, okS_0, okS_s, isL_i, isL_l, isL_r, szV_i, szV_l, szV_r, szS_n, szS_c, pops_0, pops_s, icm_eq, icm_ne, icm_lt, icm_ge, icm_gt, icm_le, aG_s, oG_s, u_nil, v_aload0, u_astore0, u_astorec0, v_iload0, u_istore0, v_lload0, u_lstore0, v_aload1, u_astore1, u_astorec1, v_iload1, u_istore1, v_lload1, u_lstore1, v_aload2, u_astore2, u_astorec2, v_iload2, u_istore2, v_lload2, u_lstore2, v_aload3, u_astore3, u_astorec3, v_iload3, u_istore3, v_lload3, u_lstore3, v_aload, u_astore, v_iload, u_istore, v_lload, u_lstore, u_iconst, u_bipush, u_sipush, u_ldc, u_ldcs, u_ldc2, v_iinc, u_iadd, u_isub, u_imul, u_iand, u_idiv, u_irem, u_ineg, u_ladd, u_lmul, u_ldiv, u_lrem, u_lcmp, u_i2l, u_l2i, u_dup, u_dup2, u_pop, u_if, u_icmp, u_goto, u_switch, u_getf0, u_getf2, u_getf1, u_putf0, u_putf2, u_putf1, u_getst, v_iald, u_ialdc, v_iast, u_alen, u_newa, u_new, u_virt, u_spec, u_stat, w_iret, w_zret, u_lret, u_aret, u_vret, cV_s, cS_s, wc_v, wc_i, wc_s, vc_copy, uc_copyc, uc_min, uc_max, uc_abs, uc_char, uc_obj, gl_0, gl_s, sl_0, sl_s, wA, wR, wK, ceW_1, ceN_2, ceN_3, ceN_4, ceN_5, ceN_6, ceN_7, ceN_8, c_t, bu, QW_w, true_and, and_true, Bool.not_false, Option.toList_some, Option.toList_none, List.cons_append, List.nil_append, List.singleton_append, Int.cast_ofNat_Int, Int.natCast_zero, Int.natCast_one, true_implies, implies_true, not_true_eq_false, not_false_eq_true, ne_eq, eq_self, true_or, or_true, or_false, false_or, and_self, Int.reduceNeg, Int.reduceLE, Int.reduceLT, Int.reduceEq, Int.reduceAdd, Int.reduceSub, Int.reduceMul, Int.reduceNe, Nat.reduceAdd, Nat.reduceSub, Nat.reduceLeDiff, Nat.reduceLT, Nat.reduceEqDiff, Int.reduceToNat, Int.reduceNatCast, Int.reduceTDiv, Int.reduceTMod, false_implies, false_and, and_false, reduceIte, ite_true, ite_false]
    exact t95
  · rw [if_pos (by omega)] at t95
    exact t95
end MDSEEK2
