/-! THE CLASS: strokes, settings, states -/
section CLSOPS
variable {G : Gx} {d : Nat} {g : Nat → Int → Int} {Q : Qx} {A : Ab}
theorem cpy_in {h : Nat → Int → Int} {src : Int → Int} {sp dp n i : Int} {q : Nat} (a : dp ≤ i) (b : i < dp + n) : cpy h src sp q dp n q i = src (sp + (i - dp)) := by unfold cpy; rw [if_pos ⟨rfl, a, b⟩]
theorem cpy_out {h : Nat → Int → Int} {src : Int → Int} {sp dp n i : Int} {q : Nat} (a : i < dp ∨ dp + n ≤ i) : cpy h src sp q dp n q i = h q i := by unfold cpy; rw [if_neg (fun z => by omega)]
/-- what strokes, settings and texts don't touch -/
def FrC (g g' : Nat → Int → Int) : Prop := ∀ (q : Nat) (i : Int), 14 ≤ q → q ≠ 40 → g' q i = g q i
theorem FrC.rf : FrC g g := fun _ _ _ _ => rfl
theorem FrC.tr {g1 g2 g3 : Nat → Int → Int} (a : FrC g1 g2) (b : FrC g2 g3) : FrC g1 g3 := fun q i x y => (b q i x y).trans (a q i x y)
theorem AgS_cg {n : Int} {f h f' h' : Int → Int} {s : Sc} (H : AgS n f h s) (a : ∀ i : Int, 0 ≤ i → i < s.1 → f' i = f i) (b : ∀ i : Int, 0 ≤ i → i < 10 → h' i = h i) : AgS n f' h' s :=
  ⟨H.1, fun i x y => (a i x y).trans (H.2.1 i x y), fun i x y => (b i x y).trans (H.2.2 i x y)⟩
theorem IC_cur {g' : Nat → Int → Int} {s : Sc} (h : IC g A) (hf : ∀ (q : Nat) (i : Int), q ≠ 2 → q ≠ 3 → ¬ (q = 1 ∧ i = 2) → q ≠ 0 → g' q i = g q i) (hs : AgS (g' 1 2) (g' 2) (g' 3) s) : IC g' (s, A.2) := by
  obtain ⟨-, h2, h3, h4, h5, h6, h7⟩ := h
  have e4 : ∀ i, g' 4 i = g 4 i := fun i => hf 4 i (by decide) (by decide) (by omega) (by decide)
  have e5 : ∀ i, g' 5 i = g 5 i := fun i => hf 5 i (by decide) (by decide) (by omega) (by decide)
  have e6 : ∀ i, g' 6 i = g 6 i := fun i => hf 6 i (by decide) (by decide) (by omega) (by decide)
  have e7 : ∀ i, g' 7 i = g 7 i := fun i => hf 7 i (by decide) (by decide) (by omega) (by decide)
  have e40 : ∀ i, g' 40 i = g 40 i := fun i => hf 40 i (by decide) (by decide) (by omega) (by decide)
  refine ⟨hs, ?_, ?_, ?_, ?_, ?_, ?_⟩
  · rw [e4]; exact h2
  · rw [e4]; exact h3
  · intro k s hk; simp only [e4, e5]; exact h4 k s hk
  · intro i a b; rw [e40]; exact h5 i a b
  · rw [e6]; exact h6
  · intro i a b; rw [e7]; exact h7 i a b
theorem q_saveTo {a : Int} (h0 : 0 ≤ a) (h1 : a ≤ 133) (hQ : ∀ g' : Nat → Int → Int, (∀ q i, q ≠ 5 → g' q i = g q i) → (∀ i : Int, i < a ∨ a + 19 ≤ i → g' 5 i = g 5 i) → (∀ i : Int, 0 ≤ i → i < 8 → g' 5 (a + i) = g 2 i) → (∀ i : Int, 0 ≤ i → i < 10 → g' 5 (a + 8 + i) = g 3 i) → g' 5 (a + 18) = g 1 2 → Q none (Mw g')) :
    Cg G d 107 [vr 1, vr 5, vi a] (Mw g) Q := by
  refine C_t (a := [vr 1, vr 5, vi a]) mo_107 rfl rfl (Nat.le_of_ble_eq_true rfl) ?_
  change Tg G _ (73, 42835) 107 0 [vr 1, vr 5, vi a] [] (Mw _) _
  have e1 : wr (a + 8) = a + 8 := wr_of (by omega) (by omega)
  have e2 : wr (wr (a + 19) - 1) = a + 18 := by rw [wr_of (x := a + 19) (by omega) (by omega), wr_of (by omega) (by omega)]; omega
  refine T_b ok_X1_saveTo_0 ?_
  simp only [gI_i, gJ_l, gR_r, gR_c, okS_0, okS_s, isL_i, isL_l, isL_r, szV_i, szV_l, szV_r, szS_n, szS_c, pops_0, pops_s, icm_eq, icm_ne, icm_lt, icm_ge, icm_gt, icm_le, aG_s, oG_s, w_nil, w_aload0, w_astore0, w_astorec0, w_iload0, w_istore0, w_lload0, w_lstore0, w_aload1, w_astore1, w_astorec1, w_iload1, w_istore1, w_lload1, w_lstore1, w_aload2, w_astore2, w_astorec2, w_iload2, w_istore2, w_lload2, w_lstore2, w_aload3, w_astore3, w_astorec3, w_iload3, w_istore3, w_lload3, w_lstore3, w_aload, w_astore, w_iload, w_istore, w_lload, w_lstore, w_iconst, w_bipush, w_sipush, w_ldc, w_ldcs, w_ldc2, w_iinc, w_iadd, w_isub, w_imul, w_iand, w_idiv, w_irem, w_ineg, w_ladd, w_lmul, w_ldiv, w_lrem, w_lcmp, w_i2l, w_l2i, w_dup, w_dup2, w_pop, w_if, w_icmp, w_goto, w_switch, w_getf0, w_getf2, w_getf1, w_putf0, w_putf2, w_putf1, w_getst, w_iald, w_ialdc, w_iast, w_alen, w_newa, w_new, w_virt, w_spec, w_stat, w_iret, w_zret, w_lret, w_aret, w_vret, cV_s, cS_s, wc_v, wc_i, wc_s, wc_copy, wc_copyc, wc_min, wc_max, wc_abs, wc_char, wc_obj, gl_0, gl_s, sl_0, sl_s, wA, wR, wK, ceW_1, ceN_2, ceN_3, ceN_4, ceN_5, ceN_6, ceN_7, ceN_8, c_t, bu, QW_w, true_and, and_true, Bool.not_false, Option.toList_some, Option.toList_none, List.cons_append, List.nil_append, List.singleton_append, Int.cast_ofNat_Int, Int.natCast_zero, Int.natCast_one, true_implies, implies_true, not_true_eq_false, not_false_eq_true, ne_eq, eq_self, true_or, or_true, or_false, false_or, and_self, Int.reduceNeg, Int.reduceLE, Int.reduceLT, Int.reduceEq, Int.reduceAdd, Int.reduceSub, Int.reduceMul, Int.reduceNe, Nat.reduceAdd, Nat.reduceSub, Nat.reduceLeDiff, Nat.reduceLT, Nat.reduceEqDiff, Int.reduceToNat, Int.reduceNatCast, Int.reduceTDiv, Int.reduceTMod, false_implies, false_and, and_false, reduceIte, ite_true, ite_false, e1, e2]
  refine ⟨by omega, by omega, by omega, hQ _ (fun q i x => ?_) (fun i x => ?_) (fun i x y => ?_) (fun i x y => ?_) ?_⟩
  · rw [st_ne x, cpy_ne x, cpy_ne x]
  · rw [st_ni (by omega), cpy_out (by omega), cpy_out (by omega)]
  · rw [st_ni (by omega), cpy_out (by omega), cpy_in (by omega) (by omega)]; congr 1; omega
  · rw [st_ni (by omega), cpy_in (by omega) (by omega), cpy_ne (by decide)]; congr 1; omega
  · rw [st_eq, cpy_ne (by decide), cpy_ne (by decide)]
theorem q_loadFrom {a : Int} (h0 : 0 ≤ a) (h1 : a ≤ 133) (hQ : ∀ g' : Nat → Int → Int, (∀ q i, q ≠ 2 → q ≠ 3 → ¬ (q = 1 ∧ i = 2) → g' q i = g q i) → (∀ i : Int, 0 ≤ i → i < 8 → g' 2 i = g 5 (a + i)) → (∀ i : Int, 0 ≤ i → i < 10 → g' 3 i = g 5 (a + 8 + i)) → g' 1 2 = g 5 (a + 18) → Q none (Mw g')) :
    Cg G d 108 [vr 1, vr 5, vi a] (Mw g) Q := by
  refine C_t (a := [vr 1, vr 5, vi a]) mo_108 rfl rfl (Nat.le_of_ble_eq_true rfl) ?_
  change Tg G _ (73, 42835) 108 0 [vr 1, vr 5, vi a] [] (Mw _) _
  have e1 : wr (a + 8) = a + 8 := wr_of (by omega) (by omega)
  have e2 : wr (wr (a + 19) - 1) = a + 18 := by rw [wr_of (x := a + 19) (by omega) (by omega), wr_of (by omega) (by omega)]; omega
  refine T_b ok_X1_loadFrom_0 ?_
  simp only [gI_i, gJ_l, gR_r, gR_c, okS_0, okS_s, isL_i, isL_l, isL_r, szV_i, szV_l, szV_r, szS_n, szS_c, pops_0, pops_s, icm_eq, icm_ne, icm_lt, icm_ge, icm_gt, icm_le, aG_s, oG_s, w_nil, w_aload0, w_astore0, w_astorec0, w_iload0, w_istore0, w_lload0, w_lstore0, w_aload1, w_astore1, w_astorec1, w_iload1, w_istore1, w_lload1, w_lstore1, w_aload2, w_astore2, w_astorec2, w_iload2, w_istore2, w_lload2, w_lstore2, w_aload3, w_astore3, w_astorec3, w_iload3, w_istore3, w_lload3, w_lstore3, w_aload, w_astore, w_iload, w_istore, w_lload, w_lstore, w_iconst, w_bipush, w_sipush, w_ldc, w_ldcs, w_ldc2, w_iinc, w_iadd, w_isub, w_imul, w_iand, w_idiv, w_irem, w_ineg, w_ladd, w_lmul, w_ldiv, w_lrem, w_lcmp, w_i2l, w_l2i, w_dup, w_dup2, w_pop, w_if, w_icmp, w_goto, w_switch, w_getf0, w_getf2, w_getf1, w_putf0, w_putf2, w_putf1, w_getst, w_iald, w_ialdc, w_iast, w_alen, w_newa, w_new, w_virt, w_spec, w_stat, w_iret, w_zret, w_lret, w_aret, w_vret, cV_s, cS_s, wc_v, wc_i, wc_s, wc_copy, wc_copyc, wc_min, wc_max, wc_abs, wc_char, wc_obj, gl_0, gl_s, sl_0, sl_s, wA, wR, wK, ceW_1, ceN_2, ceN_3, ceN_4, ceN_5, ceN_6, ceN_7, ceN_8, c_t, bu, QW_w, true_and, and_true, Bool.not_false, Option.toList_some, Option.toList_none, List.cons_append, List.nil_append, List.singleton_append, Int.cast_ofNat_Int, Int.natCast_zero, Int.natCast_one, true_implies, implies_true, not_true_eq_false, not_false_eq_true, ne_eq, eq_self, true_or, or_true, or_false, false_or, and_self, Int.reduceNeg, Int.reduceLE, Int.reduceLT, Int.reduceEq, Int.reduceAdd, Int.reduceSub, Int.reduceMul, Int.reduceNe, Nat.reduceAdd, Nat.reduceSub, Nat.reduceLeDiff, Nat.reduceLT, Nat.reduceEqDiff, Int.reduceToNat, Int.reduceNatCast, Int.reduceTDiv, Int.reduceTMod, false_implies, false_and, and_false, reduceIte, ite_true, ite_false, e1, e2]
  refine ⟨by omega, by omega, by omega, hQ _ (fun q i x y z => ?_) (fun i x y => ?_) (fun i x y => ?_) ?_⟩
  · rw [st_nq z, cpy_ne y, cpy_ne x]
  · rw [st_ne (by decide), cpy_ne (by decide), cpy_in (by omega) (by omega)]; congr 1; omega
  · rw [st_ne (by decide), cpy_in (by omega) (by omega), cpy_ne (by decide)]; congr 1; omega
  · rw [st_eq, cpy_ne (by decide), cpy_ne (by decide)]
theorem tmod8 {x : Int} (h : 0 ≤ x) : x.tmod 8 = x % 8 := Int.tmod_eq_emod_of_nonneg h
theorem take8 {s : Sc} {l : List Sc} (hl : l.length ≤ 8) : ((s :: l).take 8).length = if l.length = 8 then 8 else l.length + 1 := by
  rw [List.length_take, List.length_cons]; split <;> omega
theorem q_keep (hI : IC g A) (hA : AbOK A) (hQ : ∀ g' : Nat → Int → Int, IC g' (aK A) → (∀ (q : Nat) (i : Int), 6 ≤ q → g' q i = g q i) → (∀ i, g' 0 i = g 0 i) → Q none (Mw g')) : Cg G (d + 1) 99 [vr 4, vr 1] (Mw g) Q := by
  obtain ⟨h1, h2, h3, h4, h5, h6, h7⟩ := hI
  have hl : A.2.1.length ≤ 8 := hA.2.2.1
  refine C_t (a := [vr 4, vr 1]) mo_99 rfl rfl (Nat.le_of_ble_eq_true rfl) ?_
  change Tg G _ (73, 42835) 99 0 [vr 4, vr 1] [] (Mw _) _
  have e1 : wr (g 4 1 * 19) = 19 * g 4 1 := by rw [wr_of (by omega) (by omega)]; omega
  refine T_b ok_X0_keep_0 ?_
  simp only [gI_i, gJ_l, gR_r, gR_c, okS_0, okS_s, isL_i, isL_l, isL_r, szV_i, szV_l, szV_r, szS_n, szS_c, pops_0, pops_s, icm_eq, icm_ne, icm_lt, icm_ge, icm_gt, icm_le, aG_s, oG_s, w_nil, w_aload0, w_astore0, w_astorec0, w_iload0, w_istore0, w_lload0, w_lstore0, w_aload1, w_astore1, w_astorec1, w_iload1, w_istore1, w_lload1, w_lstore1, w_aload2, w_astore2, w_astorec2, w_iload2, w_istore2, w_lload2, w_lstore2, w_aload3, w_astore3, w_astorec3, w_iload3, w_istore3, w_lload3, w_lstore3, w_aload, w_astore, w_iload, w_istore, w_lload, w_lstore, w_iconst, w_bipush, w_sipush, w_ldc, w_ldcs, w_ldc2, w_iinc, w_iadd, w_isub, w_imul, w_iand, w_idiv, w_irem, w_ineg, w_ladd, w_lmul, w_ldiv, w_lrem, w_lcmp, w_i2l, w_l2i, w_dup, w_dup2, w_pop, w_if, w_icmp, w_goto, w_switch, w_getf0, w_getf2, w_getf1, w_putf0, w_putf2, w_putf1, w_getst, w_iald, w_ialdc, w_iast, w_alen, w_newa, w_new, w_virt, w_spec, w_stat, w_iret, w_zret, w_lret, w_aret, w_vret, cV_s, cS_s, wc_v, wc_i, wc_s, wc_copy, wc_copyc, wc_min, wc_max, wc_abs, wc_char, wc_obj, gl_0, gl_s, sl_0, sl_s, wA, wR, wK, ceW_1, ceN_2, ceN_3, ceN_4, ceN_5, ceN_6, ceN_7, ceN_8, c_t, bu, QW_w, true_and, and_true, Bool.not_false, Option.toList_some, Option.toList_none, List.cons_append, List.nil_append, List.singleton_append, Int.cast_ofNat_Int, Int.natCast_zero, Int.natCast_one, true_implies, implies_true, not_true_eq_false, not_false_eq_true, ne_eq, eq_self, true_or, or_true, or_false, false_or, and_self, Int.reduceNeg, Int.reduceLE, Int.reduceLT, Int.reduceEq, Int.reduceAdd, Int.reduceSub, Int.reduceMul, Int.reduceNe, Nat.reduceAdd, Nat.reduceSub, Nat.reduceLeDiff, Nat.reduceLT, Nat.reduceEqDiff, Int.reduceToNat, Int.reduceNatCast, Int.reduceTDiv, Int.reduceTMod, false_implies, false_and, and_false, reduceIte, ite_true, ite_false, e1]
  refine q_saveTo (a := 19 * g 4 1) (by omega) (by omega) (fun g1 a1 a2 a3 a4 a5 => ?_)
  have e4 : ∀ i, g1 4 i = g 4 i := fun i => a1 4 i (by decide)
  have e2 : (wr (g 4 1 + 1)).tmod 8 = (g 4 1 + 1) % 8 := by rw [wr_of (by omega) (by omega)]; exact tmod8 (by omega)
  have e3 : min (wr (g 4 2 + 1)) 8 = ((A.1 :: A.2.1).take 8).length := by
    rw [take8 hl, wr_of (by omega) (by omega), h3]; split <;> omega
  have e3' : st g1 4 1 ((g 4 1 + 1) % 8) 4 2 = g 4 2 := by rw [st_ni (by decide), e4]
  simp only [gI_i, gJ_l, gR_r, gR_c, okS_0, okS_s, isL_i, isL_l, isL_r, szV_i, szV_l, szV_r, szS_n, szS_c, pops_0, pops_s, icm_eq, icm_ne, icm_lt, icm_ge, icm_gt, icm_le, aG_s, oG_s, w_nil, w_aload0, w_astore0, w_astorec0, w_iload0, w_istore0, w_lload0, w_lstore0, w_aload1, w_astore1, w_astorec1, w_iload1, w_istore1, w_lload1, w_lstore1, w_aload2, w_astore2, w_astorec2, w_iload2, w_istore2, w_lload2, w_lstore2, w_aload3, w_astore3, w_astorec3, w_iload3, w_istore3, w_lload3, w_lstore3, w_aload, w_astore, w_iload, w_istore, w_lload, w_lstore, w_iconst, w_bipush, w_sipush, w_ldc, w_ldcs, w_ldc2, w_iinc, w_iadd, w_isub, w_imul, w_iand, w_idiv, w_irem, w_ineg, w_ladd, w_lmul, w_ldiv, w_lrem, w_lcmp, w_i2l, w_l2i, w_dup, w_dup2, w_pop, w_if, w_icmp, w_goto, w_switch, w_getf0, w_getf2, w_getf1, w_putf0, w_putf2, w_putf1, w_getst, w_iald, w_ialdc, w_iast, w_alen, w_newa, w_new, w_virt, w_spec, w_stat, w_iret, w_zret, w_lret, w_aret, w_vret, cV_s, cS_s, wc_v, wc_i, wc_s, wc_copy, wc_copyc, wc_min, wc_max, wc_abs, wc_char, wc_obj, gl_0, gl_s, sl_0, sl_s, wA, wR, wK, ceW_1, ceN_2, ceN_3, ceN_4, ceN_5, ceN_6, ceN_7, ceN_8, c_t, bu, QW_w, true_and, and_true, Bool.not_false, Option.toList_some, Option.toList_none, List.cons_append, List.nil_append, List.singleton_append, Int.cast_ofNat_Int, Int.natCast_zero, Int.natCast_one, true_implies, implies_true, not_true_eq_false, not_false_eq_true, ne_eq, eq_self, true_or, or_true, or_false, false_or, and_self, Int.reduceNeg, Int.reduceLE, Int.reduceLT, Int.reduceEq, Int.reduceAdd, Int.reduceSub, Int.reduceMul, Int.reduceNe, Nat.reduceAdd, Nat.reduceSub, Nat.reduceLeDiff, Nat.reduceLT, Nat.reduceEqDiff, Int.reduceToNat, Int.reduceNatCast, Int.reduceTDiv, Int.reduceTMod, false_implies, false_and, and_false, reduceIte, ite_true, ite_false, e4, e2, e3', e3]
  refine hQ _ ?_ (fun q i x => ?_) (fun i => ?_)
  · have f4 : ∀ i, st (st g1 4 1 ((g 4 1 + 1) % 8)) 4 2 (((A.1 :: A.2.1).take 8).length : Int) 4 i = if i = 2 then (((A.1 :: A.2.1).take 8).length : Int) else if i = 1 then (g 4 1 + 1) % 8 else g 4 i := by
      intro i
      by_cases x : i = 2
      · subst x; rw [st_eq, if_pos rfl]
      · rw [st_ni x, if_neg x]
        by_cases y : i = 1
        · subst y; rw [st_eq, if_pos rfl]
        · rw [st_ni y, if_neg y, e4]
    have fo : ∀ q i, q ≠ 4 → st (st g1 4 1 ((g 4 1 + 1) % 8)) 4 2 (((A.1 :: A.2.1).take 8).length : Int) q i = g1 q i := fun q i x => by rw [st_ne x, st_ne x]
    refine ⟨?_, ?_, ?_, ?_, ?_, ?_, ?_⟩
    · rw [fo 1 _ (by decide), a1 1 _ (by decide)]
      exact AgS_cg h1 (fun i _ _ => by rw [fo 2 _ (by decide), a1 2 _ (by decide)]) (fun i _ _ => by rw [fo 3 _ (by decide), a1 3 _ (by decide)])
    · rw [f4]; simp; omega
    · rw [f4]; simp [aK]
    · intro k s hk
      have hk8 : k < 8 := by
        have := (List.getElem?_eq_some_iff.mp hk).1
        have h9 : (aK A).2.1.length ≤ 8 := by show (List.take 8 _).length ≤ 8; rw [List.length_take]; omega
        omega
      have hk' : (A.1 :: A.2.1)[k]? = some s := by
        have : ((A.1 :: A.2.1).take 8)[k]? = some s := hk
        rwa [List.getElem?_take, if_pos hk8] at this
      have en : st (st g1 4 1 ((g 4 1 + 1) % 8)) 4 2 (((A.1 :: A.2.1).take 8).length : Int) 4 1 = (g 4 1 + 1) % 8 := by rw [f4]; simp
      rw [en]
      simp only [fo 5 _ (by decide)]
      cases k with
      | zero =>
        have : A.1 = s := by simpa using hk'
        subst this
        have er : ((g 4 1 + 1) % 8 - 1 - ((0 : Nat) : Int)) % 8 = g 4 1 := by omega
        rw [er, a5]
        refine ⟨h1.1, fun i x y => ?_, fun i x y => ?_⟩
        · exact (a3 i x (by have := hA.1.1; omega)).trans (h1.2.1 i x y)
        · exact (a4 i x y).trans (h1.2.2 i x y)
      | succ k =>
        have hk2 : A.2.1[k]? = some s := by simpa using hk'
        have er : ((g 4 1 + 1) % 8 - 1 - ((k + 1 : Nat) : Int)) % 8 = (g 4 1 - 1 - k) % 8 := by omega
        rw [er]
        have h8 := h4 k s hk2
        have hne : (g 4 1 - 1 - k) % 8 ≠ g 4 1 := by omega
        have hr0 : 0 ≤ (g 4 1 - 1 - k) % 8 := by omega
        have hs8 : s.1 ≤ 8 := (hA.2.1 s (List.mem_of_getElem? hk2)).1
        generalize (g 4 1 - 1 - k) % 8 = r at *
        rw [a2 _ (by omega)]
        exact AgS_cg h8 (fun i x y => a2 _ (by omega)) (fun i x y => a2 _ (by omega))
    · intro i x y; rw [fo 40 _ (by decide), a1 40 _ (by decide)]; exact h5 i x y
    · rw [fo 6 _ (by decide), a1 6 _ (by decide)]; exact h6
    · intro i x y; rw [fo 7 _ (by decide), a1 7 _ (by decide)]; exact h7 i x y
  · rw [st_ne (by omega), st_ne (by omega), a1 _ _ (by omega)]
  · rw [st_ne (by decide), st_ne (by decide), a1 _ _ (by decide)]
theorem q_begin6 (hI : IC g A) (hA : AbOK A) (hQ : ∀ g' : Nat → Int → Int, IC g' (aK A) → (∀ (q : Nat) (i : Int), 6 ≤ q → g' q i = g q i) → g' 0 6 = 0 → Q none (Mw g')) : Cg G (d + 2) 27 [vr 0] (Mw g) Q := by
  refine C_t (a := [vr 0]) mo_27 rfl rfl (Nat.le_of_ble_eq_true rfl) ?_
  change Tg G _ (73, 42835) 27 0 [vr 0] [] (Mw _) _
  refine T_b ok_X8_beginChange_0 ?_
  simp only [gI_i, gJ_l, gR_r, gR_c, okS_0, okS_s, isL_i, isL_l, isL_r, szV_i, szV_l, szV_r, szS_n, szS_c, pops_0, pops_s, icm_eq, icm_ne, icm_lt, icm_ge, icm_gt, icm_le, aG_s, oG_s, w_nil, w_aload0, w_astore0, w_astorec0, w_iload0, w_istore0, w_lload0, w_lstore0, w_aload1, w_astore1, w_astorec1, w_iload1, w_istore1, w_lload1, w_lstore1, w_aload2, w_astore2, w_astorec2, w_iload2, w_istore2, w_lload2, w_lstore2, w_aload3, w_astore3, w_astorec3, w_iload3, w_istore3, w_lload3, w_lstore3, w_aload, w_astore, w_iload, w_istore, w_lload, w_lstore, w_iconst, w_bipush, w_sipush, w_ldc, w_ldcs, w_ldc2, w_iinc, w_iadd, w_isub, w_imul, w_iand, w_idiv, w_irem, w_ineg, w_ladd, w_lmul, w_ldiv, w_lrem, w_lcmp, w_i2l, w_l2i, w_dup, w_dup2, w_pop, w_if, w_icmp, w_goto, w_switch, w_getf0, w_getf2, w_getf1, w_putf0, w_putf2, w_putf1, w_getst, w_iald, w_ialdc, w_iast, w_alen, w_newa, w_new, w_virt, w_spec, w_stat, w_iret, w_zret, w_lret, w_aret, w_vret, cV_s, cS_s, wc_v, wc_i, wc_s, wc_copy, wc_copyc, wc_min, wc_max, wc_abs, wc_char, wc_obj, gl_0, gl_s, sl_0, sl_s, wA, wR, wK, ceW_1, ceN_2, ceN_3, ceN_4, ceN_5, ceN_6, ceN_7, ceN_8, c_t, bu, QW_w, true_and, and_true, Bool.not_false, Option.toList_some, Option.toList_none, List.cons_append, List.nil_append, List.singleton_append, Int.cast_ofNat_Int, Int.natCast_zero, Int.natCast_one, true_implies, implies_true, not_true_eq_false, not_false_eq_true, ne_eq, eq_self, true_or, or_true, or_false, false_or, and_self, Int.reduceNeg, Int.reduceLE, Int.reduceLT, Int.reduceEq, Int.reduceAdd, Int.reduceSub, Int.reduceMul, Int.reduceNe, Nat.reduceAdd, Nat.reduceSub, Nat.reduceLeDiff, Nat.reduceLT, Nat.reduceEqDiff, Int.reduceToNat, Int.reduceNatCast, Int.reduceTDiv, Int.reduceTMod, false_implies, false_and, and_false, reduceIte, ite_true, ite_false]
  refine q_keep hI hA (fun g1 a1 a2 a3 => ?_)
  simp only [gI_i, gJ_l, gR_r, gR_c, okS_0, okS_s, isL_i, isL_l, isL_r, szV_i, szV_l, szV_r, szS_n, szS_c, pops_0, pops_s, icm_eq, icm_ne, icm_lt, icm_ge, icm_gt, icm_le, aG_s, oG_s, w_nil, w_aload0, w_astore0, w_astorec0, w_iload0, w_istore0, w_lload0, w_lstore0, w_aload1, w_astore1, w_astorec1, w_iload1, w_istore1, w_lload1, w_lstore1, w_aload2, w_astore2, w_astorec2, w_iload2, w_istore2, w_lload2, w_lstore2, w_aload3, w_astore3, w_astorec3, w_iload3, w_istore3, w_lload3, w_lstore3, w_aload, w_astore, w_iload, w_istore, w_lload, w_lstore, w_iconst, w_bipush, w_sipush, w_ldc, w_ldcs, w_ldc2, w_iinc, w_iadd, w_isub, w_imul, w_iand, w_idiv, w_irem, w_ineg, w_ladd, w_lmul, w_ldiv, w_lrem, w_lcmp, w_i2l, w_l2i, w_dup, w_dup2, w_pop, w_if, w_icmp, w_goto, w_switch, w_getf0, w_getf2, w_getf1, w_putf0, w_putf2, w_putf1, w_getst, w_iald, w_ialdc, w_iast, w_alen, w_newa, w_new, w_virt, w_spec, w_stat, w_iret, w_zret, w_lret, w_aret, w_vret, cV_s, cS_s, wc_v, wc_i, wc_s, wc_copy, wc_copyc, wc_min, wc_max, wc_abs, wc_char, wc_obj, gl_0, gl_s, sl_0, sl_s, wA, wR, wK, ceW_1, ceN_2, ceN_3, ceN_4, ceN_5, ceN_6, ceN_7, ceN_8, c_t, bu, QW_w, true_and, and_true, Bool.not_false, Option.toList_some, Option.toList_none, List.cons_append, List.nil_append, List.singleton_append, Int.cast_ofNat_Int, Int.natCast_zero, Int.natCast_one, true_implies, implies_true, not_true_eq_false, not_false_eq_true, ne_eq, eq_self, true_or, or_true, or_false, false_or, and_self, Int.reduceNeg, Int.reduceLE, Int.reduceLT, Int.reduceEq, Int.reduceAdd, Int.reduceSub, Int.reduceMul, Int.reduceNe, Nat.reduceAdd, Nat.reduceSub, Nat.reduceLeDiff, Nat.reduceLT, Nat.reduceEqDiff, Int.reduceToNat, Int.reduceNatCast, Int.reduceTDiv, Int.reduceTMod, false_implies, false_and, and_false, reduceIte, ite_true, ite_false]
  refine hQ _ ?_ (fun q i x => by rw [st_ne (by omega)]; exact a2 q i x) st_eq
  exact IC_cur (A := aK A) a1 (fun q i _ _ _ h => by rw [st_ne h]) (by rw [st_ne (by decide)]; exact AgS_cg a1.1 (fun i _ _ => by rw [st_ne (by decide)]) (fun i _ _ => by rw [st_ne (by decide)]))
theorem q_begin (hI : IC g A) (hA : AbOK A) (hQ : ∀ g' : Nat → Int → Int, IC g' (aK A) → FrC g g' → g' 0 6 = 0 → Q none (Mw g')) : Cg G (d + 2) 27 [vr 0] (Mw g) Q :=
  q_begin6 hI hA (fun g' a b c => hQ g' a (fun q i x _ => b q i (by omega)) c)
end CLSOPS
