/-! THE REFERENCE WRITES A BAR: writesBar -/
section MDBARW2
variable {G : Gx} {d : Nat} {g : Nat → Int → Int} {Q : Qx} {q : Qe} {W : Wr}
def FrBw (b : Int) (g h : Nat → Int → Int) : Prop := ∀ (p : Nat) (x : Int), ((p < 58 ∧ p ≠ 50) ∨ (66 < p ∧ p ≠ 67) ∨ (p = 60 ∧ 9 * b + 9 ≤ x) ∨ (p = 62 ∧ x = 5)) → ¬ (p = 41 ∧ x = 33) → h p x = g p x
theorem FrBw.rf {b : Int} : FrBw b g g := fun _ _ _ _ => rfl
theorem FrBw.tr {b : Int} {g1 g2 g3 : Nat → Int → Int} (a : FrBw b g1 g2) (c : FrBw b g2 g3) : FrBw b g1 g3 := fun p x h z => (c p x h z).trans (a p x h z)
theorem FrBw.ofP {b : Int} {h : Nat → Int → Int} (f : FrPt b g h) : FrBw b g h := fun p x u v => f p x (by omega) v
/-- a bar under way -/
def WB (g : Nat → Int → Int) (q : Qe) (b bg T : Int) (W : Wr) (k : Int) (L : List It) (rem : List Ev) (J : Int) : Prop :=
  RelR g W b k ∧ PL g L ∧ g 41 33 = L.length ∧ SE g q bg T k L rem J ∧ W.2.2.2.2 b + rem.length ≤ 60 ∧ max (g 60 (9 * b + 6)) (mxL rem) = max (W.1 (9 * b + 6)) (mxL rem) ∧ 0 ≤ g 60 (9 * b + 6) ∧ 0 ≤ W.1 (9 * b + 6)
theorem evW_6 {bg T b : Int} {x : Ev} (h : x.1 ≠ 0) : (evW q bg T b W x).1 (9 * b + 6) = W.1 (9 * b + 6) := by
  unfold evW
  rw [if_neg h]
  split
  · show upI W.1 _ _ _ = _
    rw [upI_ne (by omega)]
  · rfl
theorem leafW_6 {bg T b a v i j : Int} : (leafW q bg T b a v i j W).1 (9 * b + 6) = max (W.1 (9 * b + 6)) v := by
  unfold leafW
  rw [notesW_01 (by omega)]
  exact upI_eq
theorem wb_loop {b bg T J : Int} {v2 v3 : Int} (hq : QeOK q) (hw : q.2.2.2.2.1 = -1) (hT : MT g) (hM : MQe g q) (hLB : LB g q bg T) (hb : BtOK bg T) (h35 : g 41 35 = bg) (h36 : g 41 36 = T)
    (hb2 : 0 ≤ b ∧ b ≤ 2) :
    ∀ (n : Nat) (rem : List Ev) (W : Wr) (k : Int) (L : List It) (h : Nat → Int → Int) (v4 v5 v6 v7 v8 : Vx), rem.length = n → FrBw b g h → WB h q b bg T W k L rem J →
      (∀ g' : Nat → Int → Int, RelR g' (flW q bg T b W rem) b J → g' 60 (9 * b + 6) = (flW q bg T b W rem).1 (9 * b + 6) → FrBw b g g' → Q none (Mw g')) → Tg G (d + 4) (73, 42835) 76 25 [vr 41, vi b, vi v2, vi v3, v4, v5, v6, v7, v8] [] (Mw h) (QW Q) := by
  intro n
  have hn := hq.1
  induction n with
  | zero =>
    intro rem W k L h v4 v5 v6 v7 v8 hlen f1 hWB hQ
    obtain ⟨R, P, t33, S, hl, hmx, hn1, hn2⟩ := hWB
    have er : rem = [] := List.eq_nil_of_length_eq_zero hlen
    subst er
    have hL := SE.len S
    have eL : L = [] := List.eq_nil_of_length_eq_zero (by simp only [List.length_nil] at hL; omega)
    subst eL
    have e33 : h 41 33 = 0 := t33
    have hmx' : max (h 60 (9 * b + 6)) 0 = max (W.1 (9 * b + 6)) 0 := hmx
    refine T_b ok_X9_writesBar_25 ?_
    simp only [vI_i, vJ_l, isI_i, isR_r, isR_c, aN_s, isA_s, okS_0, okS_s, isL_i, isL_l, isL_r, szV_i, szV_l, szV_r, szS_n, szS_c, pops_0, pops_s, icm_eq, icm_ne, icm_lt, icm_ge, icm_gt, icm_le, aG_s, oG_s, u_nil, v_aload0, u_astore0, u_astorec0, v_iload0, u_istore0, v_lload0, u_lstore0, v_aload1, u_astore1, u_astorec1, v_iload1, u_istore1, v_lload1, u_lstore1, v_aload2, u_astore2, u_astorec2, v_iload2, u_istore2, v_lload2, u_lstore2, v_aload3, u_astore3, u_astorec3, v_iload3, u_istore3, v_lload3, u_lstore3, v_aload, u_astore, v_iload, u_istore, v_lload, u_lstore, u_iconst, u_bipush, u_sipush, u_ldc, u_ldcs, u_ldc2, v_iinc, u_iadd, u_isub, u_imul, u_iand, u_idiv, u_irem, u_ineg, u_ladd, u_lmul, u_ldiv, u_lrem, u_lcmp, u_i2l, u_l2i, u_dup, u_dup2, u_pop, u_if, u_icmp, u_goto, u_switch, u_getf0, u_getf2, u_getf1, u_putf0, u_putf2, u_putf1, u_getst, v_iald, u_ialdc, v_iast, u_alen, u_newa, u_new, u_virt, u_spec, u_stat, w_iret, w_zret, u_lret, u_aret, u_vret, cV_s, cS_s, wc_v, wc_i, wc_s, vc_copy, uc_copyc, uc_min, uc_max, uc_abs, uc_char, uc_obj, gl_0, gl_s, sl_0, sl_s, wA, wR, wK, ceW_1, ceN_2, ceN_3, ceN_4, ceN_5, ceN_6, ceN_7, ceN_8, c_t, bu, QW_w, true_and, and_true, Bool.not_false, Option.toList_some, Option.toList_none, List.cons_append, List.nil_append, List.singleton_append, Int.cast_ofNat_Int, Int.natCast_zero, Int.natCast_one, true_implies, implies_true, not_true_eq_false, not_false_eq_true, ne_eq, eq_self, true_or, or_true, or_false, false_or, and_self, Int.reduceNeg, Int.reduceLE, Int.reduceLT, Int.reduceEq, Int.reduceAdd, Int.reduceSub, Int.reduceMul, Int.reduceNe, Nat.reduceAdd, Nat.reduceSub, Nat.reduceLeDiff, Nat.reduceLT, Nat.reduceEqDiff, Int.reduceToNat, Int.reduceNatCast, Int.reduceTDiv, Int.reduceTMod, false_implies, false_and, and_false, reduceIte, ite_true, ite_false, e33]
    refine T_b ok_X9_writesBar_201 ?_
    simp only [vI_i, vJ_l, isI_i, isR_r, isR_c, aN_s, isA_s, okS_0, okS_s, isL_i, isL_l, isL_r, szV_i, szV_l, szV_r, szS_n, szS_c, pops_0, pops_s, icm_eq, icm_ne, icm_lt, icm_ge, icm_gt, icm_le, aG_s, oG_s, u_nil, v_aload0, u_astore0, u_astorec0, v_iload0, u_istore0, v_lload0, u_lstore0, v_aload1, u_astore1, u_astorec1, v_iload1, u_istore1, v_lload1, u_lstore1, v_aload2, u_astore2, u_astorec2, v_iload2, u_istore2, v_lload2, u_lstore2, v_aload3, u_astore3, u_astorec3, v_iload3, u_istore3, v_lload3, u_lstore3, v_aload, u_astore, v_iload, u_istore, v_lload, u_lstore, u_iconst, u_bipush, u_sipush, u_ldc, u_ldcs, u_ldc2, v_iinc, u_iadd, u_isub, u_imul, u_iand, u_idiv, u_irem, u_ineg, u_ladd, u_lmul, u_ldiv, u_lrem, u_lcmp, u_i2l, u_l2i, u_dup, u_dup2, u_pop, u_if, u_icmp, u_goto, u_switch, u_getf0, u_getf2, u_getf1, u_putf0, u_putf2, u_putf1, u_getst, v_iald, u_ialdc, v_iast, u_alen, u_newa, u_new, u_virt, u_spec, u_stat, w_iret, w_zret, u_lret, u_aret, u_vret, cV_s, cS_s, wc_v, wc_i, wc_s, vc_copy, uc_copyc, uc_min, uc_max, uc_abs, uc_char, uc_obj, gl_0, gl_s, sl_0, sl_s, wA, wR, wK, ceW_1, ceN_2, ceN_3, ceN_4, ceN_5, ceN_6, ceN_7, ceN_8, c_t, bu, QW_w, true_and, and_true, Bool.not_false, Option.toList_some, Option.toList_none, List.cons_append, List.nil_append, List.singleton_append, Int.cast_ofNat_Int, Int.natCast_zero, Int.natCast_one, true_implies, implies_true, not_true_eq_false, not_false_eq_true, ne_eq, eq_self, true_or, or_true, or_false, false_or, and_self, Int.reduceNeg, Int.reduceLE, Int.reduceLT, Int.reduceEq, Int.reduceAdd, Int.reduceSub, Int.reduceMul, Int.reduceNe, Nat.reduceAdd, Nat.reduceSub, Nat.reduceLeDiff, Nat.reduceLT, Nat.reduceEqDiff, Int.reduceToNat, Int.reduceNatCast, Int.reduceTDiv, Int.reduceTMod, false_implies, false_and, and_false, reduceIte, ite_true, ite_false]
    have ek : k = J := S.2
    rw [ek] at R
    exact hQ h R (by show _ = W.1 (9 * b + 6); omega) f1
  | succ n ih =>
    intro rem W k L h v4 v5 v6 v7 v8 hlen f1 hWB hQ
    obtain ⟨R, P, t33, S, hl, hmx, hn1, hn2⟩ := hWB
    have fT : ∀ h' : Nat → Int → Int, FrBw b g h' → MT h' ∧ MQe h' q ∧ LB h' q bg T ∧ h' 41 35 = bg ∧ h' 41 36 = T := fun h' f => ⟨hT.fr fun p x u => f p x (by omega) (by omega), hM.fr (fun x _ _ => f 41 x (by omega) (by omega)) (fun x => f 48 x (by omega) (by omega)) (fun x => f 42 x (by omega) (by omega)), hLB.f50 fun p x u => f p x (by omega) (by omega), (f 41 35 (by omega) (by omega)).trans h35, (f 41 36 (by omega) (by omega)).trans h36⟩
    cases L with
    | nil => exact absurd hlen (by rw [S.1]; exact fun z => Nat.noConfusion z)
    | cons x L =>
    have hS := S
    obtain ⟨e, r, hr, S'⟩ := S
    obtain ⟨⟨p1, p2, p3, p4⟩, PL'⟩ := P
    have hLl := SE.len hS
    simp only [List.length_cons] at hLl
    have hln := (R.2.2.2.1 b hb2.1 (Int.le_refl _)).2.1
    have t33' : h 41 33 = (L.length : Int) + 1 := by rw [t33]; simp only [List.length_cons, Int.natCast_add, Int.natCast_one]
    have w1 : wr ((L.length : Int) + 1 - 1) = (L.length : Int) := by rw [wr_of (by omega) (by omega)]; omega
    have hbd : 0 ≤ (L.length : Int) ∧ (L.length : Int) < 60 := by omega
    generalize hH : st h 41 33 (L.length : Int) = H
    have fH : ∀ (p : Nat) (y : Int), ¬ (p = 41 ∧ y = 33) → H p y = h p y := fun p y u => by rw [← hH, st_nq u]
    have H33 : H 41 33 = L.length := by rw [← hH, st_eq]
    have q1 : H 63 L.length = x.1 := (fH 63 _ (by omega)).trans p1
    have q2 : H 64 L.length = x.2.1 := (fH 64 _ (by omega)).trans p2
    have q3 : H 65 L.length = x.2.2.1 := (fH 65 _ (by omega)).trans p3
    have q4 : H 66 L.length = x.2.2.2 := (fH 66 _ (by omega)).trans p4
    have RH : RelR H W b k := R.fr fun p y u v => fH p y (by omega)
    have PH : PL H L := PL'.fr fun p y u v w z => fH p y (by omega)
    have FH : FrBw b g H := f1.tr fun p y u v => fH p y v
    refine T_b ok_X9_writesBar_25 ?_
    simp only [vI_i, vJ_l, isI_i, isR_r, isR_c, aN_s, isA_s, okS_0, okS_s, isL_i, isL_l, isL_r, szV_i, szV_l, szV_r, szS_n, szS_c, pops_0, pops_s, icm_eq, icm_ne, icm_lt, icm_ge, icm_gt, icm_le, aG_s, oG_s, u_nil, v_aload0, u_astore0, u_astorec0, v_iload0, u_istore0, v_lload0, u_lstore0, v_aload1, u_astore1, u_astorec1, v_iload1, u_istore1, v_lload1, u_lstore1, v_aload2, u_astore2, u_astorec2, v_iload2, u_istore2, v_lload2, u_lstore2, v_aload3, u_astore3, u_astorec3, v_iload3, u_istore3, v_lload3, u_lstore3, v_aload, u_astore, v_iload, u_istore, v_lload, u_lstore, u_iconst, u_bipush, u_sipush, u_ldc, u_ldcs, u_ldc2, v_iinc, u_iadd, u_isub, u_imul, u_iand, u_idiv, u_irem, u_ineg, u_ladd, u_lmul, u_ldiv, u_lrem, u_lcmp, u_i2l, u_l2i, u_dup, u_dup2, u_pop, u_if, u_icmp, u_goto, u_switch, u_getf0, u_getf2, u_getf1, u_putf0, u_putf2, u_putf1, u_getst, v_iald, u_ialdc, v_iast, u_alen, u_newa, u_new, u_virt, u_spec, u_stat, w_iret, w_zret, u_lret, u_aret, u_vret, cV_s, cS_s, wc_v, wc_i, wc_s, vc_copy, uc_copyc, uc_min, uc_max, uc_abs, uc_char, uc_obj, gl_0, gl_s, sl_0, sl_s, wA, wR, wK, ceW_1, ceN_2, ceN_3, ceN_4, ceN_5, ceN_6, ceN_7, ceN_8, c_t, bu, QW_w, true_and, and_true, Bool.not_false, Option.toList_some, Option.toList_none, List.cons_append, List.nil_append, List.singleton_append, Int.cast_ofNat_Int, Int.natCast_zero, Int.natCast_one, true_implies, implies_true, not_true_eq_false, not_false_eq_true, ne_eq, eq_self, true_or, or_true, or_false, false_or, and_self, Int.reduceNeg, Int.reduceLE, Int.reduceLT, Int.reduceEq, Int.reduceAdd, Int.reduceSub, Int.reduceMul, Int.reduceNe, Nat.reduceAdd, Nat.reduceSub, Nat.reduceLeDiff, Nat.reduceLT, Nat.reduceEqDiff, Int.reduceToNat, Int.reduceNatCast, Int.reduceTDiv, Int.reduceTMod, false_implies, false_and, and_false, reduceIte, ite_true, ite_false, t33', w1, hH, H33, q1, q2, q3, q4]
    refine ⟨fun z => absurd z (by omega), fun _ => ⟨hbd, hbd, hbd, hbd, ?_⟩⟩
    rcases S' with ⟨x1, ⟨c, hc, x2, he⟩, S2⟩ | ⟨l, hN, x2, x3, hk, hcost, he, S2⟩
    · -- a closing sign
      subst he
      have hr' : rem = evC c :: r := hr
      subst hr'
      have hl' : W.2.2.2.2 b + (r.length + 1 : Nat) ≤ 60 := hl
      rw [x1]
      refine ⟨fun z => absurd rfl z, fun _ => ?_⟩
      rw [x2]
      refine m_shows RH (by omega) (fun h2 R2 f2 => ?_)
      simp only [vI_i, vJ_l, isI_i, isR_r, isR_c, aN_s, isA_s, okS_0, okS_s, isL_i, isL_l, isL_r, szV_i, szV_l, szV_r, szS_n, szS_c, pops_0, pops_s, icm_eq, icm_ne, icm_lt, icm_ge, icm_gt, icm_le, aG_s, oG_s, u_nil, v_aload0, u_astore0, u_astorec0, v_iload0, u_istore0, v_lload0, u_lstore0, v_aload1, u_astore1, u_astorec1, v_iload1, u_istore1, v_lload1, u_lstore1, v_aload2, u_astore2, u_astorec2, v_iload2, u_istore2, v_lload2, u_lstore2, v_aload3, u_astore3, u_astorec3, v_iload3, u_istore3, v_lload3, u_lstore3, v_aload, u_astore, v_iload, u_istore, v_lload, u_lstore, u_iconst, u_bipush, u_sipush, u_ldc, u_ldcs, u_ldc2, v_iinc, u_iadd, u_isub, u_imul, u_iand, u_idiv, u_irem, u_ineg, u_ladd, u_lmul, u_ldiv, u_lrem, u_lcmp, u_i2l, u_l2i, u_dup, u_dup2, u_pop, u_if, u_icmp, u_goto, u_switch, u_getf0, u_getf2, u_getf1, u_putf0, u_putf2, u_putf1, u_getst, v_iald, u_ialdc, v_iast, u_alen, u_newa, u_new, u_virt, u_spec, u_stat, w_iret, w_zret, u_lret, u_aret, u_vret, cV_s, cS_s, wc_v, wc_i, wc_s, vc_copy, uc_copyc, uc_min, uc_max, uc_abs, uc_char, uc_obj, gl_0, gl_s, sl_0, sl_s, wA, wR, wK, ceW_1, ceN_2, ceN_3, ceN_4, ceN_5, ceN_6, ceN_7, ceN_8, c_t, bu, QW_w, true_and, and_true, Bool.not_false, Option.toList_some, Option.toList_none, List.cons_append, List.nil_append, List.singleton_append, Int.cast_ofNat_Int, Int.natCast_zero, Int.natCast_one, true_implies, implies_true, not_true_eq_false, not_false_eq_true, ne_eq, eq_self, true_or, or_true, or_false, false_or, and_self, Int.reduceNeg, Int.reduceLE, Int.reduceLT, Int.reduceEq, Int.reduceAdd, Int.reduceSub, Int.reduceMul, Int.reduceNe, Nat.reduceAdd, Nat.reduceSub, Nat.reduceLeDiff, Nat.reduceLT, Nat.reduceEqDiff, Int.reduceToNat, Int.reduceNatCast, Int.reduceTDiv, Int.reduceTMod, false_implies, false_and, and_false, reduceIte, ite_true, ite_false]
      refine T_b ok_X9_writesBar_198 ?_
      simp only [vI_i, vJ_l, isI_i, isR_r, isR_c, aN_s, isA_s, okS_0, okS_s, isL_i, isL_l, isL_r, szV_i, szV_l, szV_r, szS_n, szS_c, pops_0, pops_s, icm_eq, icm_ne, icm_lt, icm_ge, icm_gt, icm_le, aG_s, oG_s, u_nil, v_aload0, u_astore0, u_astorec0, v_iload0, u_istore0, v_lload0, u_lstore0, v_aload1, u_astore1, u_astorec1, v_iload1, u_istore1, v_lload1, u_lstore1, v_aload2, u_astore2, u_astorec2, v_iload2, u_istore2, v_lload2, u_lstore2, v_aload3, u_astore3, u_astorec3, v_iload3, u_istore3, v_lload3, u_lstore3, v_aload, u_astore, v_iload, u_istore, v_lload, u_lstore, u_iconst, u_bipush, u_sipush, u_ldc, u_ldcs, u_ldc2, v_iinc, u_iadd, u_isub, u_imul, u_iand, u_idiv, u_irem, u_ineg, u_ladd, u_lmul, u_ldiv, u_lrem, u_lcmp, u_i2l, u_l2i, u_dup, u_dup2, u_pop, u_if, u_icmp, u_goto, u_switch, u_getf0, u_getf2, u_getf1, u_putf0, u_putf2, u_putf1, u_getst, v_iald, u_ialdc, v_iast, u_alen, u_newa, u_new, u_virt, u_spec, u_stat, w_iret, w_zret, u_lret, u_aret, u_vret, cV_s, cS_s, wc_v, wc_i, wc_s, vc_copy, uc_copyc, uc_min, uc_max, uc_abs, uc_char, uc_obj, gl_0, gl_s, sl_0, sl_s, wA, wR, wK, ceW_1, ceN_2, ceN_3, ceN_4, ceN_5, ceN_6, ceN_7, ceN_8, c_t, bu, QW_w, true_and, and_true, Bool.not_false, Option.toList_some, Option.toList_none, List.cons_append, List.nil_append, List.singleton_append, Int.cast_ofNat_Int, Int.natCast_zero, Int.natCast_one, true_implies, implies_true, not_true_eq_false, not_false_eq_true, ne_eq, eq_self, true_or, or_true, or_false, false_or, and_self, Int.reduceNeg, Int.reduceLE, Int.reduceLT, Int.reduceEq, Int.reduceAdd, Int.reduceSub, Int.reduceMul, Int.reduceNe, Nat.reduceAdd, Nat.reduceSub, Nat.reduceLeDiff, Nat.reduceLT, Nat.reduceEqDiff, Int.reduceToNat, Int.reduceNatCast, Int.reduceTDiv, Int.reduceTMod, false_implies, false_and, and_false, reduceIte, ite_true, ite_false]
      have FB : FrBw b g h2 := FH.tr (FrBw.ofP (FrPt.ofW f2))
      refine ih r (putW W b (clo c)) k L h2 _ _ _ _ _ (by simp only [List.length_cons] at hlen; omega) FB ⟨R2, PH.fr fun p y u v w z => f2 p y (by omega), (f2 41 33 (by omega)).trans H33, S2.fr (fun y => (f2 46 y (by omega)).trans (fH 46 y (by omega))) (fun y => (f2 47 y (by omega)).trans (fH 47 y (by omega))), ?_, ?_, ?_, hn2⟩ (fun g' a1 a2 a3 => hQ g' ?_ ?_ a3)
      · show upI W.2.2.2.2 b _ b + _ ≤ 60
        rw [upI_eq]; omega
      · have e6 : h2 60 (9 * b + 6) = h 60 (9 * b + 6) := (f2 60 _ (by omega)).trans (fH 60 _ (by omega))
        have hmx' : max (h 60 (9 * b + 6)) (max 0 (mxL r)) = max (W.1 (9 * b + 6)) (max 0 (mxL r)) := hmx
        have := mxL_nn r
        rw [e6]
        show max _ (mxL r) = max (W.1 (9 * b + 6)) (mxL r)
        omega
      · rw [(f2 60 _ (by omega)).trans (fH 60 _ (by omega))]; exact hn1
      · exact a1
      · exact a2
    · -- a span
      have hin := hN.in hq
      obtain ⟨o, lv, kf, j⟩ := x
      have x2' : lv = (l : Int) := x2
      have x3' : kf = k := x3
      subst x2' x3'
      simp only at hN hcost he S2 hk p1 p2 p3 p4 q1 q2 q3 q4 hin
      have w9 : wr (9 * b) = 9 * b := wr_of (by omega) (by omega)
      have w6 : wr (9 * b + 6) = 9 * b + 6 := wr_of (by omega) (by omega)
      have e6 : H 60 (9 * b + 6) = h 60 (9 * b + 6) := fH 60 _ (by omega)
      obtain ⟨T1, M1, L1, b35, b36⟩ := fT H FH
      have e46 : ∀ y, H 46 y = h 46 y := fun y => fH 46 y (by omega)
      have e47 : ∀ y, H 47 y = h 47 y := fun y => fH 47 y (by omega)
      have t147 : ∀ (mx : Int) (v8 : Vx), mx = max (h 60 (9 * b + 6)) l → Tg G (d + 4) (73, 42835) 76 147 [vr 41, vi b, vi v2, vi v3, vi o, vi l, vi kf, vi j, v8] [vi mx, vi (9 * b + 6), vr 60] (Mw H) (QW Q) := by
        intro mx v8 hmxv
        generalize hH2 : st H 60 (9 * b + 6) mx = H2
        have fH2 : ∀ (p : Nat) (y : Int), ¬ (p = 60 ∧ y = 9 * b + 6) → H2 p y = H p y := fun p y u => by rw [← hH2, st_nq u]
        have H26 : H2 60 (9 * b + 6) = mx := by rw [← hH2, st_eq]
        have RH2 : RelR H2 W b kf := by
          rw [← hH2]
          refine ⟨RH.1.skip2 rfl, RH.2.1.ne (by decide), RH.2.2.1.ne (by decide), fun c u v => ?_, RH.2.2.2.2⟩
          obtain ⟨m1, m2, m3⟩ := RH.2.2.2.1 c u v
          exact ⟨by rw [st_ne (by decide)]; exact m1, m2, fun i' u w => by rw [st_ne (by decide)]; exact m3 i' u w⟩
        have FH2 : FrBw b g H2 := FH.tr fun p y u v => fH2 p y (by omega)
        have PH2 : PL H2 L := PH.fr fun p y u v w z => fH2 p y (by omega)
        have H233 : H2 41 33 = L.length := (fH2 41 33 (by omega)).trans H33
        obtain ⟨T2, M2, L2, c35, c36⟩ := fT H2 FH2
        have g46 : H2 46 o = h 46 o := (fH2 46 o (by omega)).trans (e46 o)
        have g47 : H2 47 o = h 47 o := (fH2 47 o (by omega)).trans (e47 o)
        have tr := tree_in T2 l o hin.2.1 hN.2.1 hN.2.2
        have hlb : 0 ≤ lbN l := by
          have c1 : l = 0 ∨ l = 1 ∨ l = 2 ∨ l = 3 := by omega
          rcases c1 with rfl | rfl | rfl | rfl <;> simp only [lbN] <;> omega
        refine T_b ok_X9_writesBar_147 ?_
        simp only [vI_i, vJ_l, isI_i, isR_r, isR_c, aN_s, isA_s, okS_0, okS_s, isL_i, isL_l, isL_r, szV_i, szV_l, szV_r, szS_n, szS_c, pops_0, pops_s, icm_eq, icm_ne, icm_lt, icm_ge, icm_gt, icm_le, aG_s, oG_s, u_nil, v_aload0, u_astore0, u_astorec0, v_iload0, u_istore0, v_lload0, u_lstore0, v_aload1, u_astore1, u_astorec1, v_iload1, u_istore1, v_lload1, u_lstore1, v_aload2, u_astore2, u_astorec2, v_iload2, u_istore2, v_lload2, u_lstore2, v_aload3, u_astore3, u_astorec3, v_iload3, u_istore3, v_lload3, u_lstore3, v_aload, u_astore, v_iload, u_istore, v_lload, u_lstore, u_iconst, u_bipush, u_sipush, u_ldc, u_ldcs, u_ldc2, v_iinc, u_iadd, u_isub, u_imul, u_iand, u_idiv, u_irem, u_ineg, u_ladd, u_lmul, u_ldiv, u_lrem, u_lcmp, u_i2l, u_l2i, u_dup, u_dup2, u_pop, u_if, u_icmp, u_goto, u_switch, u_getf0, u_getf2, u_getf1, u_putf0, u_putf2, u_putf1, u_getst, v_iald, u_ialdc, v_iast, u_alen, u_newa, u_new, u_virt, u_spec, u_stat, w_iret, w_zret, u_lret, u_aret, u_vret, cV_s, cS_s, wc_v, wc_i, wc_s, vc_copy, uc_copyc, uc_min, uc_max, uc_abs, uc_char, uc_obj, gl_0, gl_s, sl_0, sl_s, wA, wR, wK, ceW_1, ceN_2, ceN_3, ceN_4, ceN_5, ceN_6, ceN_7, ceN_8, c_t, bu, QW_w, true_and, and_true, Bool.not_false, Option.toList_some, Option.toList_none, List.cons_append, List.nil_append, List.singleton_append, Int.cast_ofNat_Int, Int.natCast_zero, Int.natCast_one, true_implies, implies_true, not_true_eq_false, not_false_eq_true, ne_eq, eq_self, true_or, or_true, or_false, false_or, and_self, Int.reduceNeg, Int.reduceLE, Int.reduceLT, Int.reduceEq, Int.reduceAdd, Int.reduceSub, Int.reduceMul, Int.reduceNe, Nat.reduceAdd, Nat.reduceSub, Nat.reduceLeDiff, Nat.reduceLT, Nat.reduceEqDiff, Int.reduceToNat, Int.reduceNatCast, Int.reduceTDiv, Int.reduceTMod, false_implies, false_and, and_false, reduceIte, ite_true, ite_false, hH2]
        refine ⟨by omega, ?_⟩
        refine m_wayOf hq hw M2 T2 L2 hb c35 c36 hN hk.1 hk.2.1 hk.2.2 (fun hz h3 f3 => ?_) (fun r' hr' hne h3 f3 => ?_)
        · -- a leaf
          rw [g46, g47] at hz
          have he' : e = [evL (h 46 o) l kf j] := by
            rw [he]
            rcases hz with hz | hz
            · rw [show dpQ q - l = 0 by omega]; exact wrS_0
            · obtain hd | ⟨rr, hd⟩ : dpQ q - l = 0 ∨ ∃ rr, dpQ q - l = rr + 1 := by
                by_cases e0 : dpQ q - l = 0
                · exact Or.inl e0
                · exact Or.inr ⟨dpQ q - l - 1, by omega⟩
              · rw [hd]; exact wrS_0
              · rw [hd] at hz ⊢; exact wrS_lf hz
          rw [he'] at hr
          have hr2 : rem = evL (h 46 o) l kf j :: r := hr
          subst hr2
          have hl' : W.2.2.2.2 b + (r.length + 1 : Nat) ≤ 60 := hl
          have FH3 : FrBw b g h3 := FH2.tr fun p y u v => f3 p y (by omega)
          obtain ⟨T3, M3, L3, d35, d36⟩ := fT h3 FH3
          have R3 : RelR h3 W b kf := RH2.fr fun p y u v => f3 p y (by omega)
          have k46 : h3 46 o = h 46 o := (f3 46 o (by decide)).trans g46
          simp only [vI_i, vJ_l, isI_i, isR_r, isR_c, aN_s, isA_s, okS_0, okS_s, isL_i, isL_l, isL_r, szV_i, szV_l, szV_r, szS_n, szS_c, pops_0, pops_s, icm_eq, icm_ne, icm_lt, icm_ge, icm_gt, icm_le, aG_s, oG_s, u_nil, v_aload0, u_astore0, u_astorec0, v_iload0, u_istore0, v_lload0, u_lstore0, v_aload1, u_astore1, u_astorec1, v_iload1, u_istore1, v_lload1, u_lstore1, v_aload2, u_astore2, u_astorec2, v_iload2, u_istore2, v_lload2, u_lstore2, v_aload3, u_astore3, u_astorec3, v_iload3, u_istore3, v_lload3, u_lstore3, v_aload, u_astore, v_iload, u_istore, v_lload, u_lstore, u_iconst, u_bipush, u_sipush, u_ldc, u_ldcs, u_ldc2, v_iinc, u_iadd, u_isub, u_imul, u_iand, u_idiv, u_irem, u_ineg, u_ladd, u_lmul, u_ldiv, u_lrem, u_lcmp, u_i2l, u_l2i, u_dup, u_dup2, u_pop, u_if, u_icmp, u_goto, u_switch, u_getf0, u_getf2, u_getf1, u_putf0, u_putf2, u_putf1, u_getst, v_iald, u_ialdc, v_iast, u_alen, u_newa, u_new, u_virt, u_spec, u_stat, w_iret, w_zret, u_lret, u_aret, u_vret, cV_s, cS_s, wc_v, wc_i, wc_s, vc_copy, uc_copyc, uc_min, uc_max, uc_abs, uc_char, uc_obj, gl_0, gl_s, sl_0, sl_s, wA, wR, wK, ceW_1, ceN_2, ceN_3, ceN_4, ceN_5, ceN_6, ceN_7, ceN_8, c_t, bu, QW_w, true_and, and_true, Bool.not_false, Option.toList_some, Option.toList_none, List.cons_append, List.nil_append, List.singleton_append, Int.cast_ofNat_Int, Int.natCast_zero, Int.natCast_one, true_implies, implies_true, not_true_eq_false, not_false_eq_true, ne_eq, eq_self, true_or, or_true, or_false, false_or, and_self, Int.reduceNeg, Int.reduceLE, Int.reduceLT, Int.reduceEq, Int.reduceAdd, Int.reduceSub, Int.reduceMul, Int.reduceNe, Nat.reduceAdd, Nat.reduceSub, Nat.reduceLeDiff, Nat.reduceLT, Nat.reduceEqDiff, Int.reduceToNat, Int.reduceNatCast, Int.reduceTDiv, Int.reduceTMod, false_implies, false_and, and_false, reduceIte, ite_true, ite_false]
          refine m_leafR (bg := bg) (T := T) (a := h 46 o) hq M3 R3 ⟨hk.2.1, hk.1, hk.2.2⟩ hb d35 d36 k46 hin.1 (by rw [← g46]; omega) (by omega) (fun h4 R4 f4 => ?_)
          simp only [vI_i, vJ_l, isI_i, isR_r, isR_c, aN_s, isA_s, okS_0, okS_s, isL_i, isL_l, isL_r, szV_i, szV_l, szV_r, szS_n, szS_c, pops_0, pops_s, icm_eq, icm_ne, icm_lt, icm_ge, icm_gt, icm_le, aG_s, oG_s, u_nil, v_aload0, u_astore0, u_astorec0, v_iload0, u_istore0, v_lload0, u_lstore0, v_aload1, u_astore1, u_astorec1, v_iload1, u_istore1, v_lload1, u_lstore1, v_aload2, u_astore2, u_astorec2, v_iload2, u_istore2, v_lload2, u_lstore2, v_aload3, u_astore3, u_astorec3, v_iload3, u_istore3, v_lload3, u_lstore3, v_aload, u_astore, v_iload, u_istore, v_lload, u_lstore, u_iconst, u_bipush, u_sipush, u_ldc, u_ldcs, u_ldc2, v_iinc, u_iadd, u_isub, u_imul, u_iand, u_idiv, u_irem, u_ineg, u_ladd, u_lmul, u_ldiv, u_lrem, u_lcmp, u_i2l, u_l2i, u_dup, u_dup2, u_pop, u_if, u_icmp, u_goto, u_switch, u_getf0, u_getf2, u_getf1, u_putf0, u_putf2, u_putf1, u_getst, v_iald, u_ialdc, v_iast, u_alen, u_newa, u_new, u_virt, u_spec, u_stat, w_iret, w_zret, u_lret, u_aret, u_vret, cV_s, cS_s, wc_v, wc_i, wc_s, vc_copy, uc_copyc, uc_min, uc_max, uc_abs, uc_char, uc_obj, gl_0, gl_s, sl_0, sl_s, wA, wR, wK, ceW_1, ceN_2, ceN_3, ceN_4, ceN_5, ceN_6, ceN_7, ceN_8, c_t, bu, QW_w, true_and, and_true, Bool.not_false, Option.toList_some, Option.toList_none, List.cons_append, List.nil_append, List.singleton_append, Int.cast_ofNat_Int, Int.natCast_zero, Int.natCast_one, true_implies, implies_true, not_true_eq_false, not_false_eq_true, ne_eq, eq_self, true_or, or_true, or_false, false_or, and_self, Int.reduceNeg, Int.reduceLE, Int.reduceLT, Int.reduceEq, Int.reduceAdd, Int.reduceSub, Int.reduceMul, Int.reduceNe, Nat.reduceAdd, Nat.reduceSub, Nat.reduceLeDiff, Nat.reduceLT, Nat.reduceEqDiff, Int.reduceToNat, Int.reduceNatCast, Int.reduceTDiv, Int.reduceTMod, false_implies, false_and, and_false, reduceIte, ite_true, ite_false]
          refine T_b ok_X9_writesBar_198 ?_
          simp only [vI_i, vJ_l, isI_i, isR_r, isR_c, aN_s, isA_s, okS_0, okS_s, isL_i, isL_l, isL_r, szV_i, szV_l, szV_r, szS_n, szS_c, pops_0, pops_s, icm_eq, icm_ne, icm_lt, icm_ge, icm_gt, icm_le, aG_s, oG_s, u_nil, v_aload0, u_astore0, u_astorec0, v_iload0, u_istore0, v_lload0, u_lstore0, v_aload1, u_astore1, u_astorec1, v_iload1, u_istore1, v_lload1, u_lstore1, v_aload2, u_astore2, u_astorec2, v_iload2, u_istore2, v_lload2, u_lstore2, v_aload3, u_astore3, u_astorec3, v_iload3, u_istore3, v_lload3, u_lstore3, v_aload, u_astore, v_iload, u_istore, v_lload, u_lstore, u_iconst, u_bipush, u_sipush, u_ldc, u_ldcs, u_ldc2, v_iinc, u_iadd, u_isub, u_imul, u_iand, u_idiv, u_irem, u_ineg, u_ladd, u_lmul, u_ldiv, u_lrem, u_lcmp, u_i2l, u_l2i, u_dup, u_dup2, u_pop, u_if, u_icmp, u_goto, u_switch, u_getf0, u_getf2, u_getf1, u_putf0, u_putf2, u_putf1, u_getst, v_iald, u_ialdc, v_iast, u_alen, u_newa, u_new, u_virt, u_spec, u_stat, w_iret, w_zret, u_lret, u_aret, u_vret, cV_s, cS_s, wc_v, wc_i, wc_s, vc_copy, uc_copyc, uc_min, uc_max, uc_abs, uc_char, uc_obj, gl_0, gl_s, sl_0, sl_s, wA, wR, wK, ceW_1, ceN_2, ceN_3, ceN_4, ceN_5, ceN_6, ceN_7, ceN_8, c_t, bu, QW_w, true_and, and_true, Bool.not_false, Option.toList_some, Option.toList_none, List.cons_append, List.nil_append, List.singleton_append, Int.cast_ofNat_Int, Int.natCast_zero, Int.natCast_one, true_implies, implies_true, not_true_eq_false, not_false_eq_true, ne_eq, eq_self, true_or, or_true, or_false, false_or, and_self, Int.reduceNeg, Int.reduceLE, Int.reduceLT, Int.reduceEq, Int.reduceAdd, Int.reduceSub, Int.reduceMul, Int.reduceNe, Nat.reduceAdd, Nat.reduceSub, Nat.reduceLeDiff, Nat.reduceLT, Nat.reduceEqDiff, Int.reduceToNat, Int.reduceNatCast, Int.reduceTDiv, Int.reduceTMod, false_implies, false_and, and_false, reduceIte, ite_true, ite_false]
          have F4 : FrBw b g h4 := FH3.tr (FrBw.ofP (FrPt.ofW f4))
          refine ih r (leafW q bg T b (h 46 o) l kf j W) j L h4 _ _ _ _ _ (by simp only [List.length_cons] at hlen; omega) F4 ⟨R4, (PH2.fr fun p y u v w z => f3 p y (by omega)).fr fun p y u v w z => f4 p y (by omega), (f4 41 33 (by omega)).trans ((f3 41 33 (by decide)).trans H233), S2.fr (fun y => (f4 46 y (by omega)).trans ((f3 46 y (by decide)).trans ((fH2 46 y (by omega)).trans (e46 y)))) (fun y => (f4 47 y (by omega)).trans ((f3 47 y (by decide)).trans ((fH2 47 y (by omega)).trans (e47 y)))), ?_, ?_, ?_, ?_⟩ (fun g' a1 a2 a3 => hQ g' a1 a2 a3)
          · have := (evW_ln (q := q) (W := W) (bg := bg) (T := T) (b := b) (x := evL (h 46 o) l kf j)).1
            have e1 : (evW q bg T b W (evL (h 46 o) l kf j)) = leafW q bg T b (h 46 o) l kf j W := rfl
            rw [e1] at this
            omega
          · have e5 : h4 60 (9 * b + 6) = mx := (f4 60 _ (by omega)).trans ((f3 60 _ (by decide)).trans H26)
            have hmx' : max (h 60 (9 * b + 6)) (max (l : Int) (mxL r)) = max (W.1 (9 * b + 6)) (max (l : Int) (mxL r)) := hmx
            rw [e5, leafW_6]
            omega
          · rw [(f4 60 _ (by omega)).trans ((f3 60 _ (by decide)).trans H26)]; omega
          · rw [leafW_6]; omega
        · -- divided
          rw [g46, g47] at hne ⊢
          have hlt : l < dpQ q := by omega
          have FH3 : FrBw b g h3 := FH2.tr fun p y u v => f3 p y (by omega)
          obtain ⟨T3, M3, L3, d35, d36⟩ := fT h3 FH3
          have R3 : RelR h3 W b kf := RH2.fr fun p y u v => f3 p y (by omega)
          have P3 : PL h3 L := PH2.fr fun p y u v w z => f3 p y (by omega)
          have k33 : h3 41 33 = L.length := (f3 41 33 (by decide)).trans H233
          have k46 : h3 46 o = h 46 o := (f3 46 o (by decide)).trans g46
          have k47 : h3 47 o = h 47 o := (f3 47 o (by decide)).trans g47
          rw [hr'] at hcost hne he ⊢
          have er' : dpQ q - l - 1 = r' := by omega
          generalize ha : h 46 o = a at *
          generalize hs : h 47 o = s at *
          have cc := spQ_cap hq bg T (r' + 1) a s kf j hk.2.1
          have hne' : lfQ q bg T a kf j ≠ spC (lfQ q bg T) (prQ q) (r' + 1) a s kf j := hne
          have hsC : spQ q bg T (r' + 1) a s kf j = min (lfQ q bg T a kf j) (min (wyv (spC (lfQ q bg T) (prQ q) r') (prQ q) 1 a s kf j) (min (wyv (spC (lfQ q bg T) (prQ q) r') (prQ q) 2 a s kf j) (wyv (spC (lfQ q bg T) (prQ q) r') (prQ q) 3 a s kf j))) := rfl
          have cS : ∀ u v, Cap (spQ q bg T r' u v) := fun u v => spQ_cap hq bg T r' u v
          -- a kid's place in the tree
          have kid : ∀ (h5 : Nat → Int → Int) (c p : Int), FrBw b g h5 → (∀ y, h5 46 y = h 46 y) → (∀ y, h5 47 y = h 47 y) → (c = 1 ∨ c = 2 ∨ c = 3) → 0 ≤ p → p < pcn c → ND q (7 * o + wo c + p) (l + 1) ∧ h5 46 (7 * o + wo c + p) = pfr c p a s ∧ h5 47 (7 * o + wo c + p) = psz c p s := by
            intro h5 c p f5 k5 k5' hc p0 p1
            have hd := node_dn (l := l) (o := o) (k := c) (p := p) (by have := hq.dep; unfold dpQ at hlt; omega) hN.2.1 hN.2.2 hc p0 p1
            have ht := (fT h5 f5).1.2.2 o c p hin.1.1 (hin.2.2 hlt) hc p0 p1
            rw [k5 o, k5' o, ha, hs] at ht
            exact ⟨⟨by omega, hd.1, hd.2⟩, ht.1, ht.2⟩
          have cut : ∀ X Y : Int → Int → Int, two X Y kf j < fa → Cap X → Cap Y → (kf ≤ ct2 X Y kf j ∧ ct2 X Y kf j ≤ j) ∧ X kf (ct2 X Y kf j) + Y (ct2 X Y kf j) j = two X Y kf j ∧ X kf (ct2 X Y kf j) < fa ∧ Y (ct2 X Y kf j) j < fa := by
            intro X Y hlt2 cX cY
            obtain ⟨m0, u1, u2, u3⟩ := two_at hlt2
            have hin2 := ct2_in (X := X) (Y := Y) hk.2.1
            obtain ⟨f1', f2', f3', f4'⟩ := fsK_sp (f := fun k => X kf k + Y k j) (x := two X Y kf j) (n := (j - kf).toNat) (i := kf) ⟨m0, u1, by omega, u3⟩
            have c1 := cX kf (ct2 X Y kf j) hin2.1
            have c2 := cY (ct2 X Y kf j) j hin2.2
            have f3'' : X kf (ct2 X Y kf j) + Y (ct2 X Y kf j) j = two X Y kf j := f3'
            exact ⟨hin2, f3'', by omega, by omega⟩
          have mxT : ∀ (rem' : List Ev), (l : Int) + 1 ≤ mxL rem' → max (h 60 (9 * b + 6)) (mxL rem') = max (W.1 (9 * b + 6)) (mxL rem') → max mx (mxL rem') = max (W.1 (9 * b + 6)) (mxL rem') := fun rem' u v => by omega
          by_cases h3k : wyK (spC (lfQ q bg T) (prQ q) r') (prQ q) (spC (lfQ q bg T) (prQ q) (r' + 1) a s kf j) a s kf j = 3
          · have h3k' : wyK (spC (lfQ q bg T) (prQ q) r') (prQ q) (spQ q bg T (r' + 1) a s kf j) a s kf j = 3 := h3k
            have hv : wyv (spC (lfQ q bg T) (prQ q) r') (prQ q) 3 a s kf j = spQ q bg T (r' + 1) a s kf j := by
              unfold wyK at h3k'
              split at h3k'
              · omega
              · split at h3k'
                · omega
                · omega
            generalize eX : spQ q bg T r' (pfr 3 0 a s) (psz 3 0 s) = X
            generalize eY : spQ q bg T r' (pfr 3 1 a s) (psz 3 1 s) = Y
            generalize eZ : spQ q bg T r' (pfr 3 2 a s) (psz 3 2 s) = Z
            have hv' : min fa (prQ q 3 + two X (two Y Z) kf j) = spQ q bg T (r' + 1) a s kf j := by rw [← hv, ← eX, ← eY, ← eZ]; rfl
            have p3 := prQ_nn hq 3
            have hlt2 : two X (two Y Z) kf j < fa := by omega
            have cX : Cap X := by rw [← eX]; exact cS _ _
            have cY : Cap Y := by rw [← eY]; exact cS _ _
            have cZ : Cap Z := by rw [← eZ]; exact cS _ _
            obtain ⟨m1, m2, m3, m4⟩ := cut X (two Y Z) hlt2 cX (two_cap cY cZ)
            generalize hm : ct2 X (two Y Z) kf j = m at m1 m2 m3 m4
            have hlt3 : two Y Z m j < fa := m4
            obtain ⟨m0, u1, u2, u3⟩ := two_at hlt3
            have hin2 := ct2_in (X := Y) (Y := Z) m1.2
            obtain ⟨f1', f2', f3', f4'⟩ := fsK_sp (f := fun k => Y m k + Z k j) (x := two Y Z m j) (n := (j - m).toNat) (i := m) ⟨m0, u1, by omega, u3⟩
            generalize hmm : ct2 Y Z m j = m' at hin2
            have f3'' : Y m m' + Z m' j = two Y Z m j := by rw [← hmm]; exact f3'
            have c1 := cY m m' hin2.1
            have c2 := cZ m' j hin2.2
            have he2 : e = evO 3 :: (wrS (lfQ q bg T) (prQ q) r' (pfr 3 0 a s) (psz 3 0 s) ((l : Int) + 1) kf m ++ (wrS (lfQ q bg T) (prQ q) r' (pfr 3 1 a s) (psz 3 1 s) ((l : Int) + 1) m m' ++ (wrS (lfQ q bg T) (prQ q) r' (pfr 3 2 a s) (psz 3 2 s) ((l : Int) + 1) m' j ++ [evC 3]))) := by
              rw [he]
              exact wrS_3 hne' h3k (by rw [← hm, ← eX, ← eY, ← eZ]; rfl) (by rw [← hmm, ← eY, ← eZ]; rfl)
            have mx1 := wrS_mx (lf := lfQ q bg T) (p := prQ q) r' (pfr 3 0 a s) (psz 3 0 s) ((l : Int) + 1) kf m
            have SEn : ∀ h5 : Nat → Int → Int, FrBw b g h5 → (∀ y, h5 46 y = h 46 y) → (∀ y, h5 47 y = h 47 y) → SE h5 q bg T kf ((7 * o + 5, (l : Int) + 1, kf, m) :: (7 * o + 5 + 1, (l : Int) + 1, m, m') :: (7 * o + 5 + 2, (l : Int) + 1, m', j) :: (-1, clo 3, 0, 0) :: L) ((wrS (lfQ q bg T) (prQ q) r' (pfr 3 0 a s) (psz 3 0 s) ((l : Int) + 1) kf m) ++ ((wrS (lfQ q bg T) (prQ q) r' (pfr 3 1 a s) (psz 3 1 s) ((l : Int) + 1) m m') ++ ((wrS (lfQ q bg T) (prQ q) r' (pfr 3 2 a s) (psz 3 2 s) ((l : Int) + 1) m' j) ++ ([evC 3] ++ r)))) J := by
              intro h5 f5 k5 k5'
              obtain ⟨n1, n2, n3⟩ := kid h5 3 0 f5 k5 k5' (by omega) (by omega) (by decide)
              obtain ⟨o1, o2, o3⟩ := kid h5 3 1 f5 k5 k5' (by omega) (by omega) (by decide)
              obtain ⟨q1', q2', q3'⟩ := kid h5 3 2 f5 k5 k5' (by omega) (by omega) (by decide)
              have w35 : wo 3 = 5 := rfl
              rw [w35] at n1 n2 n3 o1 o2 o3 q1' q2' q3'
              rw [Int.add_zero] at n1 n2 n3
              have ed : dpQ q - (l + 1) = r' := by omega
              have el : ((l + 1 : Nat) : Int) = (l : Int) + 1 := by omega
              refine ⟨_, _, rfl, Or.inr ⟨l + 1, n1, el.symm, rfl, ⟨hk.1, m1.1, by show m ≤ q.1; omega⟩, ?_, ?_, ?_⟩⟩
              · show spQ q bg T (dpQ q - (l + 1)) (h5 46 (7 * o + 5)) (h5 47 (7 * o + 5)) kf m < fa
                rw [n2, n3, ed, eX]; exact m3
              · show _ = wrS (lfQ q bg T) (prQ q) (dpQ q - (l + 1)) (h5 46 (7 * o + 5)) (h5 47 (7 * o + 5)) ((l + 1 : Nat) : Int) kf m
                rw [n2, n3, ed, el]
              refine ⟨_, _, rfl, Or.inr ⟨l + 1, o1, el.symm, rfl, ⟨by show 0 ≤ m; omega, hin2.1, by show m' ≤ q.1; omega⟩, ?_, ?_, ?_⟩⟩
              · show spQ q bg T (dpQ q - (l + 1)) (h5 46 (7 * o + 5 + 1)) (h5 47 (7 * o + 5 + 1)) m m' < fa
                rw [o2, o3, ed, eY]; omega
              · show _ = wrS (lfQ q bg T) (prQ q) (dpQ q - (l + 1)) (h5 46 (7 * o + 5 + 1)) (h5 47 (7 * o + 5 + 1)) ((l + 1 : Nat) : Int) m m'
                rw [o2, o3, ed, el]
              refine ⟨_, _, rfl, Or.inr ⟨l + 1, q1', el.symm, rfl, ⟨by show 0 ≤ m'; omega, hin2.2, hk.2.2⟩, ?_, ?_, ?_⟩⟩
              · show spQ q bg T (dpQ q - (l + 1)) (h5 46 (7 * o + 5 + 2)) (h5 47 (7 * o + 5 + 2)) m' j < fa
                rw [q2', q3', ed, eZ]; omega
              · show _ = wrS (lfQ q bg T) (prQ q) (dpQ q - (l + 1)) (h5 46 (7 * o + 5 + 2)) (h5 47 (7 * o + 5 + 2)) ((l + 1 : Nat) : Int) m' j
                rw [q2', q3', ed, el]
              exact ⟨[evC 3], r, rfl, Or.inl ⟨rfl, ⟨3, by omega, rfl, rfl⟩, S2.fr k5 k5'⟩⟩
            generalize hR' : (wrS (lfQ q bg T) (prQ q) r' (pfr 3 0 a s) (psz 3 0 s) ((l : Int) + 1) kf m) ++ ((wrS (lfQ q bg T) (prQ q) r' (pfr 3 1 a s) (psz 3 1 s) ((l : Int) + 1) m m') ++ ((wrS (lfQ q bg T) (prQ q) r' (pfr 3 2 a s) (psz 3 2 s) ((l : Int) + 1) m' j) ++ ([evC 3] ++ r))) = rem' at SEn
            have mx2 : (l : Int) + 1 ≤ mxL rem' := by rw [← hR', mxL_app]; omega
            have hrr : rem = evO 3 :: rem' := by rw [hr, he2, ← hR']; simp only [List.cons_append, List.append_assoc, List.nil_append]
            have hlen' : rem'.length = n := by rw [hrr] at hlen; simp only [List.length_cons] at hlen; omega
            have s46 : ∀ y, h 46 y = h 46 y := fun _ => rfl
            have hL3 := SE.len (SEn h f1 (fun _ => rfl) (fun _ => rfl))
            simp only [List.length_cons] at hL3
            have hl' : W.2.2.2.2 b + (rem'.length + 1 : Nat) ≤ 60 := by rw [hrr] at hl; exact hl
            have hmx' : max (h 60 (9 * b + 6)) (max 0 (mxL rem')) = max (W.1 (9 * b + 6)) (max 0 (mxL rem')) := by rw [hrr] at hmx; exact hmx
            rw [h3k']
            simp only [vI_i, vJ_l, isI_i, isR_r, isR_c, aN_s, isA_s, okS_0, okS_s, isL_i, isL_l, isL_r, szV_i, szV_l, szV_r, szS_n, szS_c, pops_0, pops_s, icm_eq, icm_ne, icm_lt, icm_ge, icm_gt, icm_le, aG_s, oG_s, u_nil, v_aload0, u_astore0, u_astorec0, v_iload0, u_istore0, v_lload0, u_lstore0, v_aload1, u_astore1, u_astorec1, v_iload1, u_istore1, v_lload1, u_lstore1, v_aload2, u_astore2, u_astorec2, v_iload2, u_istore2, v_lload2, u_lstore2, v_aload3, u_astore3, u_astorec3, v_iload3, u_istore3, v_lload3, u_lstore3, v_aload, u_astore, v_iload, u_istore, v_lload, u_lstore, u_iconst, u_bipush, u_sipush, u_ldc, u_ldcs, u_ldc2, v_iinc, u_iadd, u_isub, u_imul, u_iand, u_idiv, u_irem, u_ineg, u_ladd, u_lmul, u_ldiv, u_lrem, u_lcmp, u_i2l, u_l2i, u_dup, u_dup2, u_pop, u_if, u_icmp, u_goto, u_switch, u_getf0, u_getf2, u_getf1, u_putf0, u_putf2, u_putf1, u_getst, v_iald, u_ialdc, v_iast, u_alen, u_newa, u_new, u_virt, u_spec, u_stat, w_iret, w_zret, u_lret, u_aret, u_vret, cV_s, cS_s, wc_v, wc_i, wc_s, vc_copy, uc_copyc, uc_min, uc_max, uc_abs, uc_char, uc_obj, gl_0, gl_s, sl_0, sl_s, wA, wR, wK, ceW_1, ceN_2, ceN_3, ceN_4, ceN_5, ceN_6, ceN_7, ceN_8, c_t, bu, QW_w, true_and, and_true, Bool.not_false, Option.toList_some, Option.toList_none, List.cons_append, List.nil_append, List.singleton_append, Int.cast_ofNat_Int, Int.natCast_zero, Int.natCast_one, true_implies, implies_true, not_true_eq_false, not_false_eq_true, ne_eq, eq_self, true_or, or_true, or_false, false_or, and_self, Int.reduceNeg, Int.reduceLE, Int.reduceLT, Int.reduceEq, Int.reduceAdd, Int.reduceSub, Int.reduceMul, Int.reduceNe, Nat.reduceAdd, Nat.reduceSub, Nat.reduceLeDiff, Nat.reduceLT, Nat.reduceEqDiff, Int.reduceToNat, Int.reduceNatCast, Int.reduceTDiv, Int.reduceTMod, false_implies, false_and, and_false, reduceIte, ite_true, ite_false]
            refine T_b ok_X9_writesBar_183 ?_
            simp only [vI_i, vJ_l, isI_i, isR_r, isR_c, aN_s, isA_s, okS_0, okS_s, isL_i, isL_l, isL_r, szV_i, szV_l, szV_r, szS_n, szS_c, pops_0, pops_s, icm_eq, icm_ne, icm_lt, icm_ge, icm_gt, icm_le, aG_s, oG_s, u_nil, v_aload0, u_astore0, u_astorec0, v_iload0, u_istore0, v_lload0, u_lstore0, v_aload1, u_astore1, u_astorec1, v_iload1, u_istore1, v_lload1, u_lstore1, v_aload2, u_astore2, u_astorec2, v_iload2, u_istore2, v_lload2, u_lstore2, v_aload3, u_astore3, u_astorec3, v_iload3, u_istore3, v_lload3, u_lstore3, v_aload, u_astore, v_iload, u_istore, v_lload, u_lstore, u_iconst, u_bipush, u_sipush, u_ldc, u_ldcs, u_ldc2, v_iinc, u_iadd, u_isub, u_imul, u_iand, u_idiv, u_irem, u_ineg, u_ladd, u_lmul, u_ldiv, u_lrem, u_lcmp, u_i2l, u_l2i, u_dup, u_dup2, u_pop, u_if, u_icmp, u_goto, u_switch, u_getf0, u_getf2, u_getf1, u_putf0, u_putf2, u_putf1, u_getst, v_iald, u_ialdc, v_iast, u_alen, u_newa, u_new, u_virt, u_spec, u_stat, w_iret, w_zret, u_lret, u_aret, u_vret, cV_s, cS_s, wc_v, wc_i, wc_s, vc_copy, uc_copyc, uc_min, uc_max, uc_abs, uc_char, uc_obj, gl_0, gl_s, sl_0, sl_s, wA, wR, wK, ceW_1, ceN_2, ceN_3, ceN_4, ceN_5, ceN_6, ceN_7, ceN_8, c_t, bu, QW_w, true_and, and_true, Bool.not_false, Option.toList_some, Option.toList_none, List.cons_append, List.nil_append, List.singleton_append, Int.cast_ofNat_Int, Int.natCast_zero, Int.natCast_one, true_implies, implies_true, not_true_eq_false, not_false_eq_true, ne_eq, eq_self, true_or, or_true, or_false, false_or, and_self, Int.reduceNeg, Int.reduceLE, Int.reduceLT, Int.reduceEq, Int.reduceAdd, Int.reduceSub, Int.reduceMul, Int.reduceNe, Nat.reduceAdd, Nat.reduceSub, Nat.reduceLeDiff, Nat.reduceLT, Nat.reduceEqDiff, Int.reduceToNat, Int.reduceNatCast, Int.reduceTDiv, Int.reduceTMod, false_implies, false_and, and_false, reduceIte, ite_true, ite_false]
            refine m_parts3 (bg := bg) (T := T) (l := l) (X := X) (Y := Y) (Z := Z) (m := m) (m2 := m') hq T3 L3 hN hlt R3 (by omega) P3 k33 (by omega) hk.1 hk.2.1 hk.2.2 (by rw [k46, k47, er', eX]) (by rw [k46, k47, er', eY]) (by rw [k46, k47, er', eZ]) hlt2 hm.symm hmm.symm hlt3 (fun h4 R4 P4 t4 f4 => ?_)
            have F4 : FrBw b g h4 := FH3.tr (FrBw.ofP f4)
            have k4 : ∀ y, h4 46 y = h 46 y := fun y => (f4 46 y (by omega) (by omega)).trans ((f3 46 y (by decide)).trans ((fH2 46 y (by omega)).trans (e46 y)))
            have k4' : ∀ y, h4 47 y = h 47 y := fun y => (f4 47 y (by omega) (by omega)).trans ((f3 47 y (by decide)).trans ((fH2 47 y (by omega)).trans (e47 y)))
            have e5 : h4 60 (9 * b + 6) = mx := (f4 60 _ (by omega) (by omega)).trans ((f3 60 _ (by decide)).trans H26)
            simp only [vI_i, vJ_l, isI_i, isR_r, isR_c, aN_s, isA_s, okS_0, okS_s, isL_i, isL_l, isL_r, szV_i, szV_l, szV_r, szS_n, szS_c, pops_0, pops_s, icm_eq, icm_ne, icm_lt, icm_ge, icm_gt, icm_le, aG_s, oG_s, u_nil, v_aload0, u_astore0, u_astorec0, v_iload0, u_istore0, v_lload0, u_lstore0, v_aload1, u_astore1, u_astorec1, v_iload1, u_istore1, v_lload1, u_lstore1, v_aload2, u_astore2, u_astorec2, v_iload2, u_istore2, v_lload2, u_lstore2, v_aload3, u_astore3, u_astorec3, v_iload3, u_istore3, v_lload3, u_lstore3, v_aload, u_astore, v_iload, u_istore, v_lload, u_lstore, u_iconst, u_bipush, u_sipush, u_ldc, u_ldcs, u_ldc2, v_iinc, u_iadd, u_isub, u_imul, u_iand, u_idiv, u_irem, u_ineg, u_ladd, u_lmul, u_ldiv, u_lrem, u_lcmp, u_i2l, u_l2i, u_dup, u_dup2, u_pop, u_if, u_icmp, u_goto, u_switch, u_getf0, u_getf2, u_getf1, u_putf0, u_putf2, u_putf1, u_getst, v_iald, u_ialdc, v_iast, u_alen, u_newa, u_new, u_virt, u_spec, u_stat, w_iret, w_zret, u_lret, u_aret, u_vret, cV_s, cS_s, wc_v, wc_i, wc_s, vc_copy, uc_copyc, uc_min, uc_max, uc_abs, uc_char, uc_obj, gl_0, gl_s, sl_0, sl_s, wA, wR, wK, ceW_1, ceN_2, ceN_3, ceN_4, ceN_5, ceN_6, ceN_7, ceN_8, c_t, bu, QW_w, true_and, and_true, Bool.not_false, Option.toList_some, Option.toList_none, List.cons_append, List.nil_append, List.singleton_append, Int.cast_ofNat_Int, Int.natCast_zero, Int.natCast_one, true_implies, implies_true, not_true_eq_false, not_false_eq_true, ne_eq, eq_self, true_or, or_true, or_false, false_or, and_self, Int.reduceNeg, Int.reduceLE, Int.reduceLT, Int.reduceEq, Int.reduceAdd, Int.reduceSub, Int.reduceMul, Int.reduceNe, Nat.reduceAdd, Nat.reduceSub, Nat.reduceLeDiff, Nat.reduceLT, Nat.reduceEqDiff, Int.reduceToNat, Int.reduceNatCast, Int.reduceTDiv, Int.reduceTMod, false_implies, false_and, and_false, reduceIte, ite_true, ite_false]
            refine T_b ok_X9_writesBar_198 ?_
            simp only [vI_i, vJ_l, isI_i, isR_r, isR_c, aN_s, isA_s, okS_0, okS_s, isL_i, isL_l, isL_r, szV_i, szV_l, szV_r, szS_n, szS_c, pops_0, pops_s, icm_eq, icm_ne, icm_lt, icm_ge, icm_gt, icm_le, aG_s, oG_s, u_nil, v_aload0, u_astore0, u_astorec0, v_iload0, u_istore0, v_lload0, u_lstore0, v_aload1, u_astore1, u_astorec1, v_iload1, u_istore1, v_lload1, u_lstore1, v_aload2, u_astore2, u_astorec2, v_iload2, u_istore2, v_lload2, u_lstore2, v_aload3, u_astore3, u_astorec3, v_iload3, u_istore3, v_lload3, u_lstore3, v_aload, u_astore, v_iload, u_istore, v_lload, u_lstore, u_iconst, u_bipush, u_sipush, u_ldc, u_ldcs, u_ldc2, v_iinc, u_iadd, u_isub, u_imul, u_iand, u_idiv, u_irem, u_ineg, u_ladd, u_lmul, u_ldiv, u_lrem, u_lcmp, u_i2l, u_l2i, u_dup, u_dup2, u_pop, u_if, u_icmp, u_goto, u_switch, u_getf0, u_getf2, u_getf1, u_putf0, u_putf2, u_putf1, u_getst, v_iald, u_ialdc, v_iast, u_alen, u_newa, u_new, u_virt, u_spec, u_stat, w_iret, w_zret, u_lret, u_aret, u_vret, cV_s, cS_s, wc_v, wc_i, wc_s, vc_copy, uc_copyc, uc_min, uc_max, uc_abs, uc_char, uc_obj, gl_0, gl_s, sl_0, sl_s, wA, wR, wK, ceW_1, ceN_2, ceN_3, ceN_4, ceN_5, ceN_6, ceN_7, ceN_8, c_t, bu, QW_w, true_and, and_true, Bool.not_false, Option.toList_some, Option.toList_none, List.cons_append, List.nil_append, List.singleton_append, Int.cast_ofNat_Int, Int.natCast_zero, Int.natCast_one, true_implies, implies_true, not_true_eq_false, not_false_eq_true, ne_eq, eq_self, true_or, or_true, or_false, false_or, and_self, Int.reduceNeg, Int.reduceLE, Int.reduceLT, Int.reduceEq, Int.reduceAdd, Int.reduceSub, Int.reduceMul, Int.reduceNe, Nat.reduceAdd, Nat.reduceSub, Nat.reduceLeDiff, Nat.reduceLT, Nat.reduceEqDiff, Int.reduceToNat, Int.reduceNatCast, Int.reduceTDiv, Int.reduceTMod, false_implies, false_and, and_false, reduceIte, ite_true, ite_false]
            have w6' : (openW b 3 W).1 (9 * b + 6) = W.1 (9 * b + 6) := by show upI W.1 _ _ _ = _; rw [upI_ne (by omega)]
            refine ih rem' (openW b 3 W) kf _ h4 _ _ _ _ _ hlen' F4 ⟨R4, P4, by rw [t4]; simp only [List.length_cons, Int.natCast_add, Int.natCast_one]; omega, SEn h4 F4 k4 k4', ?_, ?_, by rw [e5]; omega, by rw [w6']; exact hn2⟩ (fun g' a1 a2 a3 => hQ g' (by rw [hrr]; exact a1) (by rw [hrr]; exact a2) a3)
            · have o1 : (openW b 3 W).2.2.2.2 b = W.2.2.2.2 b + 1 := upI_eq
              rw [o1]; omega
            · rw [e5, w6']
              exact mxT rem' mx2 (by omega)
          · generalize hkw : wyK (spC (lfQ q bg T) (prQ q) r') (prQ q) (spC (lfQ q bg T) (prQ q) (r' + 1) a s kf j) a s kf j = kw at h3k
            have hkw' : wyK (spC (lfQ q bg T) (prQ q) r') (prQ q) (spQ q bg T (r' + 1) a s kf j) a s kf j = kw := hkw
            have hkc : (kw = 1 ∨ kw = 2) ∧ wyv (spC (lfQ q bg T) (prQ q) r') (prQ q) kw a s kf j = spQ q bg T (r' + 1) a s kf j := by
              unfold wyK at hkw'
              split at hkw'
              · rename_i z; rw [← hkw']; exact ⟨Or.inl rfl, z⟩
              · split at hkw'
                · rename_i z; rw [← hkw']; exact ⟨Or.inr rfl, z⟩
                · exact absurd hkw'.symm h3k
            obtain ⟨hk12, hv⟩ := hkc
            generalize eX : spQ q bg T r' (pfr kw 0 a s) (psz kw 0 s) = X
            generalize eY : spQ q bg T r' (pfr kw 1 a s) (psz kw 1 s) = Y
            have hv' : min fa (prQ q kw + two X Y kf j) = spQ q bg T (r' + 1) a s kf j := by
              rw [← hv, ← eX, ← eY]
              unfold wyv
              rw [if_neg h3k]
              rfl
            have pk := prQ_nn hq kw
            have hlt2 : two X Y kf j < fa := by omega
            have cX : Cap X := by rw [← eX]; exact cS _ _
            have cY : Cap Y := by rw [← eY]; exact cS _ _
            obtain ⟨m1, m2, m3, m4⟩ := cut X Y hlt2 cX cY
            generalize hm : ct2 X Y kf j = m at m1 m2 m3 m4
            have he2 : e = evO kw :: (wrS (lfQ q bg T) (prQ q) r' (pfr kw 0 a s) (psz kw 0 s) ((l : Int) + 1) kf m ++ (wrS (lfQ q bg T) (prQ q) r' (pfr kw 1 a s) (psz kw 1 s) ((l : Int) + 1) m j ++ [evC kw])) := by
              rw [he]
              exact wrS_2 hne' hkw h3k (by rw [← hm, ← eX, ← eY]; rfl)
            have mx1 := wrS_mx (lf := lfQ q bg T) (p := prQ q) r' (pfr kw 0 a s) (psz kw 0 s) ((l : Int) + 1) kf m
            have SEn : ∀ h5 : Nat → Int → Int, FrBw b g h5 → (∀ y, h5 46 y = h 46 y) → (∀ y, h5 47 y = h 47 y) → SE h5 q bg T kf ((7 * o + wo kw, (l : Int) + 1, kf, m) :: (7 * o + wo kw + 1, (l : Int) + 1, m, j) :: (-1, clo kw, 0, 0) :: L) ((wrS (lfQ q bg T) (prQ q) r' (pfr kw 0 a s) (psz kw 0 s) ((l : Int) + 1) kf m) ++ ((wrS (lfQ q bg T) (prQ q) r' (pfr kw 1 a s) (psz kw 1 s) ((l : Int) + 1) m j) ++ ([evC kw] ++ r))) J := by
              intro h5 f5 k5 k5'
              obtain ⟨n1, n2, n3⟩ := kid h5 kw 0 f5 k5 k5' (by omega) (by omega) (by unfold pcn; split <;> omega)
              obtain ⟨o1, o2, o3⟩ := kid h5 kw 1 f5 k5 k5' (by omega) (by omega) (by unfold pcn; split <;> omega)
              rw [Int.add_zero] at n1 n2 n3
              have ed : dpQ q - (l + 1) = r' := by omega
              have el : ((l + 1 : Nat) : Int) = (l : Int) + 1 := by omega
              refine ⟨_, _, rfl, Or.inr ⟨l + 1, n1, el.symm, rfl, ⟨hk.1, m1.1, by show m ≤ q.1; omega⟩, ?_, ?_, ?_⟩⟩
              · show spQ q bg T (dpQ q - (l + 1)) (h5 46 (7 * o + wo kw)) (h5 47 (7 * o + wo kw)) kf m < fa
                rw [n2, n3, ed, eX]; exact m3
              · show _ = wrS (lfQ q bg T) (prQ q) (dpQ q - (l + 1)) (h5 46 (7 * o + wo kw)) (h5 47 (7 * o + wo kw)) ((l + 1 : Nat) : Int) kf m
                rw [n2, n3, ed, el]
              refine ⟨_, _, rfl, Or.inr ⟨l + 1, o1, el.symm, rfl, ⟨by show 0 ≤ m; omega, m1.2, hk.2.2⟩, ?_, ?_, ?_⟩⟩
              · show spQ q bg T (dpQ q - (l + 1)) (h5 46 (7 * o + wo kw + 1)) (h5 47 (7 * o + wo kw + 1)) m j < fa
                rw [o2, o3, ed, eY]; exact m4
              · show _ = wrS (lfQ q bg T) (prQ q) (dpQ q - (l + 1)) (h5 46 (7 * o + wo kw + 1)) (h5 47 (7 * o + wo kw + 1)) ((l + 1 : Nat) : Int) m j
                rw [o2, o3, ed, el]
              exact ⟨[evC kw], r, rfl, Or.inl ⟨rfl, ⟨kw, by omega, rfl, rfl⟩, S2.fr k5 k5'⟩⟩
            generalize hR' : (wrS (lfQ q bg T) (prQ q) r' (pfr kw 0 a s) (psz kw 0 s) ((l : Int) + 1) kf m) ++ ((wrS (lfQ q bg T) (prQ q) r' (pfr kw 1 a s) (psz kw 1 s) ((l : Int) + 1) m j) ++ ([evC kw] ++ r)) = rem' at SEn
            have mx2 : (l : Int) + 1 ≤ mxL rem' := by rw [← hR', mxL_app]; omega
            have hrr : rem = evO kw :: rem' := by rw [hr, he2, ← hR']; simp only [List.cons_append, List.append_assoc, List.nil_append]
            have hlen' : rem'.length = n := by rw [hrr] at hlen; simp only [List.length_cons] at hlen; omega
            have hL3 := SE.len (SEn h f1 (fun _ => rfl) (fun _ => rfl))
            simp only [List.length_cons] at hL3
            have hl' : W.2.2.2.2 b + (rem'.length + 1 : Nat) ≤ 60 := by rw [hrr] at hl; exact hl
            have hmx' : max (h 60 (9 * b + 6)) (max 0 (mxL rem')) = max (W.1 (9 * b + 6)) (max 0 (mxL rem')) := by rw [hrr] at hmx; exact hmx
            rw [hkw']
            simp only [vI_i, vJ_l, isI_i, isR_r, isR_c, aN_s, isA_s, okS_0, okS_s, isL_i, isL_l, isL_r, szV_i, szV_l, szV_r, szS_n, szS_c, pops_0, pops_s, icm_eq, icm_ne, icm_lt, icm_ge, icm_gt, icm_le, aG_s, oG_s, u_nil, v_aload0, u_astore0, u_astorec0, v_iload0, u_istore0, v_lload0, u_lstore0, v_aload1, u_astore1, u_astorec1, v_iload1, u_istore1, v_lload1, u_lstore1, v_aload2, u_astore2, u_astorec2, v_iload2, u_istore2, v_lload2, u_lstore2, v_aload3, u_astore3, u_astorec3, v_iload3, u_istore3, v_lload3, u_lstore3, v_aload, u_astore, v_iload, u_istore, v_lload, u_lstore, u_iconst, u_bipush, u_sipush, u_ldc, u_ldcs, u_ldc2, v_iinc, u_iadd, u_isub, u_imul, u_iand, u_idiv, u_irem, u_ineg, u_ladd, u_lmul, u_ldiv, u_lrem, u_lcmp, u_i2l, u_l2i, u_dup, u_dup2, u_pop, u_if, u_icmp, u_goto, u_switch, u_getf0, u_getf2, u_getf1, u_putf0, u_putf2, u_putf1, u_getst, v_iald, u_ialdc, v_iast, u_alen, u_newa, u_new, u_virt, u_spec, u_stat, w_iret, w_zret, u_lret, u_aret, u_vret, cV_s, cS_s, wc_v, wc_i, wc_s, vc_copy, uc_copyc, uc_min, uc_max, uc_abs, uc_char, uc_obj, gl_0, gl_s, sl_0, sl_s, wA, wR, wK, ceW_1, ceN_2, ceN_3, ceN_4, ceN_5, ceN_6, ceN_7, ceN_8, c_t, bu, QW_w, true_and, and_true, Bool.not_false, Option.toList_some, Option.toList_none, List.cons_append, List.nil_append, List.singleton_append, Int.cast_ofNat_Int, Int.natCast_zero, Int.natCast_one, true_implies, implies_true, not_true_eq_false, not_false_eq_true, ne_eq, eq_self, true_or, or_true, or_false, false_or, and_self, Int.reduceNeg, Int.reduceLE, Int.reduceLT, Int.reduceEq, Int.reduceAdd, Int.reduceSub, Int.reduceMul, Int.reduceNe, Nat.reduceAdd, Nat.reduceSub, Nat.reduceLeDiff, Nat.reduceLT, Nat.reduceEqDiff, Int.reduceToNat, Int.reduceNatCast, Int.reduceTDiv, Int.reduceTMod, false_implies, false_and, and_false, reduceIte, ite_true, ite_false]
            refine ⟨fun _ => ?_, fun z => absurd z (by omega)⟩
            refine T_b ok_X9_writesBar_183 ?_
            simp only [vI_i, vJ_l, isI_i, isR_r, isR_c, aN_s, isA_s, okS_0, okS_s, isL_i, isL_l, isL_r, szV_i, szV_l, szV_r, szS_n, szS_c, pops_0, pops_s, icm_eq, icm_ne, icm_lt, icm_ge, icm_gt, icm_le, aG_s, oG_s, u_nil, v_aload0, u_astore0, u_astorec0, v_iload0, u_istore0, v_lload0, u_lstore0, v_aload1, u_astore1, u_astorec1, v_iload1, u_istore1, v_lload1, u_lstore1, v_aload2, u_astore2, u_astorec2, v_iload2, u_istore2, v_lload2, u_lstore2, v_aload3, u_astore3, u_astorec3, v_iload3, u_istore3, v_lload3, u_lstore3, v_aload, u_astore, v_iload, u_istore, v_lload, u_lstore, u_iconst, u_bipush, u_sipush, u_ldc, u_ldcs, u_ldc2, v_iinc, u_iadd, u_isub, u_imul, u_iand, u_idiv, u_irem, u_ineg, u_ladd, u_lmul, u_ldiv, u_lrem, u_lcmp, u_i2l, u_l2i, u_dup, u_dup2, u_pop, u_if, u_icmp, u_goto, u_switch, u_getf0, u_getf2, u_getf1, u_putf0, u_putf2, u_putf1, u_getst, v_iald, u_ialdc, v_iast, u_alen, u_newa, u_new, u_virt, u_spec, u_stat, w_iret, w_zret, u_lret, u_aret, u_vret, cV_s, cS_s, wc_v, wc_i, wc_s, vc_copy, uc_copyc, uc_min, uc_max, uc_abs, uc_char, uc_obj, gl_0, gl_s, sl_0, sl_s, wA, wR, wK, ceW_1, ceN_2, ceN_3, ceN_4, ceN_5, ceN_6, ceN_7, ceN_8, c_t, bu, QW_w, true_and, and_true, Bool.not_false, Option.toList_some, Option.toList_none, List.cons_append, List.nil_append, List.singleton_append, Int.cast_ofNat_Int, Int.natCast_zero, Int.natCast_one, true_implies, implies_true, not_true_eq_false, not_false_eq_true, ne_eq, eq_self, true_or, or_true, or_false, false_or, and_self, Int.reduceNeg, Int.reduceLE, Int.reduceLT, Int.reduceEq, Int.reduceAdd, Int.reduceSub, Int.reduceMul, Int.reduceNe, Nat.reduceAdd, Nat.reduceSub, Nat.reduceLeDiff, Nat.reduceLT, Nat.reduceEqDiff, Int.reduceToNat, Int.reduceNatCast, Int.reduceTDiv, Int.reduceTMod, false_implies, false_and, and_false, reduceIte, ite_true, ite_false]
            refine m_parts2 (bg := bg) (T := T) (l := l) (X := X) (Y := Y) hq T3 L3 hN hlt hk12 R3 (by omega) P3 k33 (by omega) hk.1 hk.2.1 hk.2.2 (by rw [k46, k47, er', eX]) (by rw [k46, k47, er', eY]) hlt2 (fun h4 R4 P4 t4 f4 => ?_)
            rw [hm] at P4
            have F4 : FrBw b g h4 := FH3.tr (FrBw.ofP f4)
            have k4 : ∀ y, h4 46 y = h 46 y := fun y => (f4 46 y (by omega) (by omega)).trans ((f3 46 y (by decide)).trans ((fH2 46 y (by omega)).trans (e46 y)))
            have k4' : ∀ y, h4 47 y = h 47 y := fun y => (f4 47 y (by omega) (by omega)).trans ((f3 47 y (by decide)).trans ((fH2 47 y (by omega)).trans (e47 y)))
            have e5 : h4 60 (9 * b + 6) = mx := (f4 60 _ (by omega) (by omega)).trans ((f3 60 _ (by decide)).trans H26)
            simp only [vI_i, vJ_l, isI_i, isR_r, isR_c, aN_s, isA_s, okS_0, okS_s, isL_i, isL_l, isL_r, szV_i, szV_l, szV_r, szS_n, szS_c, pops_0, pops_s, icm_eq, icm_ne, icm_lt, icm_ge, icm_gt, icm_le, aG_s, oG_s, u_nil, v_aload0, u_astore0, u_astorec0, v_iload0, u_istore0, v_lload0, u_lstore0, v_aload1, u_astore1, u_astorec1, v_iload1, u_istore1, v_lload1, u_lstore1, v_aload2, u_astore2, u_astorec2, v_iload2, u_istore2, v_lload2, u_lstore2, v_aload3, u_astore3, u_astorec3, v_iload3, u_istore3, v_lload3, u_lstore3, v_aload, u_astore, v_iload, u_istore, v_lload, u_lstore, u_iconst, u_bipush, u_sipush, u_ldc, u_ldcs, u_ldc2, v_iinc, u_iadd, u_isub, u_imul, u_iand, u_idiv, u_irem, u_ineg, u_ladd, u_lmul, u_ldiv, u_lrem, u_lcmp, u_i2l, u_l2i, u_dup, u_dup2, u_pop, u_if, u_icmp, u_goto, u_switch, u_getf0, u_getf2, u_getf1, u_putf0, u_putf2, u_putf1, u_getst, v_iald, u_ialdc, v_iast, u_alen, u_newa, u_new, u_virt, u_spec, u_stat, w_iret, w_zret, u_lret, u_aret, u_vret, cV_s, cS_s, wc_v, wc_i, wc_s, vc_copy, uc_copyc, uc_min, uc_max, uc_abs, uc_char, uc_obj, gl_0, gl_s, sl_0, sl_s, wA, wR, wK, ceW_1, ceN_2, ceN_3, ceN_4, ceN_5, ceN_6, ceN_7, ceN_8, c_t, bu, QW_w, true_and, and_true, Bool.not_false, Option.toList_some, Option.toList_none, List.cons_append, List.nil_append, List.singleton_append, Int.cast_ofNat_Int, Int.natCast_zero, Int.natCast_one, true_implies, implies_true, not_true_eq_false, not_false_eq_true, ne_eq, eq_self, true_or, or_true, or_false, false_or, and_self, Int.reduceNeg, Int.reduceLE, Int.reduceLT, Int.reduceEq, Int.reduceAdd, Int.reduceSub, Int.reduceMul, Int.reduceNe, Nat.reduceAdd, Nat.reduceSub, Nat.reduceLeDiff, Nat.reduceLT, Nat.reduceEqDiff, Int.reduceToNat, Int.reduceNatCast, Int.reduceTDiv, Int.reduceTMod, false_implies, false_and, and_false, reduceIte, ite_true, ite_false]
            refine T_b ok_X9_writesBar_198 ?_
            simp only [vI_i, vJ_l, isI_i, isR_r, isR_c, aN_s, isA_s, okS_0, okS_s, isL_i, isL_l, isL_r, szV_i, szV_l, szV_r, szS_n, szS_c, pops_0, pops_s, icm_eq, icm_ne, icm_lt, icm_ge, icm_gt, icm_le, aG_s, oG_s, u_nil, v_aload0, u_astore0, u_astorec0, v_iload0, u_istore0, v_lload0, u_lstore0, v_aload1, u_astore1, u_astorec1, v_iload1, u_istore1, v_lload1, u_lstore1, v_aload2, u_astore2, u_astorec2, v_iload2, u_istore2, v_lload2, u_lstore2, v_aload3, u_astore3, u_astorec3, v_iload3, u_istore3, v_lload3, u_lstore3, v_aload, u_astore, v_iload, u_istore, v_lload, u_lstore, u_iconst, u_bipush, u_sipush, u_ldc, u_ldcs, u_ldc2, v_iinc, u_iadd, u_isub, u_imul, u_iand, u_idiv, u_irem, u_ineg, u_ladd, u_lmul, u_ldiv, u_lrem, u_lcmp, u_i2l, u_l2i, u_dup, u_dup2, u_pop, u_if, u_icmp, u_goto, u_switch, u_getf0, u_getf2, u_getf1, u_putf0, u_putf2, u_putf1, u_getst, v_iald, u_ialdc, v_iast, u_alen, u_newa, u_new, u_virt, u_spec, u_stat, w_iret, w_zret, u_lret, u_aret, u_vret, cV_s, cS_s, wc_v, wc_i, wc_s, vc_copy, uc_copyc, uc_min, uc_max, uc_abs, uc_char, uc_obj, gl_0, gl_s, sl_0, sl_s, wA, wR, wK, ceW_1, ceN_2, ceN_3, ceN_4, ceN_5, ceN_6, ceN_7, ceN_8, c_t, bu, QW_w, true_and, and_true, Bool.not_false, Option.toList_some, Option.toList_none, List.cons_append, List.nil_append, List.singleton_append, Int.cast_ofNat_Int, Int.natCast_zero, Int.natCast_one, true_implies, implies_true, not_true_eq_false, not_false_eq_true, ne_eq, eq_self, true_or, or_true, or_false, false_or, and_self, Int.reduceNeg, Int.reduceLE, Int.reduceLT, Int.reduceEq, Int.reduceAdd, Int.reduceSub, Int.reduceMul, Int.reduceNe, Nat.reduceAdd, Nat.reduceSub, Nat.reduceLeDiff, Nat.reduceLT, Nat.reduceEqDiff, Int.reduceToNat, Int.reduceNatCast, Int.reduceTDiv, Int.reduceTMod, false_implies, false_and, and_false, reduceIte, ite_true, ite_false]
            have w6' : (openW b kw W).1 (9 * b + 6) = W.1 (9 * b + 6) := by show upI W.1 _ _ _ = _; rw [upI_ne (by omega)]
            refine ih rem' (openW b kw W) kf _ h4 _ _ _ _ _ hlen' F4 ⟨R4, P4, by rw [t4]; simp only [List.length_cons, Int.natCast_add, Int.natCast_one]; omega, SEn h4 F4 k4 k4', ?_, ?_, by rw [e5]; omega, by rw [w6']; exact hn2⟩ (fun g' a1 a2 a3 => hQ g' (by rw [hrr]; exact a1) (by rw [hrr]; exact a2) a3)
            · have o1 : (openW b kw W).2.2.2.2 b = W.2.2.2.2 b + 1 := upI_eq
              rw [o1]; omega
            · rw [e5, w6']
              exact mxT rem' mx2 (by omega)
      refine ⟨fun _ => ?_, fun z => absurd z (by show ¬ ¬ o = -1 → False; exact fun y => y (by omega))⟩
      show Tg G (d + 4) (73, 42835) _ 102 [vr 41, vi b, vi v2, vi v3, vi o, vi l, vi kf, vi j, v8] [] (Mw H) (QW Q)
      refine T_b ok_X9_writesBar_102 ?_
      simp only [vI_i, vJ_l, isI_i, isR_r, isR_c, aN_s, isA_s, okS_0, okS_s, isL_i, isL_l, isL_r, szV_i, szV_l, szV_r, szS_n, szS_c, pops_0, pops_s, icm_eq, icm_ne, icm_lt, icm_ge, icm_gt, icm_le, aG_s, oG_s, u_nil, v_aload0, u_astore0, u_astorec0, v_iload0, u_istore0, v_lload0, u_lstore0, v_aload1, u_astore1, u_astorec1, v_iload1, u_istore1, v_lload1, u_lstore1, v_aload2, u_astore2, u_astorec2, v_iload2, u_istore2, v_lload2, u_lstore2, v_aload3, u_astore3, u_astorec3, v_iload3, u_istore3, v_lload3, u_lstore3, v_aload, u_astore, v_iload, u_istore, v_lload, u_lstore, u_iconst, u_bipush, u_sipush, u_ldc, u_ldcs, u_ldc2, v_iinc, u_iadd, u_isub, u_imul, u_iand, u_idiv, u_irem, u_ineg, u_ladd, u_lmul, u_ldiv, u_lrem, u_lcmp, u_i2l, u_l2i, u_dup, u_dup2, u_pop, u_if, u_icmp, u_goto, u_switch, u_getf0, u_getf2, u_getf1, u_putf0, u_putf2, u_putf1, u_getst, v_iald, u_ialdc, v_iast, u_alen, u_newa, u_new, u_virt, u_spec, u_stat, w_iret, w_zret, u_lret, u_aret, u_vret, cV_s, cS_s, wc_v, wc_i, wc_s, vc_copy, uc_copyc, uc_min, uc_max, uc_abs, uc_char, uc_obj, gl_0, gl_s, sl_0, sl_s, wA, wR, wK, ceW_1, ceN_2, ceN_3, ceN_4, ceN_5, ceN_6, ceN_7, ceN_8, c_t, bu, QW_w, true_and, and_true, Bool.not_false, Option.toList_some, Option.toList_none, List.cons_append, List.nil_append, List.singleton_append, Int.cast_ofNat_Int, Int.natCast_zero, Int.natCast_one, true_implies, implies_true, not_true_eq_false, not_false_eq_true, ne_eq, eq_self, true_or, or_true, or_false, false_or, and_self, Int.reduceNeg, Int.reduceLE, Int.reduceLT, Int.reduceEq, Int.reduceAdd, Int.reduceSub, Int.reduceMul, Int.reduceNe, Nat.reduceAdd, Nat.reduceSub, Nat.reduceLeDiff, Nat.reduceLT, Nat.reduceEqDiff, Int.reduceToNat, Int.reduceNatCast, Int.reduceTDiv, Int.reduceTMod, false_implies, false_and, and_false, reduceIte, ite_true, ite_false, w9, w6, e6]
      refine ⟨by omega, fun z => ?_, fun z => t147 _ _ (by omega)⟩
      refine T_b ok_X9_writesBar_135 ?_
      simp only [vI_i, vJ_l, isI_i, isR_r, isR_c, aN_s, isA_s, okS_0, okS_s, isL_i, isL_l, isL_r, szV_i, szV_l, szV_r, szS_n, szS_c, pops_0, pops_s, icm_eq, icm_ne, icm_lt, icm_ge, icm_gt, icm_le, aG_s, oG_s, u_nil, v_aload0, u_astore0, u_astorec0, v_iload0, u_istore0, v_lload0, u_lstore0, v_aload1, u_astore1, u_astorec1, v_iload1, u_istore1, v_lload1, u_lstore1, v_aload2, u_astore2, u_astorec2, v_iload2, u_istore2, v_lload2, u_lstore2, v_aload3, u_astore3, u_astorec3, v_iload3, u_istore3, v_lload3, u_lstore3, v_aload, u_astore, v_iload, u_istore, v_lload, u_lstore, u_iconst, u_bipush, u_sipush, u_ldc, u_ldcs, u_ldc2, v_iinc, u_iadd, u_isub, u_imul, u_iand, u_idiv, u_irem, u_ineg, u_ladd, u_lmul, u_ldiv, u_lrem, u_lcmp, u_i2l, u_l2i, u_dup, u_dup2, u_pop, u_if, u_icmp, u_goto, u_switch, u_getf0, u_getf2, u_getf1, u_putf0, u_putf2, u_putf1, u_getst, v_iald, u_ialdc, v_iast, u_alen, u_newa, u_new, u_virt, u_spec, u_stat, w_iret, w_zret, u_lret, u_aret, u_vret, cV_s, cS_s, wc_v, wc_i, wc_s, vc_copy, uc_copyc, uc_min, uc_max, uc_abs, uc_char, uc_obj, gl_0, gl_s, sl_0, sl_s, wA, wR, wK, ceW_1, ceN_2, ceN_3, ceN_4, ceN_5, ceN_6, ceN_7, ceN_8, c_t, bu, QW_w, true_and, and_true, Bool.not_false, Option.toList_some, Option.toList_none, List.cons_append, List.nil_append, List.singleton_append, Int.cast_ofNat_Int, Int.natCast_zero, Int.natCast_one, true_implies, implies_true, not_true_eq_false, not_false_eq_true, ne_eq, eq_self, true_or, or_true, or_false, false_or, and_self, Int.reduceNeg, Int.reduceLE, Int.reduceLT, Int.reduceEq, Int.reduceAdd, Int.reduceSub, Int.reduceMul, Int.reduceNe, Nat.reduceAdd, Nat.reduceSub, Nat.reduceLeDiff, Nat.reduceLT, Nat.reduceEqDiff, Int.reduceToNat, Int.reduceNatCast, Int.reduceTDiv, Int.reduceTMod, false_implies, false_and, and_false, reduceIte, ite_true, ite_false, w9, w6, e6]
      exact ⟨by omega, t147 _ _ (by omega)⟩
end MDBARW2
