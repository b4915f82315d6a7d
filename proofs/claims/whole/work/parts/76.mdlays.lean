/-! THE REFERENCE: the best writing is laid -/
section MDLAYS
variable {G : Gx} {d : Nat} {g : Nat → Int → Int} {Q : Qx} {q : Qe} {W : Wr}
def FrV (b : Int) (g h : Nat → Int → Int) : Prop := ∀ (p : Nat) (x : Int), ((p < 58 ∧ p ≠ 49 ∧ p ≠ 50) ∨ 67 < p ∨ (p = 60 ∧ 9 * b + 9 ≤ x) ∨ (p = 62 ∧ x = 5)) → ¬ (p = 41 ∧ x = 33) → h p x = g p x
theorem m_writesBar {b bg T i j : Int} (hq : QeOK q) (hw : q.2.2.2.2.1 = -1) (hT : MT g) (hM : MQe g q) (hb : BtOK bg T) (h35 : g 41 35 = bg) (h36 : g 41 36 = T) (hb2 : 0 ≤ b ∧ b ≤ 2) (hR : RelR g W b i) (hij : i ≤ j ∧ 0 ≤ i ∧ j ≤ q.1) (hl : W.2.2.2.2 b = 0) (h6 : g 60 (9 * b + 6) = 0) (h6' : W.1 (9 * b + 6) = 0) (hc : spQ q bg T (dq q) 0 216 i j < fa)
    (hQ : ∀ g' : Nat → Int → Int, RelR g' (flW q bg T b W (wrS (lfQ q bg T) (prQ q) (dq q) 0 216 0 i j)) b j → g' 60 (9 * b + 6) = (flW q bg T b W (wrS (lfQ q bg T) (prQ q) (dq q) 0 216 0 i j)).1 (9 * b + 6) → FrV b g g' → Q none (Mw g')) : Cg G (d + 6) 76 [vr 41, vi b, vi i, vi j] (Mw g) Q := by
  have hn := hq.1
  have hD : dpQ q ≤ 3 := by have := hq.dep; unfold dpQ; omega
  have edq : dq q = dpQ q := by unfold dq; rw [if_neg (by omega)]
  have h49 := wrS_49 (lf := lfQ q bg T) (p := prQ q) (r := dq q) (a := 0) (s := 216) (v := 0) (i := i) (j := j) (fun a i => lfc_0) (fun r a s => spQ_cap hq bg T r a s) (by rw [edq]; exact hD) hij.1 (by omega)
  refine C_t (a := [vr 41, vi b, vi i, vi j]) mo_76 rfl rfl (Nat.le_of_ble_eq_true rfl) ?_
  change Tg G _ (73, 42835) 76 0 [vr 41, vi b, vi i, vi j, vc 0, vc 0, vc 0, vc 0, vc 0] [] (Mw _) _
  refine T_b ok_X9_writesBar_0 ?_
  simp only [vI_i, vJ_l, isI_i, isR_r, isR_c, aN_s, isA_s, okS_0, okS_s, isL_i, isL_l, isL_r, szV_i, szV_l, szV_r, szS_n, szS_c, pops_0, pops_s, icm_eq, icm_ne, icm_lt, icm_ge, icm_gt, icm_le, aG_s, oG_s, u_nil, v_aload0, u_astore0, u_astorec0, v_iload0, u_istore0, v_lload0, u_lstore0, v_aload1, u_astore1, u_astorec1, v_iload1, u_istore1, v_lload1, u_lstore1, v_aload2, u_astore2, u_astorec2, v_iload2, u_istore2, v_lload2, u_lstore2, v_aload3, u_astore3, u_astorec3, v_iload3, u_istore3, v_lload3, u_lstore3, v_aload, u_astore, v_iload, u_istore, v_lload, u_lstore, u_iconst, u_bipush, u_sipush, u_ldc, u_ldcs, u_ldc2, v_iinc, u_iadd, u_isub, u_imul, u_iand, u_idiv, u_irem, u_ineg, u_ladd, u_lmul, u_ldiv, u_lrem, u_lcmp, u_i2l, u_l2i, u_dup, u_dup2, u_pop, u_if, u_icmp, u_goto, u_switch, u_getf0, u_getf2, u_getf1, u_putf0, u_putf2, u_putf1, u_getst, v_iald, u_ialdc, v_iast, u_alen, u_newa, u_new, u_virt, u_spec, u_stat, w_iret, w_zret, u_lret, u_aret, u_vret, cV_s, cS_s, wc_v, wc_i, wc_s, vc_copy, uc_copyc, uc_min, uc_max, uc_abs, uc_char, uc_obj, gl_0, gl_s, sl_0, sl_s, wA, wR, wK, ceW_1, ceN_2, ceN_3, ceN_4, ceN_5, ceN_6, ceN_7, ceN_8, c_t, bu, QW_w, true_and, and_true, Bool.not_false, Option.toList_some, Option.toList_none, List.cons_append, List.nil_append, List.singleton_append, Int.cast_ofNat_Int, Int.natCast_zero, Int.natCast_one, true_implies, implies_true, not_true_eq_false, not_false_eq_true, ne_eq, eq_self, true_or, or_true, or_false, false_or, and_self, Int.reduceNeg, Int.reduceLE, Int.reduceLT, Int.reduceEq, Int.reduceAdd, Int.reduceSub, Int.reduceMul, Int.reduceNe, Nat.reduceAdd, Nat.reduceSub, Nat.reduceLeDiff, Nat.reduceLT, Nat.reduceEqDiff, Int.reduceToNat, Int.reduceNatCast, Int.reduceTDiv, Int.reduceTMod, false_implies, false_and, and_false, reduceIte, ite_true, ite_false, h35, h36]
  refine m_laysBar hT hM hq hb (fun h f1 l1 => ?_)
  simp only [vI_i, vJ_l, isI_i, isR_r, isR_c, aN_s, isA_s, okS_0, okS_s, isL_i, isL_l, isL_r, szV_i, szV_l, szV_r, szS_n, szS_c, pops_0, pops_s, icm_eq, icm_ne, icm_lt, icm_ge, icm_gt, icm_le, aG_s, oG_s, u_nil, v_aload0, u_astore0, u_astorec0, v_iload0, u_istore0, v_lload0, u_lstore0, v_aload1, u_astore1, u_astorec1, v_iload1, u_istore1, v_lload1, u_lstore1, v_aload2, u_astore2, u_astorec2, v_iload2, u_istore2, v_lload2, u_lstore2, v_aload3, u_astore3, u_astorec3, v_iload3, u_istore3, v_lload3, u_lstore3, v_aload, u_astore, v_iload, u_istore, v_lload, u_lstore, u_iconst, u_bipush, u_sipush, u_ldc, u_ldcs, u_ldc2, v_iinc, u_iadd, u_isub, u_imul, u_iand, u_idiv, u_irem, u_ineg, u_ladd, u_lmul, u_ldiv, u_lrem, u_lcmp, u_i2l, u_l2i, u_dup, u_dup2, u_pop, u_if, u_icmp, u_goto, u_switch, u_getf0, u_getf2, u_getf1, u_putf0, u_putf2, u_putf1, u_getst, v_iald, u_ialdc, v_iast, u_alen, u_newa, u_new, u_virt, u_spec, u_stat, w_iret, w_zret, u_lret, u_aret, u_vret, cV_s, cS_s, wc_v, wc_i, wc_s, vc_copy, uc_copyc, uc_min, uc_max, uc_abs, uc_char, uc_obj, gl_0, gl_s, sl_0, sl_s, wA, wR, wK, ceW_1, ceN_2, ceN_3, ceN_4, ceN_5, ceN_6, ceN_7, ceN_8, c_t, bu, QW_w, true_and, and_true, Bool.not_false, Option.toList_some, Option.toList_none, List.cons_append, List.nil_append, List.singleton_append, Int.cast_ofNat_Int, Int.natCast_zero, Int.natCast_one, true_implies, implies_true, not_true_eq_false, not_false_eq_true, ne_eq, eq_self, true_or, or_true, or_false, false_or, and_self, Int.reduceNeg, Int.reduceLE, Int.reduceLT, Int.reduceEq, Int.reduceAdd, Int.reduceSub, Int.reduceMul, Int.reduceNe, Nat.reduceAdd, Nat.reduceSub, Nat.reduceLeDiff, Nat.reduceLT, Nat.reduceEqDiff, Int.reduceToNat, Int.reduceNatCast, Int.reduceTDiv, Int.reduceTMod, false_implies, false_and, and_false, reduceIte, ite_true, ite_false]
  have f2 : ∀ (p : Nat) (x : Int), ¬ (p = 41 ∧ x = 33) → st h 41 33 0 p x = h p x := fun p x u => st_nq u
  refine m_piles (L := []) trivial st_eq (by decide) (fun h3 p3 t3 f3 => ?_)
  simp only [vI_i, vJ_l, isI_i, isR_r, isR_c, aN_s, isA_s, okS_0, okS_s, isL_i, isL_l, isL_r, szV_i, szV_l, szV_r, szS_n, szS_c, pops_0, pops_s, icm_eq, icm_ne, icm_lt, icm_ge, icm_gt, icm_le, aG_s, oG_s, u_nil, v_aload0, u_astore0, u_astorec0, v_iload0, u_istore0, v_lload0, u_lstore0, v_aload1, u_astore1, u_astorec1, v_iload1, u_istore1, v_lload1, u_lstore1, v_aload2, u_astore2, u_astorec2, v_iload2, u_istore2, v_lload2, u_lstore2, v_aload3, u_astore3, u_astorec3, v_iload3, u_istore3, v_lload3, u_lstore3, v_aload, u_astore, v_iload, u_istore, v_lload, u_lstore, u_iconst, u_bipush, u_sipush, u_ldc, u_ldcs, u_ldc2, v_iinc, u_iadd, u_isub, u_imul, u_iand, u_idiv, u_irem, u_ineg, u_ladd, u_lmul, u_ldiv, u_lrem, u_lcmp, u_i2l, u_l2i, u_dup, u_dup2, u_pop, u_if, u_icmp, u_goto, u_switch, u_getf0, u_getf2, u_getf1, u_putf0, u_putf2, u_putf1, u_getst, v_iald, u_ialdc, v_iast, u_alen, u_newa, u_new, u_virt, u_spec, u_stat, w_iret, w_zret, u_lret, u_aret, u_vret, cV_s, cS_s, wc_v, wc_i, wc_s, vc_copy, uc_copyc, uc_min, uc_max, uc_abs, uc_char, uc_obj, gl_0, gl_s, sl_0, sl_s, wA, wR, wK, ceW_1, ceN_2, ceN_3, ceN_4, ceN_5, ceN_6, ceN_7, ceN_8, c_t, bu, QW_w, true_and, and_true, Bool.not_false, Option.toList_some, Option.toList_none, List.cons_append, List.nil_append, List.singleton_append, Int.cast_ofNat_Int, Int.natCast_zero, Int.natCast_one, true_implies, implies_true, not_true_eq_false, not_false_eq_true, ne_eq, eq_self, true_or, or_true, or_false, false_or, and_self, Int.reduceNeg, Int.reduceLE, Int.reduceLT, Int.reduceEq, Int.reduceAdd, Int.reduceSub, Int.reduceMul, Int.reduceNe, Nat.reduceAdd, Nat.reduceSub, Nat.reduceLeDiff, Nat.reduceLT, Nat.reduceEqDiff, Int.reduceToNat, Int.reduceNatCast, Int.reduceTDiv, Int.reduceTMod, false_implies, false_and, and_false, reduceIte, ite_true, ite_false]
  have F3 : ∀ (p : Nat) (x : Int), p ≠ 49 → p ≠ 50 → p ≠ 67 → (p < 63 ∨ 66 < p) → ¬ (p = 41 ∧ x = 33) → h3 p x = g p x := fun p x a1 a2 a3 a4 a5 => (f3 p x a4 a5).trans ((f2 p x a5).trans (f1 p x a1 a2 a3))
  have hT3 : MT h3 := hT.fr fun p x u => F3 p x (by omega) (by omega) (by omega) (by omega) (by omega)
  have hM3 : MQe h3 q := hM.fr (fun x _ _ => F3 41 x (by decide) (by decide) (by decide) (by omega) (by omega)) (fun x => F3 48 x (by decide) (by decide) (by decide) (by omega) (by omega)) (fun x => F3 42 x (by decide) (by decide) (by decide) (by omega) (by omega))
  have hL3 : LB h3 q bg T := l1.f50 fun p x u => (f3 p x (by omega) (by omega)).trans (f2 p x (by omega))
  refine wb_loop (d := d + 2) (g := h3) (q := q) (b := b) (bg := bg) (T := T) (J := j) hq hw hT3 hM3 hL3 hb ((F3 41 35 (by decide) (by decide) (by decide) (by omega) (by omega)).trans h35) ((F3 41 36 (by decide) (by decide) (by decide) (by omega) (by omega)).trans h36) hb2 _ (wrS (lfQ q bg T) (prQ q) (dq q) 0 216 0 i j) W i [(0, 0, i, j)] h3 _ _ _ _ _ rfl FrBw.rf ⟨hR.fr fun p x u v => F3 p x (by omega) (by omega) (by omega) (by omega) (by omega), p3, t3, ?_, by rw [hl]; omega, ?_, ?_, by rw [h6']; exact Int.le_refl _⟩ (fun g' a1 a2 a3 => hQ g' a1 a2 (fun p x u v => ?_))
  · refine ⟨_, [], (List.append_nil _).symm, Or.inr ⟨0, ⟨by omega, by show fN 0 ≤ (0 : Int); decide, by show (0 : Int) < fN 1; decide⟩, rfl, rfl, ⟨hij.2.1, hij.1, hij.2.2⟩, ?_, ?_, rfl, rfl⟩⟩
    · show spQ q bg T (dpQ q - 0) (h3 46 0) (h3 47 0) i j < fa
      rw [hT3.1, hT3.2.1, Nat.sub_zero, ← edq]; exact hc
    · show _ = wrS (lfQ q bg T) (prQ q) (dpQ q - 0) (h3 46 0) (h3 47 0) ((0 : Nat) : Int) i j
      rw [hT3.1, hT3.2.1, Nat.sub_zero, ← edq]; rfl
  · rw [F3 60 _ (by decide) (by decide) (by decide) (by omega) (by omega), h6, h6']
  · rw [F3 60 _ (by decide) (by decide) (by decide) (by omega) (by omega), h6]; exact Int.le_refl _
  · rw [a3 p x (by omega) v]; exact F3 p x (by omega) (by omega) (by omega) (by omega) v
/-- the reference between bars -/
def RMb (g : Nat → Int → Int) (W : Wr) (b k : Int) : Prop := AgR g 60 W.1 (9 * b) ∧ (∀ x : Int, 9 * b ≤ x → x < 27 → g 60 x = 0) ∧ AgR g 61 W.2.1 (6 * k) ∧ AgR g 62 W.2.2.1 7 ∧ ∀ c : Int, 0 ≤ c → c < b → g 59 c = W.2.2.2.2 c ∧ (0 ≤ W.2.2.2.2 c ∧ W.2.2.2.2 c ≤ 60) ∧ ∀ i : Int, 0 ≤ i → i < W.2.2.2.2 c → g 58 (120 * c + i) = W.2.2.2.1 (200 * c + i)
theorem flW_t5 {bg T b : Int} : ∀ (l : List Ev) (W : Wr), (∀ x ∈ l, x.1 = 1 → x.2.1 = 1 ∨ x.2.1 = 2 ∨ x.2.1 = 3) → (flW q bg T b W l).2.2.1 5 = W.2.2.1 5
  | [], W, _ => rfl
  | x :: l, W, h => by
    rw [flW_cons, flW_t5 l _ fun y hy => h y (List.mem_cons_of_mem _ hy)]
    unfold evW
    split
    · unfold leafW
      have nt : ∀ (n : Nat) (W' : Wr) (a v c i : Int), (notesW q bg T b a v c i W' n).2.2.1 5 = W'.2.2.1 5 := by
        intro n
        induction n with
        | zero => intros; rfl
        | succ n ih =>
          intro W' a v c i
          unfold notesW noteW
          simp only []
          rw [upI_ne (by decide), upI_ne (by decide)]; exact ih W' a v c i
      rw [nt]
      unfold lf0W putW
      simp only []
      rw [upI_ne (by decide)]
    · split
      · rename_i h1 h2
        have := h x (List.mem_cons_self) h2
        show upI W.2.2.1 _ _ 5 = _
        rw [upI_ne (by omega)]
      · rfl
theorem wrS_way {lf : Int → Int → Int → Int} {p : Int → Int} : ∀ (r : Nat) (a s v i j : Int), ∀ x ∈ wrS lf p r a s v i j, x.1 = 1 → x.2.1 = 1 ∨ x.2.1 = 2 ∨ x.2.1 = 3
  | 0, a, s, v, i, j, x, hx, h1 => by
    rw [wrS_0, List.mem_singleton] at hx
    subst hx
    exact absurd h1 (by show ¬ (0 : Nat) = 1; decide)
  | r + 1, a, s, v, i, j, x, hx, h1 => by
    have ih := wrS_way (lf := lf) (p := p) r
    by_cases hl : lf a i j = spC lf p (r + 1) a s i j
    · rw [wrS_lf hl, List.mem_singleton] at hx
      subst hx
      exact absurd h1 (by show ¬ (0 : Nat) = 1; decide)
    · by_cases h3 : wyK (spC lf p r) p (spC lf p (r + 1) a s i j) a s i j = 3
      · rw [wrS_3 hl h3 rfl rfl] at hx
        simp only [List.mem_cons, List.mem_append, List.not_mem_nil, or_false] at hx
        rcases hx with hx | hx | hx | hx | hx
        · subst hx; exact Or.inr (Or.inr rfl)
        · exact ih _ _ _ _ _ x hx h1
        · exact ih _ _ _ _ _ x hx h1
        · exact ih _ _ _ _ _ x hx h1
        · subst hx; exact absurd h1 (by show ¬ (2 : Nat) = 1; decide)
      · rw [wrS_2 hl rfl h3 rfl] at hx
        simp only [List.mem_cons, List.mem_append, List.not_mem_nil, or_false] at hx
        rcases hx with hx | hx | hx | hx
        · subst hx
          show wyK _ _ _ _ _ _ _ = 1 ∨ wyK _ _ _ _ _ _ _ = 2 ∨ wyK _ _ _ _ _ _ _ = 3
          unfold wyK
          split
          · exact Or.inl rfl
          · split
            · exact Or.inr (Or.inl rfl)
            · exact Or.inr (Or.inr rfl)
        · exact ih _ _ _ _ _ x hx h1
        · exact ih _ _ _ _ _ x hx h1
        · subst hx; exact absurd h1 (by show ¬ (2 : Nat) = 1; decide)
theorem lays_z1 {v2 : Vx} (hQ : ∀ h : Nat → Int → Int, (∀ p x, p ≠ 60 → h p x = g p x) → (∀ x : Int, 0 ≤ x → x < 27 → h 60 x = 0) → Tg G (d + 9) (73, 42835) 77 51 [vr 41, vi 27, v2] [] (Mw h) (QW Q)) :
    ∀ (m k : Nat) (h : Nat → Int → Int), k + m = 27 → (∀ p x, p ≠ 60 → h p x = g p x) → (∀ x : Int, 0 ≤ x → x < k → h 60 x = 0) → Tg G (d + 9) (73, 42835) 77 32 [vr 41, vi k, v2] [] (Mw h) (QW Q) := by
  intro m
  induction m with
  | zero =>
    intro k h hk f1 f2
    obtain rfl : k = 27 := by omega
    refine T_b ok_X9_lays_32 ?_
    simp only [vI_i, vJ_l, isI_i, isR_r, isR_c, aN_s, isA_s, okS_0, okS_s, isL_i, isL_l, isL_r, szV_i, szV_l, szV_r, szS_n, szS_c, pops_0, pops_s, icm_eq, icm_ne, icm_lt, icm_ge, icm_gt, icm_le, aG_s, oG_s, u_nil, v_aload0, u_astore0, u_astorec0, v_iload0, u_istore0, v_lload0, u_lstore0, v_aload1, u_astore1, u_astorec1, v_iload1, u_istore1, v_lload1, u_lstore1, v_aload2, u_astore2, u_astorec2, v_iload2, u_istore2, v_lload2, u_lstore2, v_aload3, u_astore3, u_astorec3, v_iload3, u_istore3, v_lload3, u_lstore3, v_aload, u_astore, v_iload, u_istore, v_lload, u_lstore, u_iconst, u_bipush, u_sipush, u_ldc, u_ldcs, u_ldc2, v_iinc, u_iadd, u_isub, u_imul, u_iand, u_idiv, u_irem, u_ineg, u_ladd, u_lmul, u_ldiv, u_lrem, u_lcmp, u_i2l, u_l2i, u_dup, u_dup2, u_pop, u_if, u_icmp, u_goto, u_switch, u_getf0, u_getf2, u_getf1, u_putf0, u_putf2, u_putf1, u_getst, v_iald, u_ialdc, v_iast, u_alen, u_newa, u_new, u_virt, u_spec, u_stat, w_iret, w_zret, u_lret, u_aret, u_vret, cV_s, cS_s, wc_v, wc_i, wc_s, vc_copy, uc_copyc, uc_min, uc_max, uc_abs, uc_char, uc_obj, gl_0, gl_s, sl_0, sl_s, wA, wR, wK, ceW_1, ceN_2, ceN_3, ceN_4, ceN_5, ceN_6, ceN_7, ceN_8, c_t, bu, QW_w, true_and, and_true, Bool.not_false, Option.toList_some, Option.toList_none, List.cons_append, List.nil_append, List.singleton_append, Int.cast_ofNat_Int, Int.natCast_zero, Int.natCast_one, true_implies, implies_true, not_true_eq_false, not_false_eq_true, ne_eq, eq_self, true_or, or_true, or_false, false_or, and_self, Int.reduceNeg, Int.reduceLE, Int.reduceLT, Int.reduceEq, Int.reduceAdd, Int.reduceSub, Int.reduceMul, Int.reduceNe, Nat.reduceAdd, Nat.reduceSub, Nat.reduceLeDiff, Nat.reduceLT, Nat.reduceEqDiff, Int.reduceToNat, Int.reduceNatCast, Int.reduceTDiv, Int.reduceTMod, false_implies, false_and, and_false, reduceIte, ite_true, ite_false]
    exact hQ h f1 (fun x u v => f2 x u (by omega))
  | succ m ih =>
    intro k h hk f1 f2
    have w3 : wr ((k : Int) + 1) = ((k + 1 : Nat) : Int) := by rw [wr_of (by omega) (by omega)]; omega
    refine T_b ok_X9_lays_32 ?_
    simp only [vI_i, vJ_l, isI_i, isR_r, isR_c, aN_s, isA_s, okS_0, okS_s, isL_i, isL_l, isL_r, szV_i, szV_l, szV_r, szS_n, szS_c, pops_0, pops_s, icm_eq, icm_ne, icm_lt, icm_ge, icm_gt, icm_le, aG_s, oG_s, u_nil, v_aload0, u_astore0, u_astorec0, v_iload0, u_istore0, v_lload0, u_lstore0, v_aload1, u_astore1, u_astorec1, v_iload1, u_istore1, v_lload1, u_lstore1, v_aload2, u_astore2, u_astorec2, v_iload2, u_istore2, v_lload2, u_lstore2, v_aload3, u_astore3, u_astorec3, v_iload3, u_istore3, v_lload3, u_lstore3, v_aload, u_astore, v_iload, u_istore, v_lload, u_lstore, u_iconst, u_bipush, u_sipush, u_ldc, u_ldcs, u_ldc2, v_iinc, u_iadd, u_isub, u_imul, u_iand, u_idiv, u_irem, u_ineg, u_ladd, u_lmul, u_ldiv, u_lrem, u_lcmp, u_i2l, u_l2i, u_dup, u_dup2, u_pop, u_if, u_icmp, u_goto, u_switch, u_getf0, u_getf2, u_getf1, u_putf0, u_putf2, u_putf1, u_getst, v_iald, u_ialdc, v_iast, u_alen, u_newa, u_new, u_virt, u_spec, u_stat, w_iret, w_zret, u_lret, u_aret, u_vret, cV_s, cS_s, wc_v, wc_i, wc_s, vc_copy, uc_copyc, uc_min, uc_max, uc_abs, uc_char, uc_obj, gl_0, gl_s, sl_0, sl_s, wA, wR, wK, ceW_1, ceN_2, ceN_3, ceN_4, ceN_5, ceN_6, ceN_7, ceN_8, c_t, bu, QW_w, true_and, and_true, Bool.not_false, Option.toList_some, Option.toList_none, List.cons_append, List.nil_append, List.singleton_append, Int.cast_ofNat_Int, Int.natCast_zero, Int.natCast_one, true_implies, implies_true, not_true_eq_false, not_false_eq_true, ne_eq, eq_self, true_or, or_true, or_false, false_or, and_self, Int.reduceNeg, Int.reduceLE, Int.reduceLT, Int.reduceEq, Int.reduceAdd, Int.reduceSub, Int.reduceMul, Int.reduceNe, Nat.reduceAdd, Nat.reduceSub, Nat.reduceLeDiff, Nat.reduceLT, Nat.reduceEqDiff, Int.reduceToNat, Int.reduceNatCast, Int.reduceTDiv, Int.reduceTMod, false_implies, false_and, and_false, reduceIte, ite_true, ite_false, w3]
    refine ⟨fun z => absurd z (by omega), fun _ => ⟨by omega, ih (k + 1) _ (by omega) (fun p x y => by rw [st_ne y]; exact f1 p x y) (fun x u v => ?_)⟩⟩
    by_cases e : x = k
    · rw [e, st_eq]
    · rw [st_ni e]; exact f2 x u (by omega)
theorem lays_z2 {v2 : Vx} (hQ : ∀ h : Nat → Int → Int, (∀ p x, p ≠ 62 → h p x = g p x) → (∀ x : Int, 0 ≤ x → x < 7 → h 62 x = 0) → Tg G (d + 9) (73, 42835) 77 72 [vr 41, vi 7, v2] [] (Mw h) (QW Q)) :
    ∀ (m k : Nat) (h : Nat → Int → Int), k + m = 7 → (∀ p x, p ≠ 62 → h p x = g p x) → (∀ x : Int, 0 ≤ x → x < k → h 62 x = 0) → Tg G (d + 9) (73, 42835) 77 53 [vr 41, vi k, v2] [] (Mw h) (QW Q) := by
  intro m
  induction m with
  | zero =>
    intro k h hk f1 f2
    obtain rfl : k = 7 := by omega
    refine T_b ok_X9_lays_53 ?_
    simp only [vI_i, vJ_l, isI_i, isR_r, isR_c, aN_s, isA_s, okS_0, okS_s, isL_i, isL_l, isL_r, szV_i, szV_l, szV_r, szS_n, szS_c, pops_0, pops_s, icm_eq, icm_ne, icm_lt, icm_ge, icm_gt, icm_le, aG_s, oG_s, u_nil, v_aload0, u_astore0, u_astorec0, v_iload0, u_istore0, v_lload0, u_lstore0, v_aload1, u_astore1, u_astorec1, v_iload1, u_istore1, v_lload1, u_lstore1, v_aload2, u_astore2, u_astorec2, v_iload2, u_istore2, v_lload2, u_lstore2, v_aload3, u_astore3, u_astorec3, v_iload3, u_istore3, v_lload3, u_lstore3, v_aload, u_astore, v_iload, u_istore, v_lload, u_lstore, u_iconst, u_bipush, u_sipush, u_ldc, u_ldcs, u_ldc2, v_iinc, u_iadd, u_isub, u_imul, u_iand, u_idiv, u_irem, u_ineg, u_ladd, u_lmul, u_ldiv, u_lrem, u_lcmp, u_i2l, u_l2i, u_dup, u_dup2, u_pop, u_if, u_icmp, u_goto, u_switch, u_getf0, u_getf2, u_getf1, u_putf0, u_putf2, u_putf1, u_getst, v_iald, u_ialdc, v_iast, u_alen, u_newa, u_new, u_virt, u_spec, u_stat, w_iret, w_zret, u_lret, u_aret, u_vret, cV_s, cS_s, wc_v, wc_i, wc_s, vc_copy, uc_copyc, uc_min, uc_max, uc_abs, uc_char, uc_obj, gl_0, gl_s, sl_0, sl_s, wA, wR, wK, ceW_1, ceN_2, ceN_3, ceN_4, ceN_5, ceN_6, ceN_7, ceN_8, c_t, bu, QW_w, true_and, and_true, Bool.not_false, Option.toList_some, Option.toList_none, List.cons_append, List.nil_append, List.singleton_append, Int.cast_ofNat_Int, Int.natCast_zero, Int.natCast_one, true_implies, implies_true, not_true_eq_false, not_false_eq_true, ne_eq, eq_self, true_or, or_true, or_false, false_or, and_self, Int.reduceNeg, Int.reduceLE, Int.reduceLT, Int.reduceEq, Int.reduceAdd, Int.reduceSub, Int.reduceMul, Int.reduceNe, Nat.reduceAdd, Nat.reduceSub, Nat.reduceLeDiff, Nat.reduceLT, Nat.reduceEqDiff, Int.reduceToNat, Int.reduceNatCast, Int.reduceTDiv, Int.reduceTMod, false_implies, false_and, and_false, reduceIte, ite_true, ite_false]
    exact hQ h f1 (fun x u v => f2 x u (by omega))
  | succ m ih =>
    intro k h hk f1 f2
    have w3 : wr ((k : Int) + 1) = ((k + 1 : Nat) : Int) := by rw [wr_of (by omega) (by omega)]; omega
    refine T_b ok_X9_lays_53 ?_
    simp only [vI_i, vJ_l, isI_i, isR_r, isR_c, aN_s, isA_s, okS_0, okS_s, isL_i, isL_l, isL_r, szV_i, szV_l, szV_r, szS_n, szS_c, pops_0, pops_s, icm_eq, icm_ne, icm_lt, icm_ge, icm_gt, icm_le, aG_s, oG_s, u_nil, v_aload0, u_astore0, u_astorec0, v_iload0, u_istore0, v_lload0, u_lstore0, v_aload1, u_astore1, u_astorec1, v_iload1, u_istore1, v_lload1, u_lstore1, v_aload2, u_astore2, u_astorec2, v_iload2, u_istore2, v_lload2, u_lstore2, v_aload3, u_astore3, u_astorec3, v_iload3, u_istore3, v_lload3, u_lstore3, v_aload, u_astore, v_iload, u_istore, v_lload, u_lstore, u_iconst, u_bipush, u_sipush, u_ldc, u_ldcs, u_ldc2, v_iinc, u_iadd, u_isub, u_imul, u_iand, u_idiv, u_irem, u_ineg, u_ladd, u_lmul, u_ldiv, u_lrem, u_lcmp, u_i2l, u_l2i, u_dup, u_dup2, u_pop, u_if, u_icmp, u_goto, u_switch, u_getf0, u_getf2, u_getf1, u_putf0, u_putf2, u_putf1, u_getst, v_iald, u_ialdc, v_iast, u_alen, u_newa, u_new, u_virt, u_spec, u_stat, w_iret, w_zret, u_lret, u_aret, u_vret, cV_s, cS_s, wc_v, wc_i, wc_s, vc_copy, uc_copyc, uc_min, uc_max, uc_abs, uc_char, uc_obj, gl_0, gl_s, sl_0, sl_s, wA, wR, wK, ceW_1, ceN_2, ceN_3, ceN_4, ceN_5, ceN_6, ceN_7, ceN_8, c_t, bu, QW_w, true_and, and_true, Bool.not_false, Option.toList_some, Option.toList_none, List.cons_append, List.nil_append, List.singleton_append, Int.cast_ofNat_Int, Int.natCast_zero, Int.natCast_one, true_implies, implies_true, not_true_eq_false, not_false_eq_true, ne_eq, eq_self, true_or, or_true, or_false, false_or, and_self, Int.reduceNeg, Int.reduceLE, Int.reduceLT, Int.reduceEq, Int.reduceAdd, Int.reduceSub, Int.reduceMul, Int.reduceNe, Nat.reduceAdd, Nat.reduceSub, Nat.reduceLeDiff, Nat.reduceLT, Nat.reduceEqDiff, Int.reduceToNat, Int.reduceNatCast, Int.reduceTDiv, Int.reduceTMod, false_implies, false_and, and_false, reduceIte, ite_true, ite_false, w3]
    refine ⟨fun z => absurd z (by omega), fun _ => ⟨by omega, ih (k + 1) _ (by omega) (fun p x y => by rw [st_ne y]; exact f1 p x y) (fun x u v => ?_)⟩⟩
    by_cases e : x = k
    · rw [e, st_eq]
    · rw [st_ni e]; exact f2 x u (by omega)
/-- what laying may touch, beside what a question may -/
def FrL (g h : Nat → Int → Int) : Prop := ∀ (p : Nat) (x : Int), (p < 58 ∧ p ≠ 49 ∧ p ≠ 50) ∨ 67 < p → ¬ (p = 41 ∧ (x = 33 ∨ x = 35 ∨ x = 36)) → h p x = g p x
theorem FrL.rf : FrL g g := fun _ _ _ _ => rfl
theorem FrL.tr {g1 g2 g3 : Nat → Int → Int} (a : FrL g1 g2) (b : FrL g2 g3) : FrL g1 g3 := fun p x u v => (b p x u v).trans (a p x u v)
theorem lays_loop (hq : QeOK q) (hw : q.2.2.2.2.1 = -1) (hT : MT g) (hM : MQe g q) :
    ∀ (m : Nat) (b st_ be i : Int) (h : Nat → Int → Int) (W : Wr), b + m = q.2.2.1 0 → 0 ≤ b → (0 ≤ st_ ∧ st_ ≤ 456 * b) → (0 ≤ i ∧ i ≤ q.1) → (24 ≤ be ∧ be ≤ 456) → FQ q m st_ be i < fa → mkL (g 54) (g 55) b m = pkL q m st_ be i → g 55 b = i → FrL g h → h 41 35 = st_ → RMb h W b i →
      (∀ (g' : Nat → Int → Int) (v1 : Int), RMb g' (brW q (pkL q m st_ be i) b st_ be i W) (q.2.2.1 0) q.1 → FrL g g' → Tg G (d + 9) (73, 42835) 77 266 [vr 41, vi v1, vi (q.2.2.1 0)] [] (Mw g') (QW Q)) →
      Tg G (d + 9) (73, 42835) 77 93 [vr 41, vi be, vi b] [] (Mw h) (QW Q) := by
  intro m
  have hB3 := hq.bars
  have hn := hq.1
  induction m with
  | zero =>
    intro b st_ be i h W hm hb hst hi hbe hF hl h55 f1 h35 R hQ
    have e0 : h 42 0 = q.2.2.1 0 := (f1 42 0 (by omega) (by omega)).trans (hM.2.2.2.2.2 0 (by omega) (by omega))
    have ei : i = q.1 := by
      rw [FQ_0] at hF
      by_cases e : i = q.1
      · exact e
      · rw [if_neg e] at hF; exact absurd hF (Int.lt_irrefl _)
    have eb : b = q.2.2.1 0 := by omega
    subst eb
    refine T_b ok_X9_lays_93 ?_
    simp only [vI_i, vJ_l, isI_i, isR_r, isR_c, aN_s, isA_s, okS_0, okS_s, isL_i, isL_l, isL_r, szV_i, szV_l, szV_r, szS_n, szS_c, pops_0, pops_s, icm_eq, icm_ne, icm_lt, icm_ge, icm_gt, icm_le, aG_s, oG_s, u_nil, v_aload0, u_astore0, u_astorec0, v_iload0, u_istore0, v_lload0, u_lstore0, v_aload1, u_astore1, u_astorec1, v_iload1, u_istore1, v_lload1, u_lstore1, v_aload2, u_astore2, u_astorec2, v_iload2, u_istore2, v_lload2, u_lstore2, v_aload3, u_astore3, u_astorec3, v_iload3, u_istore3, v_lload3, u_lstore3, v_aload, u_astore, v_iload, u_istore, v_lload, u_lstore, u_iconst, u_bipush, u_sipush, u_ldc, u_ldcs, u_ldc2, v_iinc, u_iadd, u_isub, u_imul, u_iand, u_idiv, u_irem, u_ineg, u_ladd, u_lmul, u_ldiv, u_lrem, u_lcmp, u_i2l, u_l2i, u_dup, u_dup2, u_pop, u_if, u_icmp, u_goto, u_switch, u_getf0, u_getf2, u_getf1, u_putf0, u_putf2, u_putf1, u_getst, v_iald, u_ialdc, v_iast, u_alen, u_newa, u_new, u_virt, u_spec, u_stat, w_iret, w_zret, u_lret, u_aret, u_vret, cV_s, cS_s, wc_v, wc_i, wc_s, vc_copy, uc_copyc, uc_min, uc_max, uc_abs, uc_char, uc_obj, gl_0, gl_s, sl_0, sl_s, wA, wR, wK, ceW_1, ceN_2, ceN_3, ceN_4, ceN_5, ceN_6, ceN_7, ceN_8, c_t, bu, QW_w, true_and, and_true, Bool.not_false, Option.toList_some, Option.toList_none, List.cons_append, List.nil_append, List.singleton_append, Int.cast_ofNat_Int, Int.natCast_zero, Int.natCast_one, true_implies, implies_true, not_true_eq_false, not_false_eq_true, ne_eq, eq_self, true_or, or_true, or_false, false_or, and_self, Int.reduceNeg, Int.reduceLE, Int.reduceLT, Int.reduceEq, Int.reduceAdd, Int.reduceSub, Int.reduceMul, Int.reduceNe, Nat.reduceAdd, Nat.reduceSub, Nat.reduceLeDiff, Nat.reduceLT, Nat.reduceEqDiff, Int.reduceToNat, Int.reduceNatCast, Int.reduceTDiv, Int.reduceTMod, false_implies, false_and, and_false, reduceIte, ite_true, ite_false, e0]
    refine ⟨fun _ => hQ h be ?_ f1, fun z => absurd (Int.le_refl _) z⟩
    show RMb h W (q.2.2.1 0) q.1
    rw [← ei]
    exact R
  | succ m ih =>
    intro b st_ be i h W hm hb hst hi hbe hF hl h55 f1 h35 R hQ
    have e0 : h 42 0 = q.2.2.1 0 := (f1 42 0 (by omega) (by omega)).trans (hM.2.2.2.2.2 0 (by omega) (by omega))
    obtain ⟨pt1, pt2, -⟩ := pkT_sp hq hF
    have hpk : pkL q (m + 1) st_ be i = (pkT q m st_ be i, pkJ q m st_ (pkT q m st_ be i) i) :: pkL q m (st_ + pkT q m st_ be i) (pkT q m st_ be i) (pkJ q m st_ (pkT q m st_ be i) i) := rfl
    have hmk : mkL (g 54) (g 55) b (m + 1) = (g 54 b, g 55 (b + 1)) :: mkL (g 54) (g 55) (b + 1) m := rfl
    rw [hpk, hmk] at hl
    have hl1 := List.head_eq_of_cons_eq hl
    have hl2 := List.tail_eq_of_cons_eq hl
    have eT : g 54 b = pkT q m st_ be i := congrArg Prod.fst hl1
    have eJ : g 55 (b + 1) = pkJ q m st_ (pkT q m st_ be i) i := congrArg Prod.snd hl1
    have hch := chQ_nn hq (pkT q m st_ be i) be
    obtain ⟨j1, j2, j3, -⟩ := pkJ_sp (q := q) (m := m) (st := st_) (T := pkT q m st_ be i) (i := i) hi.2 (by omega)
    have rT : 24 ≤ pkT q m st_ be i ∧ pkT q m st_ be i ≤ 456 := by
      have := hq.len
      have := hq.2.2.2.1
      unfold isT at pt1
      omega
    have hbc := bcQ_cap hq st_ (pkT q m st_ be i) i _ j1
    have hFc := FQ_cap hq m (st_ + pkT q m st_ be i) (pkT q m st_ be i) (pkJ q m st_ (pkT q m st_ be i) i)
    have hQ' : (∀ (g' : Nat → Int → Int) (v1 : Int), RMb g' (brW q (pkL q m (st_ + pkT q m st_ be i) (pkT q m st_ be i) (pkJ q m st_ (pkT q m st_ be i) i)) (b + 1) (st_ + pkT q m st_ be i) (pkT q m st_ be i) (pkJ q m st_ (pkT q m st_ be i) i) (flW q st_ (pkT q m st_ be i) b (chgW (begW W b st_ (pkT q m st_ be i) be i (pkJ q m st_ (pkT q m st_ be i) i)) (pkT q m st_ be i) be) (wrS (lfQ q st_ (pkT q m st_ be i)) (prQ q) (dq q) 0 216 0 i (pkJ q m st_ (pkT q m st_ be i) i)))) (q.2.2.1 0) q.1 → FrL g g' → Tg G (d + 9) (73, 42835) 77 266 [vr 41, vi v1, vi (q.2.2.1 0)] [] (Mw g') (QW Q)) := fun g' v1 a b => hQ g' v1 a b
    have hspb : spQ q st_ (pkT q m st_ be i) (dq q) 0 216 i (pkJ q m st_ (pkT q m st_ be i) i) < fa := by
      have ebc : bcQ q st_ (pkT q m st_ be i) i (pkJ q m st_ (pkT q m st_ be i) i) = spQ q st_ (pkT q m st_ be i) (dq q) 0 216 i (pkJ q m st_ (pkT q m st_ be i) i) := by
        unfold bcQ spQ
        rw [hw, brC_fr (lfQ_cap hq _ _) j1, show dq q = dpQ q by unfold dq; rw [if_neg (by omega)]]
      omega
    have hFm : FQ q m (st_ + pkT q m st_ be i) (pkT q m st_ be i) (pkJ q m st_ (pkT q m st_ be i) i) < fa := by omega
    generalize pkJ q m st_ (pkT q m st_ be i) i = j at *
    generalize pkT q m st_ be i = T at *
    obtain ⟨R1, R2, R3, R4, R5⟩ := R
    have e54 : h 54 b = T := (f1 54 b (by omega) (by omega)).trans eT
    have e55 : h 55 b = i := (f1 55 b (by omega) (by omega)).trans h55
    have e55' : h 55 (b + 1) = j := (f1 55 (b + 1) (by omega) (by omega)).trans eJ
    have w1 : wr (9 * b) = 9 * b := wr_of (by omega) (by omega)
    have w11 : wr (9 * b + 1) = 9 * b + 1 := wr_of (by omega) (by omega)
    have w12 : wr (9 * b + 2) = 9 * b + 2 := wr_of (by omega) (by omega)
    have w13 : wr (9 * b + 3) = 9 * b + 3 := wr_of (by omega) (by omega)
    have wb : wr (b + 1) = b + 1 := wr_of (by omega) (by omega)
    have wj : wr (j - i) = j - i := wr_of (by omega) (by omega)
    generalize hH : st (st (st (st (st (st h 41 36 T) 59 b 0) 60 (9 * b) T) 60 (9 * b + 1) st_) 60 (9 * b + 2) i) 60 (9 * b + 3) (j - i) = H
    have fH : ∀ (p : Nat) (x : Int), ¬ (p = 41 ∧ x = 36) → ¬ (p = 59 ∧ x = b) → ¬ (p = 60 ∧ 9 * b ≤ x ∧ x ≤ 9 * b + 3) → H p x = h p x := fun p x u v w => by
      rw [← hH, st_nq (by omega), st_nq (by omega), st_nq (by omega), st_nq (by omega), st_nq v, st_nq u]
    have H36 : H 41 36 = T := by rw [← hH, st_ne (by decide), st_ne (by decide), st_ne (by decide), st_ne (by decide), st_ne (by decide), st_eq]
    have H35 : H 41 35 = st_ := (fH 41 35 (by omega) (by omega) (by omega)).trans h35
    have H59 : H 59 b = 0 := by rw [← hH, st_ne (by decide), st_ne (by decide), st_ne (by decide), st_ne (by decide), st_eq]
    have H60 : H 60 (9 * b) = T ∧ H 60 (9 * b + 1) = st_ ∧ H 60 (9 * b + 2) = i ∧ H 60 (9 * b + 3) = j - i := by
      rw [← hH]
      refine ⟨?_, ?_, ?_, ?_⟩
      · rw [st_ni (by omega), st_ni (by omega), st_ni (by omega), st_eq]
      · rw [st_ni (by omega), st_ni (by omega), st_eq]
      · rw [st_ni (by omega), st_eq]
      · rw [st_eq]
    have FH : FrL g H := f1.tr fun p x u v => fH p x (by omega) (by omega) (by omega)
    have hTH : MT H := hT.fr fun p x u => FH p x (by omega) (by omega)
    have hMH : MQe H q := hM.fr (fun x _ _ => FH 41 x (by omega) (by omega)) (fun x => FH 48 x (by omega) (by omega)) (fun x => FH 42 x (by omega) (by omega))
    generalize hW1 : chgW (begW W b st_ T be i j) T be = W1
    have W1f : ∀ x : Int, W1.1 x = (if 9 * b ≤ x ∧ x < 9 * b + 9 then (if x = 9 * b then T else if x = 9 * b + 1 then st_ else if x = 9 * b + 2 then i else if x = 9 * b + 3 then j - i else 0) else W.1 x) := fun x => by rw [← hW1]; rfl
    have hRH : RelR H W1 b i := by
      refine ⟨fun x u v w => ?_, ?_, fun x u v w => ?_, fun c u v => ?_, by omega⟩
      · rw [W1f]
        by_cases e : 9 * b ≤ x
        · rw [if_pos ⟨e, v⟩]
          by_cases c0 : x = 9 * b
          · rw [if_pos c0, c0]; exact H60.1
          · rw [if_neg c0]
            by_cases c1 : x = 9 * b + 1
            · rw [if_pos c1, c1]; exact H60.2.1
            · rw [if_neg c1]
              by_cases c2 : x = 9 * b + 2
              · rw [if_pos c2, c2]; exact H60.2.2.1
              · rw [if_neg c2]
                by_cases c3 : x = 9 * b + 3
                · rw [if_pos c3, c3]; exact H60.2.2.2
                · rw [if_neg c3, fH 60 x (by omega) (by omega) (by omega)]; exact R2 x e (by omega)
        · rw [if_neg (fun z => e z.1), fH 60 x (by omega) (by omega) (by omega)]; exact R1 x u (by omega)
      · rw [← hW1]
        exact R3.cg fun x => fH 61 x (by omega) (by omega) (by omega)
      · rw [← hW1, fH 62 x (by omega) (by omega) (by omega)]
        show _ = upI W.2.2.1 5 _ x
        rw [upI_ne w]; exact R4 x u v
      · rw [← hW1]
        show H 59 c = upI W.2.2.2.2 b 0 c ∧ (0 ≤ upI W.2.2.2.2 b 0 c ∧ upI W.2.2.2.2 b 0 c ≤ 60) ∧ ∀ i : Int, 0 ≤ i → i < upI W.2.2.2.2 b 0 c → H 58 (120 * c + i) = W.2.2.2.1 (200 * c + i)
        by_cases e : c = b
        · rw [e, upI_eq]; exact ⟨H59, by omega, fun i' u v => absurd v (by omega)⟩
        · rw [upI_ne e, fH 59 c (by omega) (by omega) (by omega)]
          obtain ⟨m1, m2, m3⟩ := R5 c u (by omega)
          exact ⟨m1, m2, fun i' u v => (fH 58 _ (by omega) (by omega) (by omega)).trans (m3 i' u v)⟩
    have hl0 : W1.2.2.2.2 b = 0 := by rw [← hW1]; exact upI_eq
    have h60 : H 60 (9 * b + 6) = 0 := (fH 60 _ (by omega) (by omega) (by omega)).trans (R2 _ (by omega) (by omega))
    have h60' : W1.1 (9 * b + 6) = 0 := by rw [W1f, if_pos (by omega), if_neg (by omega), if_neg (by omega), if_neg (by omega), if_neg (by omega)]
    refine T_b ok_X9_lays_93 ?_
    simp only [vI_i, vJ_l, isI_i, isR_r, isR_c, aN_s, isA_s, okS_0, okS_s, isL_i, isL_l, isL_r, szV_i, szV_l, szV_r, szS_n, szS_c, pops_0, pops_s, icm_eq, icm_ne, icm_lt, icm_ge, icm_gt, icm_le, aG_s, oG_s, u_nil, v_aload0, u_astore0, u_astorec0, v_iload0, u_istore0, v_lload0, u_lstore0, v_aload1, u_astore1, u_astorec1, v_iload1, u_istore1, v_lload1, u_lstore1, v_aload2, u_astore2, u_astorec2, v_iload2, u_istore2, v_lload2, u_lstore2, v_aload3, u_astore3, u_astorec3, v_iload3, u_istore3, v_lload3, u_lstore3, v_aload, u_astore, v_iload, u_istore, v_lload, u_lstore, u_iconst, u_bipush, u_sipush, u_ldc, u_ldcs, u_ldc2, v_iinc, u_iadd, u_isub, u_imul, u_iand, u_idiv, u_irem, u_ineg, u_ladd, u_lmul, u_ldiv, u_lrem, u_lcmp, u_i2l, u_l2i, u_dup, u_dup2, u_pop, u_if, u_icmp, u_goto, u_switch, u_getf0, u_getf2, u_getf1, u_putf0, u_putf2, u_putf1, u_getst, v_iald, u_ialdc, v_iast, u_alen, u_newa, u_new, u_virt, u_spec, u_stat, w_iret, w_zret, u_lret, u_aret, u_vret, cV_s, cS_s, wc_v, wc_i, wc_s, vc_copy, uc_copyc, uc_min, uc_max, uc_abs, uc_char, uc_obj, gl_0, gl_s, sl_0, sl_s, wA, wR, wK, ceW_1, ceN_2, ceN_3, ceN_4, ceN_5, ceN_6, ceN_7, ceN_8, c_t, bu, QW_w, true_and, and_true, Bool.not_false, Option.toList_some, Option.toList_none, List.cons_append, List.nil_append, List.singleton_append, Int.cast_ofNat_Int, Int.natCast_zero, Int.natCast_one, true_implies, implies_true, not_true_eq_false, not_false_eq_true, ne_eq, eq_self, true_or, or_true, or_false, false_or, and_self, Int.reduceNeg, Int.reduceLE, Int.reduceLT, Int.reduceEq, Int.reduceAdd, Int.reduceSub, Int.reduceMul, Int.reduceNe, Nat.reduceAdd, Nat.reduceSub, Nat.reduceLeDiff, Nat.reduceLT, Nat.reduceEqDiff, Int.reduceToNat, Int.reduceNatCast, Int.reduceTDiv, Int.reduceTMod, false_implies, false_and, and_false, reduceIte, ite_true, ite_false, e0, e54, st_eq, w1, w11, w12, w13, wb, wj, e55, e55', h35, st_ne (show (55 : Nat) ≠ 41 by decide), st_ne (show (55 : Nat) ≠ 59 by decide), st_ne (show (55 : Nat) ≠ 60 by decide), st_ne (show (41 : Nat) ≠ 59 by decide), st_ne (show (41 : Nat) ≠ 60 by decide), st_ni (show (35 : Int) ≠ 36 by decide), hH]
    have H55 : H 55 b = i := (fH 55 b (by omega) (by omega) (by omega)).trans e55
    have H55' : H 55 (b + 1) = j := (fH 55 (b + 1) (by omega) (by omega) (by omega)).trans e55'
    refine ⟨fun z => absurd z (by omega), fun _ => ⟨by omega, by omega, by omega, by omega, by omega, by omega, by omega, by omega, by omega, by omega, by omega, ?_⟩⟩
    rw [H55, H55']
    refine m_writesBar (d := d + 2) (W := W1) (bg := st_) (T := T) hq hw hTH hMH ⟨by omega, by omega, by omega⟩ H35 H36 (by omega) hRH ⟨j1, hi.1, j2⟩ hl0 h60 h60' hspb (fun g2 R2' d2 f2 => ?_)
    have eW : chgW (begW W b st_ T be i j) T be = W1 := hW1
    rw [eW] at hQ'
    have t5 := flW_t5 (q := q) (bg := st_) (T := T) (b := b) (wrS (lfQ q st_ T) (prQ q) (dq q) 0 216 0 i j) W1 (wrS_way _ _ _ _ _ _)
    generalize flW q st_ T b W1 (wrS (lfQ q st_ T) (prQ q) (dq q) 0 216 0 i j) = W2 at R2' d2 t5 hQ'
    obtain ⟨r1, r2, r3, r4, r6⟩ := R2'
    have g36 : g2 41 36 = T := (f2 41 36 (by omega) (by omega)).trans H36
    have g35 : g2 41 35 = st_ := (f2 41 35 (by omega) (by omega)).trans H35
    have g5 : g2 62 5 = W.2.2.1 5 := (f2 62 5 (by omega) (by omega)).trans ((fH 62 5 (by omega) (by omega) (by omega)).trans (R4 5 (by omega) (by omega)))
    have t5' : W2.2.2.1 5 = wr (W.2.2.1 5 + if T < be then be - T else T - be) := by rw [t5, ← hW1]; unfold chgW begW; simp only []; rw [upI_eq]
    have wS : wr (st_ + T) = st_ + T := wr_of (by omega) (by omega)
    have F2 : FrL g g2 := FH.tr fun p x u v => f2 p x (by omega) (by omega)
    have t240 : ∀ x : Int, x = (if T < be then be - T else T - be) → Tg G (d + 9) (73, 42835) 77 240 [vr 41, vi be, vi b] [vi x, vi (W.2.2.1 5), vi 5, vr 62] (Mw g2) (QW Q) := by
      intro x hx
      refine T_b ok_X9_lays_240 ?_
      simp only [vI_i, vJ_l, isI_i, isR_r, isR_c, aN_s, isA_s, okS_0, okS_s, isL_i, isL_l, isL_r, szV_i, szV_l, szV_r, szS_n, szS_c, pops_0, pops_s, icm_eq, icm_ne, icm_lt, icm_ge, icm_gt, icm_le, aG_s, oG_s, u_nil, v_aload0, u_astore0, u_astorec0, v_iload0, u_istore0, v_lload0, u_lstore0, v_aload1, u_astore1, u_astorec1, v_iload1, u_istore1, v_lload1, u_lstore1, v_aload2, u_astore2, u_astorec2, v_iload2, u_istore2, v_lload2, u_lstore2, v_aload3, u_astore3, u_astorec3, v_iload3, u_istore3, v_lload3, u_lstore3, v_aload, u_astore, v_iload, u_istore, v_lload, u_lstore, u_iconst, u_bipush, u_sipush, u_ldc, u_ldcs, u_ldc2, v_iinc, u_iadd, u_isub, u_imul, u_iand, u_idiv, u_irem, u_ineg, u_ladd, u_lmul, u_ldiv, u_lrem, u_lcmp, u_i2l, u_l2i, u_dup, u_dup2, u_pop, u_if, u_icmp, u_goto, u_switch, u_getf0, u_getf2, u_getf1, u_putf0, u_putf2, u_putf1, u_getst, v_iald, u_ialdc, v_iast, u_alen, u_newa, u_new, u_virt, u_spec, u_stat, w_iret, w_zret, u_lret, u_aret, u_vret, cV_s, cS_s, wc_v, wc_i, wc_s, vc_copy, uc_copyc, uc_min, uc_max, uc_abs, uc_char, uc_obj, gl_0, gl_s, sl_0, sl_s, wA, wR, wK, ceW_1, ceN_2, ceN_3, ceN_4, ceN_5, ceN_6, ceN_7, ceN_8, c_t, bu, QW_w, true_and, and_true, Bool.not_false, Option.toList_some, Option.toList_none, List.cons_append, List.nil_append, List.singleton_append, Int.cast_ofNat_Int, Int.natCast_zero, Int.natCast_one, true_implies, implies_true, not_true_eq_false, not_false_eq_true, ne_eq, eq_self, true_or, or_true, or_false, false_or, and_self, Int.reduceNeg, Int.reduceLE, Int.reduceLT, Int.reduceEq, Int.reduceAdd, Int.reduceSub, Int.reduceMul, Int.reduceNe, Nat.reduceAdd, Nat.reduceSub, Nat.reduceLeDiff, Nat.reduceLT, Nat.reduceEqDiff, Int.reduceToNat, Int.reduceNatCast, Int.reduceTDiv, Int.reduceTMod, false_implies, false_and, and_false, reduceIte, ite_true, ite_false, st_ne (show (41 : Nat) ≠ 62 by decide), g36, g35, wS, wb]
      refine ih (b + 1) (st_ + T) T j _ W2 (by omega) (by omega) (by omega) ⟨by omega, j2⟩ rT hFm hl2 eJ ?_ st_eq ?_ (fun g' v1 a c => hQ' g' v1 a c)
      · exact F2.tr fun p x u v => by rw [st_nq (by omega), st_ne (by omega)]
      · refine ⟨fun y u v => ?_, fun y u v => ?_, ?_, fun y u v => ?_, fun c u v => ?_⟩
        · rw [st_ne (by decide), st_ne (by decide)]
          by_cases e : y = 9 * b + 6
          · rw [e]; exact d2
          · exact r1 y u (by omega) e
        · rw [st_ne (by decide), st_ne (by decide), f2 60 y (by omega) (by omega), fH 60 y (by omega) (by omega) (by omega)]; exact R2 y (by omega) v
        · exact (r2.ne (by decide)).ne (by decide)
        · rw [st_ne (by decide)]
          by_cases e : y = 5
          · rw [e, st_eq, hx, t5']
          · rw [st_ni e]; exact r3 y u v e
        · obtain ⟨m1, m2, m3⟩ := r4 c u (by omega)
          exact ⟨by rw [st_ne (by decide), st_ne (by decide)]; exact m1, m2, fun i' u w => by rw [st_ne (by decide), st_ne (by decide)]; exact m3 i' u w⟩
    simp only [vI_i, vJ_l, isI_i, isR_r, isR_c, aN_s, isA_s, okS_0, okS_s, isL_i, isL_l, isL_r, szV_i, szV_l, szV_r, szS_n, szS_c, pops_0, pops_s, icm_eq, icm_ne, icm_lt, icm_ge, icm_gt, icm_le, aG_s, oG_s, u_nil, v_aload0, u_astore0, u_astorec0, v_iload0, u_istore0, v_lload0, u_lstore0, v_aload1, u_astore1, u_astorec1, v_iload1, u_istore1, v_lload1, u_lstore1, v_aload2, u_astore2, u_astorec2, v_iload2, u_istore2, v_lload2, u_lstore2, v_aload3, u_astore3, u_astorec3, v_iload3, u_istore3, v_lload3, u_lstore3, v_aload, u_astore, v_iload, u_istore, v_lload, u_lstore, u_iconst, u_bipush, u_sipush, u_ldc, u_ldcs, u_ldc2, v_iinc, u_iadd, u_isub, u_imul, u_iand, u_idiv, u_irem, u_ineg, u_ladd, u_lmul, u_ldiv, u_lrem, u_lcmp, u_i2l, u_l2i, u_dup, u_dup2, u_pop, u_if, u_icmp, u_goto, u_switch, u_getf0, u_getf2, u_getf1, u_putf0, u_putf2, u_putf1, u_getst, v_iald, u_ialdc, v_iast, u_alen, u_newa, u_new, u_virt, u_spec, u_stat, w_iret, w_zret, u_lret, u_aret, u_vret, cV_s, cS_s, wc_v, wc_i, wc_s, vc_copy, uc_copyc, uc_min, uc_max, uc_abs, uc_char, uc_obj, gl_0, gl_s, sl_0, sl_s, wA, wR, wK, ceW_1, ceN_2, ceN_3, ceN_4, ceN_5, ceN_6, ceN_7, ceN_8, c_t, bu, QW_w, true_and, and_true, Bool.not_false, Option.toList_some, Option.toList_none, List.cons_append, List.nil_append, List.singleton_append, Int.cast_ofNat_Int, Int.natCast_zero, Int.natCast_one, true_implies, implies_true, not_true_eq_false, not_false_eq_true, ne_eq, eq_self, true_or, or_true, or_false, false_or, and_self, Int.reduceNeg, Int.reduceLE, Int.reduceLT, Int.reduceEq, Int.reduceAdd, Int.reduceSub, Int.reduceMul, Int.reduceNe, Nat.reduceAdd, Nat.reduceSub, Nat.reduceLeDiff, Nat.reduceLT, Nat.reduceEqDiff, Int.reduceToNat, Int.reduceNatCast, Int.reduceTDiv, Int.reduceTMod, false_implies, false_and, and_false, reduceIte, ite_true, ite_false, g36, g5]
    refine ⟨fun z => ?_, fun z => ?_⟩
    · have wd : wr (T - be) = T - be := wr_of (by omega) (by omega)
      refine T_b ok_X9_lays_234 ?_
      simp only [vI_i, vJ_l, isI_i, isR_r, isR_c, aN_s, isA_s, okS_0, okS_s, isL_i, isL_l, isL_r, szV_i, szV_l, szV_r, szS_n, szS_c, pops_0, pops_s, icm_eq, icm_ne, icm_lt, icm_ge, icm_gt, icm_le, aG_s, oG_s, u_nil, v_aload0, u_astore0, u_astorec0, v_iload0, u_istore0, v_lload0, u_lstore0, v_aload1, u_astore1, u_astorec1, v_iload1, u_istore1, v_lload1, u_lstore1, v_aload2, u_astore2, u_astorec2, v_iload2, u_istore2, v_lload2, u_lstore2, v_aload3, u_astore3, u_astorec3, v_iload3, u_istore3, v_lload3, u_lstore3, v_aload, u_astore, v_iload, u_istore, v_lload, u_lstore, u_iconst, u_bipush, u_sipush, u_ldc, u_ldcs, u_ldc2, v_iinc, u_iadd, u_isub, u_imul, u_iand, u_idiv, u_irem, u_ineg, u_ladd, u_lmul, u_ldiv, u_lrem, u_lcmp, u_i2l, u_l2i, u_dup, u_dup2, u_pop, u_if, u_icmp, u_goto, u_switch, u_getf0, u_getf2, u_getf1, u_putf0, u_putf2, u_putf1, u_getst, v_iald, u_ialdc, v_iast, u_alen, u_newa, u_new, u_virt, u_spec, u_stat, w_iret, w_zret, u_lret, u_aret, u_vret, cV_s, cS_s, wc_v, wc_i, wc_s, vc_copy, uc_copyc, uc_min, uc_max, uc_abs, uc_char, uc_obj, gl_0, gl_s, sl_0, sl_s, wA, wR, wK, ceW_1, ceN_2, ceN_3, ceN_4, ceN_5, ceN_6, ceN_7, ceN_8, c_t, bu, QW_w, true_and, and_true, Bool.not_false, Option.toList_some, Option.toList_none, List.cons_append, List.nil_append, List.singleton_append, Int.cast_ofNat_Int, Int.natCast_zero, Int.natCast_one, true_implies, implies_true, not_true_eq_false, not_false_eq_true, ne_eq, eq_self, true_or, or_true, or_false, false_or, and_self, Int.reduceNeg, Int.reduceLE, Int.reduceLT, Int.reduceEq, Int.reduceAdd, Int.reduceSub, Int.reduceMul, Int.reduceNe, Nat.reduceAdd, Nat.reduceSub, Nat.reduceLeDiff, Nat.reduceLT, Nat.reduceEqDiff, Int.reduceToNat, Int.reduceNatCast, Int.reduceTDiv, Int.reduceTMod, false_implies, false_and, and_false, reduceIte, ite_true, ite_false, g36, wd]
      exact t240 _ (by rw [if_neg (by omega)])
    · have wd : wr (be - T) = be - T := wr_of (by omega) (by omega)
      rw [wd]
      exact t240 _ (by rw [if_pos (by omega)])
end MDLAYS
