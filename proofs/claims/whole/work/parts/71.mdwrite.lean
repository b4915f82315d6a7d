/-! THE REFERENCE WRITES: signs, leaves -/
section MDWRITE
variable {G : Gx} {d : Nat} {g : Nat → Int → Int} {Q : Qx} {q : Qe} {W : Wr}
def AgX (g : Nat → Int → Int) (p : Nat) (f : Int → Int) (hi ex : Int) : Prop := ∀ x : Int, 0 ≤ x → x < hi → x ≠ ex → g p x = f x
theorem AgX.up {p : Nat} {f : Int → Int} {hi ex i v v' : Int} (h : AgX g p f hi ex) (hv : v = v') : AgX (st g p i v) p (upI f i v') hi ex := fun x a b c => by
  by_cases e : x = i
  · rw [e, st_eq, upI_eq, hv]
  · rw [st_ni e, upI_ne e]; exact h x a b c
theorem AgX.ne {p p' : Nat} {f : Int → Int} {hi ex i v : Int} (h : AgX g p f hi ex) (hp : p ≠ p') : AgX (st g p' i v) p f hi ex := fun x a b c => by
  rw [st_ne hp]; exact h x a b c
theorem AgX.skip {p : Nat} {f : Int → Int} {hi ex v : Int} (h : AgX g p f hi ex) : AgX g p (upI f ex v) hi ex := fun x a b c => by
  rw [upI_ne c]; exact h x a b c
theorem AgX.skip2 {p : Nat} {f : Int → Int} {hi ex i v : Int} (h : AgX g p f hi ex) (hi' : i = ex) : AgX (st g p i v) p f hi ex := fun x a b c => by
  rw [st_ni (by omega)]; exact h x a b c
theorem AgX.cg {p : Nat} {f : Int → Int} {hi ex : Int} {h : Nat → Int → Int} (a : AgX g p f hi ex) (e : ∀ x, h p x = g p x) : AgX h p f hi ex := fun x u v w => (e x).trans (a x u v w)
/-- the reference's cells, a bar under way: the deepest level and the changes stand apart -/
def RelR (g : Nat → Int → Int) (W : Wr) (b k : Int) : Prop := AgX g 60 W.1 (9 * b + 9) (9 * b + 6) ∧ AgR g 61 W.2.1 (6 * k) ∧ AgX g 62 W.2.2.1 7 5 ∧ (∀ c : Int, 0 ≤ c → c ≤ b → g 59 c = W.2.2.2.2 c ∧ (0 ≤ W.2.2.2.2 c ∧ W.2.2.2.2 c ≤ 60) ∧ ∀ i : Int, 0 ≤ i → i < W.2.2.2.2 c → g 58 (120 * c + i) = W.2.2.2.1 (200 * c + i)) ∧ (0 ≤ b ∧ b ≤ 2)
def FrWr (b : Int) (g h : Nat → Int → Int) : Prop := ∀ (p : Nat) (x : Int), (p < 58 ∨ 62 < p ∨ (p = 60 ∧ (x = 9 * b + 6 ∨ 9 * b + 9 ≤ x)) ∨ (p = 62 ∧ x = 5)) → h p x = g p x
theorem FrWr.rf {b : Int} : FrWr b g g := fun _ _ _ => rfl
theorem FrWr.tr {b : Int} {g1 g2 g3 : Nat → Int → Int} (a : FrWr b g1 g2) (c : FrWr b g2 g3) : FrWr b g1 g3 := fun p x h => (c p x h).trans (a p x h)
theorem m_shows {b k c : Int} (hR : RelR g W b k) (hl : W.2.2.2.2 b < 60) (hQ : ∀ g' : Nat → Int → Int, RelR g' (putW W b c) b k → FrWr b g g' → Q none (Mw g')) : Cg G d 72 [vr 41, vi b, vi c] (Mw g) Q := by
  obtain ⟨r1, r2, r3, r4, r6⟩ := hR
  obtain ⟨l1, l2, l3⟩ := r4 b r6.1 (Int.le_refl _)
  have w1 : wr (120 * b) = 120 * b := wr_of (by omega) (by omega)
  have w2 : wr (120 * b + W.2.2.2.2 b) = 120 * b + W.2.2.2.2 b := wr_of (by omega) (by omega)
  have w3 : wr (W.2.2.2.2 b + 1) = W.2.2.2.2 b + 1 := wr_of (by omega) (by omega)
  refine C_t (a := [vr 41, vi b, vi c]) mo_72 rfl rfl (Nat.le_of_ble_eq_true rfl) ?_
  change Tg G _ (73, 42835) 72 0 [vr 41, vi b, vi c] [] (Mw _) _
  refine T_b ok_X9_shows_0 ?_
  simp only [vI_i, vJ_l, isI_i, isR_r, isR_c, aN_s, isA_s, okS_0, okS_s, isL_i, isL_l, isL_r, szV_i, szV_l, szV_r, szS_n, szS_c, pops_0, pops_s, icm_eq, icm_ne, icm_lt, icm_ge, icm_gt, icm_le, aG_s, oG_s, u_nil, v_aload0, u_astore0, u_astorec0, v_iload0, u_istore0, v_lload0, u_lstore0, v_aload1, u_astore1, u_astorec1, v_iload1, u_istore1, v_lload1, u_lstore1, v_aload2, u_astore2, u_astorec2, v_iload2, u_istore2, v_lload2, u_lstore2, v_aload3, u_astore3, u_astorec3, v_iload3, u_istore3, v_lload3, u_lstore3, v_aload, u_astore, v_iload, u_istore, v_lload, u_lstore, u_iconst, u_bipush, u_sipush, u_ldc, u_ldcs, u_ldc2, v_iinc, u_iadd, u_isub, u_imul, u_iand, u_idiv, u_irem, u_ineg, u_ladd, u_lmul, u_ldiv, u_lrem, u_lcmp, u_i2l, u_l2i, u_dup, u_dup2, u_pop, u_if, u_icmp, u_goto, u_switch, u_getf0, u_getf2, u_getf1, u_putf0, u_putf2, u_putf1, u_getst, v_iald, u_ialdc, v_iast, u_alen, u_newa, u_new, u_virt, u_spec, u_stat, w_iret, w_zret, u_lret, u_aret, u_vret, cV_s, cS_s, wc_v, wc_i, wc_s, vc_copy, uc_copyc, uc_min, uc_max, uc_abs, uc_char, uc_obj, gl_0, gl_s, sl_0, sl_s, wA, wR, wK, ceW_1, ceN_2, ceN_3, ceN_4, ceN_5, ceN_6, ceN_7, ceN_8, c_t, bu, QW_w, true_and, and_true, Bool.not_false, Option.toList_some, Option.toList_none, List.cons_append, List.nil_append, List.singleton_append, Int.cast_ofNat_Int, Int.natCast_zero, Int.natCast_one, true_implies, implies_true, not_true_eq_false, not_false_eq_true, ne_eq, eq_self, true_or, or_true, or_false, false_or, and_self, Int.reduceNeg, Int.reduceLE, Int.reduceLT, Int.reduceEq, Int.reduceAdd, Int.reduceSub, Int.reduceMul, Int.reduceNe, Nat.reduceAdd, Nat.reduceSub, Nat.reduceLeDiff, Nat.reduceLT, Nat.reduceEqDiff, Int.reduceToNat, Int.reduceNatCast, Int.reduceTDiv, Int.reduceTMod, false_implies, false_and, and_false, reduceIte, ite_true, ite_false, l1, w1, w2, w3, st_ne (show (59 : Nat) ≠ 58 by decide)]
  refine ⟨by omega, by omega, by omega, by omega, ?_⟩
  refine hQ _ ⟨(r1.ne (by decide)).ne (by decide), (r2.ne (by decide)).ne (by decide), (r3.ne (by decide)).ne (by decide), fun e x y => ?_, r6⟩ (fun p x y => by rw [st_ne (by omega), st_ne (by omega)])
  obtain ⟨m1, m2, m3⟩ := r4 e x y
  show st _ 59 b _ 59 e = upI W.2.2.2.2 b _ e ∧ (0 ≤ upI W.2.2.2.2 b _ e ∧ upI W.2.2.2.2 b _ e ≤ 60) ∧ ∀ i : Int, 0 ≤ i → i < upI W.2.2.2.2 b _ e → st _ 59 b _ 58 (120 * e + i) = upI W.2.2.2.1 _ c (200 * e + i)
  by_cases ee : e = b
  · subst ee
    rw [st_eq, upI_eq]
    refine ⟨rfl, by omega, fun i u v => ?_⟩
    rw [st_ne (by decide)]
    by_cases ei : i = W.2.2.2.2 e
    · rw [ei, st_eq, upI_eq]
    · rw [st_ni (by omega), upI_ne (by omega)]
      exact l3 i u (by omega)
  · rw [st_ni ee, upI_ne ee, st_ne (by decide)]
    refine ⟨m1, m2, fun i u v => ?_⟩
    rw [st_ne (by decide), st_ni (by omega), upI_ne (by omega)]
    exact m3 i u v
theorem MQe.fw {b : Int} {h : Nat → Int → Int} (hM : MQe g q) (f : FrWr b g h) : MQe h q := hM.fr (fun x _ _ => f 41 x (by omega)) (fun x => f 48 x (by omega)) (fun x => f 42 x (by omega))
theorem upI_cm {f : Int → Int} {i j v w : Int} (h : i ≠ j) : upI (upI f i v) j w = upI (upI f j w) i v := by
  funext x
  by_cases e1 : x = j
  · rw [e1, upI_eq, upI_ne (fun z => h z.symm), upI_eq]
  · rw [upI_ne e1]
    by_cases e2 : x = i
    · rw [e2, upI_eq, upI_eq]
    · rw [upI_ne e2, upI_ne e2, upI_ne e1]
theorem mleaf_loop {b bg T o a v i j : Int} (hq : QeOK q) (hM : MQe g q) (hij : i ≤ j ∧ 0 ≤ i ∧ j ≤ q.1) (hb : BtOK bg T) (h35 : g 41 35 = bg) (h36 : g 41 36 = T) (h46 : g 46 o = a) (ho : 0 ≤ o ∧ o < 400) (ha : 0 ≤ a ∧ a ≤ 216)
    (hQ : ∀ g' : Nat → Int → Int, RelR g' (notesW q bg T b a v (j - i) i W (j - i).toNat) b j → FrWr b g g' → Q none (Mw g')) :
    ∀ (m k : Nat) (h : Nat → Int → Int) (v7 v8 : Vx), i + k + m = j → RelR h (notesW q bg T b a v (j - i) i W k) b (i + k) → FrWr b g h → Tg G (d + 1) (73, 42835) 74 66 [vr 41, vi b, vi o, vi v, vi i, vi j, vi (i + k), v7, v8] [] (Mw h) (QW Q) := by
  intro m
  have hn := hq.1
  induction m with
  | zero =>
    intro k h v7 v8 hk r f
    refine T_b ok_X9_leaf_66 ?_
    simp only [vI_i, vJ_l, isI_i, isR_r, isR_c, aN_s, isA_s, okS_0, okS_s, isL_i, isL_l, isL_r, szV_i, szV_l, szV_r, szS_n, szS_c, pops_0, pops_s, icm_eq, icm_ne, icm_lt, icm_ge, icm_gt, icm_le, aG_s, oG_s, u_nil, v_aload0, u_astore0, u_astorec0, v_iload0, u_istore0, v_lload0, u_lstore0, v_aload1, u_astore1, u_astorec1, v_iload1, u_istore1, v_lload1, u_lstore1, v_aload2, u_astore2, u_astorec2, v_iload2, u_istore2, v_lload2, u_lstore2, v_aload3, u_astore3, u_astorec3, v_iload3, u_istore3, v_lload3, u_lstore3, v_aload, u_astore, v_iload, u_istore, v_lload, u_lstore, u_iconst, u_bipush, u_sipush, u_ldc, u_ldcs, u_ldc2, v_iinc, u_iadd, u_isub, u_imul, u_iand, u_idiv, u_irem, u_ineg, u_ladd, u_lmul, u_ldiv, u_lrem, u_lcmp, u_i2l, u_l2i, u_dup, u_dup2, u_pop, u_if, u_icmp, u_goto, u_switch, u_getf0, u_getf2, u_getf1, u_putf0, u_putf2, u_putf1, u_getst, v_iald, u_ialdc, v_iast, u_alen, u_newa, u_new, u_virt, u_spec, u_stat, w_iret, w_zret, u_lret, u_aret, u_vret, cV_s, cS_s, wc_v, wc_i, wc_s, vc_copy, uc_copyc, uc_min, uc_max, uc_abs, uc_char, uc_obj, gl_0, gl_s, sl_0, sl_s, wA, wR, wK, ceW_1, ceN_2, ceN_3, ceN_4, ceN_5, ceN_6, ceN_7, ceN_8, c_t, bu, QW_w, true_and, and_true, Bool.not_false, Option.toList_some, Option.toList_none, List.cons_append, List.nil_append, List.singleton_append, Int.cast_ofNat_Int, Int.natCast_zero, Int.natCast_one, true_implies, implies_true, not_true_eq_false, not_false_eq_true, ne_eq, eq_self, true_or, or_true, or_false, false_or, and_self, Int.reduceNeg, Int.reduceLE, Int.reduceLT, Int.reduceEq, Int.reduceAdd, Int.reduceSub, Int.reduceMul, Int.reduceNe, Nat.reduceAdd, Nat.reduceSub, Nat.reduceLeDiff, Nat.reduceLT, Nat.reduceEqDiff, Int.reduceToNat, Int.reduceNatCast, Int.reduceTDiv, Int.reduceTMod, false_implies, false_and, and_false, reduceIte, ite_true, ite_false]
    refine ⟨fun _ => ?_, fun z => absurd z (by omega)⟩
    refine T_b ok_X9_leaf_275 ?_
    simp only [vI_i, vJ_l, isI_i, isR_r, isR_c, aN_s, isA_s, okS_0, okS_s, isL_i, isL_l, isL_r, szV_i, szV_l, szV_r, szS_n, szS_c, pops_0, pops_s, icm_eq, icm_ne, icm_lt, icm_ge, icm_gt, icm_le, aG_s, oG_s, u_nil, v_aload0, u_astore0, u_astorec0, v_iload0, u_istore0, v_lload0, u_lstore0, v_aload1, u_astore1, u_astorec1, v_iload1, u_istore1, v_lload1, u_lstore1, v_aload2, u_astore2, u_astorec2, v_iload2, u_istore2, v_lload2, u_lstore2, v_aload3, u_astore3, u_astorec3, v_iload3, u_istore3, v_lload3, u_lstore3, v_aload, u_astore, v_iload, u_istore, v_lload, u_lstore, u_iconst, u_bipush, u_sipush, u_ldc, u_ldcs, u_ldc2, v_iinc, u_iadd, u_isub, u_imul, u_iand, u_idiv, u_irem, u_ineg, u_ladd, u_lmul, u_ldiv, u_lrem, u_lcmp, u_i2l, u_l2i, u_dup, u_dup2, u_pop, u_if, u_icmp, u_goto, u_switch, u_getf0, u_getf2, u_getf1, u_putf0, u_putf2, u_putf1, u_getst, v_iald, u_ialdc, v_iast, u_alen, u_newa, u_new, u_virt, u_spec, u_stat, w_iret, w_zret, u_lret, u_aret, u_vret, cV_s, cS_s, wc_v, wc_i, wc_s, vc_copy, uc_copyc, uc_min, uc_max, uc_abs, uc_char, uc_obj, gl_0, gl_s, sl_0, sl_s, wA, wR, wK, ceW_1, ceN_2, ceN_3, ceN_4, ceN_5, ceN_6, ceN_7, ceN_8, c_t, bu, QW_w, true_and, and_true, Bool.not_false, Option.toList_some, Option.toList_none, List.cons_append, List.nil_append, List.singleton_append, Int.cast_ofNat_Int, Int.natCast_zero, Int.natCast_one, true_implies, implies_true, not_true_eq_false, not_false_eq_true, ne_eq, eq_self, true_or, or_true, or_false, false_or, and_self, Int.reduceNeg, Int.reduceLE, Int.reduceLT, Int.reduceEq, Int.reduceAdd, Int.reduceSub, Int.reduceMul, Int.reduceNe, Nat.reduceAdd, Nat.reduceSub, Nat.reduceLeDiff, Nat.reduceLT, Nat.reduceEqDiff, Int.reduceToNat, Int.reduceNatCast, Int.reduceTDiv, Int.reduceTMod, false_implies, false_and, and_false, reduceIte, ite_true, ite_false]
    rw [show i + (k : Int) = j by omega, show k = (j - i).toNat by omega] at r
    exact hQ h r f
  | succ m ih =>
    intro k h v7 v8 hk r f
    have hM' := hM.fw f
    have e35 : h 41 35 = bg := (f 41 35 (by omega)).trans h35
    have e36 : h 41 36 = T := (f 41 36 (by omega)).trans h36
    have e46 : h 46 o = a := (f 46 o (by omega)).trans h46
    obtain ⟨r1, r2, r3, r4, r6⟩ := id r
    have hgr : grO q i (i + k) = 0 ∨ grO q i (i + k) = 1 := by unfold grO; split <;> omega
    generalize hW : notesW q bg T b a v (j - i) i W k = W1 at *
    have hW1 : notesW q bg T b a v (j - i) i W (k + 1) = noteW q bg T b a v (j - i) i W1 (i + k) := by rw [← hW]; rfl
    generalize hkk : i + (k : Int) = kk at *
    have w0 : wr (6 * kk) = 6 * kk := wr_of (by omega) (by omega)
    have w41 : wr (6 * kk + 1) = 6 * kk + 1 := wr_of (by omega) (by omega)
    have w42 : wr (6 * kk + 2) = 6 * kk + 2 := wr_of (by omega) (by omega)
    have w43 : wr (6 * kk + 3) = 6 * kk + 3 := wr_of (by omega) (by omega)
    have w44 : wr (6 * kk + 4) = 6 * kk + 4 := wr_of (by omega) (by omega)
    have w45 : wr (6 * kk + 5) = 6 * kk + 5 := wr_of (by omega) (by omega)
    have wj : wr (j - i) = j - i := wr_of (by omega) (by omega)
    have wb : wr (9 * b) = 9 * b := wr_of (by omega) (by omega)
    have wb7 : wr (9 * b + 7) = 9 * b + 7 := wr_of (by omega) (by omega)
    have wb8 : wr (9 * b + 8) = 9 * b + 8 := wr_of (by omega) (by omega)
    have wk : wr (kk + 1) = i + ((k + 1 : Nat) : Int) := by rw [wr_of (by omega) (by omega)]; omega
    generalize hE : er0 (q.2.1 kk) bg T a = E
    generalize hG : st (st (st (st (st (st h 61 (6 * kk) b) 61 (6 * kk + 1) a) 61 (6 * kk + 2) E) 61 (6 * kk + 3) (j - i)) 61 (6 * kk + 4) (grO q i kk)) 61 (6 * kk + 5) v = G6
    have ge' : ∀ p x, p ≠ 61 → G6 p x = h p x := fun p x hp => by rw [← hG, st_ne hp, st_ne hp, st_ne hp, st_ne hp, st_ne hp, st_ne hp]
    have a61 : AgR G6 61 (upI (upI (upI (upI (upI (upI W1.2.1 (6 * kk) b) (6 * kk + 1) a) (6 * kk + 2) E) (6 * kk + 3) (j - i)) (6 * kk + 4) (grO q i kk)) (6 * kk + 5) v) (6 * (kk + 1)) := by
      intro x u w
      rw [← hG]
      by_cases ex : x < 6 * kk
      · have := (((((r2.up (i := 6 * kk) (v := b) rfl).up (i := 6 * kk + 1) (v := a) rfl).up (i := 6 * kk + 2) (v := E) rfl).up (i := 6 * kk + 3) (v := j - i) rfl).up (i := 6 * kk + 4) (v := grO q i kk) rfl).up (i := 6 * kk + 5) (v := v) rfl
        exact this x u ex
      · have hx : x = 6 * kk ∨ x = 6 * kk + 1 ∨ x = 6 * kk + 2 ∨ x = 6 * kk + 3 ∨ x = 6 * kk + 4 ∨ x = 6 * kk + 5 := by omega
        rcases hx with e | e | e | e | e | e <;> simp [st, upI, e]
        all_goals (repeat rw [if_neg (by omega)])
    have z7 : G6 60 (9 * b + 7) = W1.1 (9 * b + 7) := (ge' 60 _ (by decide)).trans (r1 _ (by omega) (by omega) (by omega))
    have z8 : ∀ vv : Int, st G6 60 (9 * b + 7) vv 60 (9 * b + 8) = W1.1 (9 * b + 8) := fun vv => by rw [st_ni (by omega), ge' 60 _ (by decide)]; exact r1 _ (by omega) (by omega) (by omega)
    have z3 : ∀ v1 v2 : Int, st (st G6 60 (9 * b + 7) v1) 60 (9 * b + 8) v2 62 3 = W1.2.2.1 3 := fun v1 v2 => by rw [st_ne (by decide), st_ne (by decide), ge' 62 _ (by decide)]; exact r3 _ (by omega) (by omega) (by omega)
    have z4 : ∀ v1 v2 v3 : Int, st (st (st G6 60 (9 * b + 7) v1) 60 (9 * b + 8) v2) 62 3 v3 62 4 = W1.2.2.1 4 := fun v1 v2 v3 => by rw [st_ni (by decide), st_ne (by decide), st_ne (by decide), ge' 62 _ (by decide)]; exact r3 _ (by omega) (by omega) (by omega)
    have t267 : ∀ (z : Int) (v6' : Vx), z = (if E = 0 then 1 else 0) → Tg G (d + 1) (73, 42835) 74 267 [vr 41, vi b, vi o, vi v, vi i, vi j, vi kk, vi E, vi (grO q i kk)] [vi z, vi (W1.2.2.1 4), vi 4, vr 62] (Mw (st (st (st G6 60 (9 * b + 7) (wr (W1.1 (9 * b + 7) + E))) 60 (9 * b + 8) (wr (W1.1 (9 * b + 8) + grO q i kk))) 62 3 (wr (W1.2.2.1 3 + grO q i kk)))) (QW Q) := by
      intro z _ hz
      refine T_b ok_X9_leaf_267 ?_
      simp only [vI_i, vJ_l, isI_i, isR_r, isR_c, aN_s, isA_s, okS_0, okS_s, isL_i, isL_l, isL_r, szV_i, szV_l, szV_r, szS_n, szS_c, pops_0, pops_s, icm_eq, icm_ne, icm_lt, icm_ge, icm_gt, icm_le, aG_s, oG_s, u_nil, v_aload0, u_astore0, u_astorec0, v_iload0, u_istore0, v_lload0, u_lstore0, v_aload1, u_astore1, u_astorec1, v_iload1, u_istore1, v_lload1, u_lstore1, v_aload2, u_astore2, u_astorec2, v_iload2, u_istore2, v_lload2, u_lstore2, v_aload3, u_astore3, u_astorec3, v_iload3, u_istore3, v_lload3, u_lstore3, v_aload, u_astore, v_iload, u_istore, v_lload, u_lstore, u_iconst, u_bipush, u_sipush, u_ldc, u_ldcs, u_ldc2, v_iinc, u_iadd, u_isub, u_imul, u_iand, u_idiv, u_irem, u_ineg, u_ladd, u_lmul, u_ldiv, u_lrem, u_lcmp, u_i2l, u_l2i, u_dup, u_dup2, u_pop, u_if, u_icmp, u_goto, u_switch, u_getf0, u_getf2, u_getf1, u_putf0, u_putf2, u_putf1, u_getst, v_iald, u_ialdc, v_iast, u_alen, u_newa, u_new, u_virt, u_spec, u_stat, w_iret, w_zret, u_lret, u_aret, u_vret, cV_s, cS_s, wc_v, wc_i, wc_s, vc_copy, uc_copyc, uc_min, uc_max, uc_abs, uc_char, uc_obj, gl_0, gl_s, sl_0, sl_s, wA, wR, wK, ceW_1, ceN_2, ceN_3, ceN_4, ceN_5, ceN_6, ceN_7, ceN_8, c_t, bu, QW_w, true_and, and_true, Bool.not_false, Option.toList_some, Option.toList_none, List.cons_append, List.nil_append, List.singleton_append, Int.cast_ofNat_Int, Int.natCast_zero, Int.natCast_one, true_implies, implies_true, not_true_eq_false, not_false_eq_true, ne_eq, eq_self, true_or, or_true, or_false, false_or, and_self, Int.reduceNeg, Int.reduceLE, Int.reduceLT, Int.reduceEq, Int.reduceAdd, Int.reduceSub, Int.reduceMul, Int.reduceNe, Nat.reduceAdd, Nat.reduceSub, Nat.reduceLeDiff, Nat.reduceLT, Nat.reduceEqDiff, Int.reduceToNat, Int.reduceNatCast, Int.reduceTDiv, Int.reduceTMod, false_implies, false_and, and_false, reduceIte, ite_true, ite_false, wk]
      refine ih (k + 1) _ _ _ (by omega) ?_ (f.tr fun p x y => ?_)
      · rw [hW1, show i + ((k + 1 : Nat) : Int) = kk + 1 by omega]
        refine ⟨?_, ?_, ?_, fun c x y => ?_, r6⟩
        · refine AgX.ne (AgX.ne ?_ (by decide)) (by decide)
          show AgX _ 60 (upI (upI W1.1 _ _) _ _) _ _
          rw [hE]
          exact ((r1.cg fun x => ge' 60 x (by decide)).up rfl).up rfl
        · show AgR _ 61 (upI (upI (upI (upI (upI (upI W1.2.1 _ _) _ _) _ _) _ _) _ _) _ _) _
          rw [hE]
          exact (((a61.ne (by decide)).ne (by decide)).ne (by decide)).ne (by decide)
        · show AgX _ 62 (upI (upI W1.2.2.1 4 _) 3 _) _ _
          rw [upI_cm (by decide), hE]
          exact (((((r3.cg fun x => ge' 62 x (by decide)).ne (by decide)).ne (by decide)).up rfl)).up (by rw [hz])
        · obtain ⟨m1, m2, m3⟩ := r4 c x y
          have ff : ∀ (p : Nat) (x' v1 v2 v3 v4 : Int), p ≠ 60 → p ≠ 61 → p ≠ 62 → st (st (st (st G6 60 (9 * b + 7) v1) 60 (9 * b + 8) v2) 62 3 v3) 62 4 v4 p x' = h p x' := fun p x' v1 v2 v3 v4 n0 n1 n2 => by rw [st_ne n2, st_ne n2, st_ne n0, st_ne n0]; exact ge' p x' n1
          rw [ff 59 c _ _ _ _ (by decide) (by decide) (by decide)]
          refine ⟨m1, m2, fun i' u w => ?_⟩
          rw [ff 58 _ _ _ _ _ (by decide) (by decide) (by decide)]
          exact m3 i' u w
      · by_cases e60 : p = 60
        · subst e60
          rw [st_ne (by decide), st_ne (by decide), st_ni (by omega), st_ni (by omega)]; exact ge' 60 x (by decide)
        · by_cases e62 : p = 62
          · subst e62
            rw [st_ni (by omega), st_ni (by omega), st_ne (by decide), st_ne (by decide)]; exact ge' 62 x (by decide)
          · rw [st_ne e62, st_ne e62, st_ne e60, st_ne e60]; exact ge' p x (by omega)
    have t116 : ∀ v8 : Vx, Tg G (d + 1) (73, 42835) 74 116 [vr 41, vi b, vi o, vi v, vi i, vi j, vi kk, vi E, v8] [vi (grO q i kk)] (Mw h) (QW Q) := by
      intro v8
      refine T_b ok_X9_leaf_116 ?_
      simp only [vI_i, vJ_l, isI_i, isR_r, isR_c, aN_s, isA_s, okS_0, okS_s, isL_i, isL_l, isL_r, szV_i, szV_l, szV_r, szS_n, szS_c, pops_0, pops_s, icm_eq, icm_ne, icm_lt, icm_ge, icm_gt, icm_le, aG_s, oG_s, u_nil, v_aload0, u_astore0, u_astorec0, v_iload0, u_istore0, v_lload0, u_lstore0, v_aload1, u_astore1, u_astorec1, v_iload1, u_istore1, v_lload1, u_lstore1, v_aload2, u_astore2, u_astorec2, v_iload2, u_istore2, v_lload2, u_lstore2, v_aload3, u_astore3, u_astorec3, v_iload3, u_istore3, v_lload3, u_lstore3, v_aload, u_astore, v_iload, u_istore, v_lload, u_lstore, u_iconst, u_bipush, u_sipush, u_ldc, u_ldcs, u_ldc2, v_iinc, u_iadd, u_isub, u_imul, u_iand, u_idiv, u_irem, u_ineg, u_ladd, u_lmul, u_ldiv, u_lrem, u_lcmp, u_i2l, u_l2i, u_dup, u_dup2, u_pop, u_if, u_icmp, u_goto, u_switch, u_getf0, u_getf2, u_getf1, u_putf0, u_putf2, u_putf1, u_getst, v_iald, u_ialdc, v_iast, u_alen, u_newa, u_new, u_virt, u_spec, u_stat, w_iret, w_zret, u_lret, u_aret, u_vret, cV_s, cS_s, wc_v, wc_i, wc_s, vc_copy, uc_copyc, uc_min, uc_max, uc_abs, uc_char, uc_obj, gl_0, gl_s, sl_0, sl_s, wA, wR, wK, ceW_1, ceN_2, ceN_3, ceN_4, ceN_5, ceN_6, ceN_7, ceN_8, c_t, bu, QW_w, true_and, and_true, Bool.not_false, Option.toList_some, Option.toList_none, List.cons_append, List.nil_append, List.singleton_append, Int.cast_ofNat_Int, Int.natCast_zero, Int.natCast_one, true_implies, implies_true, not_true_eq_false, not_false_eq_true, ne_eq, eq_self, true_or, or_true, or_false, false_or, and_self, Int.reduceNeg, Int.reduceLE, Int.reduceLT, Int.reduceEq, Int.reduceAdd, Int.reduceSub, Int.reduceMul, Int.reduceNe, Nat.reduceAdd, Nat.reduceSub, Nat.reduceLeDiff, Nat.reduceLT, Nat.reduceEqDiff, Int.reduceToNat, Int.reduceNatCast, Int.reduceTDiv, Int.reduceTMod, false_implies, false_and, and_false, reduceIte, ite_true, ite_false, w0, w41, w42, w43, w44, w45, wj, wb, wb7, wb8, st_ne (show (46 : Nat) ≠ 61 by decide), e46, hG, z7, z8, z3, z4]
      refine ⟨by omega, by omega, by omega, by omega, by omega, by omega, by omega, by omega, by omega, by omega, by omega, fun z => ?_, fun z => t267 1 (vc 0) (by rw [if_pos (by omega)])⟩
      refine T_b ok_X9_leaf_266 ?_
      simp only [vI_i, vJ_l, isI_i, isR_r, isR_c, aN_s, isA_s, okS_0, okS_s, isL_i, isL_l, isL_r, szV_i, szV_l, szV_r, szS_n, szS_c, pops_0, pops_s, icm_eq, icm_ne, icm_lt, icm_ge, icm_gt, icm_le, aG_s, oG_s, u_nil, v_aload0, u_astore0, u_astorec0, v_iload0, u_istore0, v_lload0, u_lstore0, v_aload1, u_astore1, u_astorec1, v_iload1, u_istore1, v_lload1, u_lstore1, v_aload2, u_astore2, u_astorec2, v_iload2, u_istore2, v_lload2, u_lstore2, v_aload3, u_astore3, u_astorec3, v_iload3, u_istore3, v_lload3, u_lstore3, v_aload, u_astore, v_iload, u_istore, v_lload, u_lstore, u_iconst, u_bipush, u_sipush, u_ldc, u_ldcs, u_ldc2, v_iinc, u_iadd, u_isub, u_imul, u_iand, u_idiv, u_irem, u_ineg, u_ladd, u_lmul, u_ldiv, u_lrem, u_lcmp, u_i2l, u_l2i, u_dup, u_dup2, u_pop, u_if, u_icmp, u_goto, u_switch, u_getf0, u_getf2, u_getf1, u_putf0, u_putf2, u_putf1, u_getst, v_iald, u_ialdc, v_iast, u_alen, u_newa, u_new, u_virt, u_spec, u_stat, w_iret, w_zret, u_lret, u_aret, u_vret, cV_s, cS_s, wc_v, wc_i, wc_s, vc_copy, uc_copyc, uc_min, uc_max, uc_abs, uc_char, uc_obj, gl_0, gl_s, sl_0, sl_s, wA, wR, wK, ceW_1, ceN_2, ceN_3, ceN_4, ceN_5, ceN_6, ceN_7, ceN_8, c_t, bu, QW_w, true_and, and_true, Bool.not_false, Option.toList_some, Option.toList_none, List.cons_append, List.nil_append, List.singleton_append, Int.cast_ofNat_Int, Int.natCast_zero, Int.natCast_one, true_implies, implies_true, not_true_eq_false, not_false_eq_true, ne_eq, eq_self, true_or, or_true, or_false, false_or, and_self, Int.reduceNeg, Int.reduceLE, Int.reduceLT, Int.reduceEq, Int.reduceAdd, Int.reduceSub, Int.reduceMul, Int.reduceNe, Nat.reduceAdd, Nat.reduceSub, Nat.reduceLeDiff, Nat.reduceLT, Nat.reduceEqDiff, Int.reduceToNat, Int.reduceNatCast, Int.reduceTDiv, Int.reduceTMod, false_implies, false_and, and_false, reduceIte, ite_true, ite_false]
      exact t267 0 (vc 0) (by rw [if_neg z])
    have t115 : ¬ (i < kk ∧ isG q kk) → ∀ v8 : Vx, Tg G (d + 1) (73, 42835) 74 115 [vr 41, vi b, vi o, vi v, vi i, vi j, vi kk, vi E, v8] [] (Mw h) (QW Q) := by
      intro z v8
      have e0 : grO q i kk = 0 := by unfold grO; rw [if_neg z]
      have t := t116 v8
      rw [e0] at t
      refine T_b ok_X9_leaf_115 ?_
      simp only [vI_i, vJ_l, isI_i, isR_r, isR_c, aN_s, isA_s, okS_0, okS_s, isL_i, isL_l, isL_r, szV_i, szV_l, szV_r, szS_n, szS_c, pops_0, pops_s, icm_eq, icm_ne, icm_lt, icm_ge, icm_gt, icm_le, aG_s, oG_s, u_nil, v_aload0, u_astore0, u_astorec0, v_iload0, u_istore0, v_lload0, u_lstore0, v_aload1, u_astore1, u_astorec1, v_iload1, u_istore1, v_lload1, u_lstore1, v_aload2, u_astore2, u_astorec2, v_iload2, u_istore2, v_lload2, u_lstore2, v_aload3, u_astore3, u_astorec3, v_iload3, u_istore3, v_lload3, u_lstore3, v_aload, u_astore, v_iload, u_istore, v_lload, u_lstore, u_iconst, u_bipush, u_sipush, u_ldc, u_ldcs, u_ldc2, v_iinc, u_iadd, u_isub, u_imul, u_iand, u_idiv, u_irem, u_ineg, u_ladd, u_lmul, u_ldiv, u_lrem, u_lcmp, u_i2l, u_l2i, u_dup, u_dup2, u_pop, u_if, u_icmp, u_goto, u_switch, u_getf0, u_getf2, u_getf1, u_putf0, u_putf2, u_putf1, u_getst, v_iald, u_ialdc, v_iast, u_alen, u_newa, u_new, u_virt, u_spec, u_stat, w_iret, w_zret, u_lret, u_aret, u_vret, cV_s, cS_s, wc_v, wc_i, wc_s, vc_copy, uc_copyc, uc_min, uc_max, uc_abs, uc_char, uc_obj, gl_0, gl_s, sl_0, sl_s, wA, wR, wK, ceW_1, ceN_2, ceN_3, ceN_4, ceN_5, ceN_6, ceN_7, ceN_8, c_t, bu, QW_w, true_and, and_true, Bool.not_false, Option.toList_some, Option.toList_none, List.cons_append, List.nil_append, List.singleton_append, Int.cast_ofNat_Int, Int.natCast_zero, Int.natCast_one, true_implies, implies_true, not_true_eq_false, not_false_eq_true, ne_eq, eq_self, true_or, or_true, or_false, false_or, and_self, Int.reduceNeg, Int.reduceLE, Int.reduceLT, Int.reduceEq, Int.reduceAdd, Int.reduceSub, Int.reduceMul, Int.reduceNe, Nat.reduceAdd, Nat.reduceSub, Nat.reduceLeDiff, Nat.reduceLT, Nat.reduceEqDiff, Int.reduceToNat, Int.reduceNatCast, Int.reduceTDiv, Int.reduceTMod, false_implies, false_and, and_false, reduceIte, ite_true, ite_false]
      exact t
    refine T_b ok_X9_leaf_66 ?_
    simp only [vI_i, vJ_l, isI_i, isR_r, isR_c, aN_s, isA_s, okS_0, okS_s, isL_i, isL_l, isL_r, szV_i, szV_l, szV_r, szS_n, szS_c, pops_0, pops_s, icm_eq, icm_ne, icm_lt, icm_ge, icm_gt, icm_le, aG_s, oG_s, u_nil, v_aload0, u_astore0, u_astorec0, v_iload0, u_istore0, v_lload0, u_lstore0, v_aload1, u_astore1, u_astorec1, v_iload1, u_istore1, v_lload1, u_lstore1, v_aload2, u_astore2, u_astorec2, v_iload2, u_istore2, v_lload2, u_lstore2, v_aload3, u_astore3, u_astorec3, v_iload3, u_istore3, v_lload3, u_lstore3, v_aload, u_astore, v_iload, u_istore, v_lload, u_lstore, u_iconst, u_bipush, u_sipush, u_ldc, u_ldcs, u_ldc2, v_iinc, u_iadd, u_isub, u_imul, u_iand, u_idiv, u_irem, u_ineg, u_ladd, u_lmul, u_ldiv, u_lrem, u_lcmp, u_i2l, u_l2i, u_dup, u_dup2, u_pop, u_if, u_icmp, u_goto, u_switch, u_getf0, u_getf2, u_getf1, u_putf0, u_putf2, u_putf1, u_getst, v_iald, u_ialdc, v_iast, u_alen, u_newa, u_new, u_virt, u_spec, u_stat, w_iret, w_zret, u_lret, u_aret, u_vret, cV_s, cS_s, wc_v, wc_i, wc_s, vc_copy, uc_copyc, uc_min, uc_max, uc_abs, uc_char, uc_obj, gl_0, gl_s, sl_0, sl_s, wA, wR, wK, ceW_1, ceN_2, ceN_3, ceN_4, ceN_5, ceN_6, ceN_7, ceN_8, c_t, bu, QW_w, true_and, and_true, Bool.not_false, Option.toList_some, Option.toList_none, List.cons_append, List.nil_append, List.singleton_append, Int.cast_ofNat_Int, Int.natCast_zero, Int.natCast_one, true_implies, implies_true, not_true_eq_false, not_false_eq_true, ne_eq, eq_self, true_or, or_true, or_false, false_or, and_self, Int.reduceNeg, Int.reduceLE, Int.reduceLT, Int.reduceEq, Int.reduceAdd, Int.reduceSub, Int.reduceMul, Int.reduceNe, Nat.reduceAdd, Nat.reduceSub, Nat.reduceLeDiff, Nat.reduceLT, Nat.reduceEqDiff, Int.reduceToNat, Int.reduceNatCast, Int.reduceTDiv, Int.reduceTMod, false_implies, false_and, and_false, reduceIte, ite_true, ite_false, e35, e36, e46]
    refine ⟨fun z => absurd z (by omega), fun _ => ⟨ho, ?_⟩⟩
    refine m_errorOf hM' hq (by omega) hb ha ?_
    rw [hE]
    simp only [vI_i, vJ_l, isI_i, isR_r, isR_c, aN_s, isA_s, okS_0, okS_s, isL_i, isL_l, isL_r, szV_i, szV_l, szV_r, szS_n, szS_c, pops_0, pops_s, icm_eq, icm_ne, icm_lt, icm_ge, icm_gt, icm_le, aG_s, oG_s, u_nil, v_aload0, u_astore0, u_astorec0, v_iload0, u_istore0, v_lload0, u_lstore0, v_aload1, u_astore1, u_astorec1, v_iload1, u_istore1, v_lload1, u_lstore1, v_aload2, u_astore2, u_astorec2, v_iload2, u_istore2, v_lload2, u_lstore2, v_aload3, u_astore3, u_astorec3, v_iload3, u_istore3, v_lload3, u_lstore3, v_aload, u_astore, v_iload, u_istore, v_lload, u_lstore, u_iconst, u_bipush, u_sipush, u_ldc, u_ldcs, u_ldc2, v_iinc, u_iadd, u_isub, u_imul, u_iand, u_idiv, u_irem, u_ineg, u_ladd, u_lmul, u_ldiv, u_lrem, u_lcmp, u_i2l, u_l2i, u_dup, u_dup2, u_pop, u_if, u_icmp, u_goto, u_switch, u_getf0, u_getf2, u_getf1, u_putf0, u_putf2, u_putf1, u_getst, v_iald, u_ialdc, v_iast, u_alen, u_newa, u_new, u_virt, u_spec, u_stat, w_iret, w_zret, u_lret, u_aret, u_vret, cV_s, cS_s, wc_v, wc_i, wc_s, vc_copy, uc_copyc, uc_min, uc_max, uc_abs, uc_char, uc_obj, gl_0, gl_s, sl_0, sl_s, wA, wR, wK, ceW_1, ceN_2, ceN_3, ceN_4, ceN_5, ceN_6, ceN_7, ceN_8, c_t, bu, QW_w, true_and, and_true, Bool.not_false, Option.toList_some, Option.toList_none, List.cons_append, List.nil_append, List.singleton_append, Int.cast_ofNat_Int, Int.natCast_zero, Int.natCast_one, true_implies, implies_true, not_true_eq_false, not_false_eq_true, ne_eq, eq_self, true_or, or_true, or_false, false_or, and_self, Int.reduceNeg, Int.reduceLE, Int.reduceLT, Int.reduceEq, Int.reduceAdd, Int.reduceSub, Int.reduceMul, Int.reduceNe, Nat.reduceAdd, Nat.reduceSub, Nat.reduceLeDiff, Nat.reduceLT, Nat.reduceEqDiff, Int.reduceToNat, Int.reduceNatCast, Int.reduceTDiv, Int.reduceTMod, false_implies, false_and, and_false, reduceIte, ite_true, ite_false]
    refine ⟨fun z => t115 (by omega) _, fun z => ?_⟩
    refine m_isGrace hM' hq (by omega) ?_
    by_cases hc : isG q kk
    · rw [if_pos hc]
      have e0 : grO q i kk = 1 := by unfold grO; rw [if_pos ⟨by omega, hc⟩]
      have t := t116 v8
      rw [e0] at t
      simp only [vI_i, vJ_l, isI_i, isR_r, isR_c, aN_s, isA_s, okS_0, okS_s, isL_i, isL_l, isL_r, szV_i, szV_l, szV_r, szS_n, szS_c, pops_0, pops_s, icm_eq, icm_ne, icm_lt, icm_ge, icm_gt, icm_le, aG_s, oG_s, u_nil, v_aload0, u_astore0, u_astorec0, v_iload0, u_istore0, v_lload0, u_lstore0, v_aload1, u_astore1, u_astorec1, v_iload1, u_istore1, v_lload1, u_lstore1, v_aload2, u_astore2, u_astorec2, v_iload2, u_istore2, v_lload2, u_lstore2, v_aload3, u_astore3, u_astorec3, v_iload3, u_istore3, v_lload3, u_lstore3, v_aload, u_astore, v_iload, u_istore, v_lload, u_lstore, u_iconst, u_bipush, u_sipush, u_ldc, u_ldcs, u_ldc2, v_iinc, u_iadd, u_isub, u_imul, u_iand, u_idiv, u_irem, u_ineg, u_ladd, u_lmul, u_ldiv, u_lrem, u_lcmp, u_i2l, u_l2i, u_dup, u_dup2, u_pop, u_if, u_icmp, u_goto, u_switch, u_getf0, u_getf2, u_getf1, u_putf0, u_putf2, u_putf1, u_getst, v_iald, u_ialdc, v_iast, u_alen, u_newa, u_new, u_virt, u_spec, u_stat, w_iret, w_zret, u_lret, u_aret, u_vret, cV_s, cS_s, wc_v, wc_i, wc_s, vc_copy, uc_copyc, uc_min, uc_max, uc_abs, uc_char, uc_obj, gl_0, gl_s, sl_0, sl_s, wA, wR, wK, ceW_1, ceN_2, ceN_3, ceN_4, ceN_5, ceN_6, ceN_7, ceN_8, c_t, bu, QW_w, true_and, and_true, Bool.not_false, Option.toList_some, Option.toList_none, List.cons_append, List.nil_append, List.singleton_append, Int.cast_ofNat_Int, Int.natCast_zero, Int.natCast_one, true_implies, implies_true, not_true_eq_false, not_false_eq_true, ne_eq, eq_self, true_or, or_true, or_false, false_or, and_self, Int.reduceNeg, Int.reduceLE, Int.reduceLT, Int.reduceEq, Int.reduceAdd, Int.reduceSub, Int.reduceMul, Int.reduceNe, Nat.reduceAdd, Nat.reduceSub, Nat.reduceLeDiff, Nat.reduceLT, Nat.reduceEqDiff, Int.reduceToNat, Int.reduceNatCast, Int.reduceTDiv, Int.reduceTMod, false_implies, false_and, and_false, reduceIte, ite_true, ite_false]
      exact t
    · rw [if_neg hc]
      simp only [vI_i, vJ_l, isI_i, isR_r, isR_c, aN_s, isA_s, okS_0, okS_s, isL_i, isL_l, isL_r, szV_i, szV_l, szV_r, szS_n, szS_c, pops_0, pops_s, icm_eq, icm_ne, icm_lt, icm_ge, icm_gt, icm_le, aG_s, oG_s, u_nil, v_aload0, u_astore0, u_astorec0, v_iload0, u_istore0, v_lload0, u_lstore0, v_aload1, u_astore1, u_astorec1, v_iload1, u_istore1, v_lload1, u_lstore1, v_aload2, u_astore2, u_astorec2, v_iload2, u_istore2, v_lload2, u_lstore2, v_aload3, u_astore3, u_astorec3, v_iload3, u_istore3, v_lload3, u_lstore3, v_aload, u_astore, v_iload, u_istore, v_lload, u_lstore, u_iconst, u_bipush, u_sipush, u_ldc, u_ldcs, u_ldc2, v_iinc, u_iadd, u_isub, u_imul, u_iand, u_idiv, u_irem, u_ineg, u_ladd, u_lmul, u_ldiv, u_lrem, u_lcmp, u_i2l, u_l2i, u_dup, u_dup2, u_pop, u_if, u_icmp, u_goto, u_switch, u_getf0, u_getf2, u_getf1, u_putf0, u_putf2, u_putf1, u_getst, v_iald, u_ialdc, v_iast, u_alen, u_newa, u_new, u_virt, u_spec, u_stat, w_iret, w_zret, u_lret, u_aret, u_vret, cV_s, cS_s, wc_v, wc_i, wc_s, vc_copy, uc_copyc, uc_min, uc_max, uc_abs, uc_char, uc_obj, gl_0, gl_s, sl_0, sl_s, wA, wR, wK, ceW_1, ceN_2, ceN_3, ceN_4, ceN_5, ceN_6, ceN_7, ceN_8, c_t, bu, QW_w, true_and, and_true, Bool.not_false, Option.toList_some, Option.toList_none, List.cons_append, List.nil_append, List.singleton_append, Int.cast_ofNat_Int, Int.natCast_zero, Int.natCast_one, true_implies, implies_true, not_true_eq_false, not_false_eq_true, ne_eq, eq_self, true_or, or_true, or_false, false_or, and_self, Int.reduceNeg, Int.reduceLE, Int.reduceLT, Int.reduceEq, Int.reduceAdd, Int.reduceSub, Int.reduceMul, Int.reduceNe, Nat.reduceAdd, Nat.reduceSub, Nat.reduceLeDiff, Nat.reduceLT, Nat.reduceEqDiff, Int.reduceToNat, Int.reduceNatCast, Int.reduceTDiv, Int.reduceTMod, false_implies, false_and, and_false, reduceIte, ite_true, ite_false]
      exact t115 (fun z => hc z.2) _
end MDWRITE
