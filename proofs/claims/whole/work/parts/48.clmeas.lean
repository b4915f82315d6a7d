/-! THE CLASS: all tables of a bar -/
section CLMEAS
variable {G : Gx} {d : Nat} {g : Nat → Int → Int} {Q : Qx} {q : Qe}
def sFo : Nat → Int
  | 0 => 1
  | 1 => 4
  | 2 => 14
  | _ => 46
def dFo : Nat → Int
  | 0 => 0
  | 1 => 1
  | 2 => 7
  | _ => 35
def kk (c : Int) : Int := if c < 2 then 1 else if c = 2 then 2 else 3
def kp (c : Int) : Int := if c = 1 then 1 else if c = 4 then 1 else if c = 5 then 2 else 0
/-- the spans' own tables, as they are made once -/
def SPOK (g : Nat → Int → Int) : Prop := (g 24 0 = 1 ∧ g 24 1 = 4 ∧ g 24 2 = 14 ∧ g 24 3 = 46) ∧ (g 25 0 = 0 ∧ g 25 1 = 1 ∧ g 25 2 = 7 ∧ g 25 3 = 35) ∧ (g 22 0 = 0 ∧ g 28 0 = 0 ∧ g 29 0 = 216) ∧ (∀ s : Int, 0 ≤ s → s < 46 → 0 ≤ g 22 s ∧ g 22 s ≤ 216) ∧
  ∀ (l : Nat) (sp : Int), l < 3 → dFo l ≤ sp → sp < dFo (l + 1) → (0 ≤ g 23 sp ∧ g 23 sp < sFo (l + 1) ∧ g 22 (g 23 sp) = g 28 sp) ∧ ∀ c : Int, 0 ≤ c → c < 6 → (0 ≤ g 26 (6 * sp + c) ∧ g 26 (6 * sp + c) < sFo (l + 1) ∧ g 22 (g 26 (6 * sp + c)) = pfr (kk c) (kp c) (g 28 sp) (g 29 sp)) ∧
    (l < 2 → dFo (l + 1) ≤ g 27 (6 * sp + c) ∧ g 27 (6 * sp + c) < dFo (l + 2) ∧ g 28 (g 27 (6 * sp + c)) = pfr (kk c) (kp c) (g 28 sp) (g 29 sp) ∧ g 29 (g 27 (6 * sp + c)) = psz (kk c) (kp c) (g 29 sp))
theorem SPOK.fr {h : Nat → Int → Int} (hS : SPOK g) (hf : ∀ (p : Nat) (x : Int), 22 ≤ p → p ≤ 29 → h p x = g p x) : SPOK h := by
  have h1 : h 22 = g 22 := funext fun i => hf 22 i (by decide) (by decide)
  have h2 : h 23 = g 23 := funext fun i => hf 23 i (by decide) (by decide)
  have h3 : h 24 = g 24 := funext fun i => hf 24 i (by decide) (by decide)
  have h4 : h 25 = g 25 := funext fun i => hf 25 i (by decide) (by decide)
  have h5 : h 26 = g 26 := funext fun i => hf 26 i (by decide) (by decide)
  have h6 : h 27 = g 27 := funext fun i => hf 27 i (by decide) (by decide)
  have h7 : h 28 = g 28 := funext fun i => hf 28 i (by decide) (by decide)
  have h8 : h 29 = g 29 := funext fun i => hf 29 i (by decide) (by decide)
  unfold SPOK
  rw [h1, h2, h3, h4, h5, h6, h7, h8]
  exact hS
/-- how deep the class divides -/
def dq (q : Qe) : Nat := if q.2.2.2.2.1 = 0 then 0 else dpQ q
theorem dq_le (hq : QeOK q) : dq q ≤ 3 := by
  have := hq.dep
  unfold dq dpQ
  split <;> omega
theorem dq_int (hq : QeOK q) : (if q.2.2.2.2.1 = 0 then 0 else q.2.2.1 3) = (dq q : Int) := by
  have := hq.dep
  unfold dq dpQ
  split <;> omega
theorem dFo_lev {D : Nat} (hD : D ≤ 3) {sp : Int} (h0 : 0 ≤ sp) (h1 : sp < dFo D) : ∃ l, l < D ∧ dFo l ≤ sp ∧ sp < dFo (l + 1) := by
  have hD : D = 0 ∨ D = 1 ∨ D = 2 ∨ D = 3 := by omega
  rcases hD with rfl | rfl | rfl | rfl
  · simp only [dFo] at h1; omega
  · exact ⟨0, by omega, by simp only [dFo]; omega, by simp only [dFo] at *; omega⟩
  · by_cases e : sp < 1
    · exact ⟨0, by omega, by simp only [dFo]; omega, by simp only [dFo]; omega⟩
    · exact ⟨1, by omega, by simp only [dFo]; omega, by simp only [dFo] at *; omega⟩
  · by_cases e : sp < 1
    · exact ⟨0, by omega, by simp only [dFo]; omega, by simp only [dFo]; omega⟩
    · by_cases e2 : sp < 7
      · exact ⟨1, by omega, by simp only [dFo]; omega, by simp only [dFo]; omega⟩
      · exact ⟨2, by omega, by simp only [dFo]; omega, by simp only [dFo] at *; omega⟩
theorem dFo_mono {a b : Nat} (h : a ≤ b) (hb : b ≤ 3) : dFo a ≤ dFo b ∧ sFo a ≤ sFo b ∧ dFo b ≤ 35 ∧ sFo b ≤ 46 ∧ 0 ≤ dFo a := by
  have hb : b = 0 ∨ b = 1 ∨ b = 2 ∨ b = 3 := by omega
  have ha : a = 0 ∨ a = 1 ∨ a = 2 ∨ a = 3 := by omega
  rcases hb with rfl | rfl | rfl | rfl <;> rcases ha with rfl | rfl | rfl | rfl <;> simp only [dFo, sFo] <;> omega
noncomputable def spV (q : Qe) (b T : Int) (D l : Nat) (g : Nat → Int → Int) (sp : Int) : Int → Int → Int := if sp = 0 then bcQ q b T else spQ q b T (D - l) (g 28 sp) (g 29 sp)
def TBL (g : Nat → Int → Int) (q : Qe) (b T k : Int) : Prop := ∀ s : Int, 0 ≤ s → s < k → TbL g q.1 s (lfQ q b T (g 22 s))
def TBS (g : Nat → Int → Int) (q : Qe) (b T k : Int) : Prop := ∀ (l : Nat) (sp : Int), l < dq q → dFo l ≤ sp → sp < dFo (l + 1) → k ≤ sp → TbL g q.1 (46 + sp) (spV q b T (dq q) l g sp)
theorem pfr_21 {a s : Int} : pfr 2 1 a s = pfr 3 2 a s := by unfold pfr; rw [if_neg (by decide), if_pos rfl, if_neg (by decide), if_neg (by decide)]; omega
theorem psz_21 {s : Int} : psz 2 1 s = psz 3 2 s := by unfold psz; rw [if_neg (by decide), if_neg (by decide), if_neg (by decide), if_neg (by decide)]
noncomputable def kX (q : Qe) (b T : Int) (r : Nat) (a s c : Int) : Int → Int → Int := spQ q b T r (pfr (kk c) (kp c) a s) (psz (kk c) (kp c) s)
theorem celV_sp (hq : QeOK q) {b T a s i j : Int} {r : Nat} (h : i ≤ j) : celV (prQ q) (lfQ q b T a) (kX q b T r a s) i j = spQ q b T (r + 1) a s i j := by
  have hl := lfQ_cap hq b T a i j h
  have e5 : kX q b T r a s 5 = spQ q b T r (pfr 2 1 a s) (psz 2 1 s) := by rw [pfr_21, psz_21]; rfl
  have w1 : wyv (spC (lfQ q b T) (prQ q) r) (prQ q) 1 a s i j = min fa (prQ q 1 + two (kX q b T r a s 0) (kX q b T r a s 1) i j) := rfl
  have w2 : wyv (spC (lfQ q b T) (prQ q) r) (prQ q) 2 a s i j = min fa (prQ q 2 + two (kX q b T r a s 2) (kX q b T r a s 5) i j) := by rw [e5]; rfl
  have w3 : wyv (spC (lfQ q b T) (prQ q) r) (prQ q) 3 a s i j = min fa (prQ q 3 + two (kX q b T r a s 3) (two (kX q b T r a s 4) (kX q b T r a s 5)) i j) := rfl
  have p0 : prQ q 0 = 0 := rfl
  unfold celV spQ
  rw [spC_s, w1, w2, w3, p0]
  omega
theorem celV_bar (hq : QeOK q) {b T i j : Int} {r : Nat} (hr : dpQ q = r + 1) (h : i ≤ j) : celV (fun k => if q.2.2.2.2.1 = -1 ∨ q.2.2.2.2.1 = k then prQ q k else fa) (lfQ q b T 0) (kX q b T r 0 216) i j = bcQ q b T i j := by
  have hl := lfQ_cap hq b T 0 i j h
  have hf := fa_pos
  have cX : ∀ c, Cap (kX q b T r 0 216 c) := fun c => spQ_cap hq b T r _ _
  have e5 : kX q b T r 0 216 5 = spQ q b T r (pfr 2 1 0 216) (psz 2 1 216) := by rw [pfr_21, psz_21]; rfl
  have w1 : wyv (spC (lfQ q b T) (prQ q) r) (prQ q) 1 0 216 i j = min fa (prQ q 1 + two (kX q b T r 0 216 0) (kX q b T r 0 216 1) i j) := rfl
  have w2 : wyv (spC (lfQ q b T) (prQ q) r) (prQ q) 2 0 216 i j = min fa (prQ q 2 + two (kX q b T r 0 216 2) (kX q b T r 0 216 5) i j) := by rw [e5]; rfl
  have w3 : wyv (spC (lfQ q b T) (prQ q) r) (prQ q) 3 0 216 i j = min fa (prQ q 3 + two (kX q b T r 0 216 3) (two (kX q b T r 0 216 4) (kX q b T r 0 216 5)) i j) := rfl
  have c1 := two_cap (cX 0) (cX 1) i j h
  have c2 := two_cap (cX 2) (cX 5) i j h
  have c3 := two_cap (cX 3) (two_cap (cX 4) (cX 5)) i j h
  have p0 : prQ q 0 = 0 := rfl
  unfold celV bcQ
  rw [hr, brC_s, w1, w2, w3]
  simp only []
  congr 1
  · split
    · rw [p0]; omega
    · omega
  congr 1
  · split
    · rfl
    · omega
  congr 1
  · split
    · rfl
    · omega
  · split
    · rfl
    · omega
theorem dFo_1 {sp : Int} {l : Nat} (h0 : dFo l ≤ sp) (hl : l < 3) (hsp : sp = 0) : l = 0 := by
  have hl : l = 0 ∨ l = 1 ∨ l = 2 := by omega
  rcases hl with rfl | rfl | rfl
  · rfl
  · simp only [dFo] at h0; omega
  · simp only [dFo] at h0; omega
theorem meas_kt (hS : SPOK g) (hq : QeOK q) (hK : TK g q) {b T sp : Int} {l : Nat} (hl : l < dq q) (h0 : dFo l ≤ sp) (h1 : sp < dFo (l + 1)) (hlk : g 15 4 = dFo (dq q - 1)) (hL : TBL g q b T (sFo (dq q))) (hT : TBS g q b T (sp + 1)) :
    KT g q.1 sp (dFo (dq q - 1)) (if sp = 0 then 20 else 19) (fun k => if sp = 0 then (if q.2.2.2.2.1 = -1 ∨ q.2.2.2.2.1 = k then prQ q k else fa) else prQ q k) (fun c => if dFo (dq q - 1) ≤ sp then g 26 (6 * sp + c) else 46 + g 27 (6 * sp + c)) (kX q b T (dq q - l - 1) (g 28 sp) (g 29 sp)) := by
  have hD := dq_le hq
  have hf := fa_def
  have hm0 := dFo_mono (a := l) (b := l + 1) (by omega) (by omega)
  refine ⟨hlk, hK.1.1, by split <;> omega, fun k x y => ?_, fun k => ?_, fun c x y => ?_⟩
  · split
    · exact hK.1.2.2.2.2.2.2.2.2.2.2.2 k x y
    · exact hK.1.2.2.2.2.2.2.2.2.2.2.1 k x y
  · have := prQ_nn hq k
    split
    · show 0 ≤ (if q.2.2.2.2.1 = -1 ∨ q.2.2.2.2.1 = k then prQ q k else fa) ∧ (if q.2.2.2.2.1 = -1 ∨ q.2.2.2.2.1 = k then prQ q k else fa) ≤ fa
      split <;> omega
    · show 0 ≤ prQ q k ∧ prQ q k ≤ fa
      omega
  · obtain ⟨s1, s2⟩ := hS.2.2.2.2 l sp (by omega) h0 h1
    obtain ⟨⟨u1, u2, u3⟩, u4⟩ := s2 c x y
    by_cases e : l = dq q - 1
    · have hle : dFo (dq q - 1) ≤ sp := e ▸ h0
      have e2 : dq q = l + 1 := by omega
      simp only [if_pos hle]
      have hm := dFo_mono (a := l + 1) (b := 3) (by omega) (by omega)
      refine ⟨fun z => absurd hle z, trivial, ⟨u1, by simp only [sFo] at hm; omega, by simp only [sFo] at hm; omega⟩, ?_, spQ_cap hq b T _ _ _⟩
      have := hL (g 26 (6 * sp + c)) u1 (by rw [e2]; exact u2)
      rw [u3] at this
      unfold kX
      rw [show dq q - l - 1 = 0 by omega]
      exact this
    · have hm := dFo_mono (a := l + 1) (b := dq q - 1) (by omega) (by omega)
      have hle : ¬ dFo (dq q - 1) ≤ sp := by omega
      simp only [if_neg hle]
      obtain ⟨v1, v2, v3, v4⟩ := u4 (by omega)
      have hm2 := dFo_mono (a := l + 2) (b := 3) (by omega) (by omega)
      have h35 : dFo (l + 2) ≤ 35 := Int.le_trans hm2.1 hm2.2.2.1
      have h00 : 0 ≤ dFo l := hm0.2.2.2.2
      refine ⟨fun _ => by omega, trivial, by omega, ?_, spQ_cap hq b T _ _ _⟩
      have := hT (l + 1) (g 27 (6 * sp + c)) (by omega) v1 v2 (by omega)
      unfold spV at this
      rw [if_neg (by omega), v3, v4] at this
      unfold kX
      rw [show dq q - l - 1 = dq q - (l + 1) by omega]
      exact this
/-- what measuring may touch -/
def FrR (g h : Nat → Int → Int) : Prop := ∀ (p : Nat) (x : Int), p ≠ 30 → p ≠ 31 → ¬ (p = 15 ∧ x = 4) → h p x = g p x
theorem FrR.rf : FrR g g := fun _ _ _ _ _ => rfl
theorem FrR.tr {g1 g2 g3 : Nat → Int → Int} (a : FrR g1 g2) (b : FrR g2 g3) : FrR g1 g3 := fun q i x y z => (b q i x y z).trans (a q i x y z)
theorem TK_R {h : Nat → Int → Int} (hK : TK g q) (f : FrR g h) : TK h q := TK_fr hK fun p x a b => f p x (by omega) (by omega) (by omega)
theorem SP_R {h : Nat → Int → Int} (hS : SPOK g) (f : FrR g h) : SPOK h := hS.fr fun p x a b => f p x (by omega) (by omega) (by omega)
theorem SP_24 (hS : SPOK g) {D : Nat} (h : D ≤ 3) : g 24 D = sFo D ∧ g 25 D = dFo D := by
  obtain ⟨⟨a0, a1, a2, a3⟩, ⟨b0, b1, b2, b3⟩, -⟩ := hS
  have hD : D = 0 ∨ D = 1 ∨ D = 2 ∨ D = 3 := by omega
  rcases hD with rfl | rfl | rfl | rfl
  · exact ⟨a0, b0⟩
  · exact ⟨a1, b1⟩
  · exact ⟨a2, b2⟩
  · exact ⟨a3, b3⟩
theorem meas_leaves {b T : Int} (hS : SPOK g) (hq : QeOK q) (hb : BtOK b T) (hK : TK g q)
    (hQ : ∀ h : Nat → Int → Int, FrR g h → h 15 4 = g 15 4 → TBL h q b T (sFo (dq q)) → Tg G (d + 3) (73, 42835) 138 69 [vr 15, vi b, vi T, vi (sFo (dq q))] [] (Mw h) (QW Q)) :
    ∀ (m k : Nat) (h : Nat → Int → Int), (k : Int) + m = sFo (dq q) → FrR g h → h 15 4 = g 15 4 → TBL h q b T k → Tg G (d + 3) (73, 42835) 138 37 [vr 15, vi b, vi T, vi k] [] (Mw h) (QW Q) := by
  intro m
  have hD := dq_le hq
  have hm := dFo_mono (a := dq q) (b := dq q) (Nat.le_refl _) hD
  induction m with
  | zero =>
    intro k h hk h1 h0 h2
    have e1 : h 16 8 = dq q := (h1 16 8 (by decide) (by decide) (by omega)).trans (hK.1.2.2.2.2.1.trans (dq_int hq))
    have e2 : h 24 (dq q) = sFo (dq q) := (h1 24 _ (by decide) (by decide) (by omega)).trans (SP_24 hS hD).1
    have hk' : (k : Int) = sFo (dq q) := by omega
    rw [hk'] at h2 ⊢
    refine T_b ok_X5_measure_37 ?_
    simp only [vI_i, vJ_l, isI_i, isR_r, isR_c, aN_s, isA_s, okS_0, okS_s, isL_i, isL_l, isL_r, szV_i, szV_l, szV_r, szS_n, szS_c, pops_0, pops_s, icm_eq, icm_ne, icm_lt, icm_ge, icm_gt, icm_le, aG_s, oG_s, u_nil, v_aload0, u_astore0, u_astorec0, v_iload0, u_istore0, v_lload0, u_lstore0, v_aload1, u_astore1, u_astorec1, v_iload1, u_istore1, v_lload1, u_lstore1, v_aload2, u_astore2, u_astorec2, v_iload2, u_istore2, v_lload2, u_lstore2, v_aload3, u_astore3, u_astorec3, v_iload3, u_istore3, v_lload3, u_lstore3, v_aload, u_astore, v_iload, u_istore, v_lload, u_lstore, u_iconst, u_bipush, u_sipush, u_ldc, u_ldcs, u_ldc2, v_iinc, u_iadd, u_isub, u_imul, u_iand, u_idiv, u_irem, u_ineg, u_ladd, u_lmul, u_ldiv, u_lrem, u_lcmp, u_i2l, u_l2i, u_dup, u_dup2, u_pop, u_if, u_icmp, u_goto, u_switch, u_getf0, u_getf2, u_getf1, u_putf0, u_putf2, u_putf1, u_getst, v_iald, u_ialdc, v_iast, u_alen, u_newa, u_new, u_virt, u_spec, u_stat, w_iret, w_zret, u_lret, u_aret, u_vret, cV_s, cS_s, wc_v, wc_i, wc_s, vc_copy, uc_copyc, uc_min, uc_max, uc_abs, uc_char, uc_obj, gl_0, gl_s, sl_0, sl_s, wA, wR, wK, ceW_1, ceN_2, ceN_3, ceN_4, ceN_5, ceN_6, ceN_7, ceN_8, c_t, bu, QW_w, true_and, and_true, Bool.not_false, Option.toList_some, Option.toList_none, List.cons_append, List.nil_append, List.singleton_append, Int.cast_ofNat_Int, Int.natCast_zero, Int.natCast_one, true_implies, implies_true, not_true_eq_false, not_false_eq_true, ne_eq, eq_self, true_or, or_true, or_false, false_or, and_self, Int.reduceNeg, Int.reduceLE, Int.reduceLT, Int.reduceEq, Int.reduceAdd, Int.reduceSub, Int.reduceMul, Int.reduceNe, Nat.reduceAdd, Nat.reduceSub, Nat.reduceLeDiff, Nat.reduceLT, Nat.reduceEqDiff, Int.reduceToNat, Int.reduceNatCast, Int.reduceTDiv, Int.reduceTMod, false_implies, false_and, and_false, reduceIte, ite_true, ite_false, e1, e2]
    exact ⟨by omega, fun _ => hQ h h1 h0 h2, fun z => absurd (Int.le_refl _) z⟩
  | succ m ih =>
    intro k h hk h1 h0 h2
    have e1 : h 16 8 = dq q := (h1 16 8 (by decide) (by decide) (by omega)).trans (hK.1.2.2.2.2.1.trans (dq_int hq))
    have e2 : h 24 (dq q) = sFo (dq q) := (h1 24 _ (by decide) (by decide) (by omega)).trans (SP_24 hS hD).1
    have e5 : wr ((k : Int) + 1) = ((k + 1 : Nat) : Int) := by rw [wr_of (by omega) (by omega)]; omega
    have hS' := SP_R hS h1
    refine T_b ok_X5_measure_37 ?_
    simp only [vI_i, vJ_l, isI_i, isR_r, isR_c, aN_s, isA_s, okS_0, okS_s, isL_i, isL_l, isL_r, szV_i, szV_l, szV_r, szS_n, szS_c, pops_0, pops_s, icm_eq, icm_ne, icm_lt, icm_ge, icm_gt, icm_le, aG_s, oG_s, u_nil, v_aload0, u_astore0, u_astorec0, v_iload0, u_istore0, v_lload0, u_lstore0, v_aload1, u_astore1, u_astorec1, v_iload1, u_istore1, v_lload1, u_lstore1, v_aload2, u_astore2, u_astorec2, v_iload2, u_istore2, v_lload2, u_lstore2, v_aload3, u_astore3, u_astorec3, v_iload3, u_istore3, v_lload3, u_lstore3, v_aload, u_astore, v_iload, u_istore, v_lload, u_lstore, u_iconst, u_bipush, u_sipush, u_ldc, u_ldcs, u_ldc2, v_iinc, u_iadd, u_isub, u_imul, u_iand, u_idiv, u_irem, u_ineg, u_ladd, u_lmul, u_ldiv, u_lrem, u_lcmp, u_i2l, u_l2i, u_dup, u_dup2, u_pop, u_if, u_icmp, u_goto, u_switch, u_getf0, u_getf2, u_getf1, u_putf0, u_putf2, u_putf1, u_getst, v_iald, u_ialdc, v_iast, u_alen, u_newa, u_new, u_virt, u_spec, u_stat, w_iret, w_zret, u_lret, u_aret, u_vret, cV_s, cS_s, wc_v, wc_i, wc_s, vc_copy, uc_copyc, uc_min, uc_max, uc_abs, uc_char, uc_obj, gl_0, gl_s, sl_0, sl_s, wA, wR, wK, ceW_1, ceN_2, ceN_3, ceN_4, ceN_5, ceN_6, ceN_7, ceN_8, c_t, bu, QW_w, true_and, and_true, Bool.not_false, Option.toList_some, Option.toList_none, List.cons_append, List.nil_append, List.singleton_append, Int.cast_ofNat_Int, Int.natCast_zero, Int.natCast_one, true_implies, implies_true, not_true_eq_false, not_false_eq_true, ne_eq, eq_self, true_or, or_true, or_false, false_or, and_self, Int.reduceNeg, Int.reduceLE, Int.reduceLT, Int.reduceEq, Int.reduceAdd, Int.reduceSub, Int.reduceMul, Int.reduceNe, Nat.reduceAdd, Nat.reduceSub, Nat.reduceLeDiff, Nat.reduceLT, Nat.reduceEqDiff, Int.reduceToNat, Int.reduceNatCast, Int.reduceTDiv, Int.reduceTMod, false_implies, false_and, and_false, reduceIte, ite_true, ite_false, e1, e2]
    refine ⟨by omega, fun z => absurd z (by omega), fun _ => ?_⟩
    refine q_measureLeaf (a := h 22 k) (by omega) hq hb (hS'.2.2.2.1 k (by omega) (by omega)) (TK_R hK h1) rfl (fun h' f1 t1 => ?_)
    simp only [vI_i, vJ_l, isI_i, isR_r, isR_c, aN_s, isA_s, okS_0, okS_s, isL_i, isL_l, isL_r, szV_i, szV_l, szV_r, szS_n, szS_c, pops_0, pops_s, icm_eq, icm_ne, icm_lt, icm_ge, icm_gt, icm_le, aG_s, oG_s, u_nil, v_aload0, u_astore0, u_astorec0, v_iload0, u_istore0, v_lload0, u_lstore0, v_aload1, u_astore1, u_astorec1, v_iload1, u_istore1, v_lload1, u_lstore1, v_aload2, u_astore2, u_astorec2, v_iload2, u_istore2, v_lload2, u_lstore2, v_aload3, u_astore3, u_astorec3, v_iload3, u_istore3, v_lload3, u_lstore3, v_aload, u_astore, v_iload, u_istore, v_lload, u_lstore, u_iconst, u_bipush, u_sipush, u_ldc, u_ldcs, u_ldc2, v_iinc, u_iadd, u_isub, u_imul, u_iand, u_idiv, u_irem, u_ineg, u_ladd, u_lmul, u_ldiv, u_lrem, u_lcmp, u_i2l, u_l2i, u_dup, u_dup2, u_pop, u_if, u_icmp, u_goto, u_switch, u_getf0, u_getf2, u_getf1, u_putf0, u_putf2, u_putf1, u_getst, v_iald, u_ialdc, v_iast, u_alen, u_newa, u_new, u_virt, u_spec, u_stat, w_iret, w_zret, u_lret, u_aret, u_vret, cV_s, cS_s, wc_v, wc_i, wc_s, vc_copy, uc_copyc, uc_min, uc_max, uc_abs, uc_char, uc_obj, gl_0, gl_s, sl_0, sl_s, wA, wR, wK, ceW_1, ceN_2, ceN_3, ceN_4, ceN_5, ceN_6, ceN_7, ceN_8, c_t, bu, QW_w, true_and, and_true, Bool.not_false, Option.toList_some, Option.toList_none, List.cons_append, List.nil_append, List.singleton_append, Int.cast_ofNat_Int, Int.natCast_zero, Int.natCast_one, true_implies, implies_true, not_true_eq_false, not_false_eq_true, ne_eq, eq_self, true_or, or_true, or_false, false_or, and_self, Int.reduceNeg, Int.reduceLE, Int.reduceLT, Int.reduceEq, Int.reduceAdd, Int.reduceSub, Int.reduceMul, Int.reduceNe, Nat.reduceAdd, Nat.reduceSub, Nat.reduceLeDiff, Nat.reduceLT, Nat.reduceEqDiff, Int.reduceToNat, Int.reduceNatCast, Int.reduceTDiv, Int.reduceTMod, false_implies, false_and, and_false, reduceIte, ite_true, ite_false, e5]
    have hn := hq.1
    refine ih (k + 1) h' (by omega) (h1.tr fun p x a b c => f1 p x b (Or.inl a)) ((f1 15 4 (by decide) (Or.inl (by decide))).trans h0) (fun s x y => ?_)
    rw [f1 22 s (by decide) (Or.inl (by decide))]
    by_cases e : s = k
    · rw [e]; exact t1
    · intro i j u v w
      rw [f1 30 _ (by decide) (by omega)]
      exact h2 s x (by omega) i j u v w
theorem TBS_J {b T sp k : Int} {h : Nat → Int → Int} (hn : q.1 ≤ 8) (hD : dq q ≤ 3) (hT : TBS g q b T k) (hf : FrJ sp g h) (hk : sp < k) : TBS h q b T k := by
  intro l s a1 a2 a3 a4 i j u v w
  have e : spV q b T (dq q) l h s = spV q b T (dq q) l g s := by unfold spV; rw [hf 28 s (by omega), hf 29 s (by omega)]
  have hm := dFo_mono (a := l + 1) (b := dq q) (by omega) hD
  rw [e, hf 30 _ (by omega)]
  exact hT l s a1 a2 a3 a4 i j u v w
theorem TBL_J {b T sp k : Int} {h : Nat → Int → Int} (hn : q.1 ≤ 8) (hk : k ≤ 46) (hsp : 0 ≤ sp) (hL : TBL g q b T k) (hf : FrJ sp g h) : TBL h q b T k := by
  intro s a1 a2 i j u v w
  rw [hf 22 s (by omega), hf 30 _ (by omega)]
  exact hL s a1 a2 i j u v w
theorem meas_spans {b T : Int} (hS : SPOK g) (hq : QeOK q) (hb : BtOK b T) (hK : TK g q) (hlk : g 15 4 = dFo (dq q - 1)) (hL : TBL g q b T (sFo (dq q)))
    (hQ : ∀ h : Nat → Int → Int, FrR g h → TBL h q b T (sFo (dq q)) → TBS h q b T 0 → h 15 4 = g 15 4 → Q none (Mw h)) :
    ∀ (k : Nat) (h : Nat → Int → Int), (k : Int) ≤ dFo (dq q) → FrR g h → h 15 4 = g 15 4 → TBL h q b T (sFo (dq q)) → TBS h q b T k → Tg G (d + 3) (73, 42835) 138 87 [vr 15, vi b, vi T, vi ((k : Int) - 1)] [] (Mw h) (QW Q) := by
  intro k
  have hD := dq_le hq
  have hm := dFo_mono (a := dq q) (b := dq q) (Nat.le_refl _) hD
  induction k with
  | zero =>
    intro h hk h1 h0 h2 h3
    have e0 : ((0 : Nat) : Int) - 1 = -1 := by omega
    rw [e0]
    refine T_b ok_X5_measure_87 ?_
    simp only [vI_i, vJ_l, isI_i, isR_r, isR_c, aN_s, isA_s, okS_0, okS_s, isL_i, isL_l, isL_r, szV_i, szV_l, szV_r, szS_n, szS_c, pops_0, pops_s, icm_eq, icm_ne, icm_lt, icm_ge, icm_gt, icm_le, aG_s, oG_s, u_nil, v_aload0, u_astore0, u_astorec0, v_iload0, u_istore0, v_lload0, u_lstore0, v_aload1, u_astore1, u_astorec1, v_iload1, u_istore1, v_lload1, u_lstore1, v_aload2, u_astore2, u_astorec2, v_iload2, u_istore2, v_lload2, u_lstore2, v_aload3, u_astore3, u_astorec3, v_iload3, u_istore3, v_lload3, u_lstore3, v_aload, u_astore, v_iload, u_istore, v_lload, u_lstore, u_iconst, u_bipush, u_sipush, u_ldc, u_ldcs, u_ldc2, v_iinc, u_iadd, u_isub, u_imul, u_iand, u_idiv, u_irem, u_ineg, u_ladd, u_lmul, u_ldiv, u_lrem, u_lcmp, u_i2l, u_l2i, u_dup, u_dup2, u_pop, u_if, u_icmp, u_goto, u_switch, u_getf0, u_getf2, u_getf1, u_putf0, u_putf2, u_putf1, u_getst, v_iald, u_ialdc, v_iast, u_alen, u_newa, u_new, u_virt, u_spec, u_stat, w_iret, w_zret, u_lret, u_aret, u_vret, cV_s, cS_s, wc_v, wc_i, wc_s, vc_copy, uc_copyc, uc_min, uc_max, uc_abs, uc_char, uc_obj, gl_0, gl_s, sl_0, sl_s, wA, wR, wK, ceW_1, ceN_2, ceN_3, ceN_4, ceN_5, ceN_6, ceN_7, ceN_8, c_t, bu, QW_w, true_and, and_true, Bool.not_false, Option.toList_some, Option.toList_none, List.cons_append, List.nil_append, List.singleton_append, Int.cast_ofNat_Int, Int.natCast_zero, Int.natCast_one, true_implies, implies_true, not_true_eq_false, not_false_eq_true, ne_eq, eq_self, true_or, or_true, or_false, false_or, and_self, Int.reduceNeg, Int.reduceLE, Int.reduceLT, Int.reduceEq, Int.reduceAdd, Int.reduceSub, Int.reduceMul, Int.reduceNe, Nat.reduceAdd, Nat.reduceSub, Nat.reduceLeDiff, Nat.reduceLT, Nat.reduceEqDiff, Int.reduceToNat, Int.reduceNatCast, Int.reduceTDiv, Int.reduceTMod, false_implies, false_and, and_false, reduceIte, ite_true, ite_false]
    refine T_b ok_X5_measure_102 ?_
    simp only [vI_i, vJ_l, isI_i, isR_r, isR_c, aN_s, isA_s, okS_0, okS_s, isL_i, isL_l, isL_r, szV_i, szV_l, szV_r, szS_n, szS_c, pops_0, pops_s, icm_eq, icm_ne, icm_lt, icm_ge, icm_gt, icm_le, aG_s, oG_s, u_nil, v_aload0, u_astore0, u_astorec0, v_iload0, u_istore0, v_lload0, u_lstore0, v_aload1, u_astore1, u_astorec1, v_iload1, u_istore1, v_lload1, u_lstore1, v_aload2, u_astore2, u_astorec2, v_iload2, u_istore2, v_lload2, u_lstore2, v_aload3, u_astore3, u_astorec3, v_iload3, u_istore3, v_lload3, u_lstore3, v_aload, u_astore, v_iload, u_istore, v_lload, u_lstore, u_iconst, u_bipush, u_sipush, u_ldc, u_ldcs, u_ldc2, v_iinc, u_iadd, u_isub, u_imul, u_iand, u_idiv, u_irem, u_ineg, u_ladd, u_lmul, u_ldiv, u_lrem, u_lcmp, u_i2l, u_l2i, u_dup, u_dup2, u_pop, u_if, u_icmp, u_goto, u_switch, u_getf0, u_getf2, u_getf1, u_putf0, u_putf2, u_putf1, u_getst, v_iald, u_ialdc, v_iast, u_alen, u_newa, u_new, u_virt, u_spec, u_stat, w_iret, w_zret, u_lret, u_aret, u_vret, cV_s, cS_s, wc_v, wc_i, wc_s, vc_copy, uc_copyc, uc_min, uc_max, uc_abs, uc_char, uc_obj, gl_0, gl_s, sl_0, sl_s, wA, wR, wK, ceW_1, ceN_2, ceN_3, ceN_4, ceN_5, ceN_6, ceN_7, ceN_8, c_t, bu, QW_w, true_and, and_true, Bool.not_false, Option.toList_some, Option.toList_none, List.cons_append, List.nil_append, List.singleton_append, Int.cast_ofNat_Int, Int.natCast_zero, Int.natCast_one, true_implies, implies_true, not_true_eq_false, not_false_eq_true, ne_eq, eq_self, true_or, or_true, or_false, false_or, and_self, Int.reduceNeg, Int.reduceLE, Int.reduceLT, Int.reduceEq, Int.reduceAdd, Int.reduceSub, Int.reduceMul, Int.reduceNe, Nat.reduceAdd, Nat.reduceSub, Nat.reduceLeDiff, Nat.reduceLT, Nat.reduceEqDiff, Int.reduceToNat, Int.reduceNatCast, Int.reduceTDiv, Int.reduceTMod, false_implies, false_and, and_false, reduceIte, ite_true, ite_false]
    exact hQ h h1 h2 h3 h0
  | succ k ih =>
    intro h hk h1 h0 h2 h3
    have hn := hq.1
    have e0 : ((k + 1 : Nat) : Int) - 1 = k := by omega
    have e5 : wr ((k : Int) + -1) = (k : Int) - 1 := by rw [wr_of (by omega) (by omega)]; omega
    obtain ⟨l, l1, l2, l3⟩ := dFo_lev hD (sp := k) (by omega) (by omega)
    have hS' := SP_R hS h1
    have hK' := TK_R hK h1
    have hkt := meas_kt hS' hq hK' l1 l2 l3 (h0.trans hlk) h2 (by rw [Int.natCast_add] at h3; exact h3)
    obtain ⟨⟨s1, s2, s3⟩, -⟩ := hS'.2.2.2.2 l k (by omega) l2 l3
    have hm2 := dFo_mono (a := l + 1) (b := dq q) (by omega) hD
    have hLF := h2 (h 23 k) s1 (by omega)
    rw [s3] at hLF
    rw [e0]
    refine T_b ok_X5_measure_87 ?_
    simp only [vI_i, vJ_l, isI_i, isR_r, isR_c, aN_s, isA_s, okS_0, okS_s, isL_i, isL_l, isL_r, szV_i, szV_l, szV_r, szS_n, szS_c, pops_0, pops_s, icm_eq, icm_ne, icm_lt, icm_ge, icm_gt, icm_le, aG_s, oG_s, u_nil, v_aload0, u_astore0, u_astorec0, v_iload0, u_istore0, v_lload0, u_lstore0, v_aload1, u_astore1, u_astorec1, v_iload1, u_istore1, v_lload1, u_lstore1, v_aload2, u_astore2, u_astorec2, v_iload2, u_istore2, v_lload2, u_lstore2, v_aload3, u_astore3, u_astorec3, v_iload3, u_istore3, v_lload3, u_lstore3, v_aload, u_astore, v_iload, u_istore, v_lload, u_lstore, u_iconst, u_bipush, u_sipush, u_ldc, u_ldcs, u_ldc2, v_iinc, u_iadd, u_isub, u_imul, u_iand, u_idiv, u_irem, u_ineg, u_ladd, u_lmul, u_ldiv, u_lrem, u_lcmp, u_i2l, u_l2i, u_dup, u_dup2, u_pop, u_if, u_icmp, u_goto, u_switch, u_getf0, u_getf2, u_getf1, u_putf0, u_putf2, u_putf1, u_getst, v_iald, u_ialdc, v_iast, u_alen, u_newa, u_new, u_virt, u_spec, u_stat, w_iret, w_zret, u_lret, u_aret, u_vret, cV_s, cS_s, wc_v, wc_i, wc_s, vc_copy, uc_copyc, uc_min, uc_max, uc_abs, uc_char, uc_obj, gl_0, gl_s, sl_0, sl_s, wA, wR, wK, ceW_1, ceN_2, ceN_3, ceN_4, ceN_5, ceN_6, ceN_7, ceN_8, c_t, bu, QW_w, true_and, and_true, Bool.not_false, Option.toList_some, Option.toList_none, List.cons_append, List.nil_append, List.singleton_append, Int.cast_ofNat_Int, Int.natCast_zero, Int.natCast_one, true_implies, implies_true, not_true_eq_false, not_false_eq_true, ne_eq, eq_self, true_or, or_true, or_false, false_or, and_self, Int.reduceNeg, Int.reduceLE, Int.reduceLT, Int.reduceEq, Int.reduceAdd, Int.reduceSub, Int.reduceMul, Int.reduceNe, Nat.reduceAdd, Nat.reduceSub, Nat.reduceLeDiff, Nat.reduceLT, Nat.reduceEqDiff, Int.reduceToNat, Int.reduceNatCast, Int.reduceTDiv, Int.reduceTMod, false_implies, false_and, and_false, reduceIte, ite_true, ite_false]
    refine ⟨fun z => absurd z (by omega), fun _ => ?_⟩
    refine q_measureSpan (n := q.1) (sp := k) (by omega) (by omega) hkt (by omega) hLF (lfQ_cap hq b T _) (fun h' f1 t1 => ?_)
    simp only [vI_i, vJ_l, isI_i, isR_r, isR_c, aN_s, isA_s, okS_0, okS_s, isL_i, isL_l, isL_r, szV_i, szV_l, szV_r, szS_n, szS_c, pops_0, pops_s, icm_eq, icm_ne, icm_lt, icm_ge, icm_gt, icm_le, aG_s, oG_s, u_nil, v_aload0, u_astore0, u_astorec0, v_iload0, u_istore0, v_lload0, u_lstore0, v_aload1, u_astore1, u_astorec1, v_iload1, u_istore1, v_lload1, u_lstore1, v_aload2, u_astore2, u_astorec2, v_iload2, u_istore2, v_lload2, u_lstore2, v_aload3, u_astore3, u_astorec3, v_iload3, u_istore3, v_lload3, u_lstore3, v_aload, u_astore, v_iload, u_istore, v_lload, u_lstore, u_iconst, u_bipush, u_sipush, u_ldc, u_ldcs, u_ldc2, v_iinc, u_iadd, u_isub, u_imul, u_iand, u_idiv, u_irem, u_ineg, u_ladd, u_lmul, u_ldiv, u_lrem, u_lcmp, u_i2l, u_l2i, u_dup, u_dup2, u_pop, u_if, u_icmp, u_goto, u_switch, u_getf0, u_getf2, u_getf1, u_putf0, u_putf2, u_putf1, u_getst, v_iald, u_ialdc, v_iast, u_alen, u_newa, u_new, u_virt, u_spec, u_stat, w_iret, w_zret, u_lret, u_aret, u_vret, cV_s, cS_s, wc_v, wc_i, wc_s, vc_copy, uc_copyc, uc_min, uc_max, uc_abs, uc_char, uc_obj, gl_0, gl_s, sl_0, sl_s, wA, wR, wK, ceW_1, ceN_2, ceN_3, ceN_4, ceN_5, ceN_6, ceN_7, ceN_8, c_t, bu, QW_w, true_and, and_true, Bool.not_false, Option.toList_some, Option.toList_none, List.cons_append, List.nil_append, List.singleton_append, Int.cast_ofNat_Int, Int.natCast_zero, Int.natCast_one, true_implies, implies_true, not_true_eq_false, not_false_eq_true, ne_eq, eq_self, true_or, or_true, or_false, false_or, and_self, Int.reduceNeg, Int.reduceLE, Int.reduceLT, Int.reduceEq, Int.reduceAdd, Int.reduceSub, Int.reduceMul, Int.reduceNe, Nat.reduceAdd, Nat.reduceSub, Nat.reduceLeDiff, Nat.reduceLT, Nat.reduceEqDiff, Int.reduceToNat, Int.reduceNatCast, Int.reduceTDiv, Int.reduceTMod, false_implies, false_and, and_false, reduceIte, ite_true, ite_false, e5]
    refine ih h' (by omega) (h1.tr fun p x a b c => f1 p x (Or.inl a)) ((f1 15 4 (Or.inl (by decide))).trans h0) (TBL_J hn (by omega) (by omega) h2 f1) ?_
    have h3' := TBS_J hn hD h3 f1 (by omega)
    intro l' s' a1 a2 a3 a4
    by_cases e : s' = k
    · subst e
      have el : l' = l := by
        have hl' : l' = 0 ∨ l' = 1 ∨ l' = 2 := by omega
        have hl : l = 0 ∨ l = 1 ∨ l = 2 := by omega
        rcases hl' with rfl | rfl | rfl <;> rcases hl with rfl | rfl | rfl <;> simp only [dFo] at * <;> omega
      subst el
      intro i j u v w
      rw [t1 i j u v w]
      unfold spV
      by_cases e0 : (k : Int) = 0
      · have l0 := dFo_1 a2 (by omega) e0
        subst l0
        have hw : dq q = dpQ q := by
          unfold dq at l1 ⊢
          split at l1
          · omega
          · rename_i hx; rw [if_neg hx]
        simp only [if_pos e0]
        rw [e0, hS'.2.2.1.2.1, hS'.2.2.1.2.2]
        exact celV_bar hq (by omega) v
      · simp only [if_neg e0]
        rw [f1 28 k (Or.inl (by decide)), f1 29 k (Or.inl (by decide))]
        have := celV_sp hq (b := b) (T := T) (a := h 28 k) (s := h 29 k) (i := i) (j := j) (r := dq q - l' - 1) v
        rw [show dq q - l' = dq q - l' - 1 + 1 by omega]
        exact this
    · exact h3' l' s' a1 a2 a3 (by rw [Int.natCast_add]; omega)
theorem q_measure {b T : Int} (hS : SPOK g) (hq : QeOK q) (hb : BtOK b T) (hK : TK g q)
    (hQ : ∀ h : Nat → Int → Int, FrR g h → TBL h q b T (sFo (dq q)) → TBS h q b T 0 → h 15 4 = dFo (dq q - 1) → Q none (Mw h)) : Cg G (d + 3) 138 [vr 15, vi b, vi T] (Mw g) Q := by
  have hD := dq_le hq
  have hm := dFo_mono (a := dq q) (b := dq q) (Nat.le_refl _) hD
  have e1 : g 16 8 = dq q := hK.1.2.2.2.2.1.trans (dq_int hq)
  have t32 : Tg G (d + 3) (73, 42835) 138 32 [vr 15, vi b, vi T, vc 0] [vi (dFo (dq q - 1)), vr 15] (Mw g) (QW Q) := by
    refine T_b ok_X5_measure_32 ?_
    simp only [vI_i, vJ_l, isI_i, isR_r, isR_c, aN_s, isA_s, okS_0, okS_s, isL_i, isL_l, isL_r, szV_i, szV_l, szV_r, szS_n, szS_c, pops_0, pops_s, icm_eq, icm_ne, icm_lt, icm_ge, icm_gt, icm_le, aG_s, oG_s, u_nil, v_aload0, u_astore0, u_astorec0, v_iload0, u_istore0, v_lload0, u_lstore0, v_aload1, u_astore1, u_astorec1, v_iload1, u_istore1, v_lload1, u_lstore1, v_aload2, u_astore2, u_astorec2, v_iload2, u_istore2, v_lload2, u_lstore2, v_aload3, u_astore3, u_astorec3, v_iload3, u_istore3, v_lload3, u_lstore3, v_aload, u_astore, v_iload, u_istore, v_lload, u_lstore, u_iconst, u_bipush, u_sipush, u_ldc, u_ldcs, u_ldc2, v_iinc, u_iadd, u_isub, u_imul, u_iand, u_idiv, u_irem, u_ineg, u_ladd, u_lmul, u_ldiv, u_lrem, u_lcmp, u_i2l, u_l2i, u_dup, u_dup2, u_pop, u_if, u_icmp, u_goto, u_switch, u_getf0, u_getf2, u_getf1, u_putf0, u_putf2, u_putf1, u_getst, v_iald, u_ialdc, v_iast, u_alen, u_newa, u_new, u_virt, u_spec, u_stat, w_iret, w_zret, u_lret, u_aret, u_vret, cV_s, cS_s, wc_v, wc_i, wc_s, vc_copy, uc_copyc, uc_min, uc_max, uc_abs, uc_char, uc_obj, gl_0, gl_s, sl_0, sl_s, wA, wR, wK, ceW_1, ceN_2, ceN_3, ceN_4, ceN_5, ceN_6, ceN_7, ceN_8, c_t, bu, QW_w, true_and, and_true, Bool.not_false, Option.toList_some, Option.toList_none, List.cons_append, List.nil_append, List.singleton_append, Int.cast_ofNat_Int, Int.natCast_zero, Int.natCast_one, true_implies, implies_true, not_true_eq_false, not_false_eq_true, ne_eq, eq_self, true_or, or_true, or_false, false_or, and_self, Int.reduceNeg, Int.reduceLE, Int.reduceLT, Int.reduceEq, Int.reduceAdd, Int.reduceSub, Int.reduceMul, Int.reduceNe, Nat.reduceAdd, Nat.reduceSub, Nat.reduceLeDiff, Nat.reduceLT, Nat.reduceEqDiff, Int.reduceToNat, Int.reduceNatCast, Int.reduceTDiv, Int.reduceTMod, false_implies, false_and, and_false, reduceIte, ite_true, ite_false]
    have fr : FrR g (st g 15 4 (dFo (dq q - 1))) := fun p x _ _ c => st_nq c
    refine meas_leaves (g := st g 15 4 (dFo (dq q - 1))) (SP_R hS fr) hq hb (TK_R hK fr) (fun h f1 h0 t1 => ?_) (sFo (dq q)).toNat 0 _ (by have h1 := (dFo_mono (a := 0) (b := dq q) (by omega) hD).2.1; have h2 : sFo 0 = 1 := rfl; omega) FrR.rf rfl (fun s x y => absurd y (by omega))
    have hS' := SP_R hS (fr.tr f1)
    have hK' := TK_R hK (fr.tr f1)
    have e2 : h 16 8 = dq q := hK'.1.2.2.2.2.1.trans (dq_int hq)
    have e3 := (SP_24 hS' hD).2
    have e4 : wr (dFo (dq q) - 1) = dFo (dq q) - 1 := wr_of (by omega) (by omega)
    refine T_b ok_X5_measure_69 ?_
    simp only [vI_i, vJ_l, isI_i, isR_r, isR_c, aN_s, isA_s, okS_0, okS_s, isL_i, isL_l, isL_r, szV_i, szV_l, szV_r, szS_n, szS_c, pops_0, pops_s, icm_eq, icm_ne, icm_lt, icm_ge, icm_gt, icm_le, aG_s, oG_s, u_nil, v_aload0, u_astore0, u_astorec0, v_iload0, u_istore0, v_lload0, u_lstore0, v_aload1, u_astore1, u_astorec1, v_iload1, u_istore1, v_lload1, u_lstore1, v_aload2, u_astore2, u_astorec2, v_iload2, u_istore2, v_lload2, u_lstore2, v_aload3, u_astore3, u_astorec3, v_iload3, u_istore3, v_lload3, u_lstore3, v_aload, u_astore, v_iload, u_istore, v_lload, u_lstore, u_iconst, u_bipush, u_sipush, u_ldc, u_ldcs, u_ldc2, v_iinc, u_iadd, u_isub, u_imul, u_iand, u_idiv, u_irem, u_ineg, u_ladd, u_lmul, u_ldiv, u_lrem, u_lcmp, u_i2l, u_l2i, u_dup, u_dup2, u_pop, u_if, u_icmp, u_goto, u_switch, u_getf0, u_getf2, u_getf1, u_putf0, u_putf2, u_putf1, u_getst, v_iald, u_ialdc, v_iast, u_alen, u_newa, u_new, u_virt, u_spec, u_stat, w_iret, w_zret, u_lret, u_aret, u_vret, cV_s, cS_s, wc_v, wc_i, wc_s, vc_copy, uc_copyc, uc_min, uc_max, uc_abs, uc_char, uc_obj, gl_0, gl_s, sl_0, sl_s, wA, wR, wK, ceW_1, ceN_2, ceN_3, ceN_4, ceN_5, ceN_6, ceN_7, ceN_8, c_t, bu, QW_w, true_and, and_true, Bool.not_false, Option.toList_some, Option.toList_none, List.cons_append, List.nil_append, List.singleton_append, Int.cast_ofNat_Int, Int.natCast_zero, Int.natCast_one, true_implies, implies_true, not_true_eq_false, not_false_eq_true, ne_eq, eq_self, true_or, or_true, or_false, false_or, and_self, Int.reduceNeg, Int.reduceLE, Int.reduceLT, Int.reduceEq, Int.reduceAdd, Int.reduceSub, Int.reduceMul, Int.reduceNe, Nat.reduceAdd, Nat.reduceSub, Nat.reduceLeDiff, Nat.reduceLT, Nat.reduceEqDiff, Int.reduceToNat, Int.reduceNatCast, Int.reduceTDiv, Int.reduceTMod, false_implies, false_and, and_false, reduceIte, ite_true, ite_false, e2, e3, e4]
    refine ⟨by omega, ?_⟩
    rw [show dFo (dq q) - 1 = ((dFo (dq q)).toNat : Int) - 1 by omega]
    refine meas_spans (g := h) hS' hq hb hK' (h0.trans st_eq) t1 (fun h' f2 t2 t3 h4 => hQ h' ((fr.tr f1).tr f2) t2 t3 (h4.trans (h0.trans st_eq))) (dFo (dq q)).toNat h (by omega) FrR.rf rfl t1 (fun l sp a1 a2 a3 a4 => ?_)
    have hm2 := dFo_mono (a := l + 1) (b := dq q) (by omega) hD
    exact absurd a4 (by omega)
  refine C_t (a := [vr 15, vi b, vi T]) mo_138 rfl rfl (Nat.le_of_ble_eq_true rfl) ?_
  change Tg G _ (73, 42835) 138 0 [vr 15, vi b, vi T, vc 0] [] (Mw _) _
  by_cases hd0 : dq q = 0
  · rw [hd0] at e1 t32
    have e1' : g 16 8 = 0 := e1
    refine T_b ok_X5_measure_0 ?_
    simp only [vI_i, vJ_l, isI_i, isR_r, isR_c, aN_s, isA_s, okS_0, okS_s, isL_i, isL_l, isL_r, szV_i, szV_l, szV_r, szS_n, szS_c, pops_0, pops_s, icm_eq, icm_ne, icm_lt, icm_ge, icm_gt, icm_le, aG_s, oG_s, u_nil, v_aload0, u_astore0, u_astorec0, v_iload0, u_istore0, v_lload0, u_lstore0, v_aload1, u_astore1, u_astorec1, v_iload1, u_istore1, v_lload1, u_lstore1, v_aload2, u_astore2, u_astorec2, v_iload2, u_istore2, v_lload2, u_lstore2, v_aload3, u_astore3, u_astorec3, v_iload3, u_istore3, v_lload3, u_lstore3, v_aload, u_astore, v_iload, u_istore, v_lload, u_lstore, u_iconst, u_bipush, u_sipush, u_ldc, u_ldcs, u_ldc2, v_iinc, u_iadd, u_isub, u_imul, u_iand, u_idiv, u_irem, u_ineg, u_ladd, u_lmul, u_ldiv, u_lrem, u_lcmp, u_i2l, u_l2i, u_dup, u_dup2, u_pop, u_if, u_icmp, u_goto, u_switch, u_getf0, u_getf2, u_getf1, u_putf0, u_putf2, u_putf1, u_getst, v_iald, u_ialdc, v_iast, u_alen, u_newa, u_new, u_virt, u_spec, u_stat, w_iret, w_zret, u_lret, u_aret, u_vret, cV_s, cS_s, wc_v, wc_i, wc_s, vc_copy, uc_copyc, uc_min, uc_max, uc_abs, uc_char, uc_obj, gl_0, gl_s, sl_0, sl_s, wA, wR, wK, ceW_1, ceN_2, ceN_3, ceN_4, ceN_5, ceN_6, ceN_7, ceN_8, c_t, bu, QW_w, true_and, and_true, Bool.not_false, Option.toList_some, Option.toList_none, List.cons_append, List.nil_append, List.singleton_append, Int.cast_ofNat_Int, Int.natCast_zero, Int.natCast_one, true_implies, implies_true, not_true_eq_false, not_false_eq_true, ne_eq, eq_self, true_or, or_true, or_false, false_or, and_self, Int.reduceNeg, Int.reduceLE, Int.reduceLT, Int.reduceEq, Int.reduceAdd, Int.reduceSub, Int.reduceMul, Int.reduceNe, Nat.reduceAdd, Nat.reduceSub, Nat.reduceLeDiff, Nat.reduceLT, Nat.reduceEqDiff, Int.reduceToNat, Int.reduceNatCast, Int.reduceTDiv, Int.reduceTMod, false_implies, false_and, and_false, reduceIte, ite_true, ite_false, e1']
    exact t32
  · have e2 : wr ((dq q : Int) - 1) = ((dq q - 1 : Nat) : Int) := by rw [wr_of (by omega) (by omega)]; omega
    have e3 := (SP_24 hS (D := dq q - 1) (by omega)).2
    refine T_b ok_X5_measure_0 ?_
    simp only [vI_i, vJ_l, isI_i, isR_r, isR_c, aN_s, isA_s, okS_0, okS_s, isL_i, isL_l, isL_r, szV_i, szV_l, szV_r, szS_n, szS_c, pops_0, pops_s, icm_eq, icm_ne, icm_lt, icm_ge, icm_gt, icm_le, aG_s, oG_s, u_nil, v_aload0, u_astore0, u_astorec0, v_iload0, u_istore0, v_lload0, u_lstore0, v_aload1, u_astore1, u_astorec1, v_iload1, u_istore1, v_lload1, u_lstore1, v_aload2, u_astore2, u_astorec2, v_iload2, u_istore2, v_lload2, u_lstore2, v_aload3, u_astore3, u_astorec3, v_iload3, u_istore3, v_lload3, u_lstore3, v_aload, u_astore, v_iload, u_istore, v_lload, u_lstore, u_iconst, u_bipush, u_sipush, u_ldc, u_ldcs, u_ldc2, v_iinc, u_iadd, u_isub, u_imul, u_iand, u_idiv, u_irem, u_ineg, u_ladd, u_lmul, u_ldiv, u_lrem, u_lcmp, u_i2l, u_l2i, u_dup, u_dup2, u_pop, u_if, u_icmp, u_goto, u_switch, u_getf0, u_getf2, u_getf1, u_putf0, u_putf2, u_putf1, u_getst, v_iald, u_ialdc, v_iast, u_alen, u_newa, u_new, u_virt, u_spec, u_stat, w_iret, w_zret, u_lret, u_aret, u_vret, cV_s, cS_s, wc_v, wc_i, wc_s, vc_copy, uc_copyc, uc_min, uc_max, uc_abs, uc_char, uc_obj, gl_0, gl_s, sl_0, sl_s, wA, wR, wK, ceW_1, ceN_2, ceN_3, ceN_4, ceN_5, ceN_6, ceN_7, ceN_8, c_t, bu, QW_w, true_and, and_true, Bool.not_false, Option.toList_some, Option.toList_none, List.cons_append, List.nil_append, List.singleton_append, Int.cast_ofNat_Int, Int.natCast_zero, Int.natCast_one, true_implies, implies_true, not_true_eq_false, not_false_eq_true, ne_eq, eq_self, true_or, or_true, or_false, false_or, and_self, Int.reduceNeg, Int.reduceLE, Int.reduceLT, Int.reduceEq, Int.reduceAdd, Int.reduceSub, Int.reduceMul, Int.reduceNe, Nat.reduceAdd, Nat.reduceSub, Nat.reduceLeDiff, Nat.reduceLT, Nat.reduceEqDiff, Int.reduceToNat, Int.reduceNatCast, Int.reduceTDiv, Int.reduceTMod, false_implies, false_and, and_false, reduceIte, ite_true, ite_false, e1]
    refine ⟨fun _ => ?_, fun z => absurd z (by omega)⟩
    refine T_b ok_X5_measure_15 ?_
    simp only [vI_i, vJ_l, isI_i, isR_r, isR_c, aN_s, isA_s, okS_0, okS_s, isL_i, isL_l, isL_r, szV_i, szV_l, szV_r, szS_n, szS_c, pops_0, pops_s, icm_eq, icm_ne, icm_lt, icm_ge, icm_gt, icm_le, aG_s, oG_s, u_nil, v_aload0, u_astore0, u_astorec0, v_iload0, u_istore0, v_lload0, u_lstore0, v_aload1, u_astore1, u_astorec1, v_iload1, u_istore1, v_lload1, u_lstore1, v_aload2, u_astore2, u_astorec2, v_iload2, u_istore2, v_lload2, u_lstore2, v_aload3, u_astore3, u_astorec3, v_iload3, u_istore3, v_lload3, u_lstore3, v_aload, u_astore, v_iload, u_istore, v_lload, u_lstore, u_iconst, u_bipush, u_sipush, u_ldc, u_ldcs, u_ldc2, v_iinc, u_iadd, u_isub, u_imul, u_iand, u_idiv, u_irem, u_ineg, u_ladd, u_lmul, u_ldiv, u_lrem, u_lcmp, u_i2l, u_l2i, u_dup, u_dup2, u_pop, u_if, u_icmp, u_goto, u_switch, u_getf0, u_getf2, u_getf1, u_putf0, u_putf2, u_putf1, u_getst, v_iald, u_ialdc, v_iast, u_alen, u_newa, u_new, u_virt, u_spec, u_stat, w_iret, w_zret, u_lret, u_aret, u_vret, cV_s, cS_s, wc_v, wc_i, wc_s, vc_copy, uc_copyc, uc_min, uc_max, uc_abs, uc_char, uc_obj, gl_0, gl_s, sl_0, sl_s, wA, wR, wK, ceW_1, ceN_2, ceN_3, ceN_4, ceN_5, ceN_6, ceN_7, ceN_8, c_t, bu, QW_w, true_and, and_true, Bool.not_false, Option.toList_some, Option.toList_none, List.cons_append, List.nil_append, List.singleton_append, Int.cast_ofNat_Int, Int.natCast_zero, Int.natCast_one, true_implies, implies_true, not_true_eq_false, not_false_eq_true, ne_eq, eq_self, true_or, or_true, or_false, false_or, and_self, Int.reduceNeg, Int.reduceLE, Int.reduceLT, Int.reduceEq, Int.reduceAdd, Int.reduceSub, Int.reduceMul, Int.reduceNe, Nat.reduceAdd, Nat.reduceSub, Nat.reduceLeDiff, Nat.reduceLT, Nat.reduceEqDiff, Int.reduceToNat, Int.reduceNatCast, Int.reduceTDiv, Int.reduceTMod, false_implies, false_and, and_false, reduceIte, ite_true, ite_false, e1, e2, e3]
    exact ⟨by omega, t32⟩
end CLMEAS
