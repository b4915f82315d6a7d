/-! one instruction: arraycopy; calls -/
section ST5
variable {base : Nat} {adC adV : Nat → Nat} {cI : ClassId} {D : va_G} {ce : Cx} {l : Launch} {lim : Nat × Nat} {y d : Nat} {p : Program} {e : Env} {R : Room} {s : State} {m : MethodId} {args : Array Value} {below : List Frame} {meth : Method} {c : Code} {Z : State → Prop} {n0 s0 : Nat} {pc : Nat} {L S : List Vx} {M : Mx} {k : Kx} {K : Nat → Kx}
theorem vs_copy {Q : State → Prop} {H : Heap} {locs : List Loc} {cells slots : Nat} {cc : ByteArray} {ls : Array Slot} {rest : List Value} {cl : List vw_C} {A : Nat → Prop} {a : Nat} {tys : List (ClassId × FieldType)} {ws : va_W} {H0 : Heap}
    (hexec : p.tables.exec = Jvm.exec) (hb : c.code = cc) (hml : c.maxLocals = ls.size) {own : String} {index : Nat} (hown : s.vm.findClass own = some m.cls) (hlink : (Cond.methodLink own index arraycopyName).before args s = true) (hnat : (Cond.native arraycopyName).before args s = true) (hstat : (Cond.static arraycopyName).before args s = true) (hini : (Cond.initialized "java/lang/System").before args s = true)
    (hK : va_K D cl tys s) (hP : va_P D cl ws H) (hD : va_D A ws) (hS : va_S A H0 H locs) {b0 n0 : Nat} {scr : Cell} {f : Nat → Int32} (hc0 : H[b0]? = some scr) (hs2 : s.isArrayOf scr .int) (hs3 : scr.vm ≠ .unknown) (hs4 : n0 ≤ scr.slots.size) (hs5 : ∀ j : Nat, j < n0 → scr.slots[j]? = some (.int (f j))) (q1 t1 : Nat) {c1 : ClassId} {n1 : Nat} {g : Nat → Int32} (ha1 : ws[q1]? = some (a, .inl (c1, n1, .inl g))) (ht1 : tys[t1]? = some (c1, .int))
    {sp dp n : Int32} (h1 : ¬ sp < 0) (h2 : ¬ dp < 0) (h3 : ¬ n < 0) (h4 : sp.toNatClampNeg + n.toNatClampNeg ≤ n0) (h5 : dp.toNatClampNeg + n.toNatClampNeg ≤ n1)
    (hframes : 1 ≤ R.frames) (hlocals : (rest.map fun v => v.category).sum + 18 ≤ R.locals) (hdg : decode cc pc = .ok (.invokestatic index, 3))
    (kk : ∀ (H1 : Heap) (locs1 : List Loc), H1.size = H.size → va_P D cl (ws.set q1 (a, .inl (c1, n1, .inl (va_cpy f g sp.toNatClampNeg dp.toNatClampNeg n.toNatClampNeg)))) H1 → va_S A H0 H1 locs1 → W p l e R s m args below meth c H1 locs1 cells slots Q (F0 m (pc + 3) ls rest)) : W p l e R s m args below meth c H locs cells slots Q (F0 m pc ls (.int n :: .int dp :: .ref a :: .int sp :: .ref b0 :: rest)) := by
  have nn : ∀ z : Int32, ¬ z < 0 → z.toInt = (z.toNatClampNeg : Int) := by
    intro z hz
    have hz0 : (0 : Int) ≤ z.toInt := by
      have := Int32.not_lt.mp hz
      simpa using Int32.le_iff_toInt_le.mp this
    show z.toInt = ((z.toInt.toNat : Nat) : Int)
    omega
  intro T hT X
  have hc1 : H[a]? = some (vp_cell c1 (n1, .inl g)) := hP q1 _ ha1
  obtain ⟨hs6, k0, hk0, cm0, hkk0⟩ := hs2
  obtain ⟨-, k1, hk1, cm1, hkk1⟩ := (hK.2 t1 _ ht1).1 n1 (fun j => .int (g j))
  obtain ⟨vm', X', step⟩ := X.arraycopy hexec hown hlink hnat hstat hini (src := b0) (dst := a) (cs := scr) (cd := vp_cell c1 (n1, .inl g)) (srcPos := sp) (destPos := dp) (n := n) (by rw [hT]; exact hc0) (by rw [hT]; exact hc1)
    hs6 (fun _ h => by cases h) hs3 (fun h => by cases h) hk0 hk1 hkk0 hkk1 (by simp [refKind]) h1 h2 h3
    (by rw [nn sp h1, nn n h3]; omega)
    (by rw [nn dp h2, nn n h3]; show ¬ _ > ((arrV c1 n1 (fun j => .int (g j))).slots.size : Int); rw [arrV_size]; omega)
    (fun vm₁ _ i hi => by
      have e : scr.slots.getD (sp.toNatClampNeg + i) .null = .int (f (sp.toNatClampNeg + i)) := by
        rw [Array.getD_eq_getD_getElem?, hs5 _ (by omega)]
        rfl
      refine ⟨?_, ?_⟩
      · rw [e]; rfl
      · rw [e]; exact trivial)
    (g := F0 m pc ls (.int n :: .int dp :: .ref a :: .int sp :: .ref b0 :: rest)) rfl (by rw [hml]) (rest := rest) rfl (by rw [hb]; exact hdg) hframes (by show 2 * 0 + _ + 18 ≤ _; omega)
  have e1 : copied scr (vp_cell c1 (n1, .inl g)) sp dp n = vp_cell c1 (n1, .inl (va_cpy f g sp.toNatClampNeg dp.toNatClampNeg n.toNatClampNeg)) := va_copiedX (fun z => .int z) scr c1 f g hs5 h4
  rw [e1] at X' step
  have hl : a < H.size := (Array.getElem?_eq_some_iff.mp hc1).1
  have hheap : ((T.setVm vm').setCell a (vp_cell c1 (n1, .inl (va_cpy f g sp.toNatClampNeg dp.toNatClampNeg n.toNatClampNeg)))).heap = H.setIfInBounds a (vp_cell c1 (n1, .inl (va_cpy f g sp.toNatClampNeg dp.toNatClampNeg n.toNatClampNeg))) := by rw [← hT]; rfl
  have oq : ∀ q : Nat, q ≠ a → (H.setIfInBounds a (vp_cell c1 (n1, .inl (va_cpy f g sp.toNatClampNeg dp.toNatClampNeg n.toNatClampNeg))))[q]? = H[q]? := fun q hq => by simp [Array.getElem?_setIfInBounds, Ne.symm hq]
  obtain ⟨t, a1, b1⟩ := kk _ _ (by simp) (hP.set hD ha1 (show (H.setIfInBounds a _)[a]? = some _ by simp [Array.getElem?_setIfInBounds, hl]) oq) ⟨by simp; exact hS.1, fun q g1 g2 => by
      rw [oq q (fun e => g2 (by rw [e]; exact hD.2 q1 _ ha1))]
      exact hS.2.1 q g1 g2, fun q hq => by
      rcases List.mem_append.mp hq with h | h
      · exact hS.2.2 q h
      · obtain ⟨z, -, hz⟩ := List.mem_map.mp h
        rw [← hz]
        exact hD.2 q1 _ ha1⟩ _ hheap X'
  exact ⟨t, step t a1, b1⟩
theorem wfM_cpy {q : Nat} {src : Int → Int} {sp dp n : Int} (h : wfM M) (hx : ∀ i, inR (src i)) : wfM (M.1, M.2.1, M.2.2.1, M.2.2.2.1, cpy M.2.2.2.2 src sp q dp n) :=
  ⟨h.1, fun q' i' => by show inR (cpy _ _ _ _ _ _ q' i'); unfold cpy; split; exact hx _; exact h.2.1 q' i', h.2.2.1, h.2.2.2⟩
theorem cpy_ne {g : Nat → Int → Int} {src : Int → Int} {sp dp n : Int} {q q' : Nat} {i : Int} (h : q' ≠ q) : cpy g src sp q dp n q' i = g q' i := by unfold cpy; rw [if_neg (fun z => h z.1)]
theorem cpy_key {q : Nat} {len sp dp n : Int} {src : Int → Int} (hq : q < M.1) (hl : M.2.2.1 q = some (.inl len)) (h1 : 0 ≤ sp) (h2 : 0 ≤ dp) (h3 : 0 ≤ n) :
    ((wsO base adC cI M).set q (base + q, .inl (cI, len.toNat, .inl (va_cpy (fun j => Int32.ofInt (src j)) (fun j => Int32.ofInt (M.2.2.2.2 q j)) sp.toNat dp.toNat n.toNat)))) = wsO base adC cI (M.1, M.2.1, M.2.2.1, M.2.2.2.1, cpy M.2.2.2.2 src sp q dp n) := by
  refine wsO_set rfl hq ?_ (fun q' hq' => ceOf_same rfl (fun _ => rfl) (fun i => cpy_ne hq'))
  rw [ceOf_a (M := (M.1, M.2.1, M.2.2.1, M.2.2.2.1, cpy M.2.2.2.2 src sp q dp n)) hl]
  congr 4
  funext j
  unfold va_cpy
  show Int32.ofInt (cpy M.2.2.2.2 src sp q dp n q j) = _
  unfold cpy
  by_cases hj : dp.toNat ≤ j ∧ j < dp.toNat + n.toNat
  · rw [if_pos ⟨rfl, by omega, by omega⟩, if_pos hj]
    congr 2
    omega
  · rw [if_neg (fun z => hj (by omega)), if_neg hj]
theorem s_copy {idx : Nat} (hlnk : .methodLink (mN y).cls idx arraycopyName ∈ gW) (hC : CX base adC adV cI D ce y d p R s m args meth c) (hd : decode (mC y) pc = .ok (.invokestatic idx, 3)) (hw : wf3 L S M) (h : match (generalizing := false) S with
    | .inl n :: .inl dp :: .inr (.inr (.inl q)) :: .inl sp :: .inr (.inr (.inl q0)) :: S => szS S ≤ 8 ∧ aG (M.2.2.1 q) fun len => aG (M.2.2.1 q0) fun len0 => (q ≠ q0 ∧ 0 ≤ sp ∧ 0 ≤ dp ∧ 0 ≤ n ∧ sp + n ≤ len0 ∧ dp + n ≤ len) ∧ k L S (M.1, M.2.1, M.2.2.1, M.2.2.2.1, cpy M.2.2.2.2 (M.2.2.2.2 q0) sp q dp n)
    | .inl n :: .inl dp :: .inr (.inr (.inl q)) :: .inl sp :: .inr (.inr (.inr j)) :: S => szS S ≤ 8 ∧ aG (M.2.2.1 q) fun len => (0 ≤ sp ∧ 0 ≤ dp ∧ 0 ≤ n ∧ sp + n ≤ (ce j).1 ∧ dp + n ≤ len ∧ 0 < j ∧ j < 7) ∧ k L S (M.1, M.2.1, M.2.2.1, M.2.2.2.1, cpy M.2.2.2.2 ((ce j).2) sp q dp n)
    | _ => False) (hk : ∀ L' S' M', wf3 L' S' M' → k L' S' M' → AtW base adC cI D l lim y p e R s m args below meth c Z n0 s0 (pc + 3) L' S' M') : AtW base adC cI D l lim y p e R s m args below meth c Z n0 s0 pc L S M := by
  intro H locs cells slots ls hR hS h1 h2 h3 h4 hL
  obtain ⟨hx, hb, hml, hown, hts, hKK, hKF, hnm, hrt, hlk0, hfr, hlo, hbs⟩ := hC
  rcases S with _ | ⟨n | n | n | n, S⟩ <;> try exact h.elim
  rcases S with _ | ⟨dp | dp | dp | dp, S⟩ <;> try exact h.elim
  rcases S with _ | ⟨q | q | q | q, S⟩ <;> try exact h.elim
  rcases S with _ | ⟨sp | sp | sp | sp, S⟩ <;> try exact h.elim
  rcases S with _ | ⟨q0 | q0 | q0 | q0, S⟩ <;> try exact h.elim
  · obtain ⟨hsz, h⟩ := h
    have hn : inR n := wf_hd hw
    have hdp : inR dp := wf_hd (wf_tl hw)
    have hsp : inR sp := wf_hd (wf_tl (wf_tl (wf_tl hw)))
    have nneg : ∀ {x : Int}, inR x → 0 ≤ x → ¬ Int32.ofInt x < 0 := fun hx h0 z => by have := (i32_lt hx in_0).mp (by rw [i32_0]; exact z); omega
    obtain ⟨len, hl, h⟩ := aG_inv h
    obtain ⟨len0, hl0, ⟨hne, g1, g2, g3, g4, g5⟩, h⟩ := aG_inv h
    have hq0 : q < M.1 := hw.1.1 q (by rw [hl]; simp)
    have hq1 : q0 < M.1 := hw.1.1 q0 (by rw [hl0]; simp)
    have w0 := hw.1.2.2.1 q len hl
    have w1 := hw.1.2.2.1 q0 len0 hl0
    have hc := hR.1 q0 _ (wsO_at hq1)
    rw [ceOf_a hl0] at hc
    refine vs_copy (n0 := len0.toNat) (n1 := len.toNat) (f := fun j => Int32.ofInt (M.2.2.2.2 q0 j)) (g := fun j => Int32.ofInt (M.2.2.2.2 q j)) (c1 := cI) hx hb (by rw [hml]; exact hL.2.1.symm) hown (hts _ hlnk) (hts _ k_ac1) (hts _ k_ac2) (hts _ k_ac3) hKK hR.1 wsO_D hS hc ((hKK.2 0 _ rfl).1 len0.toNat (fun j => .int (Int32.ofInt (M.2.2.2.2 q0 j)))) (fun z => by cases z) (by show _ ≤ (arrV cI len0.toNat _).slots.size; rw [arrV_size]; exact Nat.le_refl _) (fun j hj => by show (arrV cI len0.toNat _).slots[j]? = _; rw [arrV_read _ _ hj]) q 0 (by rw [wsO_at hq0, ceOf_a hl]) rfl (nneg hsp g1) (nneg hdp g2) (nneg hn g3) (by rw [i32_clamp hsp, i32_clamp hn]; omega) (by rw [i32_clamp hdp, i32_clamp hn]; omega) (by omega) (by rw [szS_cat]; omega) hd (fun H1 locs1 hz hP hS1 => ?_)
    rw [i32_clamp hsp, i32_clamp hn, i32_clamp hdp, cpy_key hq0 hl g1 g2 g3] at hP
    exact hk _ _ _ ⟨wfM_cpy hw.1 (fun i => hw.1.2.1 q0 i), hw.2.1, (wf_tl (wf_tl (wf_tl (wf_tl (wf_tl hw))))).2.2⟩ h H1 locs1 cells slots ls ⟨hP, hz.trans hR.2⟩ hS1 h1 h2 h3 h4 hL
  · obtain ⟨hsz, h⟩ := h
    have hn : inR n := wf_hd hw
    have hdp : inR dp := wf_hd (wf_tl hw)
    have hsp : inR sp := wf_hd (wf_tl (wf_tl (wf_tl hw)))
    have nneg : ∀ {x : Int}, inR x → 0 ≤ x → ¬ Int32.ofInt x < 0 := fun hx h0 z => by have := (i32_lt hx in_0).mp (by rw [i32_0]; exact z); omega
    obtain ⟨len, hl, ⟨g1, g2, g3, g4, g5, g6, g7⟩, h⟩ := aG_inv h
    have hq0 : q < M.1 := hw.1.1 q (by rw [hl]; simp)
    have w0 := hw.1.2.2.1 q len hl
    obtain ⟨⟨⟨f1, f2⟩, f3⟩, hT⟩ := hKF.1 q0 g6 g7
    obtain ⟨j, rfl⟩ : ∃ j, q0 = j + 1 := ⟨q0 - 1, by omega⟩
    obtain ⟨scr, t1, t2, t3, t4, t5, t6, t7⟩ := hT
    have hc : H[adC (j + 1)]? = some scr := by rw [hS.2.1 _ (Array.getElem?_eq_some_iff.mp t1).1 t7]; exact t1
    refine vs_copy (n0 := (ce (j + 1)).1.toNat) (n1 := len.toNat) (f := fun i => Int32.ofInt ((ce (j + 1)).2 i)) (g := fun j => Int32.ofInt (M.2.2.2.2 q j)) (c1 := cI) hx hb (by rw [hml]; exact hL.2.1.symm) hown (hts _ hlnk) (hts _ k_ac1) (hts _ k_ac2) (hts _ k_ac3) hKK hR.1 wsO_D hS hc t2 t3 t4 t6 q 0 (by rw [wsO_at hq0, ceOf_a hl]) rfl (nneg hsp g1) (nneg hdp g2) (nneg hn g3) (by rw [i32_clamp hsp, i32_clamp hn]; omega) (by rw [i32_clamp hdp, i32_clamp hn]; omega) (by omega) (by rw [szS_cat]; omega) hd (fun H1 locs1 hz hP hS1 => ?_)
    rw [i32_clamp hsp, i32_clamp hn, i32_clamp hdp, cpy_key hq0 hl g1 g2 g3] at hP
    exact hk _ _ _ ⟨wfM_cpy hw.1 f3, hw.2.1, (wf_tl (wf_tl (wf_tl (wf_tl (wf_tl hw))))).2.2⟩ h H1 locs1 cells slots ls ⟨hP, hz.trans hR.2⟩ hS1 h1 h2 h3 h4 hL
end ST5
