/-! one instruction: new cells; the library's methods -/
theorem dfX0 : ∀ k, k < 3 → (parseFieldDescriptor (TX0 k).2.2.1).map defaultValue = some (if fI 0 k = true then .int 0 else .null) := by decide +kernel
theorem dfX1 : ∀ k, k < 3 → (parseFieldDescriptor (TX1 k).2.2.1).map defaultValue = some (if fI 1 k = true then .int 0 else .null) := by decide +kernel
theorem dfX2 : ∀ k, k < 4 → (parseFieldDescriptor (TX2 k).2.2.1).map defaultValue = some (if fI 2 k = true then .int 0 else .null) := by decide +kernel
theorem dfX3 : ∀ k, k < 11 → (parseFieldDescriptor (TX3 k).2.2.1).map defaultValue = some (if fI 3 k = true then .int 0 else .null) := by decide +kernel
theorem dfX4 : ∀ k, k < 10 → (parseFieldDescriptor (TX4 k).2.2.1).map defaultValue = some (if fI 4 k = true then .int 0 else .null) := by decide +kernel
theorem dfX5 : ∀ k, k < 8 → (parseFieldDescriptor (TX5 k).2.2.1).map defaultValue = some (if fI 5 k = true then .int 0 else .null) := by decide +kernel
theorem dfX6 : ∀ k, k < 13 → (parseFieldDescriptor (TX6 k).2.2.1).map defaultValue = some (if fI 6 k = true then .int 0 else .null) := by decide +kernel
theorem dfX7 : ∀ k, k < 7 → (parseFieldDescriptor (TX7 k).2.2.1).map defaultValue = some (if fI 7 k = true then .int 0 else .null) := by decide +kernel
theorem dfX8 : ∀ k, k < 7 → (parseFieldDescriptor (TX8 k).2.2.1).map defaultValue = some (if fI 8 k = true then .int 0 else .null) := by decide +kernel
theorem dfX9 : ∀ k, k < 45 → (parseFieldDescriptor (TX9 k).2.2.1).map defaultValue = some (if fI 9 k = true then .int 0 else .null) := by decide +kernel
theorem clG {ci : Nat} {q : vw_C} (h : vwCl[ci]? = some q) : ∀ k, k < q.2.2 → (parseFieldDescriptor (q.2.1 k).2.2.1).map defaultValue = some (if fI ci k = true then .int 0 else .null) := by
  match ci, h with
  | 0, h => cases h; exact dfX0
  | 1, h => cases h; exact dfX1
  | 2, h => cases h; exact dfX2
  | 3, h => cases h; exact dfX3
  | 4, h => cases h; exact dfX4
  | 5, h => cases h; exact dfX5
  | 6, h => cases h; exact dfX6
  | 7, h => cases h; exact dfX7
  | 8, h => cases h; exact dfX8
  | 9, h => cases h; exact dfX9
  | k + 10, h => simp [vwCl] at h
section ST4
variable {base : Nat} {adC adV : Nat → Nat} {cI : ClassId} {D : va_G} {ce : Cx} {l : Launch} {lim : Nat × Nat} {y d : Nat} {p : Program} {e : Env} {R : Room} {s : State} {m : MethodId} {args : Array Value} {below : List Frame} {meth : Method} {c : Code} {Z : State → Prop} {n0 s0 : Nat} {pc : Nat} {L S : List Vx} {M : Mx} {k : Kx} {K : Nat → Kx}
theorem shs_eq {f : Sx} {q : Nat} {x : Int ⊕ Nat} : shs f q x q = some x := by unfold shs; rw [if_pos rfl]
theorem shs_ne {f : Sx} {q q' : Nat} {x : Int ⊕ Nat} (h : q' ≠ q) : shs f q x q' = f q' := by unfold shs; rw [if_neg h]
theorem stz_eq {g : Nat → Int → Int} {q : Nat} {i : Int} : stz g q q i = 0 := by unfold stz; rw [if_pos rfl]
theorem stz_ne {g : Nat → Int → Int} {q q' : Nat} {i : Int} (h : q' ≠ q) : stz g q q' i = g q' i := by unfold stz; rw [if_neg h]
theorem rstz_eq {g : Nat → Nat → Vx} {q : Nat} {i : Nat} : rstz g q q i = vc 0 := by unfold rstz; rw [if_pos rfl]
theorem rstz_ne {g : Nat → Nat → Vx} {q q' : Nat} {i : Nat} (h : q' ≠ q) : rstz g q q' i = g q' i := by unfold rstz; rw [if_neg h]
theorem wfM_new {z : Nat} {x : Int ⊕ Nat} (h : wfM M) (hx : ∀ n, x = .inl n → 0 ≤ n ∧ n < 2147483648) : wfM (M.1 + 1, z, shs M.2.2.1 M.1 x, rstz M.2.2.2.1 M.1, stz M.2.2.2.2 M.1) := by
  refine ⟨fun q hq => ?_, fun q i => ?_, fun q n hn => ?_, fun q j => ?_⟩
  · by_cases e : q = M.1
    · show q < M.1 + 1; omega
    · have := h.1 q (by rw [← shs_ne (f := M.2.2.1) (x := x) e]; exact hq)
      show q < M.1 + 1; omega
  · by_cases e : q = M.1
    · subst e; show inR (stz _ _ _ _); rw [stz_eq]; exact in_0
    · show inR (stz _ _ _ _); rw [stz_ne e]; exact h.2.1 q i
  · by_cases e : q = M.1
    · subst e
      have hn : shs M.2.2.1 M.1 x M.1 = _ := hn
      rw [shs_eq] at hn
      exact hx n (Option.some.inj hn)
    · have hn : shs M.2.2.1 M.1 x q = _ := hn
      rw [shs_ne e] at hn
      exact h.2.2.1 q n hn
  · by_cases e : q = M.1
    · subst e; show wfV (rstz _ _ _ _); rw [rstz_eq]; trivial
    · show wfV (rstz _ _ _ _); rw [rstz_ne e]; exact h.2.2.2 q j
theorem RS_new {z : Nat} {x : Int ⊕ Nat} {H H1 : Heap} (hR : RS base adC cI D M H) (hz : H1.size = H.size + 1) (ho : ∀ q, q < H.size → H1[q]? = H[q]?) (hn : va_at D vwCl (base + M.1, ceOf base adC cI (M.1 + 1, z, shs M.2.2.1 M.1 x, rstz M.2.2.2.1 M.1, stz M.2.2.2.2 M.1) M.1) H1) :
    RS base adC cI D (M.1 + 1, z, shs M.2.2.1 M.1 x, rstz M.2.2.2.1 M.1, stz M.2.2.2.2 M.1) H1 := by
  refine ⟨?_, by rw [hz, hR.2]; rfl⟩
  rw [← wsO_push (M := M) rfl (fun q' hq' => ceOf_same (shs_ne (Nat.ne_of_lt hq')) (fun _ => rstz_ne (Nat.ne_of_lt hq')) (fun _ => stz_ne (Nat.ne_of_lt hq')))]
  refine (hR.1.kept (fun k x hx => ho x.1 ((hR.1 k x hx).lt))).app (fun k x hx => ?_)
  have hk : k < 1 := (List.getElem?_eq_some_iff.mp hx).1
  rw [show k = 0 by omega] at hx
  cases hx
  exact hn
theorem vS_new {A : Nat → Prop} {H0 H H1 : Heap} {locs : List Loc} (h : va_S A H0 H locs) (hz : H1.size = H.size + 1) (ho : ∀ q, q < H.size → H1[q]? = H[q]?) : va_S A H0 H1 locs :=
  ⟨Nat.le_trans h.1 (by omega), fun x a b => (ho x (Nat.lt_of_lt_of_le a h.1)).trans (h.2.1 x a b), h.2.2⟩
theorem s_newa (hlim : lim = (n0 + R.cells, s0 + R.slots)) (hlnk : .arrayClass .int ∈ gW) (hC : CX base adC adV cI D ce y d p R s m args meth c) (hd : decode (mC y) pc = .ok (.newarray .int, 2)) (hw : wf3 L S M) (h : match (generalizing := false) S with | .inl n :: S => (0 ≤ n ∧ n < 100000000 ∧ M.1 + 1 ≤ lim.1 ∧ M.2.1 + n.toNat ≤ lim.2) ∧ k L (.inr (.inr (.inl M.1)) :: S) (M.1 + 1, M.2.1 + n.toNat, shs M.2.2.1 M.1 (.inl n), rstz M.2.2.2.1 M.1, stz M.2.2.2.2 M.1) | _ => False) (hk : ∀ L' S' M', wf3 L' S' M' → k L' S' M' → AtW base adC cI D l lim y p e R s m args below meth c Z n0 s0 (pc + 2) L' S' M') : AtW base adC cI D l lim y p e R s m args below meth c Z n0 s0 pc L S M := by
  intro H locs cells slots ls hR hS h1 h2 h3 h4 hL
  obtain ⟨hx, hb, hml, hown, hts, hKK, hKF, hnm, hrt, hlk0, hfr, hlo, hbs⟩ := hC
  rcases S with _ | ⟨v | v | v | v, S⟩ <;> try exact h.elim
  obtain ⟨⟨g1, g2, g3, g4⟩, h⟩ := h
  have hv : inR v := wf_hd hw
  rw [hlim] at g3 g4
  simp only at g3 g4
  refine va_newaK (atype := .int) (N := v.toNat) hx hb (hts _ hlnk) rfl hd rfl (fun q => by have := (i32_lt hv in_0).mp (by rw [i32_0]; exact q); omega) (i32_clamp hv) (by show v.toNat * 4 ≤ _; omega) (by omega) (by omega) hR.2 fun H1 cA e1 z1 o1 hAr hNm => ?_
  have hcA : cA = cI := by
    have h8 := (hKK.2 0 _ rfl).2
    exact Option.some.inj (hNm.symm.trans h8)
  subst hcA
  rw [← hR.2] at z1 o1
  refine hk _ _ _ (wf_cons (v := vr M.1) ⟨wfM_new hw.1 (fun n hn => by cases hn; omega), hw.2.1, (wf_tl hw).2.2⟩ trivial) h H1 locs (cells + 1) (slots + v.toNat) ls (RS_new hR z1 o1 ?_) (vS_new hS z1 o1) (by show n0 + (cells + 1) = M.1 + 1; omega) (by show s0 + (slots + v.toNat) = M.2.1 + v.toNat; omega) (by rw [hlim]; exact g3) (by rw [hlim]; exact g4) hL
  rw [ceOf_a (M := (M.1 + 1, M.2.1 + v.toNat, shs M.2.2.1 M.1 (.inl v), rstz M.2.2.2.1 M.1, stz M.2.2.2.2 M.1)) shs_eq]
  show H1[base + M.1]? = some (vp_cell _ _)
  rw [e1, vp_cell_i]
  simp only [stz_eq]
  rfl
theorem s_new {idx ci a : Nat} {z : Int} (hlim : lim = (n0 + R.cells, s0 + R.slots)) (hlnk : lnk y (.new idx, ci, a, z)) (hC : CX base adC adV cI D ce y d p R s m args meth c) (hd : decode (mC y) pc = .ok (.new idx, 3)) (hw : wf3 L S M) (h : (M.1 + 1 ≤ lim.1 ∧ M.2.1 + nF ci ≤ lim.2) ∧ k L (.inr (.inr (.inl M.1)) :: S) (M.1 + 1, M.2.1 + nF ci, shs M.2.2.1 M.1 (.inr ci), rstz M.2.2.2.1 M.1, stz M.2.2.2.2 M.1)) (hk : ∀ L' S' M', wf3 L' S' M' → k L' S' M' → AtW base adC cI D l lim y p e R s m args below meth c Z n0 s0 (pc + 3) L' S' M') : AtW base adC cI D l lim y p e R s m args below meth c Z n0 s0 pc L S M := by
  intro H locs cells slots ls hR hS h1 h2 h3 h4 hL
  obtain ⟨hx, hb, hml, hown, hts, hKK, hKF, hnm, hrt, hlk0, hfr, hlo, hbs⟩ := hC
  obtain ⟨⟨g3, g4⟩, h⟩ := h
  rw [hlim] at g3 g4
  simp only at g3 g4
  obtain ⟨q, hq, hl1, hl2, hl3⟩ := hlnk
  have hn := nF_of hq
  obtain ⟨C, T, N⟩ := q
  obtain ⟨f1, ⟨ty, f2⟩, f3⟩ := clF hq
  have f4 := clG hq
  have hKn := hKK.1 ci _ hq
  have hn' : nF ci = N := hn
  rw [hn'] at g4
  refine W.newcK hx hb hown (hts _ hl1) (hts _ hl2) (hts _ hl3) rfl hd (by omega) (show slots + N ≤ R.slots by omega) hKn.2.1 hR.2 fun H1 kC hkC e1 z1 o1 => ?_
  rw [← hR.2] at z1 o1
  refine hk _ _ _ (wf_cons (v := vr M.1) ⟨wfM_new hw.1 (fun n hn => by cases hn), hw.2.1, hw.2.2⟩ trivial) h H1 locs (cells + 1) (slots + N) ls (RS_new hR z1 o1 ?_) (vS_new hS z1 o1) (by show n0 + (cells + 1) = M.1 + 1; omega) (by show s0 + (slots + N) = M.2.1 + nF ci; rw [hn]; show s0 + (slots + N) = M.2.1 + N; omega) (by rw [hlim]; exact g3) (by rw [hlim]; show M.2.1 + nF ci ≤ s0 + R.slots; rw [hn]; exact g4) hL
  rw [ceOf_o (M := (M.1 + 1, M.2.1 + nF ci, shs M.2.2.1 M.1 (.inr ci), rstz M.2.2.2.1 M.1, stz M.2.2.2.2 M.1)) shs_eq]
  refine ⟨_, hq, (u_born ty hts f1 hKn hkC e1 f2).to (fun j hj => ?_)⟩
  have h5 := f4 j hj
  rw [f2 j hj] at h5
  have h6 : defaultValue (ty j) = if fI ci j = true then .int 0 else .null := Option.some.inj h5
  show defaultValue (ty j) = (fsOf base adC _ M.1 ci).getD j .null
  rw [h6, List.getD_eq_getElem?_getD, fs_at (by rw [hn]; exact hj)]
  by_cases hf : fI ci j = true
  · simp only [hf, if_true, stz_eq]; rfl
  · simp only [hf, rstz_eq]; rfl
theorem szS_cat : ∀ S : List Vx, ((S.map (cv base adC)).map fun v => v.category).sum = szS S
  | [] => rfl
  | v :: S => by
    have h : (cv base adC v).category = szV v := by
      rcases v with v | v | v | v
      · rfl
      · rfl
      · rfl
      · cases v <;> rfl
    simp only [List.map_cons, List.sum_cons, szS, h, szS_cat S]
theorem gw_has {w : Cond} (h : (decide (w ∈ lw_tbl) && goodWord w) = true) : w ∈ gW := by
  rw [Bool.and_eq_true, decide_eq_true_eq] at h
  exact gW_t h.1 h.2
theorem k_mstat1 : .static Lib.Math.min.name ∈ gW := gw_has (by decide +kernel)
theorem k_mstat2 : .static Lib.Math.max.name ∈ gW := gw_has (by decide +kernel)
theorem k_mstat3 : .static Lib.Math.abs.name ∈ gW := gw_has (by decide +kernel)
theorem k_mini : .initialized "java/lang/Math" ∈ gW := gw_has (by decide +kernel)
theorem k_mc1 : .code Lib.Math.min.name Lib.Math.min.code 2 (some .int) ∈ gW := gw_has (by decide +kernel)
theorem k_mc2 : .code Lib.Math.max.name Lib.Math.max.code 2 (some .int) ∈ gW := gw_has (by decide +kernel)
theorem k_mc3 : .code Lib.Math.abs.name Lib.Math.abs.code 1 (some .int) ∈ gW := gw_has (by decide +kernel)
theorem k_oi1 : .instanceMethod Lib.objectInit ∈ gW := gw_has (by decide +kernel)
theorem k_oi2 : .code Lib.objectInit ⟨#[0xb1]⟩ 1 none ∈ gW := gw_has (by decide +kernel)
theorem k_ac1 : .native arraycopyName ∈ gW := gw_has (by decide +kernel)
theorem k_ac2 : .static arraycopyName ∈ gW := gw_has (by decide +kernel)
theorem k_ac3 : .initialized "java/lang/System" ∈ gW := gw_has (by decide +kernel)
theorem s_min {idx : Nat} (hlim : lim = (n0 + R.cells, s0 + R.slots)) (hlnk : .methodLink (mN y).cls idx Lib.Math.min.name ∈ gW) (hC : CX base adC adV cI D ce y d p R s m args meth c) (hd : decode (mC y) pc = .ok (.invokestatic idx, 3)) (hw : wf3 L S M) (h : match (generalizing := false) S with | .inl b :: .inl a :: S => szS S ≤ 8 ∧ k L (.inl (min a b) :: S) M | _ => False) (hk : ∀ L' S' M', wf3 L' S' M' → k L' S' M' → AtW base adC cI D l lim y p e R s m args below meth c Z n0 s0 (pc + 3) L' S' M') : AtW base adC cI D l lim y p e R s m args below meth c Z n0 s0 pc L S M := by
  intro H locs cells slots ls hR hS h1 h2 h3 h4 hL
  obtain ⟨hx, hb, hml, hown, hts, hKK, hKF, hnm, hrt, hlk0, hfr, hlo, hbs⟩ := hC
  rcases S with _ | ⟨v | v | v | v, S⟩ <;> try exact h.elim
  rcases S with _ | ⟨w | w | w | w, S⟩ <;> try exact h.elim
  have hv : inR v := wf_hd hw
  have hu : inR w := wf_hd (wf_tl hw)
  rw [hlim] at h3 h4
  simp only at h3 h4
  refine va_mmin hx hb (by rw [hml]; exact hL.2.1.symm) hown (hts _ hlnk) (hts _ k_mstat1) (hts _ k_mini) (hts _ k_mc1) (by omega) (by rw [szS_cat]; omega) (by omega) (by omega) hd ?_
  rw [i32_min hu hv]
  exact hk _ _ _ (wf_ci (wf_tl (wf_tl hw)) (by unfold inR at *; omega)) h.2 H locs cells slots ls hR hS h1 h2 (by rw [hlim]; exact h3) (by rw [hlim]; exact h4) hL
theorem s_max {idx : Nat} (hlim : lim = (n0 + R.cells, s0 + R.slots)) (hlnk : .methodLink (mN y).cls idx Lib.Math.max.name ∈ gW) (hC : CX base adC adV cI D ce y d p R s m args meth c) (hd : decode (mC y) pc = .ok (.invokestatic idx, 3)) (hw : wf3 L S M) (h : match (generalizing := false) S with | .inl b :: .inl a :: S => szS S ≤ 8 ∧ k L (.inl (max a b) :: S) M | _ => False) (hk : ∀ L' S' M', wf3 L' S' M' → k L' S' M' → AtW base adC cI D l lim y p e R s m args below meth c Z n0 s0 (pc + 3) L' S' M') : AtW base adC cI D l lim y p e R s m args below meth c Z n0 s0 pc L S M := by
  intro H locs cells slots ls hR hS h1 h2 h3 h4 hL
  obtain ⟨hx, hb, hml, hown, hts, hKK, hKF, hnm, hrt, hlk0, hfr, hlo, hbs⟩ := hC
  rcases S with _ | ⟨v | v | v | v, S⟩ <;> try exact h.elim
  rcases S with _ | ⟨w | w | w | w, S⟩ <;> try exact h.elim
  have hv : inR v := wf_hd hw
  have hu : inR w := wf_hd (wf_tl hw)
  rw [hlim] at h3 h4
  simp only at h3 h4
  refine va_mmax hx hb (by rw [hml]; exact hL.2.1.symm) hown (hts _ hlnk) (hts _ k_mstat2) (hts _ k_mini) (hts _ k_mc2) (by omega) (by rw [szS_cat]; omega) (by omega) (by omega) hd ?_
  rw [i32_max hu hv]
  exact hk _ _ _ (wf_ci (wf_tl (wf_tl hw)) (by unfold inR at *; omega)) h.2 H locs cells slots ls hR hS h1 h2 (by rw [hlim]; exact h3) (by rw [hlim]; exact h4) hL
theorem s_abs {idx : Nat} (hlim : lim = (n0 + R.cells, s0 + R.slots)) (hlnk : .methodLink (mN y).cls idx Lib.Math.abs.name ∈ gW) (hC : CX base adC adV cI D ce y d p R s m args meth c) (hd : decode (mC y) pc = .ok (.invokestatic idx, 3)) (hw : wf3 L S M) (h : match (generalizing := false) S with | .inl a :: S => szS S ≤ 8 ∧ k L (.inl (iab a) :: S) M | _ => False) (hk : ∀ L' S' M', wf3 L' S' M' → k L' S' M' → AtW base adC cI D l lim y p e R s m args below meth c Z n0 s0 (pc + 3) L' S' M') : AtW base adC cI D l lim y p e R s m args below meth c Z n0 s0 pc L S M := by
  intro H locs cells slots ls hR hS h1 h2 h3 h4 hL
  obtain ⟨hx, hb, hml, hown, hts, hKK, hKF, hnm, hrt, hlk0, hfr, hlo, hbs⟩ := hC
  rcases S with _ | ⟨v | v | v | v, S⟩ <;> try exact h.elim
  have hv : inR v := wf_hd hw
  rw [hlim] at h3 h4
  simp only at h3 h4
  refine va_mabs hx hb (by rw [hml]; exact hL.2.1.symm) hown (hts _ hlnk) (hts _ k_mstat3) (hts _ k_mini) (hts _ k_mc3) (by omega) (by rw [szS_cat]; omega) (by omega) (by omega) hd ?_
  rw [i32_abs hv]
  exact hk _ _ _ (wf_ci (wf_tl hw) (iab_in hv)) h.2 H locs cells slots ls hR hS h1 h2 (by rw [hlim]; exact h3) (by rw [hlim]; exact h4) hL
theorem s_obj {idx : Nat} (hlnk : .methodLink (mN y).cls idx Lib.objectInit ∈ gW) (hC : CX base adC adV cI D ce y d p R s m args meth c) (hd : decode (mC y) pc = .ok (.invokespecial idx, 3)) (hw : wf3 L S M) (h : match (generalizing := false) S with | .inr (.inr (.inl q)) :: S => szS S ≤ 8 ∧ k L S M | _ => False) (hk : ∀ L' S' M', wf3 L' S' M' → k L' S' M' → AtW base adC cI D l lim y p e R s m args below meth c Z n0 s0 (pc + 3) L' S' M') : AtW base adC cI D l lim y p e R s m args below meth c Z n0 s0 pc L S M := by
  intro H locs cells slots ls hR hS h1 h2 h3 h4 hL
  obtain ⟨hx, hb, hml, hown, hts, hKK, hKF, hnm, hrt, hlk0, hfr, hlo, hbs⟩ := hC
  rcases S with _ | ⟨v | v | v | v, S⟩ <;> try exact h.elim
  refine W.objInit hx hb hown (hts _ hlnk) (hts _ k_oi1) (hts _ k_oi2) rfl (by rw [hml]; exact hL.2.1) rfl hd (by omega) (by show 2 * 0 + ((S.map (cv base adC)).map fun v => v.category).sum + 12 ≤ _; rw [szS_cat]; omega) ?_
  exact hk _ _ _ (wf_tl hw) h.2 H locs cells slots ls hR hS h1 h2 h3 h4 hL
end ST4
