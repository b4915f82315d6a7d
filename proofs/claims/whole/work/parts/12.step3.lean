section ST3
variable {base : Nat} {adC adV : Nat → Nat} {cI : ClassId} {D : va_G} {ce : Cx} {l : Launch} {lim : Nat × Nat} {y d : Nat} {p : Program} {e : Env} {R : Room} {s : State} {m : MethodId} {args : Array Value} {below : List Frame} {meth : Method} {c : Code} {Z : State → Prop} {n0 s0 : Nat} {pc : Nat} {L S : List Vx} {M : Mx} {k : Kx} {K : Nat → Kx}
theorem aG_inv {o : Option (Int ⊕ Nat)} {f : Int → Prop} (h : aG o f) : ∃ n, o = some (.inl n) ∧ f n := by
  rcases o with _ | n | n
  · exact h.elim
  · exact ⟨n, rfl, h⟩
  · exact h.elim
theorem oG_inv {o : Option (Int ⊕ Nat)} {ci : Nat} {P : Prop} (h : oG o ci P) : o = some (.inr ci) ∧ P := by
  rcases o with _ | n | n
  · exact h.elim
  · exact h.elim
  · obtain ⟨rfl, h⟩ := h; exact ⟨rfl, h⟩
theorem ceOf_a {q : Nat} {n : Int} (h : M.2.2.1 q = some (.inl n)) : ceOf base adC cI M q = .inl (cI, n.toNat, .inl fun j => Int32.ofInt (M.2.2.2.2 q j)) := by unfold ceOf; rw [h]
theorem ceOf_o {q ci : Nat} (h : M.2.2.1 q = some (.inr ci)) : ceOf base adC cI M q = .inr (ci, fsOf base adC M q ci) := by unfold ceOf; rw [h]
theorem fs_len {q ci : Nat} : (fsOf base adC M q ci).length = nF ci := by simp [fsOf]
theorem fs_at {q ci j : Nat} (hj : j < nF ci) : (fsOf base adC M q ci)[j]? = some (if fI ci j = true then .int (Int32.ofInt (M.2.2.2.2 q j)) else cv base adC (M.2.2.2.1 q j)) := by
  simp [fsOf, List.getElem?_range hj]
theorem nF_of {ci : Nat} {q : vw_C} (h : vwCl[ci]? = some q) : nF ci = q.2.2 := by unfold nF; rw [h]
theorem s_getf {idx ci j : Nat} {z : Int} (hlnk : lnk y (.getfield idx, ci, j, z)) (hC : CX base adC adV cI D ce y d p R s m args meth c) (hd : decode (mC y) pc = .ok (.getfield idx, 3)) (hw : wf3 L S M) (h : match (generalizing := false) S with | .inr (.inr (.inl q)) :: S => oG (M.2.2.1 q) ci (if z = 1 then k L (M.2.2.2.1 q j :: S) M else k L (.inl (M.2.2.2.2 q j) :: S) M) | _ => False) (hk : ∀ L' S' M', wf3 L' S' M' → k L' S' M' → AtW base adC cI D l lim y p e R s m args below meth c Z n0 s0 (pc + 3) L' S' M') : AtW base adC cI D l lim y p e R s m args below meth c Z n0 s0 pc L S M := by
  intro H locs cells slots ls hR hS h1 h2 h3 h4 hL
  obtain ⟨hx, hb, hml, hown, hts, hKK, hKF, hnm, hrt, hlk0, hfr, hlo, hbs⟩ := hC
  rcases S with _ | ⟨v | v | v | v, S⟩ <;> try exact h.elim
  obtain ⟨ho, h⟩ := oG_inv h
  obtain ⟨q, hq, hj, hlk, hf⟩ := hlnk
  have hq0 : v < M.1 := hw.1.1 v (by rw [ho]; simp)
  have hn := nF_of hq
  obtain ⟨g1, -⟩ := clF hq
  have hat : (wsO base adC cI M)[v]? = some (base + v, .inr (ci, fsOf base adC M v ci)) := by rw [wsO_at hq0, ceOf_o ho]
  by_cases hz : z = 1
  · rw [if_pos hz] at h
    refine va_get (v := cv base adC (M.2.2.2.1 v j)) hx hb hts g1 hown hKK hR.1 v hat hq j hj (hts _ hlk) (fun _ h9 => h9) ?_ hd ?_
    · rw [fs_at (by rw [hn]; exact hj), hf]; simp [hz]
    · exact hk _ _ _ (wf_cons (wf_tl hw) (hw.1.2.2.2 v j)) h H locs cells slots ls hR hS h1 h2 h3 h4 hL
  · rw [if_neg hz] at h
    refine va_get (v := .int (Int32.ofInt (M.2.2.2.2 v j))) hx hb hts g1 hown hKK hR.1 v hat hq j hj (hts _ hlk) (fun _ h9 => h9) ?_ hd ?_
    · rw [fs_at (by rw [hn]; exact hj), hf]; simp [hz]
    · exact hk _ _ _ (wf_ci (wf_tl hw) (hw.1.2.1 v j)) h H locs cells slots ls hR hS h1 h2 h3 h4 hL
theorem wfM_st {q : Nat} {i x : Int} (h : wfM M) (hx : inR x) : wfM (M.1, M.2.1, M.2.2.1, M.2.2.2.1, st M.2.2.2.2 q i x) :=
  ⟨h.1, fun q' i' => by show inR (st _ _ _ _ q' i'); unfold st; split; exact hx; exact h.2.1 q' i', h.2.2.1, h.2.2.2⟩
theorem wfM_rst {q j : Nat} {v : Vx} (h : wfM M) (hv : wfV v) : wfM (M.1, M.2.1, M.2.2.1, rst M.2.2.2.1 q j v, M.2.2.2.2) :=
  ⟨h.1, h.2.1, h.2.2.1, fun q' i' => by show wfV (rst _ _ _ _ q' i'); unfold rst; split; exact hv; exact h.2.2.2 q' i'⟩
theorem st_ne {g : Nat → Int → Int} {q q' : Nat} {i i' v : Int} (h : q' ≠ q) : st g q i v q' i' = g q' i' := by unfold st; rw [if_neg (fun z => h z.1)]
theorem st_ni {g : Nat → Int → Int} {q q' : Nat} {i i' v : Int} (h : i' ≠ i) : st g q i v q' i' = g q' i' := by unfold st; rw [if_neg (fun z => h z.2)]
theorem st_eq {g : Nat → Int → Int} {q : Nat} {i v : Int} : st g q i v q i = v := by unfold st; rw [if_pos ⟨rfl, rfl⟩]
theorem rst_ne {g : Nat → Nat → Vx} {q q' : Nat} {i i' : Nat} {v : Vx} (h : q' ≠ q) : rst g q i v q' i' = g q' i' := by unfold rst; rw [if_neg (fun z => h z.1)]
theorem rst_ni {g : Nat → Nat → Vx} {q q' : Nat} {i i' : Nat} {v : Vx} (h : i' ≠ i) : rst g q i v q' i' = g q' i' := by unfold rst; rw [if_neg (fun z => h z.2)]
theorem rst_eq {g : Nat → Nat → Vx} {q : Nat} {i : Nat} {v : Vx} : rst g q i v q i = v := by unfold rst; rw [if_pos ⟨rfl, rfl⟩]
/-- memories that say the same of a place hold the same cell -/
theorem ceOf_same {M' : Mx} {q : Nat} (h1 : M'.2.2.1 q = M.2.2.1 q) (h2 : ∀ j, M'.2.2.2.1 q j = M.2.2.2.1 q j) (h3 : ∀ i, M'.2.2.2.2 q i = M.2.2.2.2 q i) : ceOf base adC cI M' q = ceOf base adC cI M q := by
  unfold ceOf fsOf
  rw [h1]
  simp only [h2, h3]
theorem fs_set {M' : Mx} {q ci j : Nat} {v : Value} (hj : j < nF ci) (h1 : (if fI ci j = true then .int (Int32.ofInt (M'.2.2.2.2 q j)) else cv base adC (M'.2.2.2.1 q j)) = v)
    (h2 : ∀ i, i ≠ j → (if fI ci i = true then Value.int (Int32.ofInt (M'.2.2.2.2 q i)) else cv base adC (M'.2.2.2.1 q i)) = if fI ci i = true then .int (Int32.ofInt (M.2.2.2.2 q i)) else cv base adC (M.2.2.2.1 q i)) : (fsOf base adC M q ci).set j v = fsOf base adC M' q ci := by
  apply List.ext_getElem?
  intro i
  by_cases hi : i = j
  · subst hi
    rw [List.getElem?_set_self (by rw [fs_len]; exact hj), fs_at hj, h1]
  · rw [List.getElem?_set_ne (Ne.symm hi)]
    by_cases hl : i < nF ci
    · rw [fs_at hl, fs_at hl, h2 i hi]
    · rw [List.getElem?_eq_none (by rw [fs_len]; omega), List.getElem?_eq_none (by rw [fs_len]; omega)]
theorem RS_size {M' : Mx} {A : Nat → Prop} {H0 H1 : Heap} {locs : List Loc} (h : va_P D vwCl (wsO base adC cI M') H1) (hz : H1.size = base + M'.1) : RS base adC cI D M' H1 := ⟨h, hz⟩
section VS
variable {Q : State → Prop} {H : Heap} {locs : List Loc} {cells slots : Nat} {cc : ByteArray} {ls : Array Slot} {rest : List Value} {cl : List vw_C} {A : Nat → Prop} {a : Nat} {tys : List (ClassId × FieldType)} {ws : va_W} {H0 : Heap}
theorem vs_put (hexec : p.tables.exec = Jvm.exec) (hb : c.code = cc) {own ref C : String} {T : u_T} {N ci index : Nat} {Ts : List Cond} (hts : ∀ w ∈ Ts, w.before args s = true) (hin : ∀ w ∈ u_ws C T N, w ∈ Ts) (ty0 : Nat → FieldType) (hty : ∀ k, k < N → parseFieldDescriptor (T k).2.2.1 = some (ty0 k)) (hnm : ∀ a, a < N → ∀ b, b < N → a ≠ b → (T a).2.1 ≠ (T b).2.1) (hown : s.vm.findClass own = some m.cls) (hK : va_K D cl tys s) (hP : va_P D cl ws H) (hD : va_D A ws) (hS0 : va_S A H0 H locs) (q0 : Nat) {fs : List Value} (he : ws[q0]? = some (a, .inr (ci, fs))) (hc : cl[ci]? = some (C, T, N)) (k : Nat) (hk : k < N) (hlink : (Cond.fieldLink own index ref (T k).2.1 (T k).2.2.1).before args s = true) (hsame : ∀ x, s.fieldFound? (T k).1 (T k).2.1 (T k).2.2.1 = some x → s.fieldFound? ref (T k).2.1 (T k).2.2.1 = some x) (hfin : (T k).2.2.2 = false) {ty : FieldType} {v : Value} (hd : parseFieldDescriptor (T k).2.2.1 = some ty) (hn : narrow ty v = v) (hfit : fits ty v = true) (hl : k < fs.length)
    (hdg : decode cc pc = .ok (.putfield index, 3)) (kk : ∀ (H1 : Heap) (locs1 : List Loc), H1.size = H.size → va_P D cl (ws.set q0 (a, .inr (ci, fs.set k v))) H1 → va_S A H0 H1 locs1 → W p l e R s m args below meth c H1 locs1 cells slots Q (F0 m (pc + 3) ls rest)) : W p l e R s m args below meth c H locs cells slots Q (F0 m pc ls (v :: .ref a :: rest)) := by
  have hap := va_apart (own := own) hts hin ty0 hty hnm hK hc
  obtain ⟨r, h1, cell, q1, q2, q3, q4⟩ := hP q0 _ he
  have hr : r = (C, T, N) := Option.some.inj (h1.symm.trans hc)
  subst hr
  obtain ⟨hS, hfc, kC, hkC, hkind⟩ := hK.1 ci _ hc
  obtain ⟨cf, kf, fi, f, hi, hsl⟩ := hS k hk
  have hlay := hts _ (hin _ (u_in_lay hk))
  unfold u_lay at hlay
  rw [if_neg (by rw [hfin]; decide)] at hlay
  have hst := (u_facts hfc hkC (u_lays hts hin hk) hi).1
  have h6 := u_store hfc hkC hkind hlay hi hd hn hfit
  refine W.putK hexec hb (f := f) ⟨hown, hlink, ⟨_, _, _, hsame _ hi⟩, hst⟩ (by rw [q2]; exact h6) q1 q3 (by rw [hsl]; exact k2_hasslot (q4 k hk)) rfl rfl hdg fun H' e1 e2 e3 => ?_
  rw [hsl] at e1 ⊢
  exact kk H' _ e2 (hP.set hD he ⟨_, hc, t_OB.to (V := updV (vp_V fs) k v) ⟨_, e1, q2, q3, t_set q4 hap hk v⟩ (fun j _ => vp_updV_set hl v j)⟩ e3) (hS0.put e2 e3 (hD.2 q0 _ he))
theorem vs_putF (hexec : p.tables.exec = Jvm.exec) (hb : c.code = cc) {own ref C : String} {T : u_T} {N ci index : Nat} {Ts : List Cond} (hts : ∀ w ∈ Ts, w.before args s = true) (hin : ∀ w ∈ u_ws C T N, w ∈ Ts) (ty0 : Nat → FieldType) (hty : ∀ k, k < N → parseFieldDescriptor (T k).2.2.1 = some (ty0 k)) (hnm : ∀ a, a < N → ∀ b, b < N → a ≠ b → (T a).2.1 ≠ (T b).2.1) (hown : s.vm.findClass own = some m.cls) (hK : va_K D cl tys s) (hP : va_P D cl ws H) (hD : va_D A ws) (hS0 : va_S A H0 H locs) (q0 : Nat) {fs : List Value} (he : ws[q0]? = some (a, .inr (ci, fs))) (hc : cl[ci]? = some (C, T, N)) (k : Nat) (hk : k < N) (hlink : (Cond.fieldLink own index ref (T k).2.1 (T k).2.2.1).before args s = true) (hsame : ∀ x, s.fieldFound? (T k).1 (T k).2.1 (T k).2.2.1 = some x → s.fieldFound? ref (T k).2.1 (T k).2.2.1 = some x) (hfin : (T k).2.2.2 = true) (hin2 : meth.name = "<init>") (hdecl : (T k).1 = own) {ty : FieldType} {v : Value} (hd : parseFieldDescriptor (T k).2.2.1 = some ty) (hn : narrow ty v = v) (hfit : fits ty v = true) (hl : k < fs.length)
    (hdg : decode cc pc = .ok (.putfield index, 3)) (kk : ∀ (H1 : Heap) (locs1 : List Loc), H1.size = H.size → va_P D cl (ws.set q0 (a, .inr (ci, fs.set k v))) H1 → va_S A H0 H1 locs1 → W p l e R s m args below meth c H1 locs1 cells slots Q (F0 m (pc + 3) ls rest)) : W p l e R s m args below meth c H locs cells slots Q (F0 m pc ls (v :: .ref a :: rest)) := by
  have hap := va_apart (own := own) hts hin ty0 hty hnm hK hc
  obtain ⟨r, h1, cell, q1, q2, q3, q4⟩ := hP q0 _ he
  have hr : r = (C, T, N) := Option.some.inj (h1.symm.trans hc)
  subst hr
  obtain ⟨hS, hfc, kC, hkC, hkind⟩ := hK.1 ci _ hc
  obtain ⟨cf, kf, fi, f, hi, hsl⟩ := hS k hk
  have hlay := hts _ (hin _ (u_in_lay hk))
  unfold u_lay at hlay
  rw [if_pos hfin] at hlay
  have hst := (u_facts hfc hkC (u_lays hts hin hk) hi).1
  have hcf : m.cls = cf := by
    obtain ⟨_, _, c', _, _, _, -, -, hf', -, -, -, hown2, -⟩ := Cond.laysFinal_spec hlay
    have e1 : c' = cf := by have := hi.symm.trans hf'; simp at this; exact this.1.symm
    rw [hdecl] at hown2
    rw [← e1]; exact Option.some.inj (hown.symm.trans hown2)
  have h6 := u_fits hfc hkC hkind (Or.inr hlay) hi hd hn hfit
  refine W.putFinK hexec hb hown hlink (hsame _ hi) hst hcf hin2 (by rw [q2]; exact h6) q1 q3 (by rw [hsl]; exact k2_hasslot (q4 k hk)) rfl rfl hdg fun H' e1 e2 e3 => ?_
  rw [hsl] at e1 ⊢
  exact kk H' _ e2 (hP.set hD he ⟨_, hc, t_OB.to (V := updV (vp_V fs) k v) ⟨_, e1, q2, q3, t_set q4 hap hk v⟩ (fun j _ => vp_updV_set hl v j)⟩ e3) (hS0.put e2 e3 (hD.2 q0 _ he))
theorem vs_iast (hexec : p.tables.exec = Jvm.exec) (hb : c.code = cc) (hK : va_K D cl tys s) (hP : va_P D cl ws H) (hD : va_D A ws) (hS : va_S A H0 H locs) (q0 t0 : Nat) {cA : ClassId} {n : Nat} {f : Nat → Int32} (ha : ws[q0]? = some (a, .inl (cA, n, .inl f))) (ht : tys[t0]? = some (cA, .int)) {i : Int32} {x : Int32} (hin : vp_in i n) (hdg : decode cc pc = .ok (.iastore, 1))
    (kk : ∀ (H1 : Heap) (locs1 : List Loc), H1.size = H.size → va_P D cl (ws.set q0 (a, .inl (cA, n, .inl (upd f i.toNatClampNeg x)))) H1 → va_S A H0 H1 locs1 → W p l e R s m args below meth c H1 locs1 cells slots Q (F0 m (pc + 1) ls rest)) : W p l e R s m args below meth c H locs cells slots Q (F0 m pc ls (.int x :: .int i :: .ref a :: rest)) := by
  refine W.iast hexec hb (hP q0 _ ha) ((hK.2 t0 _ ht).1 n (fun j => .int (f j))) (fun q => by cases q) (by show ¬ (i < 0 ∨ (arrV _ _ _).slots.size ≤ _); rw [arrV_size]; exact hin) rfl rfl hdg fun H1 e z oq => ?_
  refine kk H1 _ z (hP.set hD ha ?_ oq) (hS.put z oq (hD.2 q0 _ ha))
  show H1[a]? = some (vp_cell _ _)
  rw [e, vp_cell_i, vp_cell_i, arrV_store]
  have hu : updV (fun j => Value.int (f j)) i.toNatClampNeg (.int x) = fun j => Value.int (upd f i.toNatClampNeg x j) := by
    funext q
    unfold updV upd
    by_cases hq : q = i.toNatClampNeg
    · simp [hq]
    · simp [hq]
  rw [hu]
end VS
theorem s_putf0 {idx ci j : Nat} (hlnk : lnk y (.putfield idx, ci, j, 0)) (hC : CX base adC adV cI D ce y d p R s m args meth c) (hd : decode (mC y) pc = .ok (.putfield idx, 3)) (hw : wf3 L S M) (h : match (generalizing := false) S with | .inl x :: .inr (.inr (.inl q)) :: S => oG (M.2.2.1 q) ci (k L S (M.1, M.2.1, M.2.2.1, M.2.2.2.1, st M.2.2.2.2 q j x)) | _ => False) (hk : ∀ L' S' M', wf3 L' S' M' → k L' S' M' → AtW base adC cI D l lim y p e R s m args below meth c Z n0 s0 (pc + 3) L' S' M') : AtW base adC cI D l lim y p e R s m args below meth c Z n0 s0 pc L S M := by
  intro H locs cells slots ls hR hS h1 h2 h3 h4 hL
  obtain ⟨hx, hb, hml, hown, hts, hKK, hKF, hnm, hrt, hlk0, hfr, hlo, hbs⟩ := hC
  rcases S with _ | ⟨x | x | x | x, S⟩ <;> try exact h.elim
  rcases S with _ | ⟨w | w | w | w, S⟩ <;> try exact h.elim
  obtain ⟨ho, h⟩ := oG_inv h
  obtain ⟨q, hq, hj, hlk, hf, hA, hB, hCc⟩ := hlnk
  have hq0 : w < M.1 := hw.1.1 w (by rw [ho]; simp)
  have hn := nF_of hq
  obtain ⟨C, T, N⟩ := q
  obtain ⟨g1, ⟨ty, g2⟩, g3⟩ := clF hq
  have hat : (wsO base adC cI M)[w]? = some (base + w, .inr (ci, fsOf base adC M w ci)) := by rw [wsO_at hq0, ceOf_o ho]
  have key : ((wsO base adC cI M).set w (base + w, .inr (ci, (fsOf base adC M w ci).set j (.int (Int32.ofInt x))))) = wsO base adC cI (M.1, M.2.1, M.2.2.1, M.2.2.2.1, st M.2.2.2.2 w j x) := by
    refine wsO_set rfl hq0 ?_ (fun q' hq' => ceOf_same rfl (fun _ => rfl) (fun i => st_ne hq'))
    rw [ceOf_o (M := (M.1, M.2.1, M.2.2.1, M.2.2.2.1, st M.2.2.2.2 w j x)) ho]
    rw [fs_set (M' := (M.1, M.2.1, M.2.2.1, M.2.2.2.1, st M.2.2.2.2 w j x)) (v := .int (Int32.ofInt x)) (by rw [hn]; exact hj) ?_ (fun i hi => ?_)]
    · simp only [hf, st_eq]; simp
    · simp only [st_ni (show (i : Int) ≠ (j : Int) by omega)]
  have hxr : inR x := wf_hd hw
  refine vs_put (v := .int (Int32.ofInt x)) hx hb hts g1 ty g2 g3 hown hKK hR.1 wsO_D hS w hat hq j hj (hts _ hlk) (fun _ h9 => h9) (hA rfl).2 (hA rfl).1 rfl rfl (by rw [fs_len, hn]; exact hj) hd (fun H1 locs1 hz hP hS1 => ?_)
  rw [key] at hP
  exact hk _ _ _ ⟨wfM_st hw.1 hxr, hw.2.1, (wf_tl (wf_tl hw)).2.2⟩ h H1 locs1 cells slots ls ⟨hP, hz.trans hR.2⟩ hS1 h1 h2 h3 h4 hL
theorem s_putf2 {idx ci j : Nat} (hlnk : lnk y (.putfield idx, ci, j, 2)) (hC : CX base adC adV cI D ce y d p R s m args meth c) (hd : decode (mC y) pc = .ok (.putfield idx, 3)) (hw : wf3 L S M) (h : match (generalizing := false) S with | .inl x :: .inr (.inr (.inl q)) :: S => oG (M.2.2.1 q) ci ((x = 0 ∨ x = 1) ∧ k L S (M.1, M.2.1, M.2.2.1, M.2.2.2.1, st M.2.2.2.2 q j x)) | _ => False) (hk : ∀ L' S' M', wf3 L' S' M' → k L' S' M' → AtW base adC cI D l lim y p e R s m args below meth c Z n0 s0 (pc + 3) L' S' M') : AtW base adC cI D l lim y p e R s m args below meth c Z n0 s0 pc L S M := by
  intro H locs cells slots ls hR hS h1 h2 h3 h4 hL
  obtain ⟨hx, hb, hml, hown, hts, hKK, hKF, hnm, hrt, hlk0, hfr, hlo, hbs⟩ := hC
  rcases S with _ | ⟨x | x | x | x, S⟩ <;> try exact h.elim
  rcases S with _ | ⟨w | w | w | w, S⟩ <;> try exact h.elim
  obtain ⟨ho, h⟩ := oG_inv h
  obtain ⟨q, hq, hj, hlk, hf, hA, hB, hCc⟩ := hlnk
  have hq0 : w < M.1 := hw.1.1 w (by rw [ho]; simp)
  have hn := nF_of hq
  obtain ⟨C, T, N⟩ := q
  obtain ⟨g1, ⟨ty, g2⟩, g3⟩ := clF hq
  have hat : (wsO base adC cI M)[w]? = some (base + w, .inr (ci, fsOf base adC M w ci)) := by rw [wsO_at hq0, ceOf_o ho]
  obtain ⟨h01, h⟩ := h
  have key : ((wsO base adC cI M).set w (base + w, .inr (ci, (fsOf base adC M w ci).set j (.int (Int32.ofInt x))))) = wsO base adC cI (M.1, M.2.1, M.2.2.1, M.2.2.2.1, st M.2.2.2.2 w j x) := by
    refine wsO_set rfl hq0 ?_ (fun q' hq' => ceOf_same rfl (fun _ => rfl) (fun i => st_ne hq'))
    rw [ceOf_o (M := (M.1, M.2.1, M.2.2.1, M.2.2.2.1, st M.2.2.2.2 w j x)) ho]
    rw [fs_set (M' := (M.1, M.2.1, M.2.2.1, M.2.2.2.1, st M.2.2.2.2 w j x)) (v := .int (Int32.ofInt x)) (by rw [hn]; exact hj) ?_ (fun i hi => ?_)]
    · simp only [hf, st_eq]; simp
    · simp only [st_ni (show (i : Int) ≠ (j : Int) by omega)]
  have hxr : inR x := wf_hd hw
  refine vs_put (v := .int (Int32.ofInt x)) hx hb hts g1 ty g2 g3 hown hKK hR.1 wsO_D hS w hat hq j hj (hts _ hlk) (fun _ h9 => h9) (hB rfl).2 (hB rfl).1 (by rcases h01 with rfl | rfl <;> rfl) (by rcases h01 with rfl | rfl <;> rfl) (by rw [fs_len, hn]; exact hj) hd (fun H1 locs1 hz hP hS1 => ?_)
  rw [key] at hP
  exact hk _ _ _ ⟨wfM_st hw.1 hxr, hw.2.1, (wf_tl (wf_tl hw)).2.2⟩ h H1 locs1 cells slots ls ⟨hP, hz.trans hR.2⟩ hS1 h1 h2 h3 h4 hL
theorem s_putf1 {idx ci j : Nat} (hlnk : lnk y (.putfield idx, ci, j, 1)) (hC : CX base adC adV cI D ce y d p R s m args meth c) (hd : decode (mC y) pc = .ok (.putfield idx, 3)) (hw : wf3 L S M) (h : match (generalizing := false) S with | .inr (.inr (.inl q')) :: .inr (.inr (.inl q)) :: S => oG (M.2.2.1 q) ci (k L S (M.1, M.2.1, M.2.2.1, rst M.2.2.2.1 q j (.inr (.inr (.inl q'))), M.2.2.2.2)) | _ => False) (hk : ∀ L' S' M', wf3 L' S' M' → k L' S' M' → AtW base adC cI D l lim y p e R s m args below meth c Z n0 s0 (pc + 3) L' S' M') : AtW base adC cI D l lim y p e R s m args below meth c Z n0 s0 pc L S M := by
  intro H locs cells slots ls hR hS h1 h2 h3 h4 hL
  obtain ⟨hx, hb, hml, hown, hts, hKK, hKF, hnm, hrt, hlk0, hfr, hlo, hbs⟩ := hC
  rcases S with _ | ⟨x | x | x | x, S⟩ <;> try exact h.elim
  rcases S with _ | ⟨w | w | w | w, S⟩ <;> try exact h.elim
  obtain ⟨ho, h⟩ := oG_inv h
  obtain ⟨q, hq, hj, hlk, hf, hA, hB, hCc⟩ := hlnk
  have hq0 : w < M.1 := hw.1.1 w (by rw [ho]; simp)
  have hn := nF_of hq
  obtain ⟨C, T, N⟩ := q
  obtain ⟨g1, ⟨ty, g2⟩, g3⟩ := clF hq
  have hat : (wsO base adC cI M)[w]? = some (base + w, .inr (ci, fsOf base adC M w ci)) := by rw [wsO_at hq0, ceOf_o ho]
  obtain ⟨⟨fty, hty, hrf⟩, hfin, hin, hdc⟩ := hCc rfl
  have key : ((wsO base adC cI M).set w (base + w, .inr (ci, (fsOf base adC M w ci).set j (.ref (base + x))))) = wsO base adC cI (M.1, M.2.1, M.2.2.1, rst M.2.2.2.1 w j (vr x), M.2.2.2.2) := by
    refine wsO_set rfl hq0 ?_ (fun q' hq' => ceOf_same rfl (fun _ => rst_ne hq') (fun i => rfl))
    rw [ceOf_o (M := (M.1, M.2.1, M.2.2.1, rst M.2.2.2.1 w j (vr x), M.2.2.2.2)) ho]
    rw [fs_set (M' := (M.1, M.2.1, M.2.2.1, rst M.2.2.2.1 w j (vr x), M.2.2.2.2)) (v := .ref (base + x)) (by rw [hn]; exact hj) ?_ (fun i hi => ?_)]
    · simp only [hf, rst_eq]; simp [cv]
    · simp only [rst_ni hi]
  refine vs_putF (v := .ref (base + x)) hx hb hts g1 ty g2 g3 hown hKK hR.1 wsO_D hS w hat hq j hj (hts _ hlk) (fun _ h9 => h9) hfin (hnm hin) hdc hty (by rcases hrf with ⟨n, rfl⟩ | ⟨t, rfl⟩ <;> rfl) (by rcases hrf with ⟨n, rfl⟩ | ⟨t, rfl⟩ <;> rfl) (by rw [fs_len, hn]; exact hj) hd (fun H1 locs1 hz hP hS1 => ?_)
  rw [key] at hP
  exact hk _ _ _ ⟨wfM_rst (v := vr x) hw.1 trivial, hw.2.1, (wf_tl (wf_tl hw)).2.2⟩ h H1 locs1 cells slots ls ⟨hP, hz.trans hR.2⟩ hS1 h1 h2 h3 h4 hL
theorem len_nat {n : Int} (h : 0 ≤ n) : ((n.toNat : Nat) : Int) = n := Int.toNat_of_nonneg h
theorem s_iald (hC : CX base adC adV cI D ce y d p R s m args meth c) (hd : decode (mC y) pc = .ok (.iaload, 1)) (hw : wf3 L S M) (h : match (generalizing := false) S with
    | .inl i :: .inr (.inr (.inl q)) :: S => aG (M.2.2.1 q) fun len => (0 ≤ i ∧ i < len) ∧ k L (.inl (M.2.2.2.2 q i) :: S) M
    | .inl i :: .inr (.inr (.inr j)) :: S => (0 ≤ i ∧ i < (ce j).1 ∧ 0 < j ∧ j < 7) ∧ k L (.inl ((ce j).2 i) :: S) M
    | _ => False) (hk : ∀ L' S' M', wf3 L' S' M' → k L' S' M' → AtW base adC cI D l lim y p e R s m args below meth c Z n0 s0 (pc + 1) L' S' M') : AtW base adC cI D l lim y p e R s m args below meth c Z n0 s0 pc L S M := by
  intro H locs cells slots ls hR hS h1 h2 h3 h4 hL
  obtain ⟨hx, hb, hml, hown, hts, hKK, hKF, hnm, hrt, hlk0, hfr, hlo, hbs⟩ := hC
  rcases S with _ | ⟨v | v | v | v, S⟩ <;> try exact h.elim
  rcases S with _ | ⟨w | w | w | w, S⟩ <;> try exact h.elim
  · obtain ⟨n, hn, ⟨hi, hi2⟩, h⟩ := aG_inv h
    have hv : inR v := wf_hd hw
    have hq0 : w < M.1 := hw.1.1 w (by rw [hn]; simp)
    have hl := hw.1.2.2.1 w n hn
    refine va_iald hx hb hKK hR.1 w 0 (by rw [wsO_at hq0, ceOf_a hn]) rfl ((i32_vp hv).mpr ⟨hi, by rw [len_nat hl.1]; exact hi2⟩) hd ?_
    rw [i32_clamp hv, len_nat hi]
    exact hk _ _ _ (wf_ci (wf_tl (wf_tl hw)) (hw.1.2.1 w v)) h H locs cells slots ls hR hS h1 h2 h3 h4 hL
  · obtain ⟨⟨hi, hi2, hj, hj2⟩, h⟩ := h
    have hv : inR v := wf_hd hw
    obtain ⟨⟨⟨g1, g2⟩, g3⟩, hT⟩ := hKF.1 w hj hj2
    obtain ⟨j, rfl⟩ : ∃ j, w = j + 1 := ⟨w - 1, by omega⟩
    refine va_ti (v := .int (Int32.ofInt ((ce (j + 1)).2 v))) hx hb hT hS ((i32_vp hv).mpr ⟨hi, by rw [len_nat g1]; exact hi2⟩) ?_ hd ?_
    · rw [i32_clamp hv, len_nat hi]
    · exact hk _ _ _ (wf_ci (wf_tl (wf_tl hw)) (g3 v)) h H locs cells slots ls hR hS h1 h2 h3 h4 hL
theorem s_iast (hC : CX base adC adV cI D ce y d p R s m args meth c) (hd : decode (mC y) pc = .ok (.iastore, 1)) (hw : wf3 L S M) (h : match (generalizing := false) S with | .inl x :: .inl i :: .inr (.inr (.inl q)) :: S => aG (M.2.2.1 q) fun len => (0 ≤ i ∧ i < len) ∧ k L S (M.1, M.2.1, M.2.2.1, M.2.2.2.1, st M.2.2.2.2 q i x) | _ => False) (hk : ∀ L' S' M', wf3 L' S' M' → k L' S' M' → AtW base adC cI D l lim y p e R s m args below meth c Z n0 s0 (pc + 1) L' S' M') : AtW base adC cI D l lim y p e R s m args below meth c Z n0 s0 pc L S M := by
  intro H locs cells slots ls hR hS h1 h2 h3 h4 hL
  obtain ⟨hx, hb, hml, hown, hts, hKK, hKF, hnm, hrt, hlk0, hfr, hlo, hbs⟩ := hC
  rcases S with _ | ⟨x | x | x | x, S⟩ <;> try exact h.elim
  rcases S with _ | ⟨v | v | v | v, S⟩ <;> try exact h.elim
  rcases S with _ | ⟨w | w | w | w, S⟩ <;> try exact h.elim
  obtain ⟨n, hn, ⟨hi, hi2⟩, h⟩ := aG_inv h
  have hx0 : inR x := wf_hd hw
  have hv : inR v := wf_hd (wf_tl hw)
  have hq0 : w < M.1 := hw.1.1 w (by rw [hn]; simp)
  have hl := hw.1.2.2.1 w n hn
  refine vs_iast hx hb hKK hR.1 wsO_D hS w 0 (by rw [wsO_at hq0, ceOf_a hn]) rfl ((i32_vp hv).mpr ⟨hi, by rw [len_nat hl.1]; exact hi2⟩) hd (fun H1 locs1 hz hP hS1 => ?_)
  have key : ((wsO base adC cI M).set w (base + w, .inl (cI, n.toNat, .inl (upd (fun j => Int32.ofInt (M.2.2.2.2 w j)) (Int32.ofInt v).toNatClampNeg (Int32.ofInt x))))) = wsO base adC cI (M.1, M.2.1, M.2.2.1, M.2.2.2.1, st M.2.2.2.2 w v x) := by
    refine wsO_set rfl hq0 ?_ (fun q' hq' => ceOf_same rfl (fun _ => rfl) (fun i => st_ne hq'))
    rw [ceOf_a (M := (M.1, M.2.1, M.2.2.1, M.2.2.2.1, st M.2.2.2.2 w v x)) hn]
    congr 4
    funext j
    rw [i32_clamp hv]
    unfold upd
    by_cases hj : j = v.toNat
    · subst hj; simp only [len_nat hi, st_eq, if_true]
    · rw [if_neg hj]; simp only [st_ni (show (j : Int) ≠ v by omega)]
  rw [key] at hP
  exact hk _ _ _ ⟨wfM_st hw.1 hx0, hw.2.1, (wf_tl (wf_tl (wf_tl hw))).2.2⟩ h H1 locs1 cells slots ls ⟨hP, hz.trans hR.2⟩ hS1 h1 h2 h3 h4 hL
theorem s_alen (hC : CX base adC adV cI D ce y d p R s m args meth c) (hd : decode (mC y) pc = .ok (.arraylength, 1)) (hw : wf3 L S M) (h : match (generalizing := false) S with | .inr (.inr (.inr j)) :: S => (0 < j ∧ j < 7) ∧ k L (.inl (ce j).1 :: S) M | _ => False) (hk : ∀ L' S' M', wf3 L' S' M' → k L' S' M' → AtW base adC cI D l lim y p e R s m args below meth c Z n0 s0 (pc + 1) L' S' M') : AtW base adC cI D l lim y p e R s m args below meth c Z n0 s0 pc L S M := by
  intro H locs cells slots ls hR hS h1 h2 h3 h4 hL
  obtain ⟨hx, hb, hml, hown, hts, hKK, hKF, hnm, hrt, hlk0, hfr, hlo, hbs⟩ := hC
  rcases S with _ | ⟨v | v | v | v, S⟩ <;> try exact h.elim
  obtain ⟨⟨hj, hj2⟩, h⟩ := h
  obtain ⟨⟨⟨g1, g2⟩, g3⟩, hT⟩ := hKF.1 v hj hj2
  obtain ⟨j, rfl⟩ : ∃ j, v = j + 1 := ⟨v - 1, by omega⟩
  refine va_tlen (v := Int32.ofInt (ce (j + 1)).1) hx hb hT hS ?_ hd ?_
  · apply Int32.toInt_inj.mp
    rw [i32_in (by unfold inR; omega), Int32.toInt_ofNat_of_lt (by omega), len_nat g1]
  · exact hk _ _ _ (wf_ci (wf_tl hw) (by unfold inR; omega)) h H locs cells slots ls hR hS h1 h2 h3 h4 hL
theorem s_getst {idx j a : Nat} {z : Int} (hlnk : lnk y (.getstatic idx, j, a, z)) (hC : CX base adC adV cI D ce y d p R s m args meth c) (hd : decode (mC y) pc = .ok (.getstatic idx, 3)) (hw : wf3 L S M) (h : k L (.inr (.inr (.inr j)) :: S) M) (hk : ∀ L' S' M', wf3 L' S' M' → k L' S' M' → AtW base adC cI D l lim y p e R s m args below meth c Z n0 s0 (pc + 3) L' S' M') : AtW base adC cI D l lim y p e R s m args below meth c Z n0 s0 pc L S M := by
  intro H locs cells slots ls hR hS h1 h2 h3 h4 hL
  obtain ⟨hx, hb, hml, hown, hts, hKK, hKF, hnm, hrt, hlk0, hfr, hlo, hbs⟩ := hC
  obtain ⟨C, n, hj, hj0, hlk⟩ := hlnk
  have hZ := hKF.2.1 j C n hj
  obtain ⟨j, rfl⟩ : ∃ i, j = i + 1 := ⟨j - 1, by omega⟩
  rcases hlk with hlk | ⟨host, hlk⟩
  · exact va_gets hx hb hZ hS hown (hts _ hlk) (fun _ h9 => h9) hd (hk _ _ _ (wf_cons (v := vc (j + 1)) hw trivial) h H locs cells slots ls hR hS h1 h2 h3 h4 hL)
  · exact va_getsN hx hb hZ hS hown (va_Nw.use rfl (hKF.2.2.1 _ hlk)) (fun _ h9 => h9) hd (hk _ _ _ (wf_cons (v := vc (j + 1)) hw trivial) h H locs cells slots ls hR hS h1 h2 h3 h4 hL)
theorem s_ldc0 {idx b : Nat} {z : Int} (hlnk : lnk y (.ldc idx, 0, b, z)) (hC : CX base adC adV cI D ce y d p R s m args meth c) (hd : decode (mC y) pc = .ok (.ldc idx, 2)) (hw : wf3 L S M) (h : k L (.inl z :: S) M) (hk : ∀ L' S' M', wf3 L' S' M' → k L' S' M' → AtW base adC cI D l lim y p e R s m args below meth c Z n0 s0 (pc + 2) L' S' M') : AtW base adC cI D l lim y p e R s m args below meth c Z n0 s0 pc L S M := by
  intro H locs cells slots ls hR hS h1 h2 h3 h4 hL
  obtain ⟨hx, hb, hml, hown, hts, hKK, hKF, hnm, hrt, hlk0, hfr, hlo, hbs⟩ := hC
  exact lv_ldc hx hb hown (hts _ hlnk.2) hd (hk _ _ _ (wf_ci hw hlnk.1) h H locs cells slots ls hR hS h1 h2 h3 h4 hL)
theorem s_ldc1 {idx b : Nat} {z : Int} (hlnk : lnk y (.ldc idx, 1, b, z)) (hC : CX base adC adV cI D ce y d p R s m args meth c) (hd : decode (mC y) pc = .ok (.ldc idx, 2)) (hw : wf3 L S M) (h : k L (.inr (.inr (.inr b)) :: S) M) (hk : ∀ L' S' M', wf3 L' S' M' → k L' S' M' → AtW base adC cI D l lim y p e R s m args below meth c Z n0 s0 (pc + 2) L' S' M') : AtW base adC cI D l lim y p e R s m args below meth c Z n0 s0 pc L S M := by
  intro H locs cells slots ls hR hS h1 h2 h3 h4 hL
  obtain ⟨hx, hb, hml, hown, hts, hKK, hKF, hnm, hrt, hlk0, hfr, hlo, hbs⟩ := hC
  obtain ⟨hb0, tx, htx⟩ := hlnk
  obtain ⟨b, rfl⟩ : ∃ i, b = i + 1 := ⟨b - 1, by omega⟩
  exact va_ldcS hx hb hown (hKF.2.2.2.1 _ htx) hd (hk _ _ _ (wf_cons (v := vc (b + 1)) hw trivial) h H locs cells slots ls hR hS h1 h2 h3 h4 hL)
theorem s_ldc2 {idx a b : Nat} {z : Int} (hlnk : lnk y (.ldc2_w idx, a, b, z)) (hC : CX base adC adV cI D ce y d p R s m args meth c) (hd : decode (mC y) pc = .ok (.ldc2_w idx, 3)) (hw : wf3 L S M) (h : k L (.inr (.inl z) :: S) M) (hk : ∀ L' S' M', wf3 L' S' M' → k L' S' M' → AtW base adC cI D l lim y p e R s m args below meth c Z n0 s0 (pc + 3) L' S' M') : AtW base adC cI D l lim y p e R s m args below meth c Z n0 s0 pc L S M := by
  intro H locs cells slots ls hR hS h1 h2 h3 h4 hL
  obtain ⟨hx, hb, hml, hown, hts, hKK, hKF, hnm, hrt, hlk0, hfr, hlo, hbs⟩ := hC
  exact lv_ldc2 hx hb hown (hts _ hlnk.2) hd (hk _ _ _ (wf_cl hw hlnk.1) h H locs cells slots ls hR hS h1 h2 h3 h4 hL)
end ST3
